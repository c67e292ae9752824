theorem dX2_daysHeld_8 : decode cX2_daysHeld 8 = .ok (.istore_n 3, 1) := by decide +kernel
theorem dX2_daysHeld_9 : decode cX2_daysHeld 9 = .ok (.iload_n 3, 1) := by decide +kernel
theorem dX2_daysHeld_10 : decode cX2_daysHeld 10 = .ok (.bipush 60, 2) := by decide +kernel
theorem dX2_daysHeld_12 : decode cX2_daysHeld 12 = .ok (.if_icmp .ge 25, 3) := by decide +kernel
theorem dX2_daysHeld_15 : decode cX2_daysHeld 15 = .ok (.aload_n 0, 1) := by decide +kernel
theorem dX2_daysHeld_16 : decode cX2_daysHeld 16 = .ok (.invokevirtual 52, 3) := by decide +kernel
theorem dX2_daysHeld_19 : decode cX2_daysHeld 19 = .ok (.aload_n 0, 1) := by decide +kernel
theorem dX2_daysHeld_20 : decode cX2_daysHeld 20 = .ok (.getfield 21, 3) := by decide +kernel
theorem dX2_daysHeld_23 : decode cX2_daysHeld 23 = .ok (.iload_n 1, 1) := by decide +kernel
theorem dX2_daysHeld_24 : decode cX2_daysHeld 24 = .ok (.iaload, 1) := by decide +kernel
theorem dX2_daysHeld_25 : decode cX2_daysHeld 25 = .ok (.iload_n 2, 1) := by decide +kernel
theorem dX2_daysHeld_26 : decode cX2_daysHeld 26 = .ok (.if_icmp .eq 5, 3) := by decide +kernel
theorem dX2_daysHeld_29 : decode cX2_daysHeld 29 = .ok (.iload_n 3, 1) := by decide +kernel
theorem dX2_daysHeld_30 : decode cX2_daysHeld 30 = .ok (.ireturn, 1) := by decide +kernel
theorem dX2_daysHeld_31 : decode cX2_daysHeld 31 = .ok (.iinc 3 1, 3) := by decide +kernel
theorem dX2_daysHeld_34 : decode cX2_daysHeld 34 = .ok (.goto (-25), 3) := by decide +kernel
theorem dX2_daysHeld_37 : decode cX2_daysHeld 37 = .ok (.bipush 60, 2) := by decide +kernel
theorem dX2_daysHeld_39 : decode cX2_daysHeld 39 = .ok (.ireturn, 1) := by decide +kernel
theorem dX2_countElsewhere_0 : decode cX2_countElsewhere 0 = .ok (.iconst 0, 1) := by decide +kernel
theorem dX2_countElsewhere_1 : decode cX2_countElsewhere 1 = .ok (.istore_n 2, 1) := by decide +kernel
theorem dX2_countElsewhere_2 : decode cX2_countElsewhere 2 = .ok (.iconst 0, 1) := by decide +kernel
theorem dX2_countElsewhere_3 : decode cX2_countElsewhere 3 = .ok (.istore_n 3, 1) := by decide +kernel
theorem dX2_countElsewhere_4 : decode cX2_countElsewhere 4 = .ok (.iload_n 3, 1) := by decide +kernel
theorem dX2_countElsewhere_5 : decode cX2_countElsewhere 5 = .ok (.aload_n 0, 1) := by decide +kernel
theorem dX2_countElsewhere_6 : decode cX2_countElsewhere 6 = .ok (.getfield 31, 3) := by decide +kernel
theorem dX2_countElsewhere_9 : decode cX2_countElsewhere 9 = .ok (.if_icmp .ge 27, 3) := by decide +kernel
theorem dX2_countElsewhere_12 : decode cX2_countElsewhere 12 = .ok (.aload_n 0, 1) := by decide +kernel
theorem dX2_countElsewhere_13 : decode cX2_countElsewhere 13 = .ok (.getfield 21, 3) := by decide +kernel
theorem dX2_countElsewhere_16 : decode cX2_countElsewhere 16 = .ok (.iload_n 3, 1) := by decide +kernel
theorem dX2_countElsewhere_17 : decode cX2_countElsewhere 17 = .ok (.iaload, 1) := by decide +kernel
theorem dX2_countElsewhere_18 : decode cX2_countElsewhere 18 = .ok (.aload_n 1, 1) := by decide +kernel
theorem dX2_countElsewhere_19 : decode cX2_countElsewhere 19 = .ok (.getfield 21, 3) := by decide +kernel
theorem dX2_countElsewhere_22 : decode cX2_countElsewhere 22 = .ok (.iload_n 3, 1) := by decide +kernel
theorem dX2_countElsewhere_23 : decode cX2_countElsewhere 23 = .ok (.iaload, 1) := by decide +kernel
theorem dX2_countElsewhere_24 : decode cX2_countElsewhere 24 = .ok (.if_icmp .eq 6, 3) := by decide +kernel
theorem dX2_countElsewhere_27 : decode cX2_countElsewhere 27 = .ok (.iinc 2 1, 3) := by decide +kernel
theorem dX2_countElsewhere_30 : decode cX2_countElsewhere 30 = .ok (.iinc 3 1, 3) := by decide +kernel
theorem dX2_countElsewhere_33 : decode cX2_countElsewhere 33 = .ok (.goto (-29), 3) := by decide +kernel
theorem dX2_countElsewhere_36 : decode cX2_countElsewhere 36 = .ok (.iload_n 2, 1) := by decide +kernel
theorem dX2_countElsewhere_37 : decode cX2_countElsewhere 37 = .ok (.ireturn, 1) := by decide +kernel
theorem dX2_swansOn_0 : decode cX2_swansOn 0 = .ok (.iconst 0, 1) := by decide +kernel
theorem dX2_swansOn_1 : decode cX2_swansOn 1 = .ok (.istore_n 2, 1) := by decide +kernel
theorem dX2_swansOn_2 : decode cX2_swansOn 2 = .ok (.iconst 0, 1) := by decide +kernel
theorem dX2_swansOn_3 : decode cX2_swansOn 3 = .ok (.istore_n 3, 1) := by decide +kernel
theorem dX2_swansOn_4 : decode cX2_swansOn 4 = .ok (.iload_n 3, 1) := by decide +kernel
theorem dX2_swansOn_5 : decode cX2_swansOn 5 = .ok (.aload_n 0, 1) := by decide +kernel
theorem dX2_swansOn_6 : decode cX2_swansOn 6 = .ok (.getfield 31, 3) := by decide +kernel
theorem dX2_swansOn_9 : decode cX2_swansOn 9 = .ok (.if_icmp .ge 25, 3) := by decide +kernel
theorem dX2_swansOn_12 : decode cX2_swansOn 12 = .ok (.aload_n 0, 1) := by decide +kernel
theorem dX2_swansOn_13 : decode cX2_swansOn 13 = .ok (.getfield 21, 3) := by decide +kernel
theorem dX2_swansOn_16 : decode cX2_swansOn 16 = .ok (.iload_n 3, 1) := by decide +kernel
theorem dX2_swansOn_17 : decode cX2_swansOn 17 = .ok (.iaload, 1) := by decide +kernel
theorem dX2_swansOn_18 : decode cX2_swansOn 18 = .ok (.iload_n 1, 1) := by decide +kernel
theorem dX2_swansOn_19 : decode cX2_swansOn 19 = .ok (.if_icmp .ne 9, 3) := by decide +kernel
theorem dX2_swansOn_22 : decode cX2_swansOn 22 = .ok (.iload_n 2, 1) := by decide +kernel
theorem dX2_swansOn_23 : decode cX2_swansOn 23 = .ok (.iconst 1, 1) := by decide +kernel
theorem dX2_swansOn_24 : decode cX2_swansOn 24 = .ok (.iload_n 3, 1) := by decide +kernel
theorem dX2_swansOn_25 : decode cX2_swansOn 25 = .ok (.ishl, 1) := by decide +kernel
theorem dX2_swansOn_26 : decode cX2_swansOn 26 = .ok (.ior, 1) := by decide +kernel
theorem dX2_swansOn_27 : decode cX2_swansOn 27 = .ok (.istore_n 2, 1) := by decide +kernel
theorem dX2_swansOn_28 : decode cX2_swansOn 28 = .ok (.iinc 3 1, 3) := by decide +kernel
theorem dX2_swansOn_31 : decode cX2_swansOn 31 = .ok (.goto (-27), 3) := by decide +kernel
theorem dX2_swansOn_34 : decode cX2_swansOn 34 = .ok (.iload_n 2, 1) := by decide +kernel
theorem dX2_swansOn_35 : decode cX2_swansOn 35 = .ok (.ireturn, 1) := by decide +kernel
theorem dX2_plotsOwnedAt_0 : decode cX2_plotsOwnedAt 0 = .ok (.iconst 0, 1) := by decide +kernel
theorem dX2_plotsOwnedAt_1 : decode cX2_plotsOwnedAt 1 = .ok (.istore_n 2, 1) := by decide +kernel
theorem dX2_plotsOwnedAt_2 : decode cX2_plotsOwnedAt 2 = .ok (.iconst 0, 1) := by decide +kernel
theorem dX2_plotsOwnedAt_3 : decode cX2_plotsOwnedAt 3 = .ok (.istore_n 3, 1) := by decide +kernel
theorem dX2_plotsOwnedAt_4 : decode cX2_plotsOwnedAt 4 = .ok (.iload_n 3, 1) := by decide +kernel
theorem dX2_plotsOwnedAt_5 : decode cX2_plotsOwnedAt 5 = .ok (.aload_n 0, 1) := by decide +kernel
theorem dX2_plotsOwnedAt_6 : decode cX2_plotsOwnedAt 6 = .ok (.getfield 31, 3) := by decide +kernel
theorem dX2_plotsOwnedAt_9 : decode cX2_plotsOwnedAt 9 = .ok (.if_icmp .ge 30, 3) := by decide +kernel
theorem dX2_plotsOwnedAt_12 : decode cX2_plotsOwnedAt 12 = .ok (.aload_n 0, 1) := by decide +kernel
theorem dX2_plotsOwnedAt_13 : decode cX2_plotsOwnedAt 13 = .ok (.getfield 21, 3) := by decide +kernel
theorem dX2_plotsOwnedAt_16 : decode cX2_plotsOwnedAt 16 = .ok (.iload_n 3, 1) := by decide +kernel
theorem dX2_plotsOwnedAt_17 : decode cX2_plotsOwnedAt 17 = .ok (.iaload, 1) := by decide +kernel
theorem dX2_plotsOwnedAt_18 : decode cX2_plotsOwnedAt 18 = .ok (.iload_n 1, 1) := by decide +kernel
theorem dX2_plotsOwnedAt_19 : decode cX2_plotsOwnedAt 19 = .ok (.if_icmp .ne 14, 3) := by decide +kernel
theorem dX2_plotsOwnedAt_22 : decode cX2_plotsOwnedAt 22 = .ok (.iload_n 2, 1) := by decide +kernel
theorem dX2_plotsOwnedAt_23 : decode cX2_plotsOwnedAt 23 = .ok (.iconst 1, 1) := by decide +kernel
theorem dX2_plotsOwnedAt_24 : decode cX2_plotsOwnedAt 24 = .ok (.aload_n 0, 1) := by decide +kernel
theorem dX2_plotsOwnedAt_25 : decode cX2_plotsOwnedAt 25 = .ok (.getfield 18, 3) := by decide +kernel
theorem dX2_plotsOwnedAt_28 : decode cX2_plotsOwnedAt 28 = .ok (.iload_n 3, 1) := by decide +kernel
theorem dX2_plotsOwnedAt_29 : decode cX2_plotsOwnedAt 29 = .ok (.iaload, 1) := by decide +kernel
theorem dX2_plotsOwnedAt_30 : decode cX2_plotsOwnedAt 30 = .ok (.ishl, 1) := by decide +kernel
theorem dX2_plotsOwnedAt_31 : decode cX2_plotsOwnedAt 31 = .ok (.ior, 1) := by decide +kernel
theorem dX2_plotsOwnedAt_32 : decode cX2_plotsOwnedAt 32 = .ok (.istore_n 2, 1) := by decide +kernel
theorem dX2_plotsOwnedAt_33 : decode cX2_plotsOwnedAt 33 = .ok (.iinc 3 1, 3) := by decide +kernel
theorem dX2_plotsOwnedAt_36 : decode cX2_plotsOwnedAt 36 = .ok (.goto (-32), 3) := by decide +kernel
theorem dX2_plotsOwnedAt_39 : decode cX2_plotsOwnedAt 39 = .ok (.iload_n 2, 1) := by decide +kernel
theorem dX2_plotsOwnedAt_40 : decode cX2_plotsOwnedAt 40 = .ok (.ireturn, 1) := by decide +kernel
theorem dX2_emptyLawns_0 : decode cX2_emptyLawns 0 = .ok (.iconst 1, 1) := by decide +kernel
theorem dX2_emptyLawns_1 : decode cX2_emptyLawns 1 = .ok (.aload_n 0, 1) := by decide +kernel
theorem dX2_emptyLawns_2 : decode cX2_emptyLawns 2 = .ok (.getfield 27, 3) := by decide +kernel
theorem dX2_emptyLawns_5 : decode cX2_emptyLawns 5 = .ok (.ishl, 1) := by decide +kernel
theorem dX2_emptyLawns_6 : decode cX2_emptyLawns 6 = .ok (.iconst 1, 1) := by decide +kernel
theorem dX2_emptyLawns_7 : decode cX2_emptyLawns 7 = .ok (.isub, 1) := by decide +kernel
theorem dX2_emptyLawns_8 : decode cX2_emptyLawns 8 = .ok (.istore_n 1, 1) := by decide +kernel
theorem dX2_emptyLawns_9 : decode cX2_emptyLawns 9 = .ok (.iconst 0, 1) := by decide +kernel
theorem dX2_emptyLawns_10 : decode cX2_emptyLawns 10 = .ok (.istore_n 2, 1) := by decide +kernel
theorem dX2_emptyLawns_11 : decode cX2_emptyLawns 11 = .ok (.iload_n 2, 1) := by decide +kernel
theorem dX2_emptyLawns_12 : decode cX2_emptyLawns 12 = .ok (.aload_n 0, 1) := by decide +kernel
theorem dX2_emptyLawns_13 : decode cX2_emptyLawns 13 = .ok (.getfield 31, 3) := by decide +kernel
theorem dX2_emptyLawns_16 : decode cX2_emptyLawns 16 = .ok (.if_icmp .ge 22, 3) := by decide +kernel
theorem dX2_emptyLawns_19 : decode cX2_emptyLawns 19 = .ok (.iload_n 1, 1) := by decide +kernel
theorem dX2_emptyLawns_20 : decode cX2_emptyLawns 20 = .ok (.iconst 1, 1) := by decide +kernel
theorem dX2_emptyLawns_21 : decode cX2_emptyLawns 21 = .ok (.aload_n 0, 1) := by decide +kernel
theorem dX2_emptyLawns_22 : decode cX2_emptyLawns 22 = .ok (.getfield 21, 3) := by decide +kernel
theorem dX2_emptyLawns_25 : decode cX2_emptyLawns 25 = .ok (.iload_n 2, 1) := by decide +kernel
theorem dX2_emptyLawns_26 : decode cX2_emptyLawns 26 = .ok (.iaload, 1) := by decide +kernel
theorem dX2_emptyLawns_27 : decode cX2_emptyLawns 27 = .ok (.ishl, 1) := by decide +kernel
theorem dX2_emptyLawns_28 : decode cX2_emptyLawns 28 = .ok (.iconst (-1), 1) := by decide +kernel
theorem dX2_emptyLawns_29 : decode cX2_emptyLawns 29 = .ok (.ixor, 1) := by decide +kernel
theorem dX2_emptyLawns_30 : decode cX2_emptyLawns 30 = .ok (.iand, 1) := by decide +kernel
theorem dX2_emptyLawns_31 : decode cX2_emptyLawns 31 = .ok (.istore_n 1, 1) := by decide +kernel
theorem dX2_emptyLawns_32 : decode cX2_emptyLawns 32 = .ok (.iinc 2 1, 3) := by decide +kernel
theorem dX2_emptyLawns_35 : decode cX2_emptyLawns 35 = .ok (.goto (-24), 3) := by decide +kernel
theorem dX2_emptyLawns_38 : decode cX2_emptyLawns 38 = .ok (.iload_n 1, 1) := by decide +kernel
theorem dX2_emptyLawns_39 : decode cX2_emptyLawns 39 = .ok (.ireturn, 1) := by decide +kernel
set_option maxRecDepth 20000 in
theorem ggX2_ownerCount_X2_emptyLawns : GoodIn wsX2_ownerCount wsX2_emptyLawns := goodIn_r _ [6, 1, 7, 8, 16, 17, 18, 19, 20, 21, 22, 23, 24, 25, 26] (by decide +kernel) (by decide +kernel)
set_option maxRecDepth 20000 in
theorem gX2_ownerCount_X2_emptyLawns : GoodIn wsX2_ownerCount (wsV RX2 84 RX2 yX2_emptyLawns wsX2_emptyLawns) := goodIn_app (goodIn_of _ (by decide +kernel)) ggX2_ownerCount_X2_emptyLawns
set_option maxRecDepth 20000 in
theorem ggX2_ownerCount_J6_bitCount_0f7a4 : GoodIn wsX2_ownerCount wsJ6_bitCount_0f7a4 := goodIn_r _ [12, 13, 14, 15] (by decide +kernel) (by decide +kernel)
set_option maxRecDepth 20000 in
theorem gX2_ownerCount_J6_bitCount_0f7a4 : GoodIn wsX2_ownerCount (va_wsS RX2 88 yJ6_bitCount_0f7a4 wsJ6_bitCount_0f7a4) := goodIn_app (goodIn_of _ (by decide +kernel)) ggX2_ownerCount_J6_bitCount_0f7a4
theorem dX2_ownerCount_0 : decode cX2_ownerCount 0 = .ok (.aload_n 0, 1) := by decide +kernel
theorem dX2_ownerCount_1 : decode cX2_ownerCount 1 = .ok (.getfield 27, 3) := by decide +kernel
theorem dX2_ownerCount_4 : decode cX2_ownerCount 4 = .ok (.aload_n 0, 1) := by decide +kernel
theorem dX2_ownerCount_5 : decode cX2_ownerCount 5 = .ok (.invokevirtual 84, 3) := by decide +kernel
theorem dX2_ownerCount_8 : decode cX2_ownerCount 8 = .ok (.invokestatic 88, 3) := by decide +kernel
theorem dX2_ownerCount_11 : decode cX2_ownerCount 11 = .ok (.isub, 1) := by decide +kernel
theorem dX2_ownerCount_12 : decode cX2_ownerCount 12 = .ok (.ireturn, 1) := by decide +kernel
theorem dX2_breadLawns_0 : decode cX2_breadLawns 0 = .ok (.iconst 0, 1) := by decide +kernel
theorem dX2_breadLawns_1 : decode cX2_breadLawns 1 = .ok (.istore_n 1, 1) := by decide +kernel
theorem dX2_breadLawns_2 : decode cX2_breadLawns 2 = .ok (.iconst 0, 1) := by decide +kernel
theorem dX2_breadLawns_3 : decode cX2_breadLawns 3 = .ok (.istore_n 2, 1) := by decide +kernel
theorem dX2_breadLawns_4 : decode cX2_breadLawns 4 = .ok (.iload_n 2, 1) := by decide +kernel
theorem dX2_breadLawns_5 : decode cX2_breadLawns 5 = .ok (.aload_n 0, 1) := by decide +kernel
theorem dX2_breadLawns_6 : decode cX2_breadLawns 6 = .ok (.getfield 27, 3) := by decide +kernel
theorem dX2_breadLawns_9 : decode cX2_breadLawns 9 = .ok (.if_icmp .ge 24, 3) := by decide +kernel
theorem dX2_breadLawns_12 : decode cX2_breadLawns 12 = .ok (.aload_n 0, 1) := by decide +kernel
theorem dX2_breadLawns_13 : decode cX2_breadLawns 13 = .ok (.getfield 9, 3) := by decide +kernel
theorem dX2_breadLawns_16 : decode cX2_breadLawns 16 = .ok (.iload_n 2, 1) := by decide +kernel
theorem dX2_breadLawns_17 : decode cX2_breadLawns 17 = .ok (.iaload, 1) := by decide +kernel
theorem dX2_breadLawns_18 : decode cX2_breadLawns 18 = .ok (.ifCond .le 9, 3) := by decide +kernel
theorem dX2_breadLawns_21 : decode cX2_breadLawns 21 = .ok (.iload_n 1, 1) := by decide +kernel
theorem dX2_breadLawns_22 : decode cX2_breadLawns 22 = .ok (.iconst 1, 1) := by decide +kernel
theorem dX2_breadLawns_23 : decode cX2_breadLawns 23 = .ok (.iload_n 2, 1) := by decide +kernel
theorem dX2_breadLawns_24 : decode cX2_breadLawns 24 = .ok (.ishl, 1) := by decide +kernel
theorem dX2_breadLawns_25 : decode cX2_breadLawns 25 = .ok (.ior, 1) := by decide +kernel
theorem dX2_breadLawns_26 : decode cX2_breadLawns 26 = .ok (.istore_n 1, 1) := by decide +kernel
theorem dX2_breadLawns_27 : decode cX2_breadLawns 27 = .ok (.iinc 2 1, 3) := by decide +kernel
theorem dX2_breadLawns_30 : decode cX2_breadLawns 30 = .ok (.goto (-26), 3) := by decide +kernel
theorem dX2_breadLawns_33 : decode cX2_breadLawns 33 = .ok (.iload_n 1, 1) := by decide +kernel
theorem dX2_breadLawns_34 : decode cX2_breadLawns 34 = .ok (.ireturn, 1) := by decide +kernel
theorem dX2_crumbSum_0 : decode cX2_crumbSum 0 = .ok (.iconst 0, 1) := by decide +kernel
theorem dX2_crumbSum_1 : decode cX2_crumbSum 1 = .ok (.istore_n 1, 1) := by decide +kernel
theorem dX2_crumbSum_2 : decode cX2_crumbSum 2 = .ok (.iconst 0, 1) := by decide +kernel
theorem dX2_crumbSum_3 : decode cX2_crumbSum 3 = .ok (.istore_n 2, 1) := by decide +kernel
theorem dX2_crumbSum_4 : decode cX2_crumbSum 4 = .ok (.iload_n 2, 1) := by decide +kernel
theorem dX2_crumbSum_5 : decode cX2_crumbSum 5 = .ok (.aload_n 0, 1) := by decide +kernel
theorem dX2_crumbSum_6 : decode cX2_crumbSum 6 = .ok (.getfield 27, 3) := by decide +kernel
theorem dX2_crumbSum_9 : decode cX2_crumbSum 9 = .ok (.if_icmp .ge 18, 3) := by decide +kernel
theorem dX2_crumbSum_12 : decode cX2_crumbSum 12 = .ok (.iload_n 1, 1) := by decide +kernel
theorem dX2_crumbSum_13 : decode cX2_crumbSum 13 = .ok (.aload_n 0, 1) := by decide +kernel
theorem dX2_crumbSum_14 : decode cX2_crumbSum 14 = .ok (.getfield 9, 3) := by decide +kernel
theorem dX2_crumbSum_17 : decode cX2_crumbSum 17 = .ok (.iload_n 2, 1) := by decide +kernel
theorem dX2_crumbSum_18 : decode cX2_crumbSum 18 = .ok (.iaload, 1) := by decide +kernel
theorem dX2_crumbSum_19 : decode cX2_crumbSum 19 = .ok (.iadd, 1) := by decide +kernel
theorem dX2_crumbSum_20 : decode cX2_crumbSum 20 = .ok (.istore_n 1, 1) := by decide +kernel
theorem dX2_crumbSum_21 : decode cX2_crumbSum 21 = .ok (.iinc 2 1, 3) := by decide +kernel
theorem dX2_crumbSum_24 : decode cX2_crumbSum 24 = .ok (.goto (-20), 3) := by decide +kernel
theorem dX2_crumbSum_27 : decode cX2_crumbSum 27 = .ok (.iload_n 1, 1) := by decide +kernel
theorem dX2_crumbSum_28 : decode cX2_crumbSum 28 = .ok (.ireturn, 1) := by decide +kernel
theorem dX3_init_0 : decode cX3_init 0 = .ok (.aload_n 0, 1) := by decide +kernel
theorem dX3_init_1 : decode cX3_init 1 = .ok (.invokespecial 3, 3) := by decide +kernel
theorem dX3_init_4 : decode cX3_init 4 = .ok (.aload_n 0, 1) := by decide +kernel
theorem dX3_init_5 : decode cX3_init 5 = .ok (.bipush 8, 2) := by decide +kernel
theorem dX3_init_7 : decode cX3_init 7 = .ok (.bipush 40, 2) := by decide +kernel
theorem dX3_init_9 : decode cX3_init 9 = .ok (.multianewarray 9 2, 4) := by decide +kernel
theorem dX3_init_13 : decode cX3_init 13 = .ok (.putfield 11, 3) := by decide +kernel
theorem dX3_init_16 : decode cX3_init 16 = .ok (.aload_n 0, 1) := by decide +kernel
theorem dX3_init_17 : decode cX3_init 17 = .ok (.bipush 8, 2) := by decide +kernel
theorem dX3_init_19 : decode cX3_init 19 = .ok (.newarray .int, 2) := by decide +kernel
theorem dX3_init_21 : decode cX3_init 21 = .ok (.putfield 16, 3) := by decide +kernel
theorem dX3_init_24 : decode cX3_init 24 = .ok (.aload_n 0, 1) := by decide +kernel
theorem dX3_init_25 : decode cX3_init 25 = .ok (.bipush 8, 2) := by decide +kernel
theorem dX3_init_27 : decode cX3_init 27 = .ok (.newarray .int, 2) := by decide +kernel
theorem dX3_init_29 : decode cX3_init 29 = .ok (.putfield 20, 3) := by decide +kernel
theorem dX3_init_32 : decode cX3_init 32 = .ok (.iconst 0, 1) := by decide +kernel
theorem dX3_init_33 : decode cX3_init 33 = .ok (.istore_n 1, 1) := by decide +kernel
theorem dX3_init_34 : decode cX3_init 34 = .ok (.iload_n 1, 1) := by decide +kernel
theorem dX3_init_35 : decode cX3_init 35 = .ok (.bipush 8, 2) := by decide +kernel
theorem dX3_init_37 : decode cX3_init 37 = .ok (.if_icmp .ge 16, 3) := by decide +kernel
theorem dX3_init_40 : decode cX3_init 40 = .ok (.aload_n 0, 1) := by decide +kernel
theorem dX3_init_41 : decode cX3_init 41 = .ok (.getfield 20, 3) := by decide +kernel
theorem dX3_init_44 : decode cX3_init 44 = .ok (.iload_n 1, 1) := by decide +kernel
theorem dX3_init_45 : decode cX3_init 45 = .ok (.iconst (-1), 1) := by decide +kernel
theorem dX3_init_46 : decode cX3_init 46 = .ok (.iastore, 1) := by decide +kernel
theorem dX3_init_47 : decode cX3_init 47 = .ok (.iinc 1 1, 3) := by decide +kernel
theorem dX3_init_50 : decode cX3_init 50 = .ok (.goto (-16), 3) := by decide +kernel
theorem dX3_init_53 : decode cX3_init 53 = .ok (.return_, 1) := by decide +kernel
theorem dX3_isMissing_0 : decode cX3_isMissing 0 = .ok (.aload_n 0, 1) := by decide +kernel
theorem dX3_isMissing_1 : decode cX3_isMissing 1 = .ok (.getfield 20, 3) := by decide +kernel
theorem dX3_isMissing_4 : decode cX3_isMissing 4 = .ok (.iload_n 1, 1) := by decide +kernel
theorem dX3_isMissing_5 : decode cX3_isMissing 5 = .ok (.iaload, 1) := by decide +kernel
theorem dX3_isMissing_6 : decode cX3_isMissing 6 = .ok (.iconst (-1), 1) := by decide +kernel
theorem dX3_isMissing_7 : decode cX3_isMissing 7 = .ok (.if_icmp .ne 7, 3) := by decide +kernel
theorem dX3_isMissing_10 : decode cX3_isMissing 10 = .ok (.iconst 1, 1) := by decide +kernel
theorem dX3_isMissing_11 : decode cX3_isMissing 11 = .ok (.goto 4, 3) := by decide +kernel
theorem dX3_isMissing_14 : decode cX3_isMissing 14 = .ok (.iconst 0, 1) := by decide +kernel
theorem dX3_isMissing_15 : decode cX3_isMissing 15 = .ok (.ireturn, 1) := by decide +kernel
theorem dX3_laneOf_0 : decode cX3_laneOf 0 = .ok (.aload_n 0, 1) := by decide +kernel
theorem dX3_laneOf_1 : decode cX3_laneOf 1 = .ok (.getfield 16, 3) := by decide +kernel
theorem dX3_laneOf_4 : decode cX3_laneOf 4 = .ok (.iload_n 1, 1) := by decide +kernel
theorem dX3_laneOf_5 : decode cX3_laneOf 5 = .ok (.iaload, 1) := by decide +kernel
theorem dX3_laneOf_6 : decode cX3_laneOf 6 = .ok (.ireturn, 1) := by decide +kernel
theorem dX3_holds_0 : decode cX3_holds 0 = .ok (.iload_n 3, 1) := by decide +kernel
theorem dX3_holds_1 : decode cX3_holds 1 = .ok (.ifCond .lt 23, 3) := by decide +kernel
theorem dX3_holds_4 : decode cX3_holds 4 = .ok (.iload_n 2, 1) := by decide +kernel
theorem dX3_holds_5 : decode cX3_holds 5 = .ok (.ifCond .lt 19, 3) := by decide +kernel
theorem dX3_holds_8 : decode cX3_holds 8 = .ok (.iload_n 2, 1) := by decide +kernel
theorem dX3_holds_9 : decode cX3_holds 9 = .ok (.aload_n 0, 1) := by decide +kernel
theorem dX3_holds_10 : decode cX3_holds 10 = .ok (.getfield 20, 3) := by decide +kernel
theorem dX3_holds_13 : decode cX3_holds 13 = .ok (.iload_n 1, 1) := by decide +kernel
theorem dX3_holds_14 : decode cX3_holds 14 = .ok (.iaload, 1) := by decide +kernel
theorem dX3_holds_15 : decode cX3_holds 15 = .ok (.iload_n 3, 1) := by decide +kernel
theorem dX3_holds_16 : decode cX3_holds 16 = .ok (.isub, 1) := by decide +kernel
theorem dX3_holds_17 : decode cX3_holds 17 = .ok (.if_icmp .gt 7, 3) := by decide +kernel
theorem dX3_holds_20 : decode cX3_holds 20 = .ok (.iconst 1, 1) := by decide +kernel
theorem dX3_holds_21 : decode cX3_holds 21 = .ok (.goto 4, 3) := by decide +kernel
theorem dX3_holds_24 : decode cX3_holds 24 = .ok (.iconst 0, 1) := by decide +kernel
theorem dX3_holds_25 : decode cX3_holds 25 = .ok (.ireturn, 1) := by decide +kernel
set_option maxRecDepth 20000 in
theorem ggX3_findingAt_X3_isMissing : GoodIn wsX3_findingAt wsX3_isMissing := goodIn_r _ [5, 6, 11, 12, 13] (by decide +kernel) (by decide +kernel)
set_option maxRecDepth 20000 in
theorem gX3_findingAt_X3_isMissing : GoodIn wsX3_findingAt (wsV RX3 23 RX3 yX3_isMissing wsX3_isMissing) := goodIn_app (goodIn_of _ (by decide +kernel)) ggX3_findingAt_X3_isMissing
set_option maxRecDepth 20000 in
theorem ggX3_findingAt_X3_holds : GoodIn wsX3_findingAt wsX3_holds := goodIn_r _ [10, 6, 11, 12, 13] (by decide +kernel) (by decide +kernel)
set_option maxRecDepth 20000 in
theorem gX3_findingAt_X3_holds : GoodIn wsX3_findingAt (wsV RX3 27 RX3 yX3_holds wsX3_holds) := goodIn_app (goodIn_of _ (by decide +kernel)) ggX3_findingAt_X3_holds
theorem dX3_findingAt_0 : decode cX3_findingAt 0 = .ok (.aload_n 0, 1) := by decide +kernel
theorem dX3_findingAt_1 : decode cX3_findingAt 1 = .ok (.iload_n 1, 1) := by decide +kernel
theorem dX3_findingAt_2 : decode cX3_findingAt 2 = .ok (.invokevirtual 23, 3) := by decide +kernel
theorem dX3_findingAt_5 : decode cX3_findingAt 5 = .ok (.ifCond .eq 5, 3) := by decide +kernel
theorem dX3_findingAt_8 : decode cX3_findingAt 8 = .ok (.iconst 1, 1) := by decide +kernel
theorem dX3_findingAt_9 : decode cX3_findingAt 9 = .ok (.ireturn, 1) := by decide +kernel
theorem dX3_findingAt_10 : decode cX3_findingAt 10 = .ok (.aload_n 0, 1) := by decide +kernel
theorem dX3_findingAt_11 : decode cX3_findingAt 11 = .ok (.iload_n 1, 1) := by decide +kernel
theorem dX3_findingAt_12 : decode cX3_findingAt 12 = .ok (.iload_n 2, 1) := by decide +kernel
theorem dX3_findingAt_13 : decode cX3_findingAt 13 = .ok (.iload_n 3, 1) := by decide +kernel
theorem dX3_findingAt_14 : decode cX3_findingAt 14 = .ok (.invokevirtual 27, 3) := by decide +kernel
theorem dX3_findingAt_17 : decode cX3_findingAt 17 = .ok (.ifCond .eq 7, 3) := by decide +kernel
theorem dX3_findingAt_20 : decode cX3_findingAt 20 = .ok (.iconst 0, 1) := by decide +kernel
theorem dX3_findingAt_21 : decode cX3_findingAt 21 = .ok (.goto 4, 3) := by decide +kernel
theorem dX3_findingAt_24 : decode cX3_findingAt 24 = .ok (.iconst 2, 1) := by decide +kernel
theorem dX3_findingAt_25 : decode cX3_findingAt 25 = .ok (.ireturn, 1) := by decide +kernel
theorem dX3_make_0 : decode cX3_make 0 = .ok (.aload_n 0, 1) := by decide +kernel
theorem dX3_make_1 : decode cX3_make 1 = .ok (.getfield 16, 3) := by decide +kernel
theorem dX3_make_4 : decode cX3_make 4 = .ok (.iload_n 1, 1) := by decide +kernel
theorem dX3_make_5 : decode cX3_make 5 = .ok (.iload_n 2, 1) := by decide +kernel
theorem dX3_make_6 : decode cX3_make 6 = .ok (.iastore, 1) := by decide +kernel
theorem dX3_make_7 : decode cX3_make 7 = .ok (.aload_n 0, 1) := by decide +kernel
theorem dX3_make_8 : decode cX3_make 8 = .ok (.getfield 20, 3) := by decide +kernel
theorem dX3_make_11 : decode cX3_make 11 = .ok (.iload_n 1, 1) := by decide +kernel
theorem dX3_make_12 : decode cX3_make 12 = .ok (.iload_n 3, 1) := by decide +kernel
theorem dX3_make_13 : decode cX3_make 13 = .ok (.iastore, 1) := by decide +kernel
theorem dX3_make_14 : decode cX3_make 14 = .ok (.iconst 0, 1) := by decide +kernel
theorem dX3_make_15 : decode cX3_make 15 = .ok (.istore 4, 2) := by decide +kernel
theorem dX3_make_17 : decode cX3_make 17 = .ok (.iload 4, 2) := by decide +kernel
theorem dX3_make_19 : decode cX3_make 19 = .ok (.bipush 40, 2) := by decide +kernel
theorem dX3_make_21 : decode cX3_make 21 = .ok (.if_icmp .ge 19, 3) := by decide +kernel
theorem dX3_make_24 : decode cX3_make 24 = .ok (.aload_n 0, 1) := by decide +kernel
theorem dX3_make_25 : decode cX3_make 25 = .ok (.getfield 11, 3) := by decide +kernel
theorem dX3_make_28 : decode cX3_make 28 = .ok (.iload_n 1, 1) := by decide +kernel
theorem dX3_make_29 : decode cX3_make 29 = .ok (.aaload, 1) := by decide +kernel
theorem dX3_make_30 : decode cX3_make 30 = .ok (.iload 4, 2) := by decide +kernel
theorem dX3_make_32 : decode cX3_make 32 = .ok (.iconst 0, 1) := by decide +kernel
theorem dX3_make_33 : decode cX3_make 33 = .ok (.iastore, 1) := by decide +kernel
theorem dX3_make_34 : decode cX3_make 34 = .ok (.iinc 4 1, 3) := by decide +kernel
theorem dX3_make_37 : decode cX3_make 37 = .ok (.goto (-20), 3) := by decide +kernel
theorem dX3_make_40 : decode cX3_make 40 = .ok (.return_, 1) := by decide +kernel
theorem dX3_put_0 : decode cX3_put 0 = .ok (.aload_n 0, 1) := by decide +kernel
theorem dX3_put_1 : decode cX3_put 1 = .ok (.getfield 16, 3) := by decide +kernel
theorem dX3_put_4 : decode cX3_put 4 = .ok (.iload_n 1, 1) := by decide +kernel
theorem dX3_put_5 : decode cX3_put 5 = .ok (.iaload, 1) := by decide +kernel
theorem dX3_put_6 : decode cX3_put 6 = .ok (.lookupswitch 52 #[(0, 26), (1, 39)], 26) := by decide +kernel
theorem dX3_put_32 : decode cX3_put 32 = .ok (.aload_n 0, 1) := by decide +kernel
theorem dX3_put_33 : decode cX3_put 33 = .ok (.getfield 11, 3) := by decide +kernel
theorem dX3_put_36 : decode cX3_put 36 = .ok (.iload_n 1, 1) := by decide +kernel
theorem dX3_put_37 : decode cX3_put 37 = .ok (.aaload, 1) := by decide +kernel
theorem dX3_put_38 : decode cX3_put 38 = .ok (.iload_n 2, 1) := by decide +kernel
theorem dX3_put_39 : decode cX3_put 39 = .ok (.iload_n 3, 1) := by decide +kernel
theorem dX3_put_40 : decode cX3_put 40 = .ok (.i2b, 1) := by decide +kernel
theorem dX3_put_41 : decode cX3_put 41 = .ok (.iastore, 1) := by decide +kernel
theorem dX3_put_42 : decode cX3_put 42 = .ok (.goto 25, 3) := by decide +kernel
theorem dX3_put_45 : decode cX3_put 45 = .ok (.aload_n 0, 1) := by decide +kernel
theorem dX3_put_46 : decode cX3_put 46 = .ok (.getfield 11, 3) := by decide +kernel
theorem dX3_put_49 : decode cX3_put 49 = .ok (.iload_n 1, 1) := by decide +kernel
theorem dX3_put_50 : decode cX3_put 50 = .ok (.aaload, 1) := by decide +kernel
theorem dX3_put_51 : decode cX3_put 51 = .ok (.iload_n 2, 1) := by decide +kernel
theorem dX3_put_52 : decode cX3_put 52 = .ok (.iload_n 3, 1) := by decide +kernel
theorem dX3_put_53 : decode cX3_put 53 = .ok (.i2s, 1) := by decide +kernel
theorem dX3_put_54 : decode cX3_put 54 = .ok (.iastore, 1) := by decide +kernel
theorem dX3_put_55 : decode cX3_put 55 = .ok (.goto 12, 3) := by decide +kernel
theorem dX3_put_58 : decode cX3_put 58 = .ok (.aload_n 0, 1) := by decide +kernel
theorem dX3_put_59 : decode cX3_put 59 = .ok (.getfield 11, 3) := by decide +kernel
theorem dX3_put_62 : decode cX3_put 62 = .ok (.iload_n 1, 1) := by decide +kernel
theorem dX3_put_63 : decode cX3_put 63 = .ok (.aaload, 1) := by decide +kernel
theorem dX3_put_64 : decode cX3_put 64 = .ok (.iload_n 2, 1) := by decide +kernel
theorem dX3_put_65 : decode cX3_put 65 = .ok (.iload_n 3, 1) := by decide +kernel
theorem dX3_put_66 : decode cX3_put 66 = .ok (.iastore, 1) := by decide +kernel
theorem dX3_put_67 : decode cX3_put 67 = .ok (.aload_n 0, 1) := by decide +kernel
theorem dX3_put_68 : decode cX3_put 68 = .ok (.getfield 11, 3) := by decide +kernel
theorem dX3_put_71 : decode cX3_put 71 = .ok (.iload_n 1, 1) := by decide +kernel
theorem dX3_put_72 : decode cX3_put 72 = .ok (.aaload, 1) := by decide +kernel
theorem dX3_put_73 : decode cX3_put 73 = .ok (.iload_n 2, 1) := by decide +kernel
theorem dX3_put_74 : decode cX3_put 74 = .ok (.iaload, 1) := by decide +kernel
theorem dX3_put_75 : decode cX3_put 75 = .ok (.ireturn, 1) := by decide +kernel
theorem dX3_itemAt_0 : decode cX3_itemAt 0 = .ok (.aload_n 0, 1) := by decide +kernel
theorem dX3_itemAt_1 : decode cX3_itemAt 1 = .ok (.getfield 11, 3) := by decide +kernel
theorem dX3_itemAt_4 : decode cX3_itemAt 4 = .ok (.iload_n 1, 1) := by decide +kernel
theorem dX3_itemAt_5 : decode cX3_itemAt 5 = .ok (.aaload, 1) := by decide +kernel
theorem dX3_itemAt_6 : decode cX3_itemAt 6 = .ok (.iload_n 2, 1) := by decide +kernel
theorem dX3_itemAt_7 : decode cX3_itemAt 7 = .ok (.iaload, 1) := by decide +kernel
theorem dX3_itemAt_8 : decode cX3_itemAt 8 = .ok (.ireturn, 1) := by decide +kernel
theorem dX3_carry_0 : decode cX3_carry 0 = .ok (.aload_n 0, 1) := by decide +kernel
theorem dX3_carry_1 : decode cX3_carry 1 = .ok (.getfield 11, 3) := by decide +kernel
theorem dX3_carry_4 : decode cX3_carry 4 = .ok (.iload_n 1, 1) := by decide +kernel
theorem dX3_carry_5 : decode cX3_carry 5 = .ok (.aaload, 1) := by decide +kernel
theorem dX3_carry_6 : decode cX3_carry 6 = .ok (.iload_n 2, 1) := by decide +kernel
theorem dX3_carry_7 : decode cX3_carry 7 = .ok (.aload_n 0, 1) := by decide +kernel
theorem dX3_carry_8 : decode cX3_carry 8 = .ok (.getfield 11, 3) := by decide +kernel
theorem dX3_carry_11 : decode cX3_carry 11 = .ok (.iload_n 3, 1) := by decide +kernel
theorem dX3_carry_12 : decode cX3_carry 12 = .ok (.aaload, 1) := by decide +kernel
theorem dX3_carry_13 : decode cX3_carry 13 = .ok (.iload 4, 2) := by decide +kernel
theorem dX3_carry_15 : decode cX3_carry 15 = .ok (.iload 5, 2) := by decide +kernel
theorem dX3_carry_17 : decode cX3_carry 17 = .ok (.invokestatic 31, 3) := by decide +kernel
theorem dX3_carry_20 : decode cX3_carry 20 = .ok (.return_, 1) := by decide +kernel
theorem dX3_remove_0 : decode cX3_remove 0 = .ok (.aload_n 0, 1) := by decide +kernel
theorem dX3_remove_1 : decode cX3_remove 1 = .ok (.getfield 20, 3) := by decide +kernel
theorem dX3_remove_4 : decode cX3_remove 4 = .ok (.iload_n 1, 1) := by decide +kernel
theorem dX3_remove_5 : decode cX3_remove 5 = .ok (.iaload, 1) := by decide +kernel
theorem dX3_remove_6 : decode cX3_remove 6 = .ok (.istore_n 2, 1) := by decide +kernel
theorem dX3_remove_7 : decode cX3_remove 7 = .ok (.aload_n 0, 1) := by decide +kernel
theorem dX3_remove_8 : decode cX3_remove 8 = .ok (.getfield 20, 3) := by decide +kernel
theorem dX3_remove_11 : decode cX3_remove 11 = .ok (.iload_n 1, 1) := by decide +kernel
theorem dX3_remove_12 : decode cX3_remove 12 = .ok (.iconst (-1), 1) := by decide +kernel
theorem dX3_remove_13 : decode cX3_remove 13 = .ok (.iastore, 1) := by decide +kernel
theorem dX3_remove_14 : decode cX3_remove 14 = .ok (.iload_n 2, 1) := by decide +kernel
theorem dX3_remove_15 : decode cX3_remove 15 = .ok (.ireturn, 1) := by decide +kernel
set_option maxRecDepth 20000 in
theorem ggX3_countPresent_X3_isMissing : GoodIn wsX3_countPresent wsX3_isMissing := goodIn_r _ [5, 6, 7, 8, 9] (by decide +kernel) (by decide +kernel)
set_option maxRecDepth 20000 in
theorem gX3_countPresent_X3_isMissing : GoodIn wsX3_countPresent (wsV RX3 23 RX3 yX3_isMissing wsX3_isMissing) := goodIn_app (goodIn_of _ (by decide +kernel)) ggX3_countPresent_X3_isMissing
theorem dX3_countPresent_0 : decode cX3_countPresent 0 = .ok (.iconst 0, 1) := by decide +kernel
theorem dX3_countPresent_1 : decode cX3_countPresent 1 = .ok (.istore_n 1, 1) := by decide +kernel
theorem dX3_countPresent_2 : decode cX3_countPresent 2 = .ok (.iconst 0, 1) := by decide +kernel
theorem dX3_countPresent_3 : decode cX3_countPresent 3 = .ok (.istore_n 2, 1) := by decide +kernel
theorem dX3_countPresent_4 : decode cX3_countPresent 4 = .ok (.iload_n 2, 1) := by decide +kernel
theorem dX3_countPresent_5 : decode cX3_countPresent 5 = .ok (.bipush 8, 2) := by decide +kernel
theorem dX3_countPresent_7 : decode cX3_countPresent 7 = .ok (.if_icmp .ge 20, 3) := by decide +kernel
theorem dX3_countPresent_10 : decode cX3_countPresent 10 = .ok (.aload_n 0, 1) := by decide +kernel
theorem dX3_countPresent_11 : decode cX3_countPresent 11 = .ok (.iload_n 2, 1) := by decide +kernel
theorem dX3_countPresent_12 : decode cX3_countPresent 12 = .ok (.invokevirtual 23, 3) := by decide +kernel
theorem dX3_countPresent_15 : decode cX3_countPresent 15 = .ok (.ifCond .ne 6, 3) := by decide +kernel
theorem dX3_countPresent_18 : decode cX3_countPresent 18 = .ok (.iinc 1 1, 3) := by decide +kernel
theorem dX3_countPresent_21 : decode cX3_countPresent 21 = .ok (.iinc 2 1, 3) := by decide +kernel
theorem dX3_countPresent_24 : decode cX3_countPresent 24 = .ok (.goto (-20), 3) := by decide +kernel
theorem dX3_countPresent_27 : decode cX3_countPresent 27 = .ok (.iload_n 1, 1) := by decide +kernel
theorem dX3_countPresent_28 : decode cX3_countPresent 28 = .ok (.ireturn, 1) := by decide +kernel
theorem dX4_init_0 : decode cX4_init 0 = .ok (.aload_n 0, 1) := by decide +kernel
theorem dX4_init_1 : decode cX4_init 1 = .ok (.invokespecial 3, 3) := by decide +kernel
theorem dX4_init_4 : decode cX4_init 4 = .ok (.aload_n 0, 1) := by decide +kernel
theorem dX4_init_5 : decode cX4_init 5 = .ok (.bipush 100, 2) := by decide +kernel
theorem dX4_init_7 : decode cX4_init 7 = .ok (.newarray .int, 2) := by decide +kernel
theorem dX4_init_9 : decode cX4_init 9 = .ok (.putfield 9, 3) := by decide +kernel
theorem dX4_init_12 : decode cX4_init 12 = .ok (.return_, 1) := by decide +kernel
theorem dX4_take_0 : decode cX4_take 0 = .ok (.aload_n 0, 1) := by decide +kernel
theorem dX4_take_1 : decode cX4_take 1 = .ok (.getfield 15, 3) := by decide +kernel
theorem dX4_take_4 : decode cX4_take 4 = .ok (.bipush 100, 2) := by decide +kernel
theorem dX4_take_6 : decode cX4_take 6 = .ok (.if_icmp .lt 5, 3) := by decide +kernel
theorem dX4_take_9 : decode cX4_take 9 = .ok (.iconst 0, 1) := by decide +kernel
theorem dX4_take_10 : decode cX4_take 10 = .ok (.ireturn, 1) := by decide +kernel
theorem dX4_take_11 : decode cX4_take 11 = .ok (.aload_n 0, 1) := by decide +kernel
theorem dX4_take_12 : decode cX4_take 12 = .ok (.getfield 9, 3) := by decide +kernel
theorem dX4_take_15 : decode cX4_take 15 = .ok (.aload_n 0, 1) := by decide +kernel
theorem dX4_take_16 : decode cX4_take 16 = .ok (.getfield 15, 3) := by decide +kernel
theorem dX4_take_19 : decode cX4_take 19 = .ok (.iload_n 1, 1) := by decide +kernel
theorem dX4_take_20 : decode cX4_take 20 = .ok (.iastore, 1) := by decide +kernel
theorem dX4_take_21 : decode cX4_take 21 = .ok (.aload_n 0, 1) := by decide +kernel
theorem dX4_take_22 : decode cX4_take 22 = .ok (.dup, 1) := by decide +kernel
theorem dX4_take_23 : decode cX4_take 23 = .ok (.getfield 15, 3) := by decide +kernel
theorem dX4_take_26 : decode cX4_take 26 = .ok (.iconst 1, 1) := by decide +kernel
theorem dX4_take_27 : decode cX4_take 27 = .ok (.iadd, 1) := by decide +kernel
theorem dX4_take_28 : decode cX4_take 28 = .ok (.putfield 15, 3) := by decide +kernel
theorem dX4_take_31 : decode cX4_take 31 = .ok (.iconst 1, 1) := by decide +kernel
theorem dX4_take_32 : decode cX4_take 32 = .ok (.ireturn, 1) := by decide +kernel
set_option maxRecDepth 20000 in
theorem ggX4_readInto_X4_readLaw : GoodIn wsX4_readInto wsX4_readLaw := goodIn_r _ [7, 8, 9, 10, 6, 11, 12, 13, 14, 15, 16, 17, 1, 18, 2, 19, 20, 21, 22, 23, 24, 25, 26, 27, 28, 29, 30, 31, 32, 33, 34, 35, 36, 37, 38, 39, 40, 41, 42, 43, 44, 45, 46, 47, 48, 49, 67, 68, 69, 70, 71, 72, 73, 74, 75, 76, 77, 78, 79, 80, 81, 82, 83, 84, 85] (by decide +kernel) (by decide +kernel)
set_option maxRecDepth 20000 in
theorem gX4_readInto_X4_readLaw : GoodIn wsX4_readInto (wsV RX4 22 RX4 yX4_readLaw wsX4_readLaw) := goodIn_app (goodIn_of _ (by decide +kernel)) ggX4_readInto_X4_readLaw
set_option maxRecDepth 20000 in
theorem ggX4_readInto_X4_readSwan : GoodIn wsX4_readInto wsX4_readSwan := goodIn_r _ [53, 54, 55, 56, 57, 58, 59, 60, 61, 62, 6, 63, 12, 13, 14, 15, 16, 17, 1, 18, 2, 19, 20, 21, 22, 23, 24, 25, 26, 64, 65, 66, 27, 28, 29, 30, 31, 32, 33, 34, 35, 36, 37, 38, 39, 8, 9, 10, 11, 75, 76, 77, 78, 79, 80, 81, 82, 83, 84, 85, 67, 68, 69, 70, 71, 72, 73, 74] (by decide +kernel) (by decide +kernel)
set_option maxRecDepth 20000 in
theorem gX4_readInto_X4_readSwan : GoodIn wsX4_readInto (wsV RX4 26 RX4 yX4_readSwan wsX4_readSwan) := goodIn_app (goodIn_of _ (by decide +kernel)) ggX4_readInto_X4_readSwan
theorem dX4_readInto_0 : decode cX4_readInto 0 = .ok (.aload_n 0, 1) := by decide +kernel
theorem dX4_readInto_1 : decode cX4_readInto 1 = .ok (.iconst 0, 1) := by decide +kernel
theorem dX4_readInto_2 : decode cX4_readInto 2 = .ok (.putfield 19, 3) := by decide +kernel
theorem dX4_readInto_5 : decode cX4_readInto 5 = .ok (.aload_n 0, 1) := by decide +kernel
theorem dX4_readInto_6 : decode cX4_readInto 6 = .ok (.aload_n 1, 1) := by decide +kernel
theorem dX4_readInto_7 : decode cX4_readInto 7 = .ok (.invokevirtual 22, 3) := by decide +kernel
theorem dX4_readInto_10 : decode cX4_readInto 10 = .ok (.ifCond .ne 5, 3) := by decide +kernel
theorem dX4_readInto_13 : decode cX4_readInto 13 = .ok (.iconst 0, 1) := by decide +kernel
theorem dX4_readInto_14 : decode cX4_readInto 14 = .ok (.ireturn, 1) := by decide +kernel
theorem dX4_readInto_15 : decode cX4_readInto 15 = .ok (.iconst 0, 1) := by decide +kernel
theorem dX4_readInto_16 : decode cX4_readInto 16 = .ok (.istore_n 2, 1) := by decide +kernel
theorem dX4_readInto_17 : decode cX4_readInto 17 = .ok (.iload_n 2, 1) := by decide +kernel
theorem dX4_readInto_18 : decode cX4_readInto 18 = .ok (.bipush 6, 2) := by decide +kernel
theorem dX4_readInto_20 : decode cX4_readInto 20 = .ok (.if_icmp .gt 37, 3) := by decide +kernel
theorem dX4_readInto_23 : decode cX4_readInto 23 = .ok (.iload_n 2, 1) := by decide +kernel
theorem dX4_readInto_24 : decode cX4_readInto 24 = .ok (.ifCond .le 16, 3) := by decide +kernel
theorem dX4_readInto_27 : decode cX4_readInto 27 = .ok (.aload_n 0, 1) := by decide +kernel
theorem dX4_readInto_28 : decode cX4_readInto 28 = .ok (.getfield 19, 3) := by decide +kernel
theorem dX4_readInto_31 : decode cX4_readInto 31 = .ok (.aload_n 0, 1) := by decide +kernel
theorem dX4_readInto_32 : decode cX4_readInto 32 = .ok (.getfield 15, 3) := by decide +kernel
theorem dX4_readInto_35 : decode cX4_readInto 35 = .ok (.if_icmp .lt 5, 3) := by decide +kernel
theorem dX4_readInto_38 : decode cX4_readInto 38 = .ok (.iconst 1, 1) := by decide +kernel
theorem dX4_readInto_39 : decode cX4_readInto 39 = .ok (.ireturn, 1) := by decide +kernel
theorem dX4_readInto_40 : decode cX4_readInto 40 = .ok (.aload_n 0, 1) := by decide +kernel
theorem dX4_readInto_41 : decode cX4_readInto 41 = .ok (.aload_n 1, 1) := by decide +kernel
theorem dX4_readInto_42 : decode cX4_readInto 42 = .ok (.iload_n 2, 1) := by decide +kernel
theorem dX4_readInto_43 : decode cX4_readInto 43 = .ok (.invokevirtual 26, 3) := by decide +kernel
theorem dX4_readInto_46 : decode cX4_readInto 46 = .ok (.ifCond .ne 5, 3) := by decide +kernel
theorem dX4_readInto_49 : decode cX4_readInto 49 = .ok (.iconst 0, 1) := by decide +kernel
theorem dX4_readInto_50 : decode cX4_readInto 50 = .ok (.ireturn, 1) := by decide +kernel
theorem dX4_readInto_51 : decode cX4_readInto 51 = .ok (.iinc 2 1, 3) := by decide +kernel
theorem dX4_readInto_54 : decode cX4_readInto 54 = .ok (.goto (-37), 3) := by decide +kernel
theorem dX4_readInto_57 : decode cX4_readInto 57 = .ok (.iconst 0, 1) := by decide +kernel
theorem dX4_readInto_58 : decode cX4_readInto 58 = .ok (.ireturn, 1) := by decide +kernel
set_option maxRecDepth 20000 in
theorem ggX4_readLaw_X4_readSingle : GoodIn wsX4_readLaw wsX4_readSingle := goodIn_r _ [5, 6, 7, 8, 9, 10, 4, 11, 12, 13, 14, 15, 16, 17, 18, 19, 20, 21, 22, 23, 24, 25, 26, 27, 28, 46, 47, 48, 49, 50, 51, 52, 53] (by decide +kernel) (by decide +kernel)
set_option maxRecDepth 20000 in
theorem gX4_readLaw_X4_readSingle : GoodIn wsX4_readLaw (wsV RX4 30 RX4 yX4_readSingle wsX4_readSingle) := goodIn_app (goodIn_of _ (by decide +kernel)) ggX4_readLaw_X4_readSingle
set_option maxRecDepth 20000 in
theorem ggX4_readLaw_X4_readNumber : GoodIn wsX4_readLaw wsX4_readNumber := goodIn_r _ [32, 6, 7, 8, 9, 10, 4, 11, 12, 13, 14, 15, 16, 17, 18, 19, 20, 21, 22, 23, 24, 25, 26, 27, 28, 33, 34, 35, 46, 47, 48, 49, 50, 51, 52, 53] (by decide +kernel) (by decide +kernel)
set_option maxRecDepth 20000 in
theorem gX4_readLaw_X4_readNumber : GoodIn wsX4_readLaw (wsV RX4 34 RX4 yX4_readNumber wsX4_readNumber) := goodIn_app (goodIn_of _ (by decide +kernel)) ggX4_readLaw_X4_readNumber
set_option maxRecDepth 20000 in
theorem ggX4_readLaw_X2_begin : GoodIn wsX4_readLaw wsX2_begin := goodIn_r _ [40, 41, 42, 43, 44, 45, 54, 55, 56, 57, 58, 59, 60, 61, 62, 63, 64] (by decide +kernel) (by decide +kernel)
set_option maxRecDepth 20000 in
theorem gX4_readLaw_X2_begin : GoodIn wsX4_readLaw (wsV RX4 38 RX2 yX2_begin wsX2_begin) := goodIn_app (goodIn_of _ (by decide +kernel)) ggX4_readLaw_X2_begin
theorem dX4_readLaw_0 : decode cX4_readLaw 0 = .ok (.aload_n 0, 1) := by decide +kernel
theorem dX4_readLaw_1 : decode cX4_readLaw 1 = .ok (.bipush 114, 2) := by decide +kernel
theorem dX4_readLaw_3 : decode cX4_readLaw 3 = .ok (.invokevirtual 30, 3) := by decide +kernel
theorem dX4_readLaw_6 : decode cX4_readLaw 6 = .ok (.ifCond .ne 5, 3) := by decide +kernel
theorem dX4_readLaw_9 : decode cX4_readLaw 9 = .ok (.iconst 0, 1) := by decide +kernel
theorem dX4_readLaw_10 : decode cX4_readLaw 10 = .ok (.ireturn, 1) := by decide +kernel
theorem dX4_readLaw_11 : decode cX4_readLaw 11 = .ok (.aload_n 0, 1) := by decide +kernel
theorem dX4_readLaw_12 : decode cX4_readLaw 12 = .ok (.iconst 2, 1) := by decide +kernel
theorem dX4_readLaw_13 : decode cX4_readLaw 13 = .ok (.bipush 9, 2) := by decide +kernel
theorem dX4_readLaw_15 : decode cX4_readLaw 15 = .ok (.invokevirtual 34, 3) := by decide +kernel
theorem dX4_readLaw_18 : decode cX4_readLaw 18 = .ok (.istore_n 2, 1) := by decide +kernel
theorem dX4_readLaw_19 : decode cX4_readLaw 19 = .ok (.iload_n 2, 1) := by decide +kernel
theorem dX4_readLaw_20 : decode cX4_readLaw 20 = .ok (.iconst (-1), 1) := by decide +kernel
theorem dX4_readLaw_21 : decode cX4_readLaw 21 = .ok (.if_icmp .eq 12, 3) := by decide +kernel
theorem dX4_readLaw_24 : decode cX4_readLaw 24 = .ok (.aload_n 0, 1) := by decide +kernel
theorem dX4_readLaw_25 : decode cX4_readLaw 25 = .ok (.bipush 44, 2) := by decide +kernel
theorem dX4_readLaw_27 : decode cX4_readLaw 27 = .ok (.invokevirtual 30, 3) := by decide +kernel
theorem dX4_readLaw_30 : decode cX4_readLaw 30 = .ok (.ifCond .ne 5, 3) := by decide +kernel
theorem dX4_readLaw_33 : decode cX4_readLaw 33 = .ok (.iconst 0, 1) := by decide +kernel
theorem dX4_readLaw_34 : decode cX4_readLaw 34 = .ok (.ireturn, 1) := by decide +kernel
theorem dX4_readLaw_35 : decode cX4_readLaw 35 = .ok (.aload_n 0, 1) := by decide +kernel
theorem dX4_readLaw_36 : decode cX4_readLaw 36 = .ok (.iconst 0, 1) := by decide +kernel
theorem dX4_readLaw_37 : decode cX4_readLaw 37 = .ok (.bipush 9, 2) := by decide +kernel
theorem dX4_readLaw_39 : decode cX4_readLaw 39 = .ok (.invokevirtual 34, 3) := by decide +kernel
theorem dX4_readLaw_42 : decode cX4_readLaw 42 = .ok (.istore_n 3, 1) := by decide +kernel
theorem dX4_readLaw_43 : decode cX4_readLaw 43 = .ok (.iload_n 3, 1) := by decide +kernel
theorem dX4_readLaw_44 : decode cX4_readLaw 44 = .ok (.iconst (-1), 1) := by decide +kernel
theorem dX4_readLaw_45 : decode cX4_readLaw 45 = .ok (.if_icmp .eq 12, 3) := by decide +kernel
theorem dX4_readLaw_48 : decode cX4_readLaw 48 = .ok (.aload_n 0, 1) := by decide +kernel
theorem dX4_readLaw_49 : decode cX4_readLaw 49 = .ok (.bipush 59, 2) := by decide +kernel
theorem dX4_readLaw_51 : decode cX4_readLaw 51 = .ok (.invokevirtual 30, 3) := by decide +kernel
theorem dX4_readLaw_54 : decode cX4_readLaw 54 = .ok (.ifCond .ne 5, 3) := by decide +kernel
theorem dX4_readLaw_57 : decode cX4_readLaw 57 = .ok (.iconst 0, 1) := by decide +kernel
theorem dX4_readLaw_58 : decode cX4_readLaw 58 = .ok (.ireturn, 1) := by decide +kernel
theorem dX4_readLaw_59 : decode cX4_readLaw 59 = .ok (.aload_n 1, 1) := by decide +kernel
theorem dX4_readLaw_60 : decode cX4_readLaw 60 = .ok (.iload_n 2, 1) := by decide +kernel
theorem dX4_readLaw_61 : decode cX4_readLaw 61 = .ok (.iload_n 3, 1) := by decide +kernel
theorem dX4_readLaw_62 : decode cX4_readLaw 62 = .ok (.invokevirtual 38, 3) := by decide +kernel
theorem dX4_readLaw_65 : decode cX4_readLaw 65 = .ok (.iconst 1, 1) := by decide +kernel
theorem dX4_readLaw_66 : decode cX4_readLaw 66 = .ok (.ireturn, 1) := by decide +kernel
set_option maxRecDepth 20000 in
theorem ggX4_readSwan_X4_readSort : GoodIn wsX4_readSwan wsX4_readSort := goodIn_r _ [11, 12, 13, 14, 15, 16, 10, 17, 18, 19, 20, 21, 22, 23, 24, 25, 26, 27, 28, 29, 30, 31, 32, 33, 34, 35, 36, 37, 60, 61, 62, 63, 64, 65, 66, 67] (by decide +kernel) (by decide +kernel)
set_option maxRecDepth 20000 in
theorem gX4_readSwan_X4_readSort : GoodIn wsX4_readSwan (wsV RX4 44 RX4 yX4_readSort wsX4_readSort) := goodIn_app (goodIn_of _ (by decide +kernel)) ggX4_readSwan_X4_readSort
set_option maxRecDepth 20000 in
theorem ggX4_readSwan_X4_refuse : GoodIn wsX4_readSwan wsX4_refuse := goodIn_r _ [35, 36, 19, 37, 60, 61, 62, 63, 64, 65, 66, 67] (by decide +kernel) (by decide +kernel)
set_option maxRecDepth 20000 in
theorem gX4_readSwan_X4_refuse : GoodIn wsX4_readSwan (wsV RX4 48 RX4 yX4_refuse wsX4_refuse) := goodIn_app (goodIn_of _ (by decide +kernel)) ggX4_readSwan_X4_refuse
set_option maxRecDepth 20000 in
theorem ggX4_readSwan_X4_readNumber : GoodIn wsX4_readSwan wsX4_readNumber := goodIn_r _ [41, 12, 13, 14, 15, 16, 10, 17, 18, 19, 20, 21, 22, 23, 24, 25, 26, 27, 28, 32, 33, 34, 35, 36, 37, 42, 43, 44, 60, 61, 62, 63, 64, 65, 66, 67] (by decide +kernel) (by decide +kernel)
set_option maxRecDepth 20000 in
theorem gX4_readSwan_X4_readNumber : GoodIn wsX4_readSwan (wsV RX4 34 RX4 yX4_readNumber wsX4_readNumber) := goodIn_app (goodIn_of _ (by decide +kernel)) ggX4_readSwan_X4_readNumber
set_option maxRecDepth 20000 in
theorem ggX4_readSwan_X4_readSingle : GoodIn wsX4_readSwan wsX4_readSingle := goodIn_r _ [48, 12, 13, 14, 15, 16, 10, 17, 18, 19, 20, 21, 22, 23, 24, 25, 26, 27, 28, 32, 33, 34, 35, 36, 37, 60, 61, 62, 63, 64, 65, 66, 67] (by decide +kernel) (by decide +kernel)
set_option maxRecDepth 20000 in
theorem gX4_readSwan_X4_readSingle : GoodIn wsX4_readSwan (wsV RX4 30 RX4 yX4_readSingle wsX4_readSingle) := goodIn_app (goodIn_of _ (by decide +kernel)) ggX4_readSwan_X4_readSingle
theorem dX4_readSwan_0 : decode cX4_readSwan 0 = .ok (.aload_n 0, 1) := by decide +kernel
theorem dX4_readSwan_1 : decode cX4_readSwan 1 = .ok (.invokevirtual 44, 3) := by decide +kernel
theorem dX4_readSwan_4 : decode cX4_readSwan 4 = .ok (.istore_n 3, 1) := by decide +kernel
theorem dX4_readSwan_5 : decode cX4_readSwan 5 = .ok (.iload_n 3, 1) := by decide +kernel
theorem dX4_readSwan_6 : decode cX4_readSwan 6 = .ok (.iconst (-1), 1) := by decide +kernel
theorem dX4_readSwan_7 : decode cX4_readSwan 7 = .ok (.if_icmp .ne 5, 3) := by decide +kernel
theorem dX4_readSwan_10 : decode cX4_readSwan 10 = .ok (.iconst 0, 1) := by decide +kernel
theorem dX4_readSwan_11 : decode cX4_readSwan 11 = .ok (.ireturn, 1) := by decide +kernel
theorem dX4_readSwan_12 : decode cX4_readSwan 12 = .ok (.iload_n 2, 1) := by decide +kernel
theorem dX4_readSwan_13 : decode cX4_readSwan 13 = .ok (.bipush 6, 2) := by decide +kernel
theorem dX4_readSwan_15 : decode cX4_readSwan 15 = .ok (.if_icmp .lt 9, 3) := by decide +kernel
theorem dX4_readSwan_18 : decode cX4_readSwan 18 = .ok (.aload_n 0, 1) := by decide +kernel
theorem dX4_readSwan_19 : decode cX4_readSwan 19 = .ok (.iconst 3, 1) := by decide +kernel
theorem dX4_readSwan_20 : decode cX4_readSwan 20 = .ok (.invokevirtual 48, 3) := by decide +kernel
theorem dX4_readSwan_23 : decode cX4_readSwan 23 = .ok (.ireturn, 1) := by decide +kernel
theorem dX4_readSwan_24 : decode cX4_readSwan 24 = .ok (.aload_n 0, 1) := by decide +kernel
theorem dX4_readSwan_25 : decode cX4_readSwan 25 = .ok (.iconst 0, 1) := by decide +kernel
theorem dX4_readSwan_26 : decode cX4_readSwan 26 = .ok (.aload_n 1, 1) := by decide +kernel
theorem dX4_readSwan_27 : decode cX4_readSwan 27 = .ok (.getfield 51, 3) := by decide +kernel
theorem dX4_readSwan_30 : decode cX4_readSwan 30 = .ok (.iconst 1, 1) := by decide +kernel
theorem dX4_readSwan_31 : decode cX4_readSwan 31 = .ok (.isub, 1) := by decide +kernel
theorem dX4_readSwan_32 : decode cX4_readSwan 32 = .ok (.invokevirtual 34, 3) := by decide +kernel
theorem dX4_readSwan_35 : decode cX4_readSwan 35 = .ok (.istore 4, 2) := by decide +kernel
theorem dX4_readSwan_37 : decode cX4_readSwan 37 = .ok (.iload 4, 2) := by decide +kernel
theorem dX4_readSwan_39 : decode cX4_readSwan 39 = .ok (.iconst (-1), 1) := by decide +kernel
theorem dX4_readSwan_40 : decode cX4_readSwan 40 = .ok (.if_icmp .eq 12, 3) := by decide +kernel
theorem dX4_readSwan_43 : decode cX4_readSwan 43 = .ok (.aload_n 0, 1) := by decide +kernel
theorem dX4_readSwan_44 : decode cX4_readSwan 44 = .ok (.bipush 44, 2) := by decide +kernel
theorem dX4_readSwan_46 : decode cX4_readSwan 46 = .ok (.invokevirtual 30, 3) := by decide +kernel
theorem dX4_readSwan_49 : decode cX4_readSwan 49 = .ok (.ifCond .ne 5, 3) := by decide +kernel
theorem dX4_readSwan_52 : decode cX4_readSwan 52 = .ok (.iconst 0, 1) := by decide +kernel
theorem dX4_readSwan_53 : decode cX4_readSwan 53 = .ok (.ireturn, 1) := by decide +kernel
theorem dX4_readSwan_54 : decode cX4_readSwan 54 = .ok (.aload_n 0, 1) := by decide +kernel
theorem dX4_readSwan_55 : decode cX4_readSwan 55 = .ok (.iconst 0, 1) := by decide +kernel
theorem dX4_readSwan_56 : decode cX4_readSwan 56 = .ok (.aload_n 1, 1) := by decide +kernel
theorem dX4_readSwan_57 : decode cX4_readSwan 57 = .ok (.getfield 51, 3) := by decide +kernel
theorem dX4_readSwan_60 : decode cX4_readSwan 60 = .ok (.iconst 1, 1) := by decide +kernel
theorem dX4_readSwan_61 : decode cX4_readSwan 61 = .ok (.isub, 1) := by decide +kernel
theorem dX4_readSwan_62 : decode cX4_readSwan 62 = .ok (.invokevirtual 34, 3) := by decide +kernel
theorem dX4_readSwan_65 : decode cX4_readSwan 65 = .ok (.istore 5, 2) := by decide +kernel
theorem dX4_readSwan_67 : decode cX4_readSwan 67 = .ok (.iload 5, 2) := by decide +kernel
theorem dX4_readSwan_69 : decode cX4_readSwan 69 = .ok (.iconst (-1), 1) := by decide +kernel
theorem dX4_readSwan_70 : decode cX4_readSwan 70 = .ok (.if_icmp .eq 12, 3) := by decide +kernel
theorem dX4_readSwan_73 : decode cX4_readSwan 73 = .ok (.aload_n 0, 1) := by decide +kernel
theorem dX4_readSwan_74 : decode cX4_readSwan 74 = .ok (.bipush 44, 2) := by decide +kernel
theorem dX4_readSwan_76 : decode cX4_readSwan 76 = .ok (.invokevirtual 30, 3) := by decide +kernel
theorem dX4_readSwan_79 : decode cX4_readSwan 79 = .ok (.ifCond .ne 5, 3) := by decide +kernel
theorem dX4_readSwan_82 : decode cX4_readSwan 82 = .ok (.iconst 0, 1) := by decide +kernel
theorem dX4_readSwan_83 : decode cX4_readSwan 83 = .ok (.ireturn, 1) := by decide +kernel
theorem dX4_readSwan_84 : decode cX4_readSwan 84 = .ok (.aload_n 0, 1) := by decide +kernel
theorem dX4_readSwan_85 : decode cX4_readSwan 85 = .ok (.iconst 1, 1) := by decide +kernel
theorem dX4_readSwan_86 : decode cX4_readSwan 86 = .ok (.bipush 9, 2) := by decide +kernel
theorem dX4_readSwan_88 : decode cX4_readSwan 88 = .ok (.invokevirtual 34, 3) := by decide +kernel
theorem dX4_readSwan_91 : decode cX4_readSwan 91 = .ok (.istore 6, 2) := by decide +kernel
theorem dX4_readSwan_93 : decode cX4_readSwan 93 = .ok (.iload 6, 2) := by decide +kernel
theorem dX4_readSwan_95 : decode cX4_readSwan 95 = .ok (.iconst (-1), 1) := by decide +kernel
theorem dX4_readSwan_96 : decode cX4_readSwan 96 = .ok (.if_icmp .eq 12, 3) := by decide +kernel
theorem dX4_readSwan_99 : decode cX4_readSwan 99 = .ok (.aload_n 0, 1) := by decide +kernel
theorem dX4_readSwan_100 : decode cX4_readSwan 100 = .ok (.bipush 59, 2) := by decide +kernel
theorem dX4_readSwan_102 : decode cX4_readSwan 102 = .ok (.invokevirtual 30, 3) := by decide +kernel
theorem dX4_readSwan_105 : decode cX4_readSwan 105 = .ok (.ifCond .ne 5, 3) := by decide +kernel
theorem dX4_readSwan_108 : decode cX4_readSwan 108 = .ok (.iconst 0, 1) := by decide +kernel
theorem dX4_readSwan_109 : decode cX4_readSwan 109 = .ok (.ireturn, 1) := by decide +kernel
theorem dX4_readSwan_110 : decode cX4_readSwan 110 = .ok (.aload_n 1, 1) := by decide +kernel
theorem dX4_readSwan_111 : decode cX4_readSwan 111 = .ok (.getfield 54, 3) := by decide +kernel
theorem dX4_readSwan_114 : decode cX4_readSwan 114 = .ok (.iload_n 2, 1) := by decide +kernel
theorem dX4_readSwan_115 : decode cX4_readSwan 115 = .ok (.iload_n 3, 1) := by decide +kernel
theorem dX4_readSwan_116 : decode cX4_readSwan 116 = .ok (.iastore, 1) := by decide +kernel
theorem dX4_readSwan_117 : decode cX4_readSwan 117 = .ok (.aload_n 1, 1) := by decide +kernel
theorem dX4_readSwan_118 : decode cX4_readSwan 118 = .ok (.getfield 57, 3) := by decide +kernel
theorem dX4_readSwan_121 : decode cX4_readSwan 121 = .ok (.iload_n 2, 1) := by decide +kernel
theorem dX4_readSwan_122 : decode cX4_readSwan 122 = .ok (.iload 4, 2) := by decide +kernel
theorem dX4_readSwan_124 : decode cX4_readSwan 124 = .ok (.iastore, 1) := by decide +kernel
theorem dX4_readSwan_125 : decode cX4_readSwan 125 = .ok (.aload_n 1, 1) := by decide +kernel
theorem dX4_readSwan_126 : decode cX4_readSwan 126 = .ok (.getfield 60, 3) := by decide +kernel
theorem dX4_readSwan_129 : decode cX4_readSwan 129 = .ok (.iload_n 2, 1) := by decide +kernel
theorem dX4_readSwan_130 : decode cX4_readSwan 130 = .ok (.iload 5, 2) := by decide +kernel
theorem dX4_readSwan_132 : decode cX4_readSwan 132 = .ok (.iastore, 1) := by decide +kernel
theorem dX4_readSwan_133 : decode cX4_readSwan 133 = .ok (.aload_n 1, 1) := by decide +kernel
theorem dX4_readSwan_134 : decode cX4_readSwan 134 = .ok (.getfield 63, 3) := by decide +kernel
theorem dX4_readSwan_137 : decode cX4_readSwan 137 = .ok (.iload_n 2, 1) := by decide +kernel
theorem dX4_readSwan_138 : decode cX4_readSwan 138 = .ok (.iload 6, 2) := by decide +kernel
theorem dX4_readSwan_140 : decode cX4_readSwan 140 = .ok (.iastore, 1) := by decide +kernel
theorem dX4_readSwan_141 : decode cX4_readSwan 141 = .ok (.aload_n 1, 1) := by decide +kernel
theorem dX4_readSwan_142 : decode cX4_readSwan 142 = .ok (.iload_n 2, 1) := by decide +kernel
theorem dX4_readSwan_143 : decode cX4_readSwan 143 = .ok (.iconst 1, 1) := by decide +kernel
theorem dX4_readSwan_144 : decode cX4_readSwan 144 = .ok (.iadd, 1) := by decide +kernel
theorem dX4_readSwan_145 : decode cX4_readSwan 145 = .ok (.putfield 66, 3) := by decide +kernel
theorem dX4_readSwan_148 : decode cX4_readSwan 148 = .ok (.iconst 1, 1) := by decide +kernel
theorem dX4_readSwan_149 : decode cX4_readSwan 149 = .ok (.ireturn, 1) := by decide +kernel
set_option maxRecDepth 20000 in
theorem ggX4_readSort_X4_scan : GoodIn wsX4_readSort wsX4_scan := goodIn_r _ [7, 8, 9, 1, 10, 11, 2, 12, 13, 6, 14, 15, 16, 17, 18, 28, 29, 30, 31, 32, 33, 34, 35] (by decide +kernel) (by decide +kernel)
set_option maxRecDepth 20000 in
theorem gX4_readSort_X4_scan : GoodIn wsX4_readSort (wsV RX4 69 RX4 yX4_scan wsX4_scan) := goodIn_app (goodIn_of _ (by decide +kernel)) ggX4_readSort_X4_scan
set_option maxRecDepth 20000 in
theorem ggX4_readSort_X4_kindOf : GoodIn wsX4_readSort wsX4_kindOf := goodIn_r _ [21] (by decide +kernel) (by decide +kernel)
set_option maxRecDepth 20000 in
theorem gX4_readSort_X4_kindOf : GoodIn wsX4_readSort (va_wsS RX4 78 yX4_kindOf wsX4_kindOf) := goodIn_app (goodIn_of _ (by decide +kernel)) ggX4_readSort_X4_kindOf
set_option maxRecDepth 20000 in
theorem ggX4_readSort_X4_refuse : GoodIn wsX4_readSort wsX4_refuse := goodIn_r _ [25, 26, 9, 27, 28, 29, 30, 31, 32, 33, 34, 35] (by decide +kernel) (by decide +kernel)
set_option maxRecDepth 20000 in
theorem gX4_readSort_X4_refuse : GoodIn wsX4_readSort (wsV RX4 48 RX4 yX4_refuse wsX4_refuse) := goodIn_app (goodIn_of _ (by decide +kernel)) ggX4_readSort_X4_refuse
theorem dX4_readSort_0 : decode cX4_readSort 0 = .ok (.aload_n 0, 1) := by decide +kernel
theorem dX4_readSort_1 : decode cX4_readSort 1 = .ok (.invokevirtual 69, 3) := by decide +kernel
theorem dX4_readSort_4 : decode cX4_readSort 4 = .ok (.aload_n 0, 1) := by decide +kernel
theorem dX4_readSort_5 : decode cX4_readSort 5 = .ok (.getfield 72, 3) := by decide +kernel
theorem dX4_readSort_8 : decode cX4_readSort 8 = .ok (.ifCond .ne 13, 3) := by decide +kernel
theorem dX4_readSort_11 : decode cX4_readSort 11 = .ok (.aload_n 0, 1) := by decide +kernel
theorem dX4_readSort_12 : decode cX4_readSort 12 = .ok (.getfield 75, 3) := by decide +kernel
theorem dX4_readSort_15 : decode cX4_readSort 15 = .ok (.invokestatic 78, 3) := by decide +kernel
theorem dX4_readSort_18 : decode cX4_readSort 18 = .ok (.goto 4, 3) := by decide +kernel
theorem dX4_readSort_21 : decode cX4_readSort 21 = .ok (.iconst (-1), 1) := by decide +kernel
theorem dX4_readSort_22 : decode cX4_readSort 22 = .ok (.istore_n 1, 1) := by decide +kernel
theorem dX4_readSort_23 : decode cX4_readSort 23 = .ok (.iload_n 1, 1) := by decide +kernel
theorem dX4_readSort_24 : decode cX4_readSort 24 = .ok (.iconst (-1), 1) := by decide +kernel
theorem dX4_readSort_25 : decode cX4_readSort 25 = .ok (.if_icmp .ne 9, 3) := by decide +kernel
theorem dX4_readSort_28 : decode cX4_readSort 28 = .ok (.aload_n 0, 1) := by decide +kernel
theorem dX4_readSort_29 : decode cX4_readSort 29 = .ok (.iconst 1, 1) := by decide +kernel
theorem dX4_readSort_30 : decode cX4_readSort 30 = .ok (.invokevirtual 48, 3) := by decide +kernel
theorem dX4_readSort_33 : decode cX4_readSort 33 = .ok (.pop, 1) := by decide +kernel
theorem dX4_readSort_34 : decode cX4_readSort 34 = .ok (.iload_n 1, 1) := by decide +kernel
theorem dX4_readSort_35 : decode cX4_readSort 35 = .ok (.ireturn, 1) := by decide +kernel
theorem dX4_kindOf_0 : decode cX4_kindOf 0 = .ok (.iload_n 0, 1) := by decide +kernel
theorem dX4_kindOf_1 : decode cX4_kindOf 1 = .ok (.lookupswitch 61 #[(98, 59), (99, 53), (111, 57), (112, 51), (121, 55)], 51) := by decide +kernel
theorem dX4_kindOf_52 : decode cX4_kindOf 52 = .ok (.iconst 1, 1) := by decide +kernel
theorem dX4_kindOf_53 : decode cX4_kindOf 53 = .ok (.ireturn, 1) := by decide +kernel
theorem dX4_kindOf_54 : decode cX4_kindOf 54 = .ok (.iconst 2, 1) := by decide +kernel
theorem dX4_kindOf_55 : decode cX4_kindOf 55 = .ok (.ireturn, 1) := by decide +kernel
theorem dX4_kindOf_56 : decode cX4_kindOf 56 = .ok (.iconst 3, 1) := by decide +kernel
theorem dX4_kindOf_57 : decode cX4_kindOf 57 = .ok (.ireturn, 1) := by decide +kernel
theorem dX4_kindOf_58 : decode cX4_kindOf 58 = .ok (.iconst 4, 1) := by decide +kernel
theorem dX4_kindOf_59 : decode cX4_kindOf 59 = .ok (.ireturn, 1) := by decide +kernel
theorem dX4_kindOf_60 : decode cX4_kindOf 60 = .ok (.iconst 5, 1) := by decide +kernel
theorem dX4_kindOf_61 : decode cX4_kindOf 61 = .ok (.ireturn, 1) := by decide +kernel
theorem dX4_kindOf_62 : decode cX4_kindOf 62 = .ok (.iconst (-1), 1) := by decide +kernel
theorem dX4_kindOf_63 : decode cX4_kindOf 63 = .ok (.ireturn, 1) := by decide +kernel
set_option maxRecDepth 20000 in
theorem ggX4_readSingle_X4_scan : GoodIn wsX4_readSingle wsX4_scan := goodIn_r _ [7, 8, 9, 1, 10, 11, 2, 12, 13, 6, 14, 15, 16, 17, 18, 25, 26, 27, 28, 29, 30, 31, 32] (by decide +kernel) (by decide +kernel)
set_option maxRecDepth 20000 in
theorem gX4_readSingle_X4_scan : GoodIn wsX4_readSingle (wsV RX4 69 RX4 yX4_scan wsX4_scan) := goodIn_app (goodIn_of _ (by decide +kernel)) ggX4_readSingle_X4_scan
set_option maxRecDepth 20000 in
theorem ggX4_readSingle_X4_refuse : GoodIn wsX4_readSingle wsX4_refuse := goodIn_r _ [22, 23, 9, 24, 25, 26, 27, 28, 29, 30, 31, 32] (by decide +kernel) (by decide +kernel)
set_option maxRecDepth 20000 in
theorem gX4_readSingle_X4_refuse : GoodIn wsX4_readSingle (wsV RX4 48 RX4 yX4_refuse wsX4_refuse) := goodIn_app (goodIn_of _ (by decide +kernel)) ggX4_readSingle_X4_refuse
theorem dX4_readSingle_0 : decode cX4_readSingle 0 = .ok (.aload_n 0, 1) := by decide +kernel
theorem dX4_readSingle_1 : decode cX4_readSingle 1 = .ok (.invokevirtual 69, 3) := by decide +kernel
theorem dX4_readSingle_4 : decode cX4_readSingle 4 = .ok (.aload_n 0, 1) := by decide +kernel
theorem dX4_readSingle_5 : decode cX4_readSingle 5 = .ok (.getfield 72, 3) := by decide +kernel
theorem dX4_readSingle_8 : decode cX4_readSingle 8 = .ok (.ifCond .ne 11, 3) := by decide +kernel
theorem dX4_readSingle_11 : decode cX4_readSingle 11 = .ok (.aload_n 0, 1) := by decide +kernel
theorem dX4_readSingle_12 : decode cX4_readSingle 12 = .ok (.getfield 75, 3) := by decide +kernel
theorem dX4_readSingle_15 : decode cX4_readSingle 15 = .ok (.iload_n 1, 1) := by decide +kernel
theorem dX4_readSingle_16 : decode cX4_readSingle 16 = .ok (.if_icmp .eq 11, 3) := by decide +kernel
theorem dX4_readSingle_19 : decode cX4_readSingle 19 = .ok (.aload_n 0, 1) := by decide +kernel
theorem dX4_readSingle_20 : decode cX4_readSingle 20 = .ok (.iconst 1, 1) := by decide +kernel
theorem dX4_readSingle_21 : decode cX4_readSingle 21 = .ok (.invokevirtual 48, 3) := by decide +kernel
theorem dX4_readSingle_24 : decode cX4_readSingle 24 = .ok (.ifCond .eq 7, 3) := by decide +kernel
theorem dX4_readSingle_27 : decode cX4_readSingle 27 = .ok (.iconst 1, 1) := by decide +kernel
theorem dX4_readSingle_28 : decode cX4_readSingle 28 = .ok (.goto 4, 3) := by decide +kernel
theorem dX4_readSingle_31 : decode cX4_readSingle 31 = .ok (.iconst 0, 1) := by decide +kernel
theorem dX4_readSingle_32 : decode cX4_readSingle 32 = .ok (.ireturn, 1) := by decide +kernel
set_option maxRecDepth 20000 in
theorem ggX4_readNumber_X4_scan : GoodIn wsX4_readNumber wsX4_scan := goodIn_r _ [7, 8, 9, 1, 10, 11, 2, 12, 13, 6, 14, 15, 16, 17, 18, 28, 29, 30, 31, 32, 33, 34, 35] (by decide +kernel) (by decide +kernel)
set_option maxRecDepth 20000 in
theorem gX4_readNumber_X4_scan : GoodIn wsX4_readNumber (wsV RX4 69 RX4 yX4_scan wsX4_scan) := goodIn_app (goodIn_of _ (by decide +kernel)) ggX4_readNumber_X4_scan
set_option maxRecDepth 20000 in
theorem ggX4_readNumber_X4_refuse : GoodIn wsX4_readNumber wsX4_refuse := goodIn_r _ [22, 23, 9, 24, 28, 29, 30, 31, 32, 33, 34, 35] (by decide +kernel) (by decide +kernel)
set_option maxRecDepth 20000 in
theorem gX4_readNumber_X4_refuse : GoodIn wsX4_readNumber (wsV RX4 48 RX4 yX4_refuse wsX4_refuse) := goodIn_app (goodIn_of _ (by decide +kernel)) ggX4_readNumber_X4_refuse
set_option maxRecDepth 20000 in
theorem ggX4_readNumber_X5_within : GoodIn wsX4_readNumber wsX5_within := goodIn_r _ [27] (by decide +kernel) (by decide +kernel)
set_option maxRecDepth 20000 in
theorem gX4_readNumber_X5_within_n82 : GoodIn wsX4_readNumber (wsX5_within) := ggX4_readNumber_X5_within
theorem dX4_readNumber_0 : decode cX4_readNumber 0 = .ok (.aload_n 0, 1) := by decide +kernel
theorem dX4_readNumber_1 : decode cX4_readNumber 1 = .ok (.invokevirtual 69, 3) := by decide +kernel
theorem dX4_readNumber_4 : decode cX4_readNumber 4 = .ok (.aload_n 0, 1) := by decide +kernel
theorem dX4_readNumber_5 : decode cX4_readNumber 5 = .ok (.getfield 72, 3) := by decide +kernel
theorem dX4_readNumber_8 : decode cX4_readNumber 8 = .ok (.iconst 1, 1) := by decide +kernel
theorem dX4_readNumber_9 : decode cX4_readNumber 9 = .ok (.if_icmp .eq 11, 3) := by decide +kernel
theorem dX4_readNumber_12 : decode cX4_readNumber 12 = .ok (.aload_n 0, 1) := by decide +kernel
theorem dX4_readNumber_13 : decode cX4_readNumber 13 = .ok (.iconst 1, 1) := by decide +kernel
theorem dX4_readNumber_14 : decode cX4_readNumber 14 = .ok (.invokevirtual 48, 3) := by decide +kernel
theorem dX4_readNumber_17 : decode cX4_readNumber 17 = .ok (.pop, 1) := by decide +kernel
theorem dX4_readNumber_18 : decode cX4_readNumber 18 = .ok (.iconst (-1), 1) := by decide +kernel
theorem dX4_readNumber_19 : decode cX4_readNumber 19 = .ok (.ireturn, 1) := by decide +kernel
theorem dX4_readNumber_20 : decode cX4_readNumber 20 = .ok (.aload_n 0, 1) := by decide +kernel
theorem dX4_readNumber_21 : decode cX4_readNumber 21 = .ok (.getfield 75, 3) := by decide +kernel
theorem dX4_readNumber_24 : decode cX4_readNumber 24 = .ok (.iload_n 1, 1) := by decide +kernel
theorem dX4_readNumber_25 : decode cX4_readNumber 25 = .ok (.iload_n 2, 1) := by decide +kernel
theorem dX4_readNumber_26 : decode cX4_readNumber 26 = .ok (.invokestatic 82, 3) := by decide +kernel
theorem dX4_readNumber_29 : decode cX4_readNumber 29 = .ok (.ifCond .ne 11, 3) := by decide +kernel
theorem dX4_readNumber_32 : decode cX4_readNumber 32 = .ok (.aload_n 0, 1) := by decide +kernel
theorem dX4_readNumber_33 : decode cX4_readNumber 33 = .ok (.iconst 2, 1) := by decide +kernel
theorem dX4_readNumber_34 : decode cX4_readNumber 34 = .ok (.invokevirtual 48, 3) := by decide +kernel
theorem dX4_readNumber_37 : decode cX4_readNumber 37 = .ok (.pop, 1) := by decide +kernel
theorem dX4_readNumber_38 : decode cX4_readNumber 38 = .ok (.iconst (-1), 1) := by decide +kernel
theorem dX4_readNumber_39 : decode cX4_readNumber 39 = .ok (.ireturn, 1) := by decide +kernel
theorem dX4_readNumber_40 : decode cX4_readNumber 40 = .ok (.aload_n 0, 1) := by decide +kernel
theorem dX4_readNumber_41 : decode cX4_readNumber 41 = .ok (.getfield 75, 3) := by decide +kernel
theorem dX4_readNumber_44 : decode cX4_readNumber 44 = .ok (.ireturn, 1) := by decide +kernel
theorem dX4_refuse_0 : decode cX4_refuse 0 = .ok (.aload_n 0, 1) := by decide +kernel
theorem dX4_refuse_1 : decode cX4_refuse 1 = .ok (.iload_n 1, 1) := by decide +kernel
theorem dX4_refuse_2 : decode cX4_refuse 2 = .ok (.putfield 86, 3) := by decide +kernel
theorem dX4_refuse_5 : decode cX4_refuse 5 = .ok (.aload_n 0, 1) := by decide +kernel
theorem dX4_refuse_6 : decode cX4_refuse 6 = .ok (.aload_n 0, 1) := by decide +kernel
theorem dX4_refuse_7 : decode cX4_refuse 7 = .ok (.getfield 89, 3) := by decide +kernel
theorem dX4_refuse_10 : decode cX4_refuse 10 = .ok (.putfield 92, 3) := by decide +kernel
theorem dX4_refuse_13 : decode cX4_refuse 13 = .ok (.iconst 0, 1) := by decide +kernel
theorem dX4_refuse_14 : decode cX4_refuse 14 = .ok (.ireturn, 1) := by decide +kernel
set_option maxRecDepth 20000 in
theorem ggX4_scan_X4_isFigure : GoodIn wsX4_scan wsX4_isFigure := goodIn_r _ [10] (by decide +kernel) (by decide +kernel)
set_option maxRecDepth 20000 in
theorem gX4_scan_X4_isFigure : GoodIn wsX4_scan (va_wsS RX4 95 yX4_isFigure wsX4_isFigure) := goodIn_app (goodIn_of _ (by decide +kernel)) ggX4_scan_X4_isFigure
set_option maxRecDepth 20000 in
theorem ggX4_scan_X4_scanFigures : GoodIn wsX4_scan wsX4_scanFigures := goodIn_r _ [14, 6, 1, 4, 5, 3, 7, 8, 9, 10, 15, 16, 17, 18, 19, 20, 21, 22] (by decide +kernel) (by decide +kernel)
set_option maxRecDepth 20000 in
theorem gX4_scan_X4_scanFigures : GoodIn wsX4_scan (wsV RX4 98 RX4 yX4_scanFigures wsX4_scanFigures) := goodIn_app (goodIn_of _ (by decide +kernel)) ggX4_scan_X4_scanFigures
theorem dX4_scan_0 : decode cX4_scan 0 = .ok (.aload_n 0, 1) := by decide +kernel
theorem dX4_scan_1 : decode cX4_scan 1 = .ok (.aload_n 0, 1) := by decide +kernel
theorem dX4_scan_2 : decode cX4_scan 2 = .ok (.getfield 19, 3) := by decide +kernel
theorem dX4_scan_5 : decode cX4_scan 5 = .ok (.putfield 89, 3) := by decide +kernel
theorem dX4_scan_8 : decode cX4_scan 8 = .ok (.aload_n 0, 1) := by decide +kernel
theorem dX4_scan_9 : decode cX4_scan 9 = .ok (.iconst 2, 1) := by decide +kernel
theorem dX4_scan_10 : decode cX4_scan 10 = .ok (.putfield 72, 3) := by decide +kernel
theorem dX4_scan_13 : decode cX4_scan 13 = .ok (.aload_n 0, 1) := by decide +kernel
theorem dX4_scan_14 : decode cX4_scan 14 = .ok (.getfield 19, 3) := by decide +kernel
theorem dX4_scan_17 : decode cX4_scan 17 = .ok (.aload_n 0, 1) := by decide +kernel
theorem dX4_scan_18 : decode cX4_scan 18 = .ok (.getfield 15, 3) := by decide +kernel
theorem dX4_scan_21 : decode cX4_scan 21 = .ok (.if_icmp .lt 4, 3) := by decide +kernel
theorem dX4_scan_24 : decode cX4_scan 24 = .ok (.return_, 1) := by decide +kernel
theorem dX4_scan_25 : decode cX4_scan 25 = .ok (.aload_n 0, 1) := by decide +kernel
theorem dX4_scan_26 : decode cX4_scan 26 = .ok (.getfield 9, 3) := by decide +kernel
theorem dX4_scan_29 : decode cX4_scan 29 = .ok (.aload_n 0, 1) := by decide +kernel
theorem dX4_scan_30 : decode cX4_scan 30 = .ok (.getfield 19, 3) := by decide +kernel
theorem dX4_scan_33 : decode cX4_scan 33 = .ok (.iaload, 1) := by decide +kernel
theorem dX4_scan_34 : decode cX4_scan 34 = .ok (.invokestatic 95, 3) := by decide +kernel
theorem dX4_scan_37 : decode cX4_scan 37 = .ok (.ifCond .eq 8, 3) := by decide +kernel
theorem dX4_scan_40 : decode cX4_scan 40 = .ok (.aload_n 0, 1) := by decide +kernel
theorem dX4_scan_41 : decode cX4_scan 41 = .ok (.invokevirtual 98, 3) := by decide +kernel
theorem dX4_scan_44 : decode cX4_scan 44 = .ok (.return_, 1) := by decide +kernel
theorem dX4_scan_45 : decode cX4_scan 45 = .ok (.aload_n 0, 1) := by decide +kernel
theorem dX4_scan_46 : decode cX4_scan 46 = .ok (.iconst 0, 1) := by decide +kernel
theorem dX4_scan_47 : decode cX4_scan 47 = .ok (.putfield 72, 3) := by decide +kernel
theorem dX4_scan_50 : decode cX4_scan 50 = .ok (.aload_n 0, 1) := by decide +kernel
theorem dX4_scan_51 : decode cX4_scan 51 = .ok (.aload_n 0, 1) := by decide +kernel
theorem dX4_scan_52 : decode cX4_scan 52 = .ok (.getfield 9, 3) := by decide +kernel
theorem dX4_scan_55 : decode cX4_scan 55 = .ok (.aload_n 0, 1) := by decide +kernel
theorem dX4_scan_56 : decode cX4_scan 56 = .ok (.getfield 19, 3) := by decide +kernel
theorem dX4_scan_59 : decode cX4_scan 59 = .ok (.iaload, 1) := by decide +kernel
theorem dX4_scan_60 : decode cX4_scan 60 = .ok (.putfield 75, 3) := by decide +kernel
theorem dX4_scan_63 : decode cX4_scan 63 = .ok (.aload_n 0, 1) := by decide +kernel
theorem dX4_scan_64 : decode cX4_scan 64 = .ok (.dup, 1) := by decide +kernel
theorem dX4_scan_65 : decode cX4_scan 65 = .ok (.getfield 19, 3) := by decide +kernel
theorem dX4_scan_68 : decode cX4_scan 68 = .ok (.iconst 1, 1) := by decide +kernel
theorem dX4_scan_69 : decode cX4_scan 69 = .ok (.iadd, 1) := by decide +kernel
theorem dX4_scan_70 : decode cX4_scan 70 = .ok (.putfield 19, 3) := by decide +kernel
theorem dX4_scan_73 : decode cX4_scan 73 = .ok (.return_, 1) := by decide +kernel
set_option maxRecDepth 20000 in
theorem ggX4_scanFigures_X4_isFigure : GoodIn wsX4_scanFigures wsX4_isFigure := goodIn_r _ [9] (by decide +kernel) (by decide +kernel)
set_option maxRecDepth 20000 in
theorem gX4_scanFigures_X4_isFigure : GoodIn wsX4_scanFigures (va_wsS RX4 95 yX4_isFigure wsX4_isFigure) := goodIn_app (goodIn_of _ (by decide +kernel)) ggX4_scanFigures_X4_isFigure
theorem dX4_scanFigures_0 : decode cX4_scanFigures 0 = .ok (.iconst 0, 1) := by decide +kernel
theorem dX4_scanFigures_1 : decode cX4_scanFigures 1 = .ok (.istore_n 1, 1) := by decide +kernel
theorem dX4_scanFigures_2 : decode cX4_scanFigures 2 = .ok (.aload_n 0, 1) := by decide +kernel
theorem dX4_scanFigures_3 : decode cX4_scanFigures 3 = .ok (.iconst 0, 1) := by decide +kernel
theorem dX4_scanFigures_4 : decode cX4_scanFigures 4 = .ok (.putfield 75, 3) := by decide +kernel
theorem dX4_scanFigures_7 : decode cX4_scanFigures 7 = .ok (.aload_n 0, 1) := by decide +kernel
theorem dX4_scanFigures_8 : decode cX4_scanFigures 8 = .ok (.getfield 19, 3) := by decide +kernel
theorem dX4_scanFigures_11 : decode cX4_scanFigures 11 = .ok (.aload_n 0, 1) := by decide +kernel
theorem dX4_scanFigures_12 : decode cX4_scanFigures 12 = .ok (.getfield 15, 3) := by decide +kernel
theorem dX4_scanFigures_15 : decode cX4_scanFigures 15 = .ok (.if_icmp .ge 70, 3) := by decide +kernel
theorem dX4_scanFigures_18 : decode cX4_scanFigures 18 = .ok (.aload_n 0, 1) := by decide +kernel
theorem dX4_scanFigures_19 : decode cX4_scanFigures 19 = .ok (.getfield 9, 3) := by decide +kernel
theorem dX4_scanFigures_22 : decode cX4_scanFigures 22 = .ok (.aload_n 0, 1) := by decide +kernel
theorem dX4_scanFigures_23 : decode cX4_scanFigures 23 = .ok (.getfield 19, 3) := by decide +kernel
theorem dX4_scanFigures_26 : decode cX4_scanFigures 26 = .ok (.iaload, 1) := by decide +kernel
theorem dX4_scanFigures_27 : decode cX4_scanFigures 27 = .ok (.invokestatic 95, 3) := by decide +kernel
theorem dX4_scanFigures_30 : decode cX4_scanFigures 30 = .ok (.ifCond .eq 55, 3) := by decide +kernel
theorem dX4_scanFigures_33 : decode cX4_scanFigures 33 = .ok (.aload_n 0, 1) := by decide +kernel
theorem dX4_scanFigures_34 : decode cX4_scanFigures 34 = .ok (.iload_n 1, 1) := by decide +kernel
theorem dX4_scanFigures_35 : decode cX4_scanFigures 35 = .ok (.iconst 2, 1) := by decide +kernel
theorem dX4_scanFigures_36 : decode cX4_scanFigures 36 = .ok (.if_icmp .ge 26, 3) := by decide +kernel
theorem dX4_scanFigures_39 : decode cX4_scanFigures 39 = .ok (.aload_n 0, 1) := by decide +kernel
theorem dX4_scanFigures_40 : decode cX4_scanFigures 40 = .ok (.getfield 75, 3) := by decide +kernel
theorem dX4_scanFigures_43 : decode cX4_scanFigures 43 = .ok (.bipush 10, 2) := by decide +kernel
theorem dX4_scanFigures_45 : decode cX4_scanFigures 45 = .ok (.imul, 1) := by decide +kernel
theorem dX4_scanFigures_46 : decode cX4_scanFigures 46 = .ok (.aload_n 0, 1) := by decide +kernel
theorem dX4_scanFigures_47 : decode cX4_scanFigures 47 = .ok (.getfield 9, 3) := by decide +kernel
theorem dX4_scanFigures_50 : decode cX4_scanFigures 50 = .ok (.aload_n 0, 1) := by decide +kernel
theorem dX4_scanFigures_51 : decode cX4_scanFigures 51 = .ok (.getfield 19, 3) := by decide +kernel
theorem dX4_scanFigures_54 : decode cX4_scanFigures 54 = .ok (.iaload, 1) := by decide +kernel
theorem dX4_scanFigures_55 : decode cX4_scanFigures 55 = .ok (.iadd, 1) := by decide +kernel
theorem dX4_scanFigures_56 : decode cX4_scanFigures 56 = .ok (.bipush 48, 2) := by decide +kernel
theorem dX4_scanFigures_58 : decode cX4_scanFigures 58 = .ok (.isub, 1) := by decide +kernel
theorem dX4_scanFigures_59 : decode cX4_scanFigures 59 = .ok (.goto 7, 3) := by decide +kernel
theorem dX4_scanFigures_62 : decode cX4_scanFigures 62 = .ok (.aload_n 0, 1) := by decide +kernel
theorem dX4_scanFigures_63 : decode cX4_scanFigures 63 = .ok (.getfield 75, 3) := by decide +kernel
theorem dX4_scanFigures_66 : decode cX4_scanFigures 66 = .ok (.putfield 75, 3) := by decide +kernel
theorem dX4_scanFigures_69 : decode cX4_scanFigures 69 = .ok (.iinc 1 1, 3) := by decide +kernel
theorem dX4_scanFigures_72 : decode cX4_scanFigures 72 = .ok (.aload_n 0, 1) := by decide +kernel
theorem dX4_scanFigures_73 : decode cX4_scanFigures 73 = .ok (.dup, 1) := by decide +kernel
theorem dX4_scanFigures_74 : decode cX4_scanFigures 74 = .ok (.getfield 19, 3) := by decide +kernel
theorem dX4_scanFigures_77 : decode cX4_scanFigures 77 = .ok (.iconst 1, 1) := by decide +kernel
theorem dX4_scanFigures_78 : decode cX4_scanFigures 78 = .ok (.iadd, 1) := by decide +kernel
theorem dX4_scanFigures_79 : decode cX4_scanFigures 79 = .ok (.putfield 19, 3) := by decide +kernel
theorem dX4_scanFigures_82 : decode cX4_scanFigures 82 = .ok (.goto (-75), 3) := by decide +kernel
theorem dX4_scanFigures_85 : decode cX4_scanFigures 85 = .ok (.aload_n 0, 1) := by decide +kernel
theorem dX4_scanFigures_86 : decode cX4_scanFigures 86 = .ok (.iload_n 1, 1) := by decide +kernel
theorem dX4_scanFigures_87 : decode cX4_scanFigures 87 = .ok (.iconst 2, 1) := by decide +kernel
theorem dX4_scanFigures_88 : decode cX4_scanFigures 88 = .ok (.if_icmp .le 7, 3) := by decide +kernel
theorem dX4_scanFigures_91 : decode cX4_scanFigures 91 = .ok (.iconst 2, 1) := by decide +kernel
theorem dX4_scanFigures_92 : decode cX4_scanFigures 92 = .ok (.goto 4, 3) := by decide +kernel
theorem dX4_scanFigures_95 : decode cX4_scanFigures 95 = .ok (.iconst 1, 1) := by decide +kernel
theorem dX4_scanFigures_96 : decode cX4_scanFigures 96 = .ok (.putfield 72, 3) := by decide +kernel
theorem dX4_scanFigures_99 : decode cX4_scanFigures 99 = .ok (.return_, 1) := by decide +kernel
theorem dX4_isFigure_0 : decode cX4_isFigure 0 = .ok (.iload_n 0, 1) := by decide +kernel
theorem dX4_isFigure_1 : decode cX4_isFigure 1 = .ok (.bipush 48, 2) := by decide +kernel
theorem dX4_isFigure_3 : decode cX4_isFigure 3 = .ok (.if_icmp .lt 13, 3) := by decide +kernel
theorem dX4_isFigure_6 : decode cX4_isFigure 6 = .ok (.iload_n 0, 1) := by decide +kernel
theorem dX4_isFigure_7 : decode cX4_isFigure 7 = .ok (.bipush 57, 2) := by decide +kernel
theorem dX4_isFigure_9 : decode cX4_isFigure 9 = .ok (.if_icmp .gt 7, 3) := by decide +kernel
theorem dX4_isFigure_12 : decode cX4_isFigure 12 = .ok (.iconst 1, 1) := by decide +kernel
theorem dX4_isFigure_13 : decode cX4_isFigure 13 = .ok (.goto 4, 3) := by decide +kernel
theorem dX4_isFigure_16 : decode cX4_isFigure 16 = .ok (.iconst 0, 1) := by decide +kernel
theorem dX4_isFigure_17 : decode cX4_isFigure 17 = .ok (.ireturn, 1) := by decide +kernel
set_option maxRecDepth 20000 in
theorem ggX5_init_X3_init : GoodIn wsX5_init wsX3_init := goodIn_r _ [29, 30, 2, 3, 31, 32, 33, 34, 35, 58, 59, 60] (by decide +kernel) (by decide +kernel)
set_option maxRecDepth 20000 in
theorem gX5_init_X3_init : GoodIn wsX5_init (wsX3_init) := ggX5_init_X3_init
set_option maxRecDepth 20000 in
theorem ggX5_init_X4_init : GoodIn wsX5_init wsX4_init := goodIn_r _ [37, 38, 2, 3, 32, 39, 70, 71, 72, 73, 74, 75, 76, 77] (by decide +kernel) (by decide +kernel)
set_option maxRecDepth 20000 in
theorem gX5_init_X4_init_n18 : GoodIn wsX5_init (wsX4_init) := ggX5_init_X4_init
set_option maxRecDepth 20000 in
theorem ggX5_init_X0_init : GoodIn wsX5_init wsX0_init := goodIn_r _ [42, 43, 2, 3, 44, 45, 21, 22, 46, 47, 48, 32, 49, 50, 51, 52, 53, 78, 79, 80, 87, 88, 89, 90, 91, 92, 93, 94, 95, 96, 97] (by decide +kernel) (by decide +kernel)
set_option maxRecDepth 20000 in
theorem gX5_init_X0_init : GoodIn wsX5_init (wsX0_init) := ggX5_init_X0_init
set_option maxRecDepth 20000 in
theorem ggX5_init_X1_init : GoodIn wsX5_init wsX1_init := goodIn_r _ [55, 56, 2, 3, 32, 57, 81, 82, 83, 84, 85, 86] (by decide +kernel) (by decide +kernel)
set_option maxRecDepth 20000 in
theorem gX5_init_X1_init_n32 : GoodIn wsX5_init (wsX1_init) := ggX5_init_X1_init
set_option maxRecDepth 20000 in
theorem ggX5_init_X2_init : GoodIn wsX5_init wsX2_init := goodIn_r _ [47, 48, 2, 3, 32, 49, 50, 51, 52, 53, 87, 88, 89, 90, 91, 92, 93, 94, 95, 96, 97] (by decide +kernel) (by decide +kernel)
set_option maxRecDepth 20000 in
theorem gX5_init_X2_init_n39 : GoodIn wsX5_init (wsX2_init) := ggX5_init_X2_init
theorem dX5_init_0 : decode cX5_init 0 = .ok (.aload_n 0, 1) := by decide +kernel
theorem dX5_init_1 : decode cX5_init 1 = .ok (.invokespecial 1, 3) := by decide +kernel
theorem dX5_init_4 : decode cX5_init 4 = .ok (.aload_n 0, 1) := by decide +kernel
theorem dX5_init_5 : decode cX5_init 5 = .ok (.new 7, 3) := by decide +kernel
theorem dX5_init_8 : decode cX5_init 8 = .ok (.dup, 1) := by decide +kernel
theorem dX5_init_9 : decode cX5_init 9 = .ok (.invokespecial 9, 3) := by decide +kernel
theorem dX5_init_12 : decode cX5_init 12 = .ok (.putfield 10, 3) := by decide +kernel
theorem dX5_init_15 : decode cX5_init 15 = .ok (.aload_n 0, 1) := by decide +kernel
theorem dX5_init_16 : decode cX5_init 16 = .ok (.new 16, 3) := by decide +kernel
theorem dX5_init_19 : decode cX5_init 19 = .ok (.dup, 1) := by decide +kernel
theorem dX5_init_20 : decode cX5_init 20 = .ok (.invokespecial 18, 3) := by decide +kernel
theorem dX5_init_23 : decode cX5_init 23 = .ok (.putfield 19, 3) := by decide +kernel
theorem dX5_init_26 : decode cX5_init 26 = .ok (.aload_n 0, 1) := by decide +kernel
theorem dX5_init_27 : decode cX5_init 27 = .ok (.new 23, 3) := by decide +kernel
theorem dX5_init_30 : decode cX5_init 30 = .ok (.dup, 1) := by decide +kernel
theorem dX5_init_31 : decode cX5_init 31 = .ok (.invokespecial 25, 3) := by decide +kernel
theorem dX5_init_34 : decode cX5_init 34 = .ok (.putfield 26, 3) := by decide +kernel
theorem dX5_init_37 : decode cX5_init 37 = .ok (.aload_n 0, 1) := by decide +kernel
theorem dX5_init_38 : decode cX5_init 38 = .ok (.new 30, 3) := by decide +kernel
theorem dX5_init_41 : decode cX5_init 41 = .ok (.dup, 1) := by decide +kernel
theorem dX5_init_42 : decode cX5_init 42 = .ok (.invokespecial 32, 3) := by decide +kernel
theorem dX5_init_45 : decode cX5_init 45 = .ok (.putfield 33, 3) := by decide +kernel
theorem dX5_init_48 : decode cX5_init 48 = .ok (.aload_n 0, 1) := by decide +kernel
theorem dX5_init_49 : decode cX5_init 49 = .ok (.new 37, 3) := by decide +kernel
theorem dX5_init_52 : decode cX5_init 52 = .ok (.dup, 1) := by decide +kernel
theorem dX5_init_53 : decode cX5_init 53 = .ok (.invokespecial 39, 3) := by decide +kernel
theorem dX5_init_56 : decode cX5_init 56 = .ok (.putfield 40, 3) := by decide +kernel
theorem dX5_init_59 : decode cX5_init 59 = .ok (.aload_n 0, 1) := by decide +kernel
theorem dX5_init_60 : decode cX5_init 60 = .ok (.new 37, 3) := by decide +kernel
theorem dX5_init_63 : decode cX5_init 63 = .ok (.dup, 1) := by decide +kernel
theorem dX5_init_64 : decode cX5_init 64 = .ok (.invokespecial 39, 3) := by decide +kernel
theorem dX5_init_67 : decode cX5_init 67 = .ok (.putfield 44, 3) := by decide +kernel
theorem dX5_init_70 : decode cX5_init 70 = .ok (.aload_n 0, 1) := by decide +kernel
theorem dX5_init_71 : decode cX5_init 71 = .ok (.new 37, 3) := by decide +kernel
theorem dX5_init_74 : decode cX5_init 74 = .ok (.dup, 1) := by decide +kernel
theorem dX5_init_75 : decode cX5_init 75 = .ok (.invokespecial 39, 3) := by decide +kernel
theorem dX5_init_78 : decode cX5_init 78 = .ok (.putfield 47, 3) := by decide +kernel
theorem dX5_init_81 : decode cX5_init 81 = .ok (.aload_n 0, 1) := by decide +kernel
theorem dX5_init_82 : decode cX5_init 82 = .ok (.iconst 2, 1) := by decide +kernel
theorem dX5_init_83 : decode cX5_init 83 = .ok (.anewarray 37, 3) := by decide +kernel
theorem dX5_init_86 : decode cX5_init 86 = .ok (.dup, 1) := by decide +kernel
theorem dX5_init_87 : decode cX5_init 87 = .ok (.iconst 0, 1) := by decide +kernel
theorem dX5_init_88 : decode cX5_init 88 = .ok (.new 37, 3) := by decide +kernel
theorem dX5_init_91 : decode cX5_init 91 = .ok (.dup, 1) := by decide +kernel
theorem dX5_init_92 : decode cX5_init 92 = .ok (.invokespecial 39, 3) := by decide +kernel
