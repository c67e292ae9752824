theorem dX6_weight_5 : decode cX6_weight 5 = .ok (.ifCond .eq 15, 3) := by decide +kernel
theorem dX6_weight_8 : decode cX6_weight 8 = .ok (.iload_n 2, 1) := by decide +kernel
theorem dX6_weight_9 : decode cX6_weight 9 = .ok (.i2l, 1) := by decide +kernel
theorem dX6_weight_10 : decode cX6_weight 10 = .ok (.lconst 1, 1) := by decide +kernel
theorem dX6_weight_11 : decode cX6_weight 11 = .ok (.ldc2_w 168, 3) := by decide +kernel
theorem dX6_weight_14 : decode cX6_weight 14 = .ok (.invokestatic 45, 3) := by decide +kernel
theorem dX6_weight_17 : decode cX6_weight 17 = .ok (.ifCond .ne 6, 3) := by decide +kernel
theorem dX6_weight_20 : decode cX6_weight 20 = .ok (.ldc 55, 2) := by decide +kernel
theorem dX6_weight_22 : decode cX6_weight 22 = .ok (.ireturn, 1) := by decide +kernel
theorem dX6_weight_23 : decode cX6_weight 23 = .ok (.aload_n 0, 1) := by decide +kernel
theorem dX6_weight_24 : decode cX6_weight 24 = .ok (.invokevirtual 152, 3) := by decide +kernel
theorem dX6_weight_27 : decode cX6_weight 27 = .ok (.aload_n 0, 1) := by decide +kernel
theorem dX6_weight_28 : decode cX6_weight 28 = .ok (.getfield 7, 3) := by decide +kernel
theorem dX6_weight_31 : decode cX6_weight 31 = .ok (.bipush 17, 2) := by decide +kernel
theorem dX6_weight_33 : decode cX6_weight 33 = .ok (.iload_n 1, 1) := by decide +kernel
theorem dX6_weight_34 : decode cX6_weight 34 = .ok (.iadd, 1) := by decide +kernel
theorem dX6_weight_35 : decode cX6_weight 35 = .ok (.iaload, 1) := by decide +kernel
theorem dX6_weight_36 : decode cX6_weight 36 = .ok (.istore_n 3, 1) := by decide +kernel
theorem dX6_weight_37 : decode cX6_weight 37 = .ok (.aload_n 0, 1) := by decide +kernel
theorem dX6_weight_38 : decode cX6_weight 38 = .ok (.getfield 7, 3) := by decide +kernel
theorem dX6_weight_41 : decode cX6_weight 41 = .ok (.bipush 17, 2) := by decide +kernel
theorem dX6_weight_43 : decode cX6_weight 43 = .ok (.iload_n 1, 1) := by decide +kernel
theorem dX6_weight_44 : decode cX6_weight 44 = .ok (.iadd, 1) := by decide +kernel
theorem dX6_weight_45 : decode cX6_weight 45 = .ok (.iload_n 2, 1) := by decide +kernel
theorem dX6_weight_46 : decode cX6_weight 46 = .ok (.iastore, 1) := by decide +kernel
theorem dX6_weight_47 : decode cX6_weight 47 = .ok (.iload_n 3, 1) := by decide +kernel
theorem dX6_weight_48 : decode cX6_weight 48 = .ok (.ireturn, 1) := by decide +kernel
set_option maxRecDepth 20000 in
theorem ggX6_swan_X6_isSwan : GoodIn wsX6_swan wsX6_isSwan := goodIn_r _ [7, 2, 8, 9, 6, 10, 30, 31, 32, 33, 34, 35, 36, 37, 38, 39, 40, 41, 42, 43, 44, 45, 46, 47, 48] (by decide +kernel) (by decide +kernel)
set_option maxRecDepth 20000 in
theorem gX6_swan_X6_isSwan : GoodIn wsX6_swan (wsV RX6 174 RX6 yX6_isSwan wsX6_isSwan) := goodIn_app (goodIn_of _ (by decide +kernel)) ggX6_swan_X6_isSwan
set_option maxRecDepth 20000 in
theorem ggX6_swan_X6_swimsTo : GoodIn wsX6_swan wsX6_swimsTo := goodIn_r _ [14, 2, 15, 16, 17, 6, 18, 19, 20, 21, 22, 23, 24, 25, 26, 8, 9, 10, 27, 28, 29, 30, 31, 32, 33, 34, 35, 36, 37, 38, 39, 40, 41, 42, 43, 44, 45, 46, 47, 48] (by decide +kernel) (by decide +kernel)
set_option maxRecDepth 20000 in
theorem gX6_swan_X6_swimsTo : GoodIn wsX6_swan (wsV RX6 139 RX6 yX6_swimsTo wsX6_swimsTo) := goodIn_app (goodIn_of _ (by decide +kernel)) ggX6_swan_X6_swimsTo
theorem dX6_swan_0 : decode cX6_swan 0 = .ok (.aload_n 0, 1) := by decide +kernel
theorem dX6_swan_1 : decode cX6_swan 1 = .ok (.iload_n 1, 1) := by decide +kernel
theorem dX6_swan_2 : decode cX6_swan 2 = .ok (.invokevirtual 174, 3) := by decide +kernel
theorem dX6_swan_5 : decode cX6_swan 5 = .ok (.ifCond .ne 6, 3) := by decide +kernel
theorem dX6_swan_8 : decode cX6_swan 8 = .ok (.ldc 55, 2) := by decide +kernel
theorem dX6_swan_10 : decode cX6_swan 10 = .ok (.ireturn, 1) := by decide +kernel
theorem dX6_swan_11 : decode cX6_swan 11 = .ok (.iload_n 2, 1) := by decide +kernel
theorem dX6_swan_12 : decode cX6_swan 12 = .ok (.tableswitch 69 0 3 #[32, 42, 52, 62], 32) := by decide +kernel
theorem dX6_swan_44 : decode cX6_swan 44 = .ok (.aload_n 0, 1) := by decide +kernel
theorem dX6_swan_45 : decode cX6_swan 45 = .ok (.getfield 7, 3) := by decide +kernel
theorem dX6_swan_48 : decode cX6_swan 48 = .ok (.bipush 11, 2) := by decide +kernel
theorem dX6_swan_50 : decode cX6_swan 50 = .ok (.iload_n 1, 1) := by decide +kernel
theorem dX6_swan_51 : decode cX6_swan 51 = .ok (.iadd, 1) := by decide +kernel
theorem dX6_swan_52 : decode cX6_swan 52 = .ok (.iaload, 1) := by decide +kernel
theorem dX6_swan_53 : decode cX6_swan 53 = .ok (.ireturn, 1) := by decide +kernel
theorem dX6_swan_54 : decode cX6_swan 54 = .ok (.aload_n 0, 1) := by decide +kernel
theorem dX6_swan_55 : decode cX6_swan 55 = .ok (.getfield 7, 3) := by decide +kernel
theorem dX6_swan_58 : decode cX6_swan 58 = .ok (.bipush 32, 2) := by decide +kernel
theorem dX6_swan_60 : decode cX6_swan 60 = .ok (.iload_n 1, 1) := by decide +kernel
theorem dX6_swan_61 : decode cX6_swan 61 = .ok (.iadd, 1) := by decide +kernel
theorem dX6_swan_62 : decode cX6_swan 62 = .ok (.iaload, 1) := by decide +kernel
theorem dX6_swan_63 : decode cX6_swan 63 = .ok (.ireturn, 1) := by decide +kernel
theorem dX6_swan_64 : decode cX6_swan 64 = .ok (.aload_n 0, 1) := by decide +kernel
theorem dX6_swan_65 : decode cX6_swan 65 = .ok (.getfield 7, 3) := by decide +kernel
theorem dX6_swan_68 : decode cX6_swan 68 = .ok (.bipush 17, 2) := by decide +kernel
theorem dX6_swan_70 : decode cX6_swan 70 = .ok (.iload_n 1, 1) := by decide +kernel
theorem dX6_swan_71 : decode cX6_swan 71 = .ok (.iadd, 1) := by decide +kernel
theorem dX6_swan_72 : decode cX6_swan 72 = .ok (.iaload, 1) := by decide +kernel
theorem dX6_swan_73 : decode cX6_swan 73 = .ok (.ireturn, 1) := by decide +kernel
theorem dX6_swan_74 : decode cX6_swan 74 = .ok (.aload_n 0, 1) := by decide +kernel
theorem dX6_swan_75 : decode cX6_swan 75 = .ok (.iconst 0, 1) := by decide +kernel
theorem dX6_swan_76 : decode cX6_swan 76 = .ok (.iload_n 1, 1) := by decide +kernel
theorem dX6_swan_77 : decode cX6_swan 77 = .ok (.invokevirtual 139, 3) := by decide +kernel
theorem dX6_swan_80 : decode cX6_swan 80 = .ok (.ireturn, 1) := by decide +kernel
theorem dX6_swan_81 : decode cX6_swan 81 = .ok (.ldc 55, 2) := by decide +kernel
theorem dX6_swan_83 : decode cX6_swan 83 = .ok (.ireturn, 1) := by decide +kernel
set_option maxRecDepth 20000 in
theorem ggX6_lawn_X6_isLawn : GoodIn wsX6_lawn wsX6_isLawn := goodIn_r _ [7, 2, 8, 9, 6, 10, 19, 20, 21, 22, 23, 24, 25, 26, 27, 28, 29, 30, 31, 32, 33, 34, 35, 36, 37] (by decide +kernel) (by decide +kernel)
set_option maxRecDepth 20000 in
theorem gX6_lawn_X6_isLawn : GoodIn wsX6_lawn (wsV RX6 165 RX6 yX6_isLawn wsX6_isLawn) := goodIn_app (goodIn_of _ (by decide +kernel)) ggX6_lawn_X6_isLawn
set_option maxRecDepth 20000 in
theorem ggX6_lawn_X6_swansOn : GoodIn wsX6_lawn wsX6_swansOn := goodIn_r _ [14, 2, 19, 20, 21, 22, 23, 24, 25, 26, 27, 28, 29, 30, 31, 32, 33, 34, 35, 36, 37] (by decide +kernel) (by decide +kernel)
set_option maxRecDepth 20000 in
theorem gX6_lawn_X6_swansOn : GoodIn wsX6_lawn (wsV RX6 177 RX6 yX6_swansOn wsX6_swansOn) := goodIn_app (goodIn_of _ (by decide +kernel)) ggX6_lawn_X6_swansOn
set_option maxRecDepth 20000 in
theorem ggX6_lawn_X6_plotsOf : GoodIn wsX6_lawn wsX6_plotsOf := goodIn_r _ [18, 2, 19, 20, 21, 22, 23, 24, 25, 26, 27, 28, 29, 30, 31, 32, 33, 34, 35, 36, 37] (by decide +kernel) (by decide +kernel)
set_option maxRecDepth 20000 in
theorem gX6_lawn_X6_plotsOf : GoodIn wsX6_lawn (wsV RX6 180 RX6 yX6_plotsOf wsX6_plotsOf) := goodIn_app (goodIn_of _ (by decide +kernel)) ggX6_lawn_X6_plotsOf
theorem dX6_lawn_0 : decode cX6_lawn 0 = .ok (.aload_n 0, 1) := by decide +kernel
theorem dX6_lawn_1 : decode cX6_lawn 1 = .ok (.iload_n 1, 1) := by decide +kernel
theorem dX6_lawn_2 : decode cX6_lawn 2 = .ok (.invokevirtual 165, 3) := by decide +kernel
theorem dX6_lawn_5 : decode cX6_lawn 5 = .ok (.ifCond .ne 6, 3) := by decide +kernel
theorem dX6_lawn_8 : decode cX6_lawn 8 = .ok (.ldc 55, 2) := by decide +kernel
theorem dX6_lawn_10 : decode cX6_lawn 10 = .ok (.ireturn, 1) := by decide +kernel
theorem dX6_lawn_11 : decode cX6_lawn 11 = .ok (.iload_n 2, 1) := by decide +kernel
theorem dX6_lawn_12 : decode cX6_lawn 12 = .ok (.tableswitch 67 0 3 #[32, 41, 53, 60], 32) := by decide +kernel
theorem dX6_lawn_44 : decode cX6_lawn 44 = .ok (.aload_n 0, 1) := by decide +kernel
theorem dX6_lawn_45 : decode cX6_lawn 45 = .ok (.getfield 7, 3) := by decide +kernel
theorem dX6_lawn_48 : decode cX6_lawn 48 = .ok (.iconst 1, 1) := by decide +kernel
theorem dX6_lawn_49 : decode cX6_lawn 49 = .ok (.iload_n 1, 1) := by decide +kernel
theorem dX6_lawn_50 : decode cX6_lawn 50 = .ok (.iadd, 1) := by decide +kernel
theorem dX6_lawn_51 : decode cX6_lawn 51 = .ok (.iaload, 1) := by decide +kernel
theorem dX6_lawn_52 : decode cX6_lawn 52 = .ok (.ireturn, 1) := by decide +kernel
theorem dX6_lawn_53 : decode cX6_lawn 53 = .ok (.aload_n 0, 1) := by decide +kernel
theorem dX6_lawn_54 : decode cX6_lawn 54 = .ok (.getfield 7, 3) := by decide +kernel
theorem dX6_lawn_57 : decode cX6_lawn 57 = .ok (.bipush 10, 2) := by decide +kernel
theorem dX6_lawn_59 : decode cX6_lawn 59 = .ok (.iaload, 1) := by decide +kernel
theorem dX6_lawn_60 : decode cX6_lawn 60 = .ok (.iload_n 1, 1) := by decide +kernel
theorem dX6_lawn_61 : decode cX6_lawn 61 = .ok (.ishr, 1) := by decide +kernel
theorem dX6_lawn_62 : decode cX6_lawn 62 = .ok (.iconst 1, 1) := by decide +kernel
theorem dX6_lawn_63 : decode cX6_lawn 63 = .ok (.iand, 1) := by decide +kernel
theorem dX6_lawn_64 : decode cX6_lawn 64 = .ok (.ireturn, 1) := by decide +kernel
theorem dX6_lawn_65 : decode cX6_lawn 65 = .ok (.aload_n 0, 1) := by decide +kernel
theorem dX6_lawn_66 : decode cX6_lawn 66 = .ok (.iconst 0, 1) := by decide +kernel
theorem dX6_lawn_67 : decode cX6_lawn 67 = .ok (.iload_n 1, 1) := by decide +kernel
theorem dX6_lawn_68 : decode cX6_lawn 68 = .ok (.invokevirtual 177, 3) := by decide +kernel
theorem dX6_lawn_71 : decode cX6_lawn 71 = .ok (.ireturn, 1) := by decide +kernel
theorem dX6_lawn_72 : decode cX6_lawn 72 = .ok (.aload_n 0, 1) := by decide +kernel
theorem dX6_lawn_73 : decode cX6_lawn 73 = .ok (.iconst 0, 1) := by decide +kernel
theorem dX6_lawn_74 : decode cX6_lawn 74 = .ok (.iload_n 1, 1) := by decide +kernel
theorem dX6_lawn_75 : decode cX6_lawn 75 = .ok (.invokevirtual 180, 3) := by decide +kernel
theorem dX6_lawn_78 : decode cX6_lawn 78 = .ok (.ireturn, 1) := by decide +kernel
theorem dX6_lawn_79 : decode cX6_lawn 79 = .ok (.ldc 55, 2) := by decide +kernel
theorem dX6_lawn_81 : decode cX6_lawn 81 = .ok (.ireturn, 1) := by decide +kernel
set_option maxRecDepth 20000 in
theorem ggX6_isSpan_X6_in : GoodIn wsX6_isSpan wsX6_in := goodIn_r _ [5] (by decide +kernel) (by decide +kernel)
set_option maxRecDepth 20000 in
theorem gX6_isSpan_X6_in : GoodIn wsX6_isSpan (va_wsS RX6 45 yX6_in wsX6_in) := goodIn_app (goodIn_of _ (by decide +kernel)) ggX6_isSpan_X6_in
theorem dX6_isSpan_0 : decode cX6_isSpan 0 = .ok (.iload_n 0, 1) := by decide +kernel
theorem dX6_isSpan_1 : decode cX6_isSpan 1 = .ok (.i2l, 1) := by decide +kernel
theorem dX6_isSpan_2 : decode cX6_isSpan 2 = .ok (.iload_n 1, 1) := by decide +kernel
theorem dX6_isSpan_3 : decode cX6_isSpan 3 = .ok (.i2l, 1) := by decide +kernel
theorem dX6_isSpan_4 : decode cX6_isSpan 4 = .ok (.ldc2_w 183, 3) := by decide +kernel
theorem dX6_isSpan_7 : decode cX6_isSpan 7 = .ok (.invokestatic 45, 3) := by decide +kernel
theorem dX6_isSpan_10 : decode cX6_isSpan 10 = .ok (.ireturn, 1) := by decide +kernel
set_option maxRecDepth 20000 in
theorem ggX6_tries_X6_copyAll : GoodIn wsX6_tries wsX6_copyAll := goodIn_r _ [5, 6, 7, 8, 9, 10, 11, 12, 13, 14, 15, 16, 17, 18, 19, 20, 21, 22, 23, 24, 25] (by decide +kernel) (by decide +kernel)
set_option maxRecDepth 20000 in
theorem gX6_tries_X6_copyAll : GoodIn wsX6_tries (wsV RX6 113 RX6 yX6_copyAll wsX6_copyAll) := goodIn_app (goodIn_of _ (by decide +kernel)) ggX6_tries_X6_copyAll
theorem dX6_tries_0 : decode cX6_tries 0 = .ok (.aload_n 0, 1) := by decide +kernel
theorem dX6_tries_1 : decode cX6_tries 1 = .ok (.iconst 0, 1) := by decide +kernel
theorem dX6_tries_2 : decode cX6_tries 2 = .ok (.bipush 114, 2) := by decide +kernel
theorem dX6_tries_4 : decode cX6_tries 4 = .ok (.invokevirtual 113, 3) := by decide +kernel
theorem dX6_tries_7 : decode cX6_tries 7 = .ok (.return_, 1) := by decide +kernel
set_option maxRecDepth 20000 in
theorem ggX6_triesFor_X6_tries : GoodIn wsX6_triesFor wsX6_tries := goodIn_r _ [5, 6, 7, 8, 4, 9, 10, 43, 44, 45, 46, 47, 48, 49, 50, 51, 52, 53, 54, 55, 56, 57, 58, 59, 60, 61] (by decide +kernel) (by decide +kernel)
set_option maxRecDepth 20000 in
theorem gX6_triesFor_X6_tries : GoodIn wsX6_triesFor (wsV RX6 185 RX6 yX6_tries wsX6_tries) := goodIn_app (goodIn_of _ (by decide +kernel)) ggX6_triesFor_X6_tries
set_option maxRecDepth 20000 in
theorem ggX6_triesFor_X6_passes : GoodIn wsX6_triesFor wsX6_passes := goodIn_r _ [14, 15, 16, 10, 17, 18, 19, 4, 20, 21, 22, 23, 24, 25, 26, 27, 28, 29, 30, 31, 32, 33, 34, 35, 36, 37, 38, 39, 40, 41, 42, 43, 44, 45, 46, 47, 48, 49, 50, 51, 52, 53, 54, 55, 56, 57, 58, 59, 60, 61] (by decide +kernel) (by decide +kernel)
set_option maxRecDepth 20000 in
theorem gX6_triesFor_X6_passes : GoodIn wsX6_triesFor (wsV RX6 155 RX6 yX6_passes wsX6_passes) := goodIn_app (goodIn_of _ (by decide +kernel)) ggX6_triesFor_X6_passes
theorem dX6_triesFor_0 : decode cX6_triesFor 0 = .ok (.aload_n 0, 1) := by decide +kernel
theorem dX6_triesFor_1 : decode cX6_triesFor 1 = .ok (.invokevirtual 185, 3) := by decide +kernel
theorem dX6_triesFor_4 : decode cX6_triesFor 4 = .ok (.iconst 0, 1) := by decide +kernel
theorem dX6_triesFor_5 : decode cX6_triesFor 5 = .ok (.istore_n 2, 1) := by decide +kernel
theorem dX6_triesFor_6 : decode cX6_triesFor 6 = .ok (.iload_n 2, 1) := by decide +kernel
theorem dX6_triesFor_7 : decode cX6_triesFor 7 = .ok (.iload_n 1, 1) := by decide +kernel
theorem dX6_triesFor_8 : decode cX6_triesFor 8 = .ok (.if_icmp .ge 15, 3) := by decide +kernel
theorem dX6_triesFor_11 : decode cX6_triesFor 11 = .ok (.aload_n 0, 1) := by decide +kernel
theorem dX6_triesFor_12 : decode cX6_triesFor 12 = .ok (.bipush 114, 2) := by decide +kernel
theorem dX6_triesFor_14 : decode cX6_triesFor 14 = .ok (.invokevirtual 155, 3) := by decide +kernel
theorem dX6_triesFor_17 : decode cX6_triesFor 17 = .ok (.iinc 2 1, 3) := by decide +kernel
theorem dX6_triesFor_20 : decode cX6_triesFor 20 = .ok (.goto (-14), 3) := by decide +kernel
theorem dX6_triesFor_23 : decode cX6_triesFor 23 = .ok (.return_, 1) := by decide +kernel
set_option maxRecDepth 20000 in
theorem ggX6_ahead_X6_isSwan : GoodIn wsX6_ahead wsX6_isSwan := goodIn_r _ [7, 2, 8, 9, 6, 10, 56, 57, 58, 59, 60, 61, 62, 63, 64, 65, 66, 67, 68, 69, 70, 71, 72, 73, 74] (by decide +kernel) (by decide +kernel)
set_option maxRecDepth 20000 in
theorem gX6_ahead_X6_isSwan : GoodIn wsX6_ahead (wsV RX6 174 RX6 yX6_isSwan wsX6_isSwan) := goodIn_app (goodIn_of _ (by decide +kernel)) ggX6_ahead_X6_isSwan
set_option maxRecDepth 20000 in
theorem ggX6_ahead_X6_isSpan : GoodIn wsX6_ahead wsX6_isSpan := goodIn_r _ [13, 14, 8, 9, 6, 10] (by decide +kernel) (by decide +kernel)
set_option maxRecDepth 20000 in
theorem gX6_ahead_X6_isSpan : GoodIn wsX6_ahead (va_wsS RX6 188 yX6_isSpan wsX6_isSpan) := goodIn_app (goodIn_of _ (by decide +kernel)) ggX6_ahead_X6_isSpan
set_option maxRecDepth 20000 in
theorem ggX6_ahead_X6_triesFor : GoodIn wsX6_ahead wsX6_triesFor := goodIn_r _ [18, 19, 20, 21, 6, 22, 23, 24, 25, 26, 2, 27, 28, 29, 30, 31, 32, 33, 34, 35, 36, 37, 38, 39, 40, 41, 42, 43, 44, 45, 46, 47, 48, 8, 9, 10, 49, 50, 51, 52, 53, 54, 55, 56, 57, 58, 59, 60, 61, 62, 63, 64, 65, 66, 67, 68, 69, 70, 71, 72, 73, 74] (by decide +kernel) (by decide +kernel)
set_option maxRecDepth 20000 in
theorem gX6_ahead_X6_triesFor : GoodIn wsX6_ahead (wsV RX6 191 RX6 yX6_triesFor wsX6_triesFor) := goodIn_app (goodIn_of _ (by decide +kernel)) ggX6_ahead_X6_triesFor
theorem dX6_ahead_0 : decode cX6_ahead 0 = .ok (.aload_n 0, 1) := by decide +kernel
theorem dX6_ahead_1 : decode cX6_ahead 1 = .ok (.iload_n 1, 1) := by decide +kernel
theorem dX6_ahead_2 : decode cX6_ahead 2 = .ok (.invokevirtual 174, 3) := by decide +kernel
theorem dX6_ahead_5 : decode cX6_ahead 5 = .ok (.ifCond .eq 11, 3) := by decide +kernel
theorem dX6_ahead_8 : decode cX6_ahead 8 = .ok (.iload_n 2, 1) := by decide +kernel
theorem dX6_ahead_9 : decode cX6_ahead 9 = .ok (.iconst 0, 1) := by decide +kernel
theorem dX6_ahead_10 : decode cX6_ahead 10 = .ok (.invokestatic 188, 3) := by decide +kernel
theorem dX6_ahead_13 : decode cX6_ahead 13 = .ok (.ifCond .ne 6, 3) := by decide +kernel
theorem dX6_ahead_16 : decode cX6_ahead 16 = .ok (.ldc 55, 2) := by decide +kernel
theorem dX6_ahead_18 : decode cX6_ahead 18 = .ok (.ireturn, 1) := by decide +kernel
theorem dX6_ahead_19 : decode cX6_ahead 19 = .ok (.aload_n 0, 1) := by decide +kernel
theorem dX6_ahead_20 : decode cX6_ahead 20 = .ok (.iload_n 2, 1) := by decide +kernel
theorem dX6_ahead_21 : decode cX6_ahead 21 = .ok (.invokevirtual 191, 3) := by decide +kernel
theorem dX6_ahead_24 : decode cX6_ahead 24 = .ok (.aload_n 0, 1) := by decide +kernel
theorem dX6_ahead_25 : decode cX6_ahead 25 = .ok (.getfield 7, 3) := by decide +kernel
theorem dX6_ahead_28 : decode cX6_ahead 28 = .ok (.bipush 125, 2) := by decide +kernel
theorem dX6_ahead_30 : decode cX6_ahead 30 = .ok (.iload_n 1, 1) := by decide +kernel
theorem dX6_ahead_31 : decode cX6_ahead 31 = .ok (.iadd, 1) := by decide +kernel
theorem dX6_ahead_32 : decode cX6_ahead 32 = .ok (.iaload, 1) := by decide +kernel
theorem dX6_ahead_33 : decode cX6_ahead 33 = .ok (.ireturn, 1) := by decide +kernel
set_option maxRecDepth 20000 in
theorem ggX6_owns_X6_isLawn : GoodIn wsX6_owns wsX6_isLawn := goodIn_r _ [6, 7, 8, 9, 5, 10, 60, 61, 62, 63, 64, 65, 66, 67, 68, 69, 70, 71, 72, 73, 74, 75, 76, 77, 78] (by decide +kernel) (by decide +kernel)
set_option maxRecDepth 20000 in
theorem gX6_owns_X6_isLawn : GoodIn wsX6_owns (wsV RX6 165 RX6 yX6_isLawn wsX6_isLawn) := goodIn_app (goodIn_of _ (by decide +kernel)) ggX6_owns_X6_isLawn
set_option maxRecDepth 20000 in
theorem ggX6_owns_X6_isSpan : GoodIn wsX6_owns wsX6_isSpan := goodIn_r _ [13, 14, 8, 9, 5, 10] (by decide +kernel) (by decide +kernel)
set_option maxRecDepth 20000 in
theorem gX6_owns_X6_isSpan : GoodIn wsX6_owns (va_wsS RX6 188 yX6_isSpan wsX6_isSpan) := goodIn_app (goodIn_of _ (by decide +kernel)) ggX6_owns_X6_isSpan
set_option maxRecDepth 20000 in
theorem ggX6_owns_X6_triesFor : GoodIn wsX6_owns wsX6_triesFor := goodIn_r _ [18, 19, 20, 21, 5, 22, 23, 24, 25, 26, 7, 27, 28, 29, 30, 31, 32, 33, 34, 35, 36, 37, 38, 39, 40, 41, 42, 43, 44, 45, 46, 47, 48, 8, 9, 10, 49, 50, 51, 52, 53, 54, 55, 60, 61, 62, 63, 64, 65, 66, 67, 68, 69, 70, 71, 72, 73, 74, 75, 76, 77, 78] (by decide +kernel) (by decide +kernel)
set_option maxRecDepth 20000 in
theorem gX6_owns_X6_triesFor : GoodIn wsX6_owns (wsV RX6 191 RX6 yX6_triesFor wsX6_triesFor) := goodIn_app (goodIn_of _ (by decide +kernel)) ggX6_owns_X6_triesFor
set_option maxRecDepth 20000 in
theorem ggX6_owns_X6_plotsOf : GoodIn wsX6_owns wsX6_plotsOf := goodIn_r _ [59, 7, 60, 61, 62, 63, 64, 65, 66, 67, 68, 69, 70, 71, 72, 73, 74, 75, 76, 77, 78] (by decide +kernel) (by decide +kernel)
set_option maxRecDepth 20000 in
theorem gX6_owns_X6_plotsOf : GoodIn wsX6_owns (wsV RX6 180 RX6 yX6_plotsOf wsX6_plotsOf) := goodIn_app (goodIn_of _ (by decide +kernel)) ggX6_owns_X6_plotsOf
theorem dX6_owns_0 : decode cX6_owns 0 = .ok (.aload_n 0, 1) := by decide +kernel
theorem dX6_owns_1 : decode cX6_owns 1 = .ok (.iload_n 1, 1) := by decide +kernel
theorem dX6_owns_2 : decode cX6_owns 2 = .ok (.invokevirtual 165, 3) := by decide +kernel
theorem dX6_owns_5 : decode cX6_owns 5 = .ok (.ifCond .eq 11, 3) := by decide +kernel
theorem dX6_owns_8 : decode cX6_owns 8 = .ok (.iload_n 2, 1) := by decide +kernel
theorem dX6_owns_9 : decode cX6_owns 9 = .ok (.iconst 0, 1) := by decide +kernel
theorem dX6_owns_10 : decode cX6_owns 10 = .ok (.invokestatic 188, 3) := by decide +kernel
theorem dX6_owns_13 : decode cX6_owns 13 = .ok (.ifCond .ne 6, 3) := by decide +kernel
theorem dX6_owns_16 : decode cX6_owns 16 = .ok (.ldc 55, 2) := by decide +kernel
theorem dX6_owns_18 : decode cX6_owns 18 = .ok (.ireturn, 1) := by decide +kernel
theorem dX6_owns_19 : decode cX6_owns 19 = .ok (.aload_n 0, 1) := by decide +kernel
theorem dX6_owns_20 : decode cX6_owns 20 = .ok (.iload_n 2, 1) := by decide +kernel
theorem dX6_owns_21 : decode cX6_owns 21 = .ok (.invokevirtual 191, 3) := by decide +kernel
theorem dX6_owns_24 : decode cX6_owns 24 = .ok (.aload_n 0, 1) := by decide +kernel
theorem dX6_owns_25 : decode cX6_owns 25 = .ok (.bipush 114, 2) := by decide +kernel
theorem dX6_owns_27 : decode cX6_owns 27 = .ok (.iload_n 1, 1) := by decide +kernel
theorem dX6_owns_28 : decode cX6_owns 28 = .ok (.invokevirtual 180, 3) := by decide +kernel
theorem dX6_owns_31 : decode cX6_owns 31 = .ok (.ireturn, 1) := by decide +kernel
set_option maxRecDepth 20000 in
theorem ggX6_nobody_X6_isRiver : GoodIn wsX6_nobody wsX6_isRiver := goodIn_r _ [8, 3, 61, 62, 63, 64, 65, 66, 67, 68, 69, 70, 71, 72, 73, 74, 75, 76, 77, 78, 79] (by decide +kernel) (by decide +kernel)
set_option maxRecDepth 20000 in
theorem gX6_nobody_X6_isRiver : GoodIn wsX6_nobody (wsV RX6 147 RX6 yX6_isRiver wsX6_isRiver) := goodIn_app (goodIn_of _ (by decide +kernel)) ggX6_nobody_X6_isRiver
set_option maxRecDepth 20000 in
theorem ggX6_nobody_X6_isSpan : GoodIn wsX6_nobody wsX6_isSpan := goodIn_r _ [11, 12, 13, 14, 7, 15] (by decide +kernel) (by decide +kernel)
set_option maxRecDepth 20000 in
theorem gX6_nobody_X6_isSpan : GoodIn wsX6_nobody (va_wsS RX6 188 yX6_isSpan wsX6_isSpan) := goodIn_app (goodIn_of _ (by decide +kernel)) ggX6_nobody_X6_isSpan
set_option maxRecDepth 20000 in
theorem ggX6_nobody_X6_triesFor : GoodIn wsX6_nobody wsX6_triesFor := goodIn_r _ [19, 20, 21, 22, 7, 23, 24, 25, 26, 27, 3, 28, 29, 30, 31, 32, 33, 34, 35, 36, 37, 38, 39, 40, 41, 42, 43, 44, 45, 46, 47, 48, 49, 13, 14, 15, 50, 51, 52, 53, 54, 55, 56, 61, 62, 63, 64, 65, 66, 67, 68, 69, 70, 71, 72, 73, 74, 75, 76, 77, 78, 79] (by decide +kernel) (by decide +kernel)
set_option maxRecDepth 20000 in
theorem gX6_nobody_X6_triesFor : GoodIn wsX6_nobody (wsV RX6 191 RX6 yX6_triesFor wsX6_triesFor) := goodIn_app (goodIn_of _ (by decide +kernel)) ggX6_nobody_X6_triesFor
set_option maxRecDepth 20000 in
theorem ggX6_nobody_X6_ownersIn : GoodIn wsX6_nobody wsX6_ownersIn := goodIn_r _ [60, 3, 61, 62, 63, 64, 65, 66, 67, 68, 69, 70, 71, 72, 73, 74, 75, 76, 77, 78, 79] (by decide +kernel) (by decide +kernel)
set_option maxRecDepth 20000 in
theorem gX6_nobody_X6_ownersIn : GoodIn wsX6_nobody (wsV RX6 159 RX6 yX6_ownersIn wsX6_ownersIn) := goodIn_app (goodIn_of _ (by decide +kernel)) ggX6_nobody_X6_ownersIn
theorem dX6_nobody_0 : decode cX6_nobody 0 = .ok (.aload_n 0, 1) := by decide +kernel
theorem dX6_nobody_1 : decode cX6_nobody 1 = .ok (.invokevirtual 147, 3) := by decide +kernel
theorem dX6_nobody_4 : decode cX6_nobody 4 = .ok (.ifCond .ne 6, 3) := by decide +kernel
theorem dX6_nobody_7 : decode cX6_nobody 7 = .ok (.ldc 146, 2) := by decide +kernel
theorem dX6_nobody_9 : decode cX6_nobody 9 = .ok (.ireturn, 1) := by decide +kernel
theorem dX6_nobody_10 : decode cX6_nobody 10 = .ok (.iload_n 1, 1) := by decide +kernel
theorem dX6_nobody_11 : decode cX6_nobody 11 = .ok (.iconst 0, 1) := by decide +kernel
theorem dX6_nobody_12 : decode cX6_nobody 12 = .ok (.invokestatic 188, 3) := by decide +kernel
theorem dX6_nobody_15 : decode cX6_nobody 15 = .ok (.ifCond .ne 6, 3) := by decide +kernel
theorem dX6_nobody_18 : decode cX6_nobody 18 = .ok (.ldc 55, 2) := by decide +kernel
theorem dX6_nobody_20 : decode cX6_nobody 20 = .ok (.ireturn, 1) := by decide +kernel
theorem dX6_nobody_21 : decode cX6_nobody 21 = .ok (.aload_n 0, 1) := by decide +kernel
theorem dX6_nobody_22 : decode cX6_nobody 22 = .ok (.iload_n 1, 1) := by decide +kernel
theorem dX6_nobody_23 : decode cX6_nobody 23 = .ok (.invokevirtual 191, 3) := by decide +kernel
theorem dX6_nobody_26 : decode cX6_nobody 26 = .ok (.iconst 1, 1) := by decide +kernel
theorem dX6_nobody_27 : decode cX6_nobody 27 = .ok (.aload_n 0, 1) := by decide +kernel
theorem dX6_nobody_28 : decode cX6_nobody 28 = .ok (.getfield 7, 3) := by decide +kernel
theorem dX6_nobody_31 : decode cX6_nobody 31 = .ok (.bipush 24, 2) := by decide +kernel
theorem dX6_nobody_33 : decode cX6_nobody 33 = .ok (.iaload, 1) := by decide +kernel
theorem dX6_nobody_34 : decode cX6_nobody 34 = .ok (.ishl, 1) := by decide +kernel
theorem dX6_nobody_35 : decode cX6_nobody 35 = .ok (.iconst 1, 1) := by decide +kernel
theorem dX6_nobody_36 : decode cX6_nobody 36 = .ok (.isub, 1) := by decide +kernel
theorem dX6_nobody_37 : decode cX6_nobody 37 = .ok (.aload_n 0, 1) := by decide +kernel
theorem dX6_nobody_38 : decode cX6_nobody 38 = .ok (.bipush 114, 2) := by decide +kernel
theorem dX6_nobody_40 : decode cX6_nobody 40 = .ok (.invokevirtual 159, 3) := by decide +kernel
theorem dX6_nobody_43 : decode cX6_nobody 43 = .ok (.iconst (-1), 1) := by decide +kernel
theorem dX6_nobody_44 : decode cX6_nobody 44 = .ok (.ixor, 1) := by decide +kernel
theorem dX6_nobody_45 : decode cX6_nobody 45 = .ok (.iand, 1) := by decide +kernel
theorem dX6_nobody_46 : decode cX6_nobody 46 = .ok (.ireturn, 1) := by decide +kernel
set_option maxRecDepth 20000 in
theorem ggX6_leaves_X6_passes : GoodIn wsX6_leaves wsX6_passes := goodIn_r _ [7, 8, 9, 1, 10, 11, 12, 6, 13, 14, 15, 16, 17, 18, 19, 20, 21, 22, 23, 24, 25, 26, 27, 28, 29, 30, 31, 32, 33, 34, 35, 36, 37, 38, 39, 40, 41, 42, 43, 44, 45, 46, 47, 48, 49, 50, 51, 52, 53, 54] (by decide +kernel) (by decide +kernel)
set_option maxRecDepth 20000 in
theorem gX6_leaves_X6_passes : GoodIn wsX6_leaves (wsV RX6 155 RX6 yX6_passes wsX6_passes) := goodIn_app (goodIn_of _ (by decide +kernel)) ggX6_leaves_X6_passes
theorem dX6_leaves_0 : decode cX6_leaves 0 = .ok (.iconst 1, 1) := by decide +kernel
theorem dX6_leaves_1 : decode cX6_leaves 1 = .ok (.istore_n 2, 1) := by decide +kernel
theorem dX6_leaves_2 : decode cX6_leaves 2 = .ok (.iload_n 2, 1) := by decide +kernel
theorem dX6_leaves_3 : decode cX6_leaves 3 = .ok (.bipush 60, 2) := by decide +kernel
theorem dX6_leaves_5 : decode cX6_leaves 5 = .ok (.if_icmp .gt 38, 3) := by decide +kernel
theorem dX6_leaves_8 : decode cX6_leaves 8 = .ok (.aload_n 0, 1) := by decide +kernel
theorem dX6_leaves_9 : decode cX6_leaves 9 = .ok (.bipush 114, 2) := by decide +kernel
theorem dX6_leaves_11 : decode cX6_leaves 11 = .ok (.invokevirtual 155, 3) := by decide +kernel
theorem dX6_leaves_14 : decode cX6_leaves 14 = .ok (.aload_n 0, 1) := by decide +kernel
theorem dX6_leaves_15 : decode cX6_leaves 15 = .ok (.getfield 7, 3) := by decide +kernel
theorem dX6_leaves_18 : decode cX6_leaves 18 = .ok (.bipush 125, 2) := by decide +kernel
theorem dX6_leaves_20 : decode cX6_leaves 20 = .ok (.iload_n 1, 1) := by decide +kernel
theorem dX6_leaves_21 : decode cX6_leaves 21 = .ok (.iadd, 1) := by decide +kernel
theorem dX6_leaves_22 : decode cX6_leaves 22 = .ok (.iaload, 1) := by decide +kernel
theorem dX6_leaves_23 : decode cX6_leaves 23 = .ok (.aload_n 0, 1) := by decide +kernel
theorem dX6_leaves_24 : decode cX6_leaves 24 = .ok (.getfield 7, 3) := by decide +kernel
theorem dX6_leaves_27 : decode cX6_leaves 27 = .ok (.bipush 11, 2) := by decide +kernel
theorem dX6_leaves_29 : decode cX6_leaves 29 = .ok (.iload_n 1, 1) := by decide +kernel
theorem dX6_leaves_30 : decode cX6_leaves 30 = .ok (.iadd, 1) := by decide +kernel
theorem dX6_leaves_31 : decode cX6_leaves 31 = .ok (.iaload, 1) := by decide +kernel
theorem dX6_leaves_32 : decode cX6_leaves 32 = .ok (.if_icmp .eq 5, 3) := by decide +kernel
theorem dX6_leaves_35 : decode cX6_leaves 35 = .ok (.iload_n 2, 1) := by decide +kernel
theorem dX6_leaves_36 : decode cX6_leaves 36 = .ok (.ireturn, 1) := by decide +kernel
theorem dX6_leaves_37 : decode cX6_leaves 37 = .ok (.iinc 2 1, 3) := by decide +kernel
theorem dX6_leaves_40 : decode cX6_leaves 40 = .ok (.goto (-38), 3) := by decide +kernel
theorem dX6_leaves_43 : decode cX6_leaves 43 = .ok (.ldc 194, 2) := by decide +kernel
theorem dX6_leaves_45 : decode cX6_leaves 45 = .ok (.ireturn, 1) := by decide +kernel
set_option maxRecDepth 20000 in
theorem ggX6_moves_X6_isSwan : GoodIn wsX6_moves wsX6_isSwan := goodIn_r _ [6, 7, 8, 9, 5, 10, 53, 54, 55, 56, 57, 58, 59, 60, 61, 62, 63, 64, 65, 66, 67, 68, 69, 70, 71] (by decide +kernel) (by decide +kernel)
set_option maxRecDepth 20000 in
theorem gX6_moves_X6_isSwan : GoodIn wsX6_moves (wsV RX6 174 RX6 yX6_isSwan wsX6_isSwan) := goodIn_app (goodIn_of _ (by decide +kernel)) ggX6_moves_X6_isSwan
set_option maxRecDepth 20000 in
theorem ggX6_moves_X6_tries : GoodIn wsX6_moves wsX6_tries := goodIn_r _ [14, 15, 16, 17, 5, 18, 7, 53, 54, 55, 56, 57, 58, 59, 60, 61, 62, 63, 64, 65, 66, 67, 68, 69, 70, 71] (by decide +kernel) (by decide +kernel)
set_option maxRecDepth 20000 in
theorem gX6_moves_X6_tries : GoodIn wsX6_moves (wsV RX6 185 RX6 yX6_tries wsX6_tries) := goodIn_app (goodIn_of _ (by decide +kernel)) ggX6_moves_X6_tries
set_option maxRecDepth 20000 in
theorem ggX6_moves_X6_leaves : GoodIn wsX6_moves wsX6_leaves := goodIn_r _ [22, 7, 23, 24, 25, 26, 5, 27, 28, 29, 30, 31, 32, 33, 34, 35, 36, 37, 38, 39, 40, 41, 42, 43, 44, 45, 8, 9, 10, 46, 47, 48, 49, 50, 51, 52, 53, 54, 55, 56, 57, 58, 59, 60, 61, 62, 63, 64, 65, 66, 67, 68, 69, 70, 71] (by decide +kernel) (by decide +kernel)
set_option maxRecDepth 20000 in
theorem gX6_moves_X6_leaves : GoodIn wsX6_moves (wsV RX6 195 RX6 yX6_leaves wsX6_leaves) := goodIn_app (goodIn_of _ (by decide +kernel)) ggX6_moves_X6_leaves
theorem dX6_moves_0 : decode cX6_moves 0 = .ok (.aload_n 0, 1) := by decide +kernel
theorem dX6_moves_1 : decode cX6_moves 1 = .ok (.iload_n 1, 1) := by decide +kernel
theorem dX6_moves_2 : decode cX6_moves 2 = .ok (.invokevirtual 174, 3) := by decide +kernel
theorem dX6_moves_5 : decode cX6_moves 5 = .ok (.ifCond .ne 6, 3) := by decide +kernel
theorem dX6_moves_8 : decode cX6_moves 8 = .ok (.ldc 55, 2) := by decide +kernel
theorem dX6_moves_10 : decode cX6_moves 10 = .ok (.ireturn, 1) := by decide +kernel
theorem dX6_moves_11 : decode cX6_moves 11 = .ok (.aload_n 0, 1) := by decide +kernel
theorem dX6_moves_12 : decode cX6_moves 12 = .ok (.invokevirtual 185, 3) := by decide +kernel
theorem dX6_moves_15 : decode cX6_moves 15 = .ok (.aload_n 0, 1) := by decide +kernel
theorem dX6_moves_16 : decode cX6_moves 16 = .ok (.iload_n 1, 1) := by decide +kernel
theorem dX6_moves_17 : decode cX6_moves 17 = .ok (.invokevirtual 195, 3) := by decide +kernel
theorem dX6_moves_20 : decode cX6_moves 20 = .ok (.ireturn, 1) := by decide +kernel
set_option maxRecDepth 20000 in
theorem ggX6_evening_X6_isRiver : GoodIn wsX6_evening wsX6_isRiver := goodIn_r _ [7, 8, 56, 57, 58, 59, 60, 61, 62, 63, 64, 65, 66, 67, 68, 69, 70, 71, 72, 73, 74] (by decide +kernel) (by decide +kernel)
set_option maxRecDepth 20000 in
theorem gX6_evening_X6_isRiver : GoodIn wsX6_evening (wsV RX6 147 RX6 yX6_isRiver wsX6_isRiver) := goodIn_app (goodIn_of _ (by decide +kernel)) ggX6_evening_X6_isRiver
set_option maxRecDepth 20000 in
theorem ggX6_evening_X6_tries : GoodIn wsX6_evening wsX6_tries := goodIn_r _ [12, 13, 14, 15, 6, 16, 8, 56, 57, 58, 59, 60, 61, 62, 63, 64, 65, 66, 67, 68, 69, 70, 71, 72, 73, 74] (by decide +kernel) (by decide +kernel)
set_option maxRecDepth 20000 in
theorem gX6_evening_X6_tries : GoodIn wsX6_evening (wsV RX6 185 RX6 yX6_tries wsX6_tries) := goodIn_app (goodIn_of _ (by decide +kernel)) ggX6_evening_X6_tries
set_option maxRecDepth 20000 in
theorem ggX6_evening_X6_ownersIn : GoodIn wsX6_evening wsX6_ownersIn := goodIn_r _ [20, 8, 56, 57, 58, 59, 60, 61, 62, 63, 64, 65, 66, 67, 68, 69, 70, 71, 72, 73, 74] (by decide +kernel) (by decide +kernel)
set_option maxRecDepth 20000 in
theorem gX6_evening_X6_ownersIn : GoodIn wsX6_evening (wsV RX6 159 RX6 yX6_ownersIn wsX6_ownersIn) := goodIn_app (goodIn_of _ (by decide +kernel)) ggX6_evening_X6_ownersIn
set_option maxRecDepth 20000 in
theorem ggX6_evening_X6_ones : GoodIn wsX6_evening wsX6_ones := goodIn_r _ [23] (by decide +kernel) (by decide +kernel)
set_option maxRecDepth 20000 in
theorem gX6_evening_X6_ones : GoodIn wsX6_evening (va_wsS RX6 162 yX6_ones wsX6_ones) := goodIn_app (goodIn_of _ (by decide +kernel)) ggX6_evening_X6_ones
set_option maxRecDepth 20000 in
theorem ggX6_evening_X6_passes : GoodIn wsX6_evening wsX6_passes := goodIn_r _ [27, 28, 29, 8, 30, 31, 32, 6, 33, 34, 35, 36, 37, 38, 39, 40, 41, 42, 43, 44, 45, 46, 47, 48, 49, 50, 51, 52, 53, 54, 55, 56, 57, 58, 59, 60, 61, 62, 63, 64, 65, 66, 67, 68, 69, 70, 71, 72, 73, 74] (by decide +kernel) (by decide +kernel)
set_option maxRecDepth 20000 in
theorem gX6_evening_X6_passes : GoodIn wsX6_evening (wsV RX6 155 RX6 yX6_passes wsX6_passes) := goodIn_app (goodIn_of _ (by decide +kernel)) ggX6_evening_X6_passes
theorem dX6_evening_0 : decode cX6_evening 0 = .ok (.aload_n 0, 1) := by decide +kernel
theorem dX6_evening_1 : decode cX6_evening 1 = .ok (.invokevirtual 147, 3) := by decide +kernel
theorem dX6_evening_4 : decode cX6_evening 4 = .ok (.ifCond .ne 6, 3) := by decide +kernel
theorem dX6_evening_7 : decode cX6_evening 7 = .ok (.ldc 146, 2) := by decide +kernel
theorem dX6_evening_9 : decode cX6_evening 9 = .ok (.ireturn, 1) := by decide +kernel
theorem dX6_evening_10 : decode cX6_evening 10 = .ok (.aload_n 0, 1) := by decide +kernel
theorem dX6_evening_11 : decode cX6_evening 11 = .ok (.invokevirtual 185, 3) := by decide +kernel
theorem dX6_evening_14 : decode cX6_evening 14 = .ok (.iconst 0, 1) := by decide +kernel
theorem dX6_evening_15 : decode cX6_evening 15 = .ok (.istore_n 1, 1) := by decide +kernel
theorem dX6_evening_16 : decode cX6_evening 16 = .ok (.iload_n 1, 1) := by decide +kernel
theorem dX6_evening_17 : decode cX6_evening 17 = .ok (.bipush 60, 2) := by decide +kernel
theorem dX6_evening_19 : decode cX6_evening 19 = .ok (.if_icmp .gt 30, 3) := by decide +kernel
theorem dX6_evening_22 : decode cX6_evening 22 = .ok (.aload_n 0, 1) := by decide +kernel
theorem dX6_evening_23 : decode cX6_evening 23 = .ok (.bipush 114, 2) := by decide +kernel
theorem dX6_evening_25 : decode cX6_evening 25 = .ok (.invokevirtual 159, 3) := by decide +kernel
theorem dX6_evening_28 : decode cX6_evening 28 = .ok (.invokestatic 162, 3) := by decide +kernel
theorem dX6_evening_31 : decode cX6_evening 31 = .ok (.iconst 1, 1) := by decide +kernel
theorem dX6_evening_32 : decode cX6_evening 32 = .ok (.if_icmp .ne 5, 3) := by decide +kernel
theorem dX6_evening_35 : decode cX6_evening 35 = .ok (.iload_n 1, 1) := by decide +kernel
theorem dX6_evening_36 : decode cX6_evening 36 = .ok (.ireturn, 1) := by decide +kernel
theorem dX6_evening_37 : decode cX6_evening 37 = .ok (.aload_n 0, 1) := by decide +kernel
theorem dX6_evening_38 : decode cX6_evening 38 = .ok (.bipush 114, 2) := by decide +kernel
theorem dX6_evening_40 : decode cX6_evening 40 = .ok (.invokevirtual 155, 3) := by decide +kernel
theorem dX6_evening_43 : decode cX6_evening 43 = .ok (.iinc 1 1, 3) := by decide +kernel
theorem dX6_evening_46 : decode cX6_evening 46 = .ok (.goto (-30), 3) := by decide +kernel
theorem dX6_evening_49 : decode cX6_evening 49 = .ok (.ldc 194, 2) := by decide +kernel
theorem dX6_evening_51 : decode cX6_evening 51 = .ok (.ireturn, 1) := by decide +kernel
set_option maxRecDepth 20000 in
theorem ggX6_stays_X6_isSwan : GoodIn wsX6_stays wsX6_isSwan := goodIn_r _ [7, 2, 8, 9, 6, 10, 56, 57, 58, 59, 60, 61, 62, 63, 64, 65, 66, 67, 68, 69, 70, 71, 72, 73, 74] (by decide +kernel) (by decide +kernel)
set_option maxRecDepth 20000 in
theorem gX6_stays_X6_isSwan : GoodIn wsX6_stays (wsV RX6 174 RX6 yX6_isSwan wsX6_isSwan) := goodIn_app (goodIn_of _ (by decide +kernel)) ggX6_stays_X6_isSwan
set_option maxRecDepth 20000 in
theorem ggX6_stays_X6_isLawn : GoodIn wsX6_stays wsX6_isLawn := goodIn_r _ [14, 2, 8, 9, 6, 10, 56, 57, 58, 59, 60, 61, 62, 63, 64, 65, 66, 67, 68, 69, 70, 71, 72, 73, 74] (by decide +kernel) (by decide +kernel)
set_option maxRecDepth 20000 in
theorem gX6_stays_X6_isLawn : GoodIn wsX6_stays (wsV RX6 165 RX6 yX6_isLawn wsX6_isLawn) := goodIn_app (goodIn_of _ (by decide +kernel)) ggX6_stays_X6_isLawn
set_option maxRecDepth 20000 in
theorem ggX6_stays_X6_isSpan : GoodIn wsX6_stays wsX6_isSpan := goodIn_r _ [17, 18, 8, 9, 6, 10] (by decide +kernel) (by decide +kernel)
set_option maxRecDepth 20000 in
theorem gX6_stays_X6_isSpan : GoodIn wsX6_stays (va_wsS RX6 188 yX6_isSpan wsX6_isSpan) := goodIn_app (goodIn_of _ (by decide +kernel)) ggX6_stays_X6_isSpan
set_option maxRecDepth 20000 in
theorem ggX6_stays_X6_tries : GoodIn wsX6_stays wsX6_tries := goodIn_r _ [22, 23, 24, 25, 6, 26, 2, 56, 57, 58, 59, 60, 61, 62, 63, 64, 65, 66, 67, 68, 69, 70, 71, 72, 73, 74] (by decide +kernel) (by decide +kernel)
set_option maxRecDepth 20000 in
theorem gX6_stays_X6_tries : GoodIn wsX6_stays (wsV RX6 185 RX6 yX6_tries wsX6_tries) := goodIn_app (goodIn_of _ (by decide +kernel)) ggX6_stays_X6_tries
set_option maxRecDepth 20000 in
theorem ggX6_stays_X6_passes : GoodIn wsX6_stays wsX6_passes := goodIn_r _ [30, 31, 32, 2, 33, 34, 35, 6, 36, 37, 38, 39, 40, 41, 42, 43, 44, 45, 46, 47, 48, 8, 9, 10, 49, 50, 51, 52, 53, 54, 55, 56, 57, 58, 59, 60, 61, 62, 63, 64, 65, 66, 67, 68, 69, 70, 71, 72, 73, 74] (by decide +kernel) (by decide +kernel)
set_option maxRecDepth 20000 in
theorem gX6_stays_X6_passes : GoodIn wsX6_stays (wsV RX6 155 RX6 yX6_passes wsX6_passes) := goodIn_app (goodIn_of _ (by decide +kernel)) ggX6_stays_X6_passes
theorem dX6_stays_0 : decode cX6_stays 0 = .ok (.aload_n 0, 1) := by decide +kernel
theorem dX6_stays_1 : decode cX6_stays 1 = .ok (.iload_n 1, 1) := by decide +kernel
theorem dX6_stays_2 : decode cX6_stays 2 = .ok (.invokevirtual 174, 3) := by decide +kernel
theorem dX6_stays_5 : decode cX6_stays 5 = .ok (.ifCond .eq 19, 3) := by decide +kernel
theorem dX6_stays_8 : decode cX6_stays 8 = .ok (.aload_n 0, 1) := by decide +kernel
theorem dX6_stays_9 : decode cX6_stays 9 = .ok (.iload_n 2, 1) := by decide +kernel
theorem dX6_stays_10 : decode cX6_stays 10 = .ok (.invokevirtual 165, 3) := by decide +kernel
theorem dX6_stays_13 : decode cX6_stays 13 = .ok (.ifCond .eq 11, 3) := by decide +kernel
theorem dX6_stays_16 : decode cX6_stays 16 = .ok (.iload_n 3, 1) := by decide +kernel
theorem dX6_stays_17 : decode cX6_stays 17 = .ok (.iconst 1, 1) := by decide +kernel
theorem dX6_stays_18 : decode cX6_stays 18 = .ok (.invokestatic 188, 3) := by decide +kernel
theorem dX6_stays_21 : decode cX6_stays 21 = .ok (.ifCond .ne 6, 3) := by decide +kernel
theorem dX6_stays_24 : decode cX6_stays 24 = .ok (.ldc 55, 2) := by decide +kernel
theorem dX6_stays_26 : decode cX6_stays 26 = .ok (.ireturn, 1) := by decide +kernel
theorem dX6_stays_27 : decode cX6_stays 27 = .ok (.aload_n 0, 1) := by decide +kernel
theorem dX6_stays_28 : decode cX6_stays 28 = .ok (.invokevirtual 185, 3) := by decide +kernel
theorem dX6_stays_31 : decode cX6_stays 31 = .ok (.iconst 0, 1) := by decide +kernel
theorem dX6_stays_32 : decode cX6_stays 32 = .ok (.istore 4, 2) := by decide +kernel
theorem dX6_stays_34 : decode cX6_stays 34 = .ok (.iconst 0, 1) := by decide +kernel
theorem dX6_stays_35 : decode cX6_stays 35 = .ok (.istore 5, 2) := by decide +kernel
theorem dX6_stays_37 : decode cX6_stays 37 = .ok (.iload 5, 2) := by decide +kernel
theorem dX6_stays_39 : decode cX6_stays 39 = .ok (.iload_n 3, 1) := by decide +kernel
theorem dX6_stays_40 : decode cX6_stays 40 = .ok (.if_icmp .ge 38, 3) := by decide +kernel
theorem dX6_stays_43 : decode cX6_stays 43 = .ok (.aload_n 0, 1) := by decide +kernel
theorem dX6_stays_44 : decode cX6_stays 44 = .ok (.bipush 114, 2) := by decide +kernel
theorem dX6_stays_46 : decode cX6_stays 46 = .ok (.invokevirtual 155, 3) := by decide +kernel
theorem dX6_stays_49 : decode cX6_stays 49 = .ok (.iload 4, 2) := by decide +kernel
theorem dX6_stays_51 : decode cX6_stays 51 = .ok (.aload_n 0, 1) := by decide +kernel
theorem dX6_stays_52 : decode cX6_stays 52 = .ok (.getfield 7, 3) := by decide +kernel
theorem dX6_stays_55 : decode cX6_stays 55 = .ok (.bipush 125, 2) := by decide +kernel
theorem dX6_stays_57 : decode cX6_stays 57 = .ok (.iload_n 1, 1) := by decide +kernel
theorem dX6_stays_58 : decode cX6_stays 58 = .ok (.iadd, 1) := by decide +kernel
theorem dX6_stays_59 : decode cX6_stays 59 = .ok (.iaload, 1) := by decide +kernel
theorem dX6_stays_60 : decode cX6_stays 60 = .ok (.iload_n 2, 1) := by decide +kernel
theorem dX6_stays_61 : decode cX6_stays 61 = .ok (.if_icmp .ne 7, 3) := by decide +kernel
theorem dX6_stays_64 : decode cX6_stays 64 = .ok (.iconst 1, 1) := by decide +kernel
theorem dX6_stays_65 : decode cX6_stays 65 = .ok (.goto 4, 3) := by decide +kernel
theorem dX6_stays_68 : decode cX6_stays 68 = .ok (.iconst 0, 1) := by decide +kernel
theorem dX6_stays_69 : decode cX6_stays 69 = .ok (.iadd, 1) := by decide +kernel
theorem dX6_stays_70 : decode cX6_stays 70 = .ok (.istore 4, 2) := by decide +kernel
theorem dX6_stays_72 : decode cX6_stays 72 = .ok (.iinc 5 1, 3) := by decide +kernel
theorem dX6_stays_75 : decode cX6_stays 75 = .ok (.goto (-38), 3) := by decide +kernel
theorem dX6_stays_78 : decode cX6_stays 78 = .ok (.iload 4, 2) := by decide +kernel
theorem dX6_stays_80 : decode cX6_stays 80 = .ok (.ireturn, 1) := by decide +kernel
set_option maxRecDepth 20000 in
theorem ggX6_fewest_X6_ones : GoodIn wsX6_fewest wsX6_ones := goodIn_r _ [6] (by decide +kernel) (by decide +kernel)
set_option maxRecDepth 20000 in
theorem gX6_fewest_X6_ones : GoodIn wsX6_fewest (va_wsS RX6 162 yX6_ones wsX6_ones) := goodIn_app (goodIn_of _ (by decide +kernel)) ggX6_fewest_X6_ones
set_option maxRecDepth 20000 in
theorem ggX6_fewest_X6_tries : GoodIn wsX6_fewest wsX6_tries := goodIn_r _ [10, 11, 12, 13, 5, 14, 2, 51, 52, 53, 54, 55, 56, 57, 58, 59, 60, 61, 62, 63, 64, 65, 66, 67, 68, 69] (by decide +kernel) (by decide +kernel)
set_option maxRecDepth 20000 in
theorem gX6_fewest_X6_tries : GoodIn wsX6_fewest (wsV RX6 185 RX6 yX6_tries wsX6_tries) := goodIn_app (goodIn_of _ (by decide +kernel)) ggX6_fewest_X6_tries
set_option maxRecDepth 20000 in
theorem ggX6_fewest_X6_has : GoodIn wsX6_fewest wsX6_has := goodIn_r _ [17] (by decide +kernel) (by decide +kernel)
set_option maxRecDepth 20000 in
theorem gX6_fewest_X6_has : GoodIn wsX6_fewest (va_wsS RX6 120 yX6_has wsX6_has) := goodIn_app (goodIn_of _ (by decide +kernel)) ggX6_fewest_X6_has
set_option maxRecDepth 20000 in
theorem ggX6_fewest_X6_throwsOn : GoodIn wsX6_fewest wsX6_throwsOn := goodIn_r _ [21, 2, 51, 52, 53, 54, 55, 56, 57, 58, 59, 60, 61, 62, 63, 64, 65, 66, 67, 68, 69] (by decide +kernel) (by decide +kernel)
set_option maxRecDepth 20000 in
theorem gX6_fewest_X6_throwsOn : GoodIn wsX6_fewest (wsV RX6 170 RX6 yX6_throwsOn wsX6_throwsOn) := goodIn_app (goodIn_of _ (by decide +kernel)) ggX6_fewest_X6_throwsOn
set_option maxRecDepth 20000 in
theorem ggX6_fewest_X6_passes : GoodIn wsX6_fewest wsX6_passes := goodIn_r _ [25, 26, 27, 2, 28, 29, 30, 5, 31, 32, 33, 34, 35, 36, 37, 38, 39, 40, 41, 42, 43, 44, 45, 46, 15, 16, 17, 47, 48, 49, 50, 51, 52, 53, 54, 55, 56, 57, 58, 59, 60, 61, 62, 63, 64, 65, 66, 67, 68, 69] (by decide +kernel) (by decide +kernel)
set_option maxRecDepth 20000 in
theorem gX6_fewest_X6_passes : GoodIn wsX6_fewest (wsV RX6 155 RX6 yX6_passes wsX6_passes) := goodIn_app (goodIn_of _ (by decide +kernel)) ggX6_fewest_X6_passes
theorem dX6_fewest_0 : decode cX6_fewest 0 = .ok (.ldc 194, 2) := by decide +kernel
theorem dX6_fewest_2 : decode cX6_fewest 2 = .ok (.istore 5, 2) := by decide +kernel
theorem dX6_fewest_4 : decode cX6_fewest 4 = .ok (.iconst 0, 1) := by decide +kernel
theorem dX6_fewest_5 : decode cX6_fewest 5 = .ok (.istore 6, 2) := by decide +kernel
theorem dX6_fewest_7 : decode cX6_fewest 7 = .ok (.iload 6, 2) := by decide +kernel
theorem dX6_fewest_9 : decode cX6_fewest 9 = .ok (.iconst 1, 1) := by decide +kernel
theorem dX6_fewest_10 : decode cX6_fewest 10 = .ok (.aload_n 0, 1) := by decide +kernel
theorem dX6_fewest_11 : decode cX6_fewest 11 = .ok (.getfield 7, 3) := by decide +kernel
theorem dX6_fewest_14 : decode cX6_fewest 14 = .ok (.bipush 24, 2) := by decide +kernel
theorem dX6_fewest_16 : decode cX6_fewest 16 = .ok (.iaload, 1) := by decide +kernel
theorem dX6_fewest_17 : decode cX6_fewest 17 = .ok (.iload 4, 2) := by decide +kernel
theorem dX6_fewest_19 : decode cX6_fewest 19 = .ok (.ifCond .eq 7, 3) := by decide +kernel
theorem dX6_fewest_22 : decode cX6_fewest 22 = .ok (.iconst 1, 1) := by decide +kernel
theorem dX6_fewest_23 : decode cX6_fewest 23 = .ok (.goto 4, 3) := by decide +kernel
theorem dX6_fewest_26 : decode cX6_fewest 26 = .ok (.iconst 0, 1) := by decide +kernel
theorem dX6_fewest_27 : decode cX6_fewest 27 = .ok (.isub, 1) := by decide +kernel
theorem dX6_fewest_28 : decode cX6_fewest 28 = .ok (.ishl, 1) := by decide +kernel
theorem dX6_fewest_29 : decode cX6_fewest 29 = .ok (.if_icmp .ge 165, 3) := by decide +kernel
theorem dX6_fewest_32 : decode cX6_fewest 32 = .ok (.iload 4, 2) := by decide +kernel
theorem dX6_fewest_34 : decode cX6_fewest 34 = .ok (.ifCond .eq 16, 3) := by decide +kernel
theorem dX6_fewest_37 : decode cX6_fewest 37 = .ok (.iload 6, 2) := by decide +kernel
theorem dX6_fewest_39 : decode cX6_fewest 39 = .ok (.aload_n 0, 1) := by decide +kernel
theorem dX6_fewest_40 : decode cX6_fewest 40 = .ok (.getfield 7, 3) := by decide +kernel
theorem dX6_fewest_43 : decode cX6_fewest 43 = .ok (.bipush 10, 2) := by decide +kernel
theorem dX6_fewest_45 : decode cX6_fewest 45 = .ok (.iaload, 1) := by decide +kernel
theorem dX6_fewest_46 : decode cX6_fewest 46 = .ok (.iand, 1) := by decide +kernel
theorem dX6_fewest_47 : decode cX6_fewest 47 = .ok (.ifCond .ne 141, 3) := by decide +kernel
theorem dX6_fewest_50 : decode cX6_fewest 50 = .ok (.iload 5, 2) := by decide +kernel
theorem dX6_fewest_52 : decode cX6_fewest 52 = .ok (.ldc 194, 2) := by decide +kernel
theorem dX6_fewest_54 : decode cX6_fewest 54 = .ok (.if_icmp .eq 16, 3) := by decide +kernel
theorem dX6_fewest_57 : decode cX6_fewest 57 = .ok (.iload 6, 2) := by decide +kernel
theorem dX6_fewest_59 : decode cX6_fewest 59 = .ok (.invokestatic 162, 3) := by decide +kernel
theorem dX6_fewest_62 : decode cX6_fewest 62 = .ok (.iload 5, 2) := by decide +kernel
theorem dX6_fewest_64 : decode cX6_fewest 64 = .ok (.invokestatic 162, 3) := by decide +kernel
theorem dX6_fewest_67 : decode cX6_fewest 67 = .ok (.if_icmp .ge 121, 3) := by decide +kernel
theorem dX6_fewest_70 : decode cX6_fewest 70 = .ok (.aload_n 0, 1) := by decide +kernel
theorem dX6_fewest_71 : decode cX6_fewest 71 = .ok (.invokevirtual 185, 3) := by decide +kernel
theorem dX6_fewest_74 : decode cX6_fewest 74 = .ok (.aload_n 0, 1) := by decide +kernel
theorem dX6_fewest_75 : decode cX6_fewest 75 = .ok (.getfield 7, 3) := by decide +kernel
theorem dX6_fewest_78 : decode cX6_fewest 78 = .ok (.bipush 124, 2) := by decide +kernel
theorem dX6_fewest_80 : decode cX6_fewest 80 = .ok (.dup2, 1) := by decide +kernel
theorem dX6_fewest_81 : decode cX6_fewest 81 = .ok (.iaload, 1) := by decide +kernel
theorem dX6_fewest_82 : decode cX6_fewest 82 = .ok (.iload 4, 2) := by decide +kernel
theorem dX6_fewest_84 : decode cX6_fewest 84 = .ok (.ifCond .eq 8, 3) := by decide +kernel
theorem dX6_fewest_87 : decode cX6_fewest 87 = .ok (.iload 6, 2) := by decide +kernel
theorem dX6_fewest_89 : decode cX6_fewest 89 = .ok (.goto 4, 3) := by decide +kernel
theorem dX6_fewest_92 : decode cX6_fewest 92 = .ok (.iconst 0, 1) := by decide +kernel
theorem dX6_fewest_93 : decode cX6_fewest 93 = .ok (.ior, 1) := by decide +kernel
theorem dX6_fewest_94 : decode cX6_fewest 94 = .ok (.iastore, 1) := by decide +kernel
theorem dX6_fewest_95 : decode cX6_fewest 95 = .ok (.iconst 0, 1) := by decide +kernel
theorem dX6_fewest_96 : decode cX6_fewest 96 = .ok (.istore 7, 2) := by decide +kernel
theorem dX6_fewest_98 : decode cX6_fewest 98 = .ok (.iload 7, 2) := by decide +kernel
theorem dX6_fewest_100 : decode cX6_fewest 100 = .ok (.aload_n 0, 1) := by decide +kernel
theorem dX6_fewest_101 : decode cX6_fewest 101 = .ok (.getfield 7, 3) := by decide +kernel
theorem dX6_fewest_104 : decode cX6_fewest 104 = .ok (.bipush 24, 2) := by decide +kernel
theorem dX6_fewest_106 : decode cX6_fewest 106 = .ok (.iaload, 1) := by decide +kernel
theorem dX6_fewest_107 : decode cX6_fewest 107 = .ok (.if_icmp .ge 38, 3) := by decide +kernel
theorem dX6_fewest_110 : decode cX6_fewest 110 = .ok (.aload_n 0, 1) := by decide +kernel
theorem dX6_fewest_111 : decode cX6_fewest 111 = .ok (.bipush 114, 2) := by decide +kernel
theorem dX6_fewest_113 : decode cX6_fewest 113 = .ok (.iload 7, 2) := by decide +kernel
theorem dX6_fewest_115 : decode cX6_fewest 115 = .ok (.iload 4, 2) := by decide +kernel
theorem dX6_fewest_117 : decode cX6_fewest 117 = .ok (.ifCond .ne 18, 3) := by decide +kernel
theorem dX6_fewest_120 : decode cX6_fewest 120 = .ok (.iload 6, 2) := by decide +kernel
theorem dX6_fewest_122 : decode cX6_fewest 122 = .ok (.iload 7, 2) := by decide +kernel
theorem dX6_fewest_124 : decode cX6_fewest 124 = .ok (.invokestatic 120, 3) := by decide +kernel
theorem dX6_fewest_127 : decode cX6_fewest 127 = .ok (.ifCond .eq 8, 3) := by decide +kernel
theorem dX6_fewest_130 : decode cX6_fewest 130 = .ok (.bipush 9, 2) := by decide +kernel
theorem dX6_fewest_132 : decode cX6_fewest 132 = .ok (.goto 4, 3) := by decide +kernel
theorem dX6_fewest_135 : decode cX6_fewest 135 = .ok (.iconst 0, 1) := by decide +kernel
theorem dX6_fewest_136 : decode cX6_fewest 136 = .ok (.invokevirtual 170, 3) := by decide +kernel
theorem dX6_fewest_139 : decode cX6_fewest 139 = .ok (.iinc 7 1, 3) := by decide +kernel
theorem dX6_fewest_142 : decode cX6_fewest 142 = .ok (.goto (-44), 3) := by decide +kernel
theorem dX6_fewest_145 : decode cX6_fewest 145 = .ok (.iconst 0, 1) := by decide +kernel
theorem dX6_fewest_146 : decode cX6_fewest 146 = .ok (.istore 7, 2) := by decide +kernel
theorem dX6_fewest_148 : decode cX6_fewest 148 = .ok (.iload 7, 2) := by decide +kernel
theorem dX6_fewest_150 : decode cX6_fewest 150 = .ok (.iload_n 3, 1) := by decide +kernel
theorem dX6_fewest_151 : decode cX6_fewest 151 = .ok (.if_icmp .ge 15, 3) := by decide +kernel
theorem dX6_fewest_154 : decode cX6_fewest 154 = .ok (.aload_n 0, 1) := by decide +kernel
theorem dX6_fewest_155 : decode cX6_fewest 155 = .ok (.bipush 114, 2) := by decide +kernel
theorem dX6_fewest_157 : decode cX6_fewest 157 = .ok (.invokevirtual 155, 3) := by decide +kernel
theorem dX6_fewest_160 : decode cX6_fewest 160 = .ok (.iinc 7 1, 3) := by decide +kernel
theorem dX6_fewest_163 : decode cX6_fewest 163 = .ok (.goto (-15), 3) := by decide +kernel
theorem dX6_fewest_166 : decode cX6_fewest 166 = .ok (.aload_n 0, 1) := by decide +kernel
theorem dX6_fewest_167 : decode cX6_fewest 167 = .ok (.getfield 7, 3) := by decide +kernel
theorem dX6_fewest_170 : decode cX6_fewest 170 = .ok (.bipush 125, 2) := by decide +kernel
theorem dX6_fewest_172 : decode cX6_fewest 172 = .ok (.iload_n 1, 1) := by decide +kernel
theorem dX6_fewest_173 : decode cX6_fewest 173 = .ok (.iadd, 1) := by decide +kernel
theorem dX6_fewest_174 : decode cX6_fewest 174 = .ok (.iaload, 1) := by decide +kernel
theorem dX6_fewest_175 : decode cX6_fewest 175 = .ok (.iload_n 2, 1) := by decide +kernel
theorem dX6_fewest_176 : decode cX6_fewest 176 = .ok (.if_icmp .ne 8, 3) := by decide +kernel
theorem dX6_fewest_179 : decode cX6_fewest 179 = .ok (.iload 6, 2) := by decide +kernel
theorem dX6_fewest_181 : decode cX6_fewest 181 = .ok (.goto 5, 3) := by decide +kernel
theorem dX6_fewest_184 : decode cX6_fewest 184 = .ok (.iload 5, 2) := by decide +kernel
theorem dX6_fewest_186 : decode cX6_fewest 186 = .ok (.istore 5, 2) := by decide +kernel
theorem dX6_fewest_188 : decode cX6_fewest 188 = .ok (.iinc 6 1, 3) := by decide +kernel
theorem dX6_fewest_191 : decode cX6_fewest 191 = .ok (.goto (-184), 3) := by decide +kernel
theorem dX6_fewest_194 : decode cX6_fewest 194 = .ok (.iload 5, 2) := by decide +kernel
theorem dX6_fewest_196 : decode cX6_fewest 196 = .ok (.ireturn, 1) := by decide +kernel
set_option maxRecDepth 20000 in
theorem ggX6_fewestOf_X6_isSwan : GoodIn wsX6_fewestOf wsX6_isSwan := goodIn_r _ [8, 9, 10, 11, 7, 12, 65, 66, 67, 68, 69, 70, 71, 72, 73, 74, 75, 76, 77, 78, 79, 80, 81, 82, 83] (by decide +kernel) (by decide +kernel)
set_option maxRecDepth 20000 in
theorem gX6_fewestOf_X6_isSwan : GoodIn wsX6_fewestOf (wsV RX6 174 RX6 yX6_isSwan wsX6_isSwan) := goodIn_app (goodIn_of _ (by decide +kernel)) ggX6_fewestOf_X6_isSwan
set_option maxRecDepth 20000 in
theorem ggX6_fewestOf_X6_isLawn : GoodIn wsX6_fewestOf wsX6_isLawn := goodIn_r _ [16, 9, 10, 11, 7, 12, 65, 66, 67, 68, 69, 70, 71, 72, 73, 74, 75, 76, 77, 78, 79, 80, 81, 82, 83] (by decide +kernel) (by decide +kernel)
set_option maxRecDepth 20000 in
theorem gX6_fewestOf_X6_isLawn : GoodIn wsX6_fewestOf (wsV RX6 165 RX6 yX6_isLawn wsX6_isLawn) := goodIn_app (goodIn_of _ (by decide +kernel)) ggX6_fewestOf_X6_isLawn
set_option maxRecDepth 20000 in
theorem ggX6_fewestOf_X6_in : GoodIn wsX6_fewestOf wsX6_in := goodIn_r _ [12] (by decide +kernel) (by decide +kernel)
set_option maxRecDepth 20000 in
theorem gX6_fewestOf_X6_in : GoodIn wsX6_fewestOf (va_wsS RX6 45 yX6_in wsX6_in) := goodIn_app (goodIn_of _ (by decide +kernel)) ggX6_fewestOf_X6_in
set_option maxRecDepth 20000 in
theorem ggX6_fewestOf_X6_fewest : GoodIn wsX6_fewestOf wsX6_fewest := goodIn_r _ [20, 3, 9, 21, 22, 7, 23, 24, 25, 26, 27, 28, 29, 30, 31, 32, 33, 34, 35, 36, 37, 38, 39, 40, 41, 42, 43, 44, 45, 46, 47, 48, 49, 50, 51, 52, 53, 54, 55, 56, 57, 58, 59, 60, 10, 11, 12, 61, 62, 63, 64, 65, 66, 67, 68, 69, 70, 71, 72, 73, 74, 75, 76, 77, 78, 79, 80, 81, 82, 83] (by decide +kernel) (by decide +kernel)
set_option maxRecDepth 20000 in
theorem gX6_fewestOf_X6_fewest : GoodIn wsX6_fewestOf (wsV RX6 200 RX6 yX6_fewest wsX6_fewest) := goodIn_app (goodIn_of _ (by decide +kernel)) ggX6_fewestOf_X6_fewest
set_option maxRecDepth 20000 in
theorem ggX6_fewestOf_X6_ones : GoodIn wsX6_fewestOf wsX6_ones := goodIn_r _ [23] (by decide +kernel) (by decide +kernel)
set_option maxRecDepth 20000 in
theorem gX6_fewestOf_X6_ones : GoodIn wsX6_fewestOf (va_wsS RX6 162 yX6_ones wsX6_ones) := goodIn_app (goodIn_of _ (by decide +kernel)) ggX6_fewestOf_X6_ones
theorem dX6_fewestOf_0 : decode cX6_fewestOf 0 = .ok (.aload_n 0, 1) := by decide +kernel
theorem dX6_fewestOf_1 : decode cX6_fewestOf 1 = .ok (.iload_n 1, 1) := by decide +kernel
theorem dX6_fewestOf_2 : decode cX6_fewestOf 2 = .ok (.invokevirtual 174, 3) := by decide +kernel
theorem dX6_fewestOf_5 : decode cX6_fewestOf 5 = .ok (.ifCond .eq 34, 3) := by decide +kernel
theorem dX6_fewestOf_8 : decode cX6_fewestOf 8 = .ok (.aload_n 0, 1) := by decide +kernel
theorem dX6_fewestOf_9 : decode cX6_fewestOf 9 = .ok (.iload_n 2, 1) := by decide +kernel
theorem dX6_fewestOf_10 : decode cX6_fewestOf 10 = .ok (.invokevirtual 165, 3) := by decide +kernel
theorem dX6_fewestOf_13 : decode cX6_fewestOf 13 = .ok (.ifCond .eq 26, 3) := by decide +kernel
theorem dX6_fewestOf_16 : decode cX6_fewestOf 16 = .ok (.iload_n 3, 1) := by decide +kernel
theorem dX6_fewestOf_17 : decode cX6_fewestOf 17 = .ok (.i2l, 1) := by decide +kernel
theorem dX6_fewestOf_18 : decode cX6_fewestOf 18 = .ok (.lconst 1, 1) := by decide +kernel
theorem dX6_fewestOf_19 : decode cX6_fewestOf 19 = .ok (.ldc2_w 198, 3) := by decide +kernel
theorem dX6_fewestOf_22 : decode cX6_fewestOf 22 = .ok (.invokestatic 45, 3) := by decide +kernel
theorem dX6_fewestOf_25 : decode cX6_fewestOf 25 = .ok (.ifCond .eq 14, 3) := by decide +kernel
theorem dX6_fewestOf_28 : decode cX6_fewestOf 28 = .ok (.iload 4, 2) := by decide +kernel
theorem dX6_fewestOf_30 : decode cX6_fewestOf 30 = .ok (.i2l, 1) := by decide +kernel
theorem dX6_fewestOf_31 : decode cX6_fewestOf 31 = .ok (.lconst 0, 1) := by decide +kernel
theorem dX6_fewestOf_32 : decode cX6_fewestOf 32 = .ok (.lconst 1, 1) := by decide +kernel
theorem dX6_fewestOf_33 : decode cX6_fewestOf 33 = .ok (.invokestatic 45, 3) := by decide +kernel
theorem dX6_fewestOf_36 : decode cX6_fewestOf 36 = .ok (.ifCond .ne 6, 3) := by decide +kernel
theorem dX6_fewestOf_39 : decode cX6_fewestOf 39 = .ok (.ldc 55, 2) := by decide +kernel
theorem dX6_fewestOf_41 : decode cX6_fewestOf 41 = .ok (.ireturn, 1) := by decide +kernel
theorem dX6_fewestOf_42 : decode cX6_fewestOf 42 = .ok (.aload_n 0, 1) := by decide +kernel
theorem dX6_fewestOf_43 : decode cX6_fewestOf 43 = .ok (.iload_n 1, 1) := by decide +kernel
theorem dX6_fewestOf_44 : decode cX6_fewestOf 44 = .ok (.iload_n 2, 1) := by decide +kernel
theorem dX6_fewestOf_45 : decode cX6_fewestOf 45 = .ok (.iload_n 3, 1) := by decide +kernel
theorem dX6_fewestOf_46 : decode cX6_fewestOf 46 = .ok (.iload 5, 2) := by decide +kernel
theorem dX6_fewestOf_48 : decode cX6_fewestOf 48 = .ok (.invokevirtual 200, 3) := by decide +kernel
theorem dX6_fewestOf_51 : decode cX6_fewestOf 51 = .ok (.istore 6, 2) := by decide +kernel
theorem dX6_fewestOf_53 : decode cX6_fewestOf 53 = .ok (.iload 6, 2) := by decide +kernel
theorem dX6_fewestOf_55 : decode cX6_fewestOf 55 = .ok (.ldc 194, 2) := by decide +kernel
theorem dX6_fewestOf_57 : decode cX6_fewestOf 57 = .ok (.if_icmp .eq 9, 3) := by decide +kernel
theorem dX6_fewestOf_60 : decode cX6_fewestOf 60 = .ok (.iload 4, 2) := by decide +kernel
theorem dX6_fewestOf_62 : decode cX6_fewestOf 62 = .ok (.iconst 1, 1) := by decide +kernel
theorem dX6_fewestOf_63 : decode cX6_fewestOf 63 = .ok (.if_icmp .ne 8, 3) := by decide +kernel
theorem dX6_fewestOf_66 : decode cX6_fewestOf 66 = .ok (.iload 6, 2) := by decide +kernel
theorem dX6_fewestOf_68 : decode cX6_fewestOf 68 = .ok (.goto 8, 3) := by decide +kernel
theorem dX6_fewestOf_71 : decode cX6_fewestOf 71 = .ok (.iload 6, 2) := by decide +kernel
theorem dX6_fewestOf_73 : decode cX6_fewestOf 73 = .ok (.invokestatic 162, 3) := by decide +kernel
theorem dX6_fewestOf_76 : decode cX6_fewestOf 76 = .ok (.ireturn, 1) := by decide +kernel
set_option maxRecDepth 20000 in
theorem ggX6_crusts_X6_fewestOf : GoodIn wsX6_crusts wsX6_fewestOf := goodIn_r _ [5, 6, 7, 8, 9, 10, 11, 4, 12, 13, 14, 15, 16, 17, 18, 19, 20, 21, 22, 23, 24, 25, 26, 27, 28, 29, 30, 31, 32, 33, 34, 35, 36, 37, 38, 39, 40, 41, 42, 43, 44, 45, 46, 47, 48, 49, 50, 51, 52, 53, 54, 55, 56, 57, 58, 59, 60, 61, 62, 63, 64, 65, 66, 67, 68, 69, 70, 71, 72, 73, 74, 75, 76, 77, 78, 79, 80, 81, 82, 83, 84, 85, 86, 87] (by decide +kernel) (by decide +kernel)
set_option maxRecDepth 20000 in
theorem gX6_crusts_X6_fewestOf : GoodIn wsX6_crusts (wsV RX6 204 RX6 yX6_fewestOf wsX6_fewestOf) := goodIn_app (goodIn_of _ (by decide +kernel)) ggX6_crusts_X6_fewestOf
theorem dX6_crusts_0 : decode cX6_crusts 0 = .ok (.aload_n 0, 1) := by decide +kernel
theorem dX6_crusts_1 : decode cX6_crusts 1 = .ok (.iload_n 1, 1) := by decide +kernel
theorem dX6_crusts_2 : decode cX6_crusts 2 = .ok (.iload_n 2, 1) := by decide +kernel
theorem dX6_crusts_3 : decode cX6_crusts 3 = .ok (.iload_n 3, 1) := by decide +kernel
theorem dX6_crusts_4 : decode cX6_crusts 4 = .ok (.iload 4, 2) := by decide +kernel
theorem dX6_crusts_6 : decode cX6_crusts 6 = .ok (.iconst 0, 1) := by decide +kernel
theorem dX6_crusts_7 : decode cX6_crusts 7 = .ok (.invokevirtual 204, 3) := by decide +kernel
theorem dX6_crusts_10 : decode cX6_crusts 10 = .ok (.ireturn, 1) := by decide +kernel
set_option maxRecDepth 20000 in
theorem ggX6_weirs_X6_fewestOf : GoodIn wsX6_weirs wsX6_fewestOf := goodIn_r _ [5, 6, 7, 8, 9, 10, 11, 4, 12, 13, 14, 15, 16, 17, 18, 19, 20, 21, 22, 23, 24, 25, 26, 27, 28, 29, 30, 31, 32, 33, 34, 35, 36, 37, 38, 39, 40, 41, 42, 43, 44, 45, 46, 47, 48, 49, 50, 51, 52, 53, 54, 55, 56, 57, 58, 59, 60, 61, 62, 63, 64, 65, 66, 67, 68, 69, 70, 71, 72, 73, 74, 75, 76, 77, 78, 79, 80, 81, 82, 83, 84, 85, 86, 87] (by decide +kernel) (by decide +kernel)
set_option maxRecDepth 20000 in
theorem gX6_weirs_X6_fewestOf : GoodIn wsX6_weirs (wsV RX6 204 RX6 yX6_fewestOf wsX6_fewestOf) := goodIn_app (goodIn_of _ (by decide +kernel)) ggX6_weirs_X6_fewestOf
theorem dX6_weirs_0 : decode cX6_weirs 0 = .ok (.aload_n 0, 1) := by decide +kernel
theorem dX6_weirs_1 : decode cX6_weirs 1 = .ok (.iload_n 1, 1) := by decide +kernel
theorem dX6_weirs_2 : decode cX6_weirs 2 = .ok (.iload_n 2, 1) := by decide +kernel
theorem dX6_weirs_3 : decode cX6_weirs 3 = .ok (.iload_n 3, 1) := by decide +kernel
theorem dX6_weirs_4 : decode cX6_weirs 4 = .ok (.iload 4, 2) := by decide +kernel
theorem dX6_weirs_6 : decode cX6_weirs 6 = .ok (.iconst 1, 1) := by decide +kernel
theorem dX6_weirs_7 : decode cX6_weirs 7 = .ok (.invokevirtual 204, 3) := by decide +kernel
theorem dX6_weirs_10 : decode cX6_weirs 10 = .ok (.ireturn, 1) := by decide +kernel
set_option maxRecDepth 20000 in
theorem ggX6_hold_X6_isSwan : GoodIn wsX6_hold wsX6_isSwan := goodIn_r _ [8, 2, 9, 10, 7, 11, 57, 58, 59, 60, 61, 62, 63, 64, 65, 66, 67, 68, 69, 70, 71, 72, 73, 74, 75] (by decide +kernel) (by decide +kernel)
set_option maxRecDepth 20000 in
theorem gX6_hold_X6_isSwan : GoodIn wsX6_hold (wsV RX6 174 RX6 yX6_isSwan wsX6_isSwan) := goodIn_app (goodIn_of _ (by decide +kernel)) ggX6_hold_X6_isSwan
set_option maxRecDepth 20000 in
theorem ggX6_hold_X6_in : GoodIn wsX6_hold wsX6_in := goodIn_r _ [11] (by decide +kernel) (by decide +kernel)
set_option maxRecDepth 20000 in
theorem gX6_hold_X6_in : GoodIn wsX6_hold (va_wsS RX6 45 yX6_in wsX6_in) := goodIn_app (goodIn_of _ (by decide +kernel)) ggX6_hold_X6_in
set_option maxRecDepth 20000 in
theorem ggX6_hold_X6_tries : GoodIn wsX6_hold wsX6_tries := goodIn_r _ [15, 16, 17, 18, 7, 19, 2, 57, 58, 59, 60, 61, 62, 63, 64, 65, 66, 67, 68, 69, 70, 71, 72, 73, 74, 75] (by decide +kernel) (by decide +kernel)
set_option maxRecDepth 20000 in
theorem gX6_hold_X6_tries : GoodIn wsX6_hold (wsV RX6 185 RX6 yX6_tries wsX6_tries) := goodIn_app (goodIn_of _ (by decide +kernel)) ggX6_hold_X6_tries
set_option maxRecDepth 20000 in
theorem ggX6_hold_X6_throwsOn : GoodIn wsX6_hold wsX6_throwsOn := goodIn_r _ [23, 2, 57, 58, 59, 60, 61, 62, 63, 64, 65, 66, 67, 68, 69, 70, 71, 72, 73, 74, 75] (by decide +kernel) (by decide +kernel)
set_option maxRecDepth 20000 in
theorem gX6_hold_X6_throwsOn : GoodIn wsX6_hold (wsV RX6 170 RX6 yX6_throwsOn wsX6_throwsOn) := goodIn_app (goodIn_of _ (by decide +kernel)) ggX6_hold_X6_throwsOn
set_option maxRecDepth 20000 in
theorem ggX6_hold_X6_leaves : GoodIn wsX6_hold wsX6_leaves := goodIn_r _ [27, 2, 3, 28, 29, 30, 7, 31, 32, 33, 34, 35, 36, 37, 38, 39, 40, 41, 42, 43, 44, 45, 46, 47, 48, 49, 9, 10, 11, 50, 51, 52, 53, 54, 55, 56, 57, 58, 59, 60, 61, 62, 63, 64, 65, 66, 67, 68, 69, 70, 71, 72, 73, 74, 75] (by decide +kernel) (by decide +kernel)
set_option maxRecDepth 20000 in
theorem gX6_hold_X6_leaves : GoodIn wsX6_hold (wsV RX6 195 RX6 yX6_leaves wsX6_leaves) := goodIn_app (goodIn_of _ (by decide +kernel)) ggX6_hold_X6_leaves
theorem dX6_hold_0 : decode cX6_hold 0 = .ok (.aload_n 0, 1) := by decide +kernel
theorem dX6_hold_1 : decode cX6_hold 1 = .ok (.iload_n 1, 1) := by decide +kernel
theorem dX6_hold_2 : decode cX6_hold 2 = .ok (.invokevirtual 174, 3) := by decide +kernel
theorem dX6_hold_5 : decode cX6_hold 5 = .ok (.ifCond .eq 13, 3) := by decide +kernel
theorem dX6_hold_8 : decode cX6_hold 8 = .ok (.iload_n 2, 1) := by decide +kernel
theorem dX6_hold_9 : decode cX6_hold 9 = .ok (.i2l, 1) := by decide +kernel
theorem dX6_hold_10 : decode cX6_hold 10 = .ok (.lconst 0, 1) := by decide +kernel
theorem dX6_hold_11 : decode cX6_hold 11 = .ok (.lconst 1, 1) := by decide +kernel
theorem dX6_hold_12 : decode cX6_hold 12 = .ok (.invokestatic 45, 3) := by decide +kernel
theorem dX6_hold_15 : decode cX6_hold 15 = .ok (.ifCond .ne 6, 3) := by decide +kernel
theorem dX6_hold_18 : decode cX6_hold 18 = .ok (.ldc 55, 2) := by decide +kernel
theorem dX6_hold_20 : decode cX6_hold 20 = .ok (.ireturn, 1) := by decide +kernel
theorem dX6_hold_21 : decode cX6_hold 21 = .ok (.iconst 0, 1) := by decide +kernel
theorem dX6_hold_22 : decode cX6_hold 22 = .ok (.istore_n 3, 1) := by decide +kernel
theorem dX6_hold_23 : decode cX6_hold 23 = .ok (.iconst (-1), 1) := by decide +kernel
theorem dX6_hold_24 : decode cX6_hold 24 = .ok (.istore 4, 2) := by decide +kernel
theorem dX6_hold_26 : decode cX6_hold 26 = .ok (.iconst 0, 1) := by decide +kernel
theorem dX6_hold_27 : decode cX6_hold 27 = .ok (.istore 5, 2) := by decide +kernel
theorem dX6_hold_29 : decode cX6_hold 29 = .ok (.iload 5, 2) := by decide +kernel
theorem dX6_hold_31 : decode cX6_hold 31 = .ok (.aload_n 0, 1) := by decide +kernel
theorem dX6_hold_32 : decode cX6_hold 32 = .ok (.getfield 7, 3) := by decide +kernel
theorem dX6_hold_35 : decode cX6_hold 35 = .ok (.bipush 24, 2) := by decide +kernel
theorem dX6_hold_37 : decode cX6_hold 37 = .ok (.iaload, 1) := by decide +kernel
theorem dX6_hold_38 : decode cX6_hold 38 = .ok (.if_icmp .ge 78, 3) := by decide +kernel
theorem dX6_hold_41 : decode cX6_hold 41 = .ok (.aload_n 0, 1) := by decide +kernel
theorem dX6_hold_42 : decode cX6_hold 42 = .ok (.invokevirtual 185, 3) := by decide +kernel
theorem dX6_hold_45 : decode cX6_hold 45 = .ok (.aload_n 0, 1) := by decide +kernel
theorem dX6_hold_46 : decode cX6_hold 46 = .ok (.bipush 114, 2) := by decide +kernel
theorem dX6_hold_48 : decode cX6_hold 48 = .ok (.iload 5, 2) := by decide +kernel
theorem dX6_hold_50 : decode cX6_hold 50 = .ok (.bipush 9, 2) := by decide +kernel
theorem dX6_hold_52 : decode cX6_hold 52 = .ok (.invokevirtual 170, 3) := by decide +kernel
theorem dX6_hold_55 : decode cX6_hold 55 = .ok (.aload_n 0, 1) := by decide +kernel
theorem dX6_hold_56 : decode cX6_hold 56 = .ok (.iload_n 1, 1) := by decide +kernel
theorem dX6_hold_57 : decode cX6_hold 57 = .ok (.invokevirtual 195, 3) := by decide +kernel
theorem dX6_hold_60 : decode cX6_hold 60 = .ok (.istore 6, 2) := by decide +kernel
theorem dX6_hold_62 : decode cX6_hold 62 = .ok (.iload 6, 2) := by decide +kernel
theorem dX6_hold_64 : decode cX6_hold 64 = .ok (.ldc 194, 2) := by decide +kernel
theorem dX6_hold_66 : decode cX6_hold 66 = .ok (.if_icmp .ne 8, 3) := by decide +kernel
theorem dX6_hold_69 : decode cX6_hold 69 = .ok (.bipush 60, 2) := by decide +kernel
theorem dX6_hold_71 : decode cX6_hold 71 = .ok (.goto 7, 3) := by decide +kernel
theorem dX6_hold_74 : decode cX6_hold 74 = .ok (.iload 6, 2) := by decide +kernel
theorem dX6_hold_76 : decode cX6_hold 76 = .ok (.iconst 1, 1) := by decide +kernel
theorem dX6_hold_77 : decode cX6_hold 77 = .ok (.isub, 1) := by decide +kernel
theorem dX6_hold_78 : decode cX6_hold 78 = .ok (.istore 7, 2) := by decide +kernel
theorem dX6_hold_80 : decode cX6_hold 80 = .ok (.iload 7, 2) := by decide +kernel
theorem dX6_hold_82 : decode cX6_hold 82 = .ok (.iload 4, 2) := by decide +kernel
theorem dX6_hold_84 : decode cX6_hold 84 = .ok (.if_icmp .le 8, 3) := by decide +kernel
theorem dX6_hold_87 : decode cX6_hold 87 = .ok (.iload 5, 2) := by decide +kernel
theorem dX6_hold_89 : decode cX6_hold 89 = .ok (.goto 4, 3) := by decide +kernel
theorem dX6_hold_92 : decode cX6_hold 92 = .ok (.iload_n 3, 1) := by decide +kernel
theorem dX6_hold_93 : decode cX6_hold 93 = .ok (.istore_n 3, 1) := by decide +kernel
theorem dX6_hold_94 : decode cX6_hold 94 = .ok (.iload 7, 2) := by decide +kernel
theorem dX6_hold_96 : decode cX6_hold 96 = .ok (.iload 4, 2) := by decide +kernel
theorem dX6_hold_98 : decode cX6_hold 98 = .ok (.if_icmp .le 8, 3) := by decide +kernel
theorem dX6_hold_101 : decode cX6_hold 101 = .ok (.iload 7, 2) := by decide +kernel
theorem dX6_hold_103 : decode cX6_hold 103 = .ok (.goto 5, 3) := by decide +kernel
theorem dX6_hold_106 : decode cX6_hold 106 = .ok (.iload 4, 2) := by decide +kernel
theorem dX6_hold_108 : decode cX6_hold 108 = .ok (.istore 4, 2) := by decide +kernel
theorem dX6_hold_110 : decode cX6_hold 110 = .ok (.iinc 5 1, 3) := by decide +kernel
theorem dX6_hold_113 : decode cX6_hold 113 = .ok (.goto (-84), 3) := by decide +kernel
theorem dX6_hold_116 : decode cX6_hold 116 = .ok (.iload_n 2, 1) := by decide +kernel
theorem dX6_hold_117 : decode cX6_hold 117 = .ok (.ifCond .ne 7, 3) := by decide +kernel
theorem dX6_hold_120 : decode cX6_hold 120 = .ok (.iload_n 3, 1) := by decide +kernel
theorem dX6_hold_121 : decode cX6_hold 121 = .ok (.goto 5, 3) := by decide +kernel
theorem dX6_hold_124 : decode cX6_hold 124 = .ok (.iload 4, 2) := by decide +kernel
theorem dX6_hold_126 : decode cX6_hold 126 = .ok (.ireturn, 1) := by decide +kernel
set_option maxRecDepth 20000 in
theorem ggX6_meet_X6_isSwan : GoodIn wsX6_meet wsX6_isSwan := goodIn_r _ [8, 2, 9, 10, 7, 11, 49, 50, 51, 52, 53, 54, 55, 56, 57, 58, 59, 60, 61, 62, 63, 64, 65, 66, 67] (by decide +kernel) (by decide +kernel)
set_option maxRecDepth 20000 in
theorem gX6_meet_X6_isSwan : GoodIn wsX6_meet (wsV RX6 174 RX6 yX6_isSwan wsX6_isSwan) := goodIn_app (goodIn_of _ (by decide +kernel)) ggX6_meet_X6_isSwan
set_option maxRecDepth 20000 in
theorem ggX6_meet_X6_tries : GoodIn wsX6_meet wsX6_tries := goodIn_r _ [15, 16, 17, 18, 7, 19, 2, 49, 50, 51, 52, 53, 54, 55, 56, 57, 58, 59, 60, 61, 62, 63, 64, 65, 66, 67] (by decide +kernel) (by decide +kernel)
set_option maxRecDepth 20000 in
theorem gX6_meet_X6_tries : GoodIn wsX6_meet (wsV RX6 185 RX6 yX6_tries wsX6_tries) := goodIn_app (goodIn_of _ (by decide +kernel)) ggX6_meet_X6_tries
set_option maxRecDepth 20000 in
theorem ggX6_meet_X6_passes : GoodIn wsX6_meet wsX6_passes := goodIn_r _ [23, 24, 25, 2, 26, 27, 28, 7, 29, 30, 31, 32, 33, 34, 35, 36, 37, 38, 39, 40, 41, 9, 10, 11, 42, 43, 44, 45, 46, 47, 48, 49, 50, 51, 52, 53, 54, 55, 56, 57, 58, 59, 60, 61, 62, 63, 64, 65, 66, 67] (by decide +kernel) (by decide +kernel)
set_option maxRecDepth 20000 in
theorem gX6_meet_X6_passes : GoodIn wsX6_meet (wsV RX6 155 RX6 yX6_passes wsX6_passes) := goodIn_app (goodIn_of _ (by decide +kernel)) ggX6_meet_X6_passes
theorem dX6_meet_0 : decode cX6_meet 0 = .ok (.aload_n 0, 1) := by decide +kernel
theorem dX6_meet_1 : decode cX6_meet 1 = .ok (.iload_n 1, 1) := by decide +kernel
theorem dX6_meet_2 : decode cX6_meet 2 = .ok (.invokevirtual 174, 3) := by decide +kernel
theorem dX6_meet_5 : decode cX6_meet 5 = .ok (.ifCond .eq 16, 3) := by decide +kernel
theorem dX6_meet_8 : decode cX6_meet 8 = .ok (.aload_n 0, 1) := by decide +kernel
theorem dX6_meet_9 : decode cX6_meet 9 = .ok (.iload_n 2, 1) := by decide +kernel
theorem dX6_meet_10 : decode cX6_meet 10 = .ok (.invokevirtual 174, 3) := by decide +kernel
theorem dX6_meet_13 : decode cX6_meet 13 = .ok (.ifCond .eq 8, 3) := by decide +kernel
theorem dX6_meet_16 : decode cX6_meet 16 = .ok (.iload_n 1, 1) := by decide +kernel
theorem dX6_meet_17 : decode cX6_meet 17 = .ok (.iload_n 2, 1) := by decide +kernel
theorem dX6_meet_18 : decode cX6_meet 18 = .ok (.if_icmp .ne 6, 3) := by decide +kernel
theorem dX6_meet_21 : decode cX6_meet 21 = .ok (.ldc 55, 2) := by decide +kernel
theorem dX6_meet_23 : decode cX6_meet 23 = .ok (.ireturn, 1) := by decide +kernel
theorem dX6_meet_24 : decode cX6_meet 24 = .ok (.aload_n 0, 1) := by decide +kernel
theorem dX6_meet_25 : decode cX6_meet 25 = .ok (.invokevirtual 185, 3) := by decide +kernel
theorem dX6_meet_28 : decode cX6_meet 28 = .ok (.iconst 0, 1) := by decide +kernel
theorem dX6_meet_29 : decode cX6_meet 29 = .ok (.istore_n 3, 1) := by decide +kernel
theorem dX6_meet_30 : decode cX6_meet 30 = .ok (.iload_n 3, 1) := by decide +kernel
theorem dX6_meet_31 : decode cX6_meet 31 = .ok (.bipush 60, 2) := by decide +kernel
theorem dX6_meet_33 : decode cX6_meet 33 = .ok (.if_icmp .gt 38, 3) := by decide +kernel
theorem dX6_meet_36 : decode cX6_meet 36 = .ok (.aload_n 0, 1) := by decide +kernel
theorem dX6_meet_37 : decode cX6_meet 37 = .ok (.getfield 7, 3) := by decide +kernel
theorem dX6_meet_40 : decode cX6_meet 40 = .ok (.bipush 125, 2) := by decide +kernel
theorem dX6_meet_42 : decode cX6_meet 42 = .ok (.iload_n 1, 1) := by decide +kernel
theorem dX6_meet_43 : decode cX6_meet 43 = .ok (.iadd, 1) := by decide +kernel
theorem dX6_meet_44 : decode cX6_meet 44 = .ok (.iaload, 1) := by decide +kernel
theorem dX6_meet_45 : decode cX6_meet 45 = .ok (.aload_n 0, 1) := by decide +kernel
theorem dX6_meet_46 : decode cX6_meet 46 = .ok (.getfield 7, 3) := by decide +kernel
theorem dX6_meet_49 : decode cX6_meet 49 = .ok (.bipush 125, 2) := by decide +kernel
theorem dX6_meet_51 : decode cX6_meet 51 = .ok (.iload_n 2, 1) := by decide +kernel
theorem dX6_meet_52 : decode cX6_meet 52 = .ok (.iadd, 1) := by decide +kernel
theorem dX6_meet_53 : decode cX6_meet 53 = .ok (.iaload, 1) := by decide +kernel
theorem dX6_meet_54 : decode cX6_meet 54 = .ok (.if_icmp .ne 5, 3) := by decide +kernel
theorem dX6_meet_57 : decode cX6_meet 57 = .ok (.iload_n 3, 1) := by decide +kernel
theorem dX6_meet_58 : decode cX6_meet 58 = .ok (.ireturn, 1) := by decide +kernel
theorem dX6_meet_59 : decode cX6_meet 59 = .ok (.aload_n 0, 1) := by decide +kernel
theorem dX6_meet_60 : decode cX6_meet 60 = .ok (.bipush 114, 2) := by decide +kernel
theorem dX6_meet_62 : decode cX6_meet 62 = .ok (.invokevirtual 155, 3) := by decide +kernel
theorem dX6_meet_65 : decode cX6_meet 65 = .ok (.iinc 3 1, 3) := by decide +kernel
theorem dX6_meet_68 : decode cX6_meet 68 = .ok (.goto (-38), 3) := by decide +kernel
theorem dX6_meet_71 : decode cX6_meet 71 = .ok (.ldc 194, 2) := by decide +kernel
theorem dX6_meet_73 : decode cX6_meet 73 = .ok (.ireturn, 1) := by decide +kernel
set_option maxRecDepth 20000 in
theorem ggX6_fights_X6_isRiver : GoodIn wsX6_fights wsX6_isRiver := goodIn_r _ [8, 9, 53, 54, 55, 56, 57, 58, 59, 60, 61, 62, 63, 64, 65, 66, 67, 68, 69, 70, 71] (by decide +kernel) (by decide +kernel)
set_option maxRecDepth 20000 in
theorem gX6_fights_X6_isRiver : GoodIn wsX6_fights (wsV RX6 147 RX6 yX6_isRiver wsX6_isRiver) := goodIn_app (goodIn_of _ (by decide +kernel)) ggX6_fights_X6_isRiver
set_option maxRecDepth 20000 in
theorem ggX6_fights_X6_isSpan : GoodIn wsX6_fights wsX6_isSpan := goodIn_r _ [12, 13, 14, 15, 7, 16] (by decide +kernel) (by decide +kernel)
set_option maxRecDepth 20000 in
theorem gX6_fights_X6_isSpan : GoodIn wsX6_fights (va_wsS RX6 188 yX6_isSpan wsX6_isSpan) := goodIn_app (goodIn_of _ (by decide +kernel)) ggX6_fights_X6_isSpan
set_option maxRecDepth 20000 in
theorem ggX6_fights_X6_tries : GoodIn wsX6_fights wsX6_tries := goodIn_r _ [20, 21, 22, 23, 7, 24, 9, 53, 54, 55, 56, 57, 58, 59, 60, 61, 62, 63, 64, 65, 66, 67, 68, 69, 70, 71] (by decide +kernel) (by decide +kernel)
set_option maxRecDepth 20000 in
theorem gX6_fights_X6_tries : GoodIn wsX6_fights (wsV RX6 185 RX6 yX6_tries wsX6_tries) := goodIn_app (goodIn_of _ (by decide +kernel)) ggX6_fights_X6_tries
set_option maxRecDepth 20000 in
theorem ggX6_fights_X6_passes : GoodIn wsX6_fights wsX6_passes := goodIn_r _ [28, 29, 3, 9, 30, 31, 32, 7, 33, 34, 35, 36, 37, 38, 39, 40, 41, 42, 43, 44, 45, 14, 15, 16, 46, 47, 48, 49, 50, 51, 52, 53, 54, 55, 56, 57, 58, 59, 60, 61, 62, 63, 64, 65, 66, 67, 68, 69, 70, 71] (by decide +kernel) (by decide +kernel)
set_option maxRecDepth 20000 in
theorem gX6_fights_X6_passes : GoodIn wsX6_fights (wsV RX6 155 RX6 yX6_passes wsX6_passes) := goodIn_app (goodIn_of _ (by decide +kernel)) ggX6_fights_X6_passes
theorem dX6_fights_0 : decode cX6_fights 0 = .ok (.aload_n 0, 1) := by decide +kernel
theorem dX6_fights_1 : decode cX6_fights 1 = .ok (.invokevirtual 147, 3) := by decide +kernel
theorem dX6_fights_4 : decode cX6_fights 4 = .ok (.ifCond .ne 6, 3) := by decide +kernel
theorem dX6_fights_7 : decode cX6_fights 7 = .ok (.ldc 146, 2) := by decide +kernel
theorem dX6_fights_9 : decode cX6_fights 9 = .ok (.ireturn, 1) := by decide +kernel
theorem dX6_fights_10 : decode cX6_fights 10 = .ok (.iload_n 1, 1) := by decide +kernel
theorem dX6_fights_11 : decode cX6_fights 11 = .ok (.iconst 1, 1) := by decide +kernel
theorem dX6_fights_12 : decode cX6_fights 12 = .ok (.invokestatic 188, 3) := by decide +kernel
theorem dX6_fights_15 : decode cX6_fights 15 = .ok (.ifCond .ne 6, 3) := by decide +kernel
theorem dX6_fights_18 : decode cX6_fights 18 = .ok (.ldc 55, 2) := by decide +kernel
theorem dX6_fights_20 : decode cX6_fights 20 = .ok (.ireturn, 1) := by decide +kernel
theorem dX6_fights_21 : decode cX6_fights 21 = .ok (.aload_n 0, 1) := by decide +kernel
theorem dX6_fights_22 : decode cX6_fights 22 = .ok (.invokevirtual 185, 3) := by decide +kernel
theorem dX6_fights_25 : decode cX6_fights 25 = .ok (.iconst 0, 1) := by decide +kernel
theorem dX6_fights_26 : decode cX6_fights 26 = .ok (.istore_n 2, 1) := by decide +kernel
theorem dX6_fights_27 : decode cX6_fights 27 = .ok (.iconst 0, 1) := by decide +kernel
theorem dX6_fights_28 : decode cX6_fights 28 = .ok (.istore_n 3, 1) := by decide +kernel
theorem dX6_fights_29 : decode cX6_fights 29 = .ok (.iload_n 3, 1) := by decide +kernel
theorem dX6_fights_30 : decode cX6_fights 30 = .ok (.iload_n 1, 1) := by decide +kernel
theorem dX6_fights_31 : decode cX6_fights 31 = .ok (.if_icmp .ge 22, 3) := by decide +kernel
theorem dX6_fights_34 : decode cX6_fights 34 = .ok (.aload_n 0, 1) := by decide +kernel
theorem dX6_fights_35 : decode cX6_fights 35 = .ok (.bipush 114, 2) := by decide +kernel
theorem dX6_fights_37 : decode cX6_fights 37 = .ok (.invokevirtual 155, 3) := by decide +kernel
theorem dX6_fights_40 : decode cX6_fights 40 = .ok (.iload_n 2, 1) := by decide +kernel
theorem dX6_fights_41 : decode cX6_fights 41 = .ok (.aload_n 0, 1) := by decide +kernel
theorem dX6_fights_42 : decode cX6_fights 42 = .ok (.getfield 133, 3) := by decide +kernel
theorem dX6_fights_45 : decode cX6_fights 45 = .ok (.iadd, 1) := by decide +kernel
theorem dX6_fights_46 : decode cX6_fights 46 = .ok (.istore_n 2, 1) := by decide +kernel
theorem dX6_fights_47 : decode cX6_fights 47 = .ok (.iinc 3 1, 3) := by decide +kernel
theorem dX6_fights_50 : decode cX6_fights 50 = .ok (.goto (-21), 3) := by decide +kernel
theorem dX6_fights_53 : decode cX6_fights 53 = .ok (.iload_n 2, 1) := by decide +kernel
theorem dX6_fights_54 : decode cX6_fights 54 = .ok (.ireturn, 1) := by decide +kernel
set_option maxRecDepth 20000 in
theorem ggX6_doubles_X6_isRiver : GoodIn wsX6_doubles wsX6_isRiver := goodIn_r _ [9, 4, 13, 14, 15, 16, 17, 18, 19, 20, 21, 22, 23, 24, 25, 26, 27, 28, 29, 30, 31] (by decide +kernel) (by decide +kernel)
set_option maxRecDepth 20000 in
theorem gX6_doubles_X6_isRiver : GoodIn wsX6_doubles (wsV RX6 147 RX6 yX6_isRiver wsX6_isRiver) := goodIn_app (goodIn_of _ (by decide +kernel)) ggX6_doubles_X6_isRiver
set_option maxRecDepth 20000 in
theorem ggX6_doubles_X6_in : GoodIn wsX6_doubles wsX6_in := goodIn_r _ [12] (by decide +kernel) (by decide +kernel)
set_option maxRecDepth 20000 in
theorem gX6_doubles_X6_in : GoodIn wsX6_doubles (va_wsS RX6 45 yX6_in wsX6_in) := goodIn_app (goodIn_of _ (by decide +kernel)) ggX6_doubles_X6_in
theorem dX6_doubles_0 : decode cX6_doubles 0 = .ok (.aload_n 0, 1) := by decide +kernel
theorem dX6_doubles_1 : decode cX6_doubles 1 = .ok (.invokevirtual 147, 3) := by decide +kernel
theorem dX6_doubles_4 : decode cX6_doubles 4 = .ok (.ifCond .ne 6, 3) := by decide +kernel
theorem dX6_doubles_7 : decode cX6_doubles 7 = .ok (.ldc 146, 2) := by decide +kernel
theorem dX6_doubles_9 : decode cX6_doubles 9 = .ok (.ireturn, 1) := by decide +kernel
theorem dX6_doubles_10 : decode cX6_doubles 10 = .ok (.iload_n 1, 1) := by decide +kernel
theorem dX6_doubles_11 : decode cX6_doubles 11 = .ok (.i2l, 1) := by decide +kernel
theorem dX6_doubles_12 : decode cX6_doubles 12 = .ok (.lconst 0, 1) := by decide +kernel
theorem dX6_doubles_13 : decode cX6_doubles 13 = .ok (.lconst 1, 1) := by decide +kernel
theorem dX6_doubles_14 : decode cX6_doubles 14 = .ok (.invokestatic 45, 3) := by decide +kernel
theorem dX6_doubles_17 : decode cX6_doubles 17 = .ok (.ifCond .ne 6, 3) := by decide +kernel
theorem dX6_doubles_20 : decode cX6_doubles 20 = .ok (.ldc 55, 2) := by decide +kernel
theorem dX6_doubles_22 : decode cX6_doubles 22 = .ok (.ireturn, 1) := by decide +kernel
theorem dX6_doubles_23 : decode cX6_doubles 23 = .ok (.iconst 0, 1) := by decide +kernel
theorem dX6_doubles_24 : decode cX6_doubles 24 = .ok (.istore_n 2, 1) := by decide +kernel
theorem dX6_doubles_25 : decode cX6_doubles 25 = .ok (.ldc 194, 2) := by decide +kernel
theorem dX6_doubles_27 : decode cX6_doubles 27 = .ok (.istore_n 3, 1) := by decide +kernel
theorem dX6_doubles_28 : decode cX6_doubles 28 = .ok (.iconst 0, 1) := by decide +kernel
theorem dX6_doubles_29 : decode cX6_doubles 29 = .ok (.istore 4, 2) := by decide +kernel
theorem dX6_doubles_31 : decode cX6_doubles 31 = .ok (.iload 4, 2) := by decide +kernel
theorem dX6_doubles_33 : decode cX6_doubles 33 = .ok (.aload_n 0, 1) := by decide +kernel
theorem dX6_doubles_34 : decode cX6_doubles 34 = .ok (.getfield 7, 3) := by decide +kernel
theorem dX6_doubles_37 : decode cX6_doubles 37 = .ok (.bipush 25, 2) := by decide +kernel
theorem dX6_doubles_39 : decode cX6_doubles 39 = .ok (.iaload, 1) := by decide +kernel
theorem dX6_doubles_40 : decode cX6_doubles 40 = .ok (.if_icmp .ge 100, 3) := by decide +kernel
theorem dX6_doubles_43 : decode cX6_doubles 43 = .ok (.iload 4, 2) := by decide +kernel
theorem dX6_doubles_45 : decode cX6_doubles 45 = .ok (.iconst 1, 1) := by decide +kernel
theorem dX6_doubles_46 : decode cX6_doubles 46 = .ok (.iadd, 1) := by decide +kernel
theorem dX6_doubles_47 : decode cX6_doubles 47 = .ok (.istore 5, 2) := by decide +kernel
theorem dX6_doubles_49 : decode cX6_doubles 49 = .ok (.iload 5, 2) := by decide +kernel
theorem dX6_doubles_51 : decode cX6_doubles 51 = .ok (.aload_n 0, 1) := by decide +kernel
theorem dX6_doubles_52 : decode cX6_doubles 52 = .ok (.getfield 7, 3) := by decide +kernel
theorem dX6_doubles_55 : decode cX6_doubles 55 = .ok (.bipush 25, 2) := by decide +kernel
theorem dX6_doubles_57 : decode cX6_doubles 57 = .ok (.iaload, 1) := by decide +kernel
theorem dX6_doubles_58 : decode cX6_doubles 58 = .ok (.if_icmp .ge 76, 3) := by decide +kernel
theorem dX6_doubles_61 : decode cX6_doubles 61 = .ok (.aload_n 0, 1) := by decide +kernel
theorem dX6_doubles_62 : decode cX6_doubles 62 = .ok (.getfield 7, 3) := by decide +kernel
theorem dX6_doubles_65 : decode cX6_doubles 65 = .ok (.bipush 32, 2) := by decide +kernel
theorem dX6_doubles_67 : decode cX6_doubles 67 = .ok (.iload 4, 2) := by decide +kernel
theorem dX6_doubles_69 : decode cX6_doubles 69 = .ok (.iadd, 1) := by decide +kernel
theorem dX6_doubles_70 : decode cX6_doubles 70 = .ok (.iaload, 1) := by decide +kernel
theorem dX6_doubles_71 : decode cX6_doubles 71 = .ok (.aload_n 0, 1) := by decide +kernel
theorem dX6_doubles_72 : decode cX6_doubles 72 = .ok (.getfield 7, 3) := by decide +kernel
theorem dX6_doubles_75 : decode cX6_doubles 75 = .ok (.bipush 32, 2) := by decide +kernel
theorem dX6_doubles_77 : decode cX6_doubles 77 = .ok (.iload 5, 2) := by decide +kernel
theorem dX6_doubles_79 : decode cX6_doubles 79 = .ok (.iadd, 1) := by decide +kernel
theorem dX6_doubles_80 : decode cX6_doubles 80 = .ok (.iaload, 1) := by decide +kernel
theorem dX6_doubles_81 : decode cX6_doubles 81 = .ok (.if_icmp .ne 7, 3) := by decide +kernel
theorem dX6_doubles_84 : decode cX6_doubles 84 = .ok (.iconst 1, 1) := by decide +kernel
theorem dX6_doubles_85 : decode cX6_doubles 85 = .ok (.goto 4, 3) := by decide +kernel
theorem dX6_doubles_88 : decode cX6_doubles 88 = .ok (.iconst 0, 1) := by decide +kernel
theorem dX6_doubles_89 : decode cX6_doubles 89 = .ok (.istore 6, 2) := by decide +kernel
theorem dX6_doubles_91 : decode cX6_doubles 91 = .ok (.iload 6, 2) := by decide +kernel
theorem dX6_doubles_93 : decode cX6_doubles 93 = .ok (.ifCond .eq 20, 3) := by decide +kernel
theorem dX6_doubles_96 : decode cX6_doubles 96 = .ok (.iload_n 3, 1) := by decide +kernel
theorem dX6_doubles_97 : decode cX6_doubles 97 = .ok (.ldc 194, 2) := by decide +kernel
theorem dX6_doubles_99 : decode cX6_doubles 99 = .ok (.if_icmp .ne 14, 3) := by decide +kernel
theorem dX6_doubles_102 : decode cX6_doubles 102 = .ok (.bipush 10, 2) := by decide +kernel
theorem dX6_doubles_104 : decode cX6_doubles 104 = .ok (.iload 4, 2) := by decide +kernel
theorem dX6_doubles_106 : decode cX6_doubles 106 = .ok (.imul, 1) := by decide +kernel
theorem dX6_doubles_107 : decode cX6_doubles 107 = .ok (.iload 5, 2) := by decide +kernel
theorem dX6_doubles_109 : decode cX6_doubles 109 = .ok (.iadd, 1) := by decide +kernel
theorem dX6_doubles_110 : decode cX6_doubles 110 = .ok (.goto 4, 3) := by decide +kernel
theorem dX6_doubles_113 : decode cX6_doubles 113 = .ok (.iload_n 3, 1) := by decide +kernel
theorem dX6_doubles_114 : decode cX6_doubles 114 = .ok (.istore_n 3, 1) := by decide +kernel
