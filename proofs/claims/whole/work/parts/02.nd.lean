set_option maxRecDepth 20000 in
theorem ggX0_init_X2_init : GoodIn wsX0_init wsX2_init := goodIn_r _ [9, 10, 2, 3, 11, 12, 13, 14, 15, 16, 20, 21, 22, 23, 24, 25, 26, 27, 28, 29, 30] (by decide +kernel) (by decide +kernel)
set_option maxRecDepth 20000 in
theorem gX0_init_X2_init_n17 : GoodIn wsX0_init (wsX2_init) := ggX0_init_X2_init
theorem dX0_init_0 : decode cX0_init 0 = .ok (.aload_n 0, 1) := by decide +kernel
theorem dX0_init_1 : decode cX0_init 1 = .ok (.invokespecial 3, 3) := by decide +kernel
theorem dX0_init_4 : decode cX0_init 4 = .ok (.aload_n 0, 1) := by decide +kernel
theorem dX0_init_5 : decode cX0_init 5 = .ok (.bipush 24, 2) := by decide +kernel
theorem dX0_init_7 : decode cX0_init 7 = .ok (.anewarray 9, 3) := by decide +kernel
theorem dX0_init_10 : decode cX0_init 10 = .ok (.putfield 11, 3) := by decide +kernel
theorem dX0_init_13 : decode cX0_init 13 = .ok (.iconst 0, 1) := by decide +kernel
theorem dX0_init_14 : decode cX0_init 14 = .ok (.istore_n 1, 1) := by decide +kernel
theorem dX0_init_15 : decode cX0_init 15 = .ok (.iload_n 1, 1) := by decide +kernel
theorem dX0_init_16 : decode cX0_init 16 = .ok (.bipush 24, 2) := by decide +kernel
theorem dX0_init_18 : decode cX0_init 18 = .ok (.if_icmp .ge 22, 3) := by decide +kernel
theorem dX0_init_21 : decode cX0_init 21 = .ok (.aload_n 0, 1) := by decide +kernel
theorem dX0_init_22 : decode cX0_init 22 = .ok (.getfield 11, 3) := by decide +kernel
theorem dX0_init_25 : decode cX0_init 25 = .ok (.iload_n 1, 1) := by decide +kernel
theorem dX0_init_26 : decode cX0_init 26 = .ok (.new 9, 3) := by decide +kernel
theorem dX0_init_29 : decode cX0_init 29 = .ok (.dup, 1) := by decide +kernel
theorem dX0_init_30 : decode cX0_init 30 = .ok (.invokespecial 17, 3) := by decide +kernel
theorem dX0_init_33 : decode cX0_init 33 = .ok (.aastore, 1) := by decide +kernel
theorem dX0_init_34 : decode cX0_init 34 = .ok (.iinc 1 1, 3) := by decide +kernel
theorem dX0_init_37 : decode cX0_init 37 = .ok (.goto (-22), 3) := by decide +kernel
theorem dX0_init_40 : decode cX0_init 40 = .ok (.return_, 1) := by decide +kernel
set_option maxRecDepth 20000 in
theorem ggX0_keep_X2_become : GoodIn wsX0_keep wsX2_become := goodIn_r _ [12, 13, 14, 15, 16, 17, 18, 19, 20, 21, 22, 23, 27, 28, 29, 30, 31, 32, 33, 34, 35, 36, 37] (by decide +kernel) (by decide +kernel)
set_option maxRecDepth 20000 in
theorem gX0_keep_X2_become : GoodIn wsX0_keep (wsV RX0 22 RX2 yX2_become wsX2_become) := goodIn_app (goodIn_of _ (by decide +kernel)) ggX0_keep_X2_become
theorem dX0_keep_0 : decode cX0_keep 0 = .ok (.aload_n 0, 1) := by decide +kernel
theorem dX0_keep_1 : decode cX0_keep 1 = .ok (.getfield 11, 3) := by decide +kernel
theorem dX0_keep_4 : decode cX0_keep 4 = .ok (.aload_n 0, 1) := by decide +kernel
theorem dX0_keep_5 : decode cX0_keep 5 = .ok (.getfield 18, 3) := by decide +kernel
theorem dX0_keep_8 : decode cX0_keep 8 = .ok (.aaload, 1) := by decide +kernel
theorem dX0_keep_9 : decode cX0_keep 9 = .ok (.aload_n 1, 1) := by decide +kernel
theorem dX0_keep_10 : decode cX0_keep 10 = .ok (.invokevirtual 22, 3) := by decide +kernel
theorem dX0_keep_13 : decode cX0_keep 13 = .ok (.aload_n 0, 1) := by decide +kernel
theorem dX0_keep_14 : decode cX0_keep 14 = .ok (.aload_n 0, 1) := by decide +kernel
theorem dX0_keep_15 : decode cX0_keep 15 = .ok (.getfield 18, 3) := by decide +kernel
theorem dX0_keep_18 : decode cX0_keep 18 = .ok (.bipush 23, 2) := by decide +kernel
theorem dX0_keep_20 : decode cX0_keep 20 = .ok (.if_icmp .ge 12, 3) := by decide +kernel
theorem dX0_keep_23 : decode cX0_keep 23 = .ok (.aload_n 0, 1) := by decide +kernel
theorem dX0_keep_24 : decode cX0_keep 24 = .ok (.getfield 18, 3) := by decide +kernel
theorem dX0_keep_27 : decode cX0_keep 27 = .ok (.iconst 1, 1) := by decide +kernel
theorem dX0_keep_28 : decode cX0_keep 28 = .ok (.iadd, 1) := by decide +kernel
theorem dX0_keep_29 : decode cX0_keep 29 = .ok (.goto 4, 3) := by decide +kernel
theorem dX0_keep_32 : decode cX0_keep 32 = .ok (.iconst 0, 1) := by decide +kernel
theorem dX0_keep_33 : decode cX0_keep 33 = .ok (.putfield 18, 3) := by decide +kernel
theorem dX0_keep_36 : decode cX0_keep 36 = .ok (.aload_n 0, 1) := by decide +kernel
theorem dX0_keep_37 : decode cX0_keep 37 = .ok (.bipush 24, 2) := by decide +kernel
theorem dX0_keep_39 : decode cX0_keep 39 = .ok (.aload_n 0, 1) := by decide +kernel
theorem dX0_keep_40 : decode cX0_keep 40 = .ok (.getfield 26, 3) := by decide +kernel
theorem dX0_keep_43 : decode cX0_keep 43 = .ok (.iconst 1, 1) := by decide +kernel
theorem dX0_keep_44 : decode cX0_keep 44 = .ok (.iadd, 1) := by decide +kernel
theorem dX0_keep_45 : decode cX0_keep 45 = .ok (.invokestatic 29, 3) := by decide +kernel
theorem dX0_keep_48 : decode cX0_keep 48 = .ok (.putfield 26, 3) := by decide +kernel
theorem dX0_keep_51 : decode cX0_keep 51 = .ok (.return_, 1) := by decide +kernel
set_option maxRecDepth 20000 in
theorem ggX0_takeBack_X2_become : GoodIn wsX0_takeBack wsX2_become := goodIn_r _ [8, 9, 10, 11, 12, 13, 14, 15, 16, 17, 18, 19, 23, 24, 25, 26, 27, 28, 29, 30, 31, 32, 33] (by decide +kernel) (by decide +kernel)
set_option maxRecDepth 20000 in
theorem gX0_takeBack_X2_become : GoodIn wsX0_takeBack (wsV RX0 22 RX2 yX2_become wsX2_become) := goodIn_app (goodIn_of _ (by decide +kernel)) ggX0_takeBack_X2_become
theorem dX0_takeBack_0 : decode cX0_takeBack 0 = .ok (.aload_n 0, 1) := by decide +kernel
theorem dX0_takeBack_1 : decode cX0_takeBack 1 = .ok (.getfield 26, 3) := by decide +kernel
theorem dX0_takeBack_4 : decode cX0_takeBack 4 = .ok (.ifCond .ne 5, 3) := by decide +kernel
theorem dX0_takeBack_7 : decode cX0_takeBack 7 = .ok (.iconst 0, 1) := by decide +kernel
theorem dX0_takeBack_8 : decode cX0_takeBack 8 = .ok (.ireturn, 1) := by decide +kernel
theorem dX0_takeBack_9 : decode cX0_takeBack 9 = .ok (.aload_n 0, 1) := by decide +kernel
theorem dX0_takeBack_10 : decode cX0_takeBack 10 = .ok (.aload_n 0, 1) := by decide +kernel
theorem dX0_takeBack_11 : decode cX0_takeBack 11 = .ok (.getfield 18, 3) := by decide +kernel
theorem dX0_takeBack_14 : decode cX0_takeBack 14 = .ok (.ifCond .le 12, 3) := by decide +kernel
theorem dX0_takeBack_17 : decode cX0_takeBack 17 = .ok (.aload_n 0, 1) := by decide +kernel
theorem dX0_takeBack_18 : decode cX0_takeBack 18 = .ok (.getfield 18, 3) := by decide +kernel
theorem dX0_takeBack_21 : decode cX0_takeBack 21 = .ok (.iconst 1, 1) := by decide +kernel
theorem dX0_takeBack_22 : decode cX0_takeBack 22 = .ok (.isub, 1) := by decide +kernel
theorem dX0_takeBack_23 : decode cX0_takeBack 23 = .ok (.goto 5, 3) := by decide +kernel
theorem dX0_takeBack_26 : decode cX0_takeBack 26 = .ok (.bipush 23, 2) := by decide +kernel
theorem dX0_takeBack_28 : decode cX0_takeBack 28 = .ok (.putfield 18, 3) := by decide +kernel
theorem dX0_takeBack_31 : decode cX0_takeBack 31 = .ok (.aload_n 0, 1) := by decide +kernel
theorem dX0_takeBack_32 : decode cX0_takeBack 32 = .ok (.dup, 1) := by decide +kernel
theorem dX0_takeBack_33 : decode cX0_takeBack 33 = .ok (.getfield 26, 3) := by decide +kernel
theorem dX0_takeBack_36 : decode cX0_takeBack 36 = .ok (.iconst 1, 1) := by decide +kernel
theorem dX0_takeBack_37 : decode cX0_takeBack 37 = .ok (.isub, 1) := by decide +kernel
theorem dX0_takeBack_38 : decode cX0_takeBack 38 = .ok (.putfield 26, 3) := by decide +kernel
theorem dX0_takeBack_41 : decode cX0_takeBack 41 = .ok (.aload_n 1, 1) := by decide +kernel
theorem dX0_takeBack_42 : decode cX0_takeBack 42 = .ok (.aload_n 0, 1) := by decide +kernel
theorem dX0_takeBack_43 : decode cX0_takeBack 43 = .ok (.getfield 11, 3) := by decide +kernel
theorem dX0_takeBack_46 : decode cX0_takeBack 46 = .ok (.aload_n 0, 1) := by decide +kernel
theorem dX0_takeBack_47 : decode cX0_takeBack 47 = .ok (.getfield 18, 3) := by decide +kernel
theorem dX0_takeBack_50 : decode cX0_takeBack 50 = .ok (.aaload, 1) := by decide +kernel
theorem dX0_takeBack_51 : decode cX0_takeBack 51 = .ok (.invokevirtual 22, 3) := by decide +kernel
theorem dX0_takeBack_54 : decode cX0_takeBack 54 = .ok (.iconst 1, 1) := by decide +kernel
theorem dX0_takeBack_55 : decode cX0_takeBack 55 = .ok (.ireturn, 1) := by decide +kernel
theorem dX0_forget_0 : decode cX0_forget 0 = .ok (.aload_n 0, 1) := by decide +kernel
theorem dX0_forget_1 : decode cX0_forget 1 = .ok (.iconst 0, 1) := by decide +kernel
theorem dX0_forget_2 : decode cX0_forget 2 = .ok (.putfield 26, 3) := by decide +kernel
theorem dX0_forget_5 : decode cX0_forget 5 = .ok (.return_, 1) := by decide +kernel
theorem dX1_init_0 : decode cX1_init 0 = .ok (.aload_n 0, 1) := by decide +kernel
theorem dX1_init_1 : decode cX1_init 1 = .ok (.invokespecial 3, 3) := by decide +kernel
theorem dX1_init_4 : decode cX1_init 4 = .ok (.aload_n 0, 1) := by decide +kernel
theorem dX1_init_5 : decode cX1_init 5 = .ok (.bipush 16, 2) := by decide +kernel
theorem dX1_init_7 : decode cX1_init 7 = .ok (.newarray .int, 2) := by decide +kernel
theorem dX1_init_9 : decode cX1_init 9 = .ok (.putfield 9, 3) := by decide +kernel
theorem dX1_init_12 : decode cX1_init 12 = .ok (.return_, 1) := by decide +kernel
theorem dX1_ready_0 : decode cX1_ready 0 = .ok (.aload_n 0, 1) := by decide +kernel
theorem dX1_ready_1 : decode cX1_ready 1 = .ok (.iconst 0, 1) := by decide +kernel
theorem dX1_ready_2 : decode cX1_ready 2 = .ok (.putfield 15, 3) := by decide +kernel
theorem dX1_ready_5 : decode cX1_ready 5 = .ok (.aload_n 0, 1) := by decide +kernel
theorem dX1_ready_6 : decode cX1_ready 6 = .ok (.iload_n 2, 1) := by decide +kernel
theorem dX1_ready_7 : decode cX1_ready 7 = .ok (.putfield 19, 3) := by decide +kernel
theorem dX1_ready_10 : decode cX1_ready 10 = .ok (.aload_n 0, 1) := by decide +kernel
theorem dX1_ready_11 : decode cX1_ready 11 = .ok (.aload_n 1, 1) := by decide +kernel
theorem dX1_ready_12 : decode cX1_ready 12 = .ok (.getfield 22, 3) := by decide +kernel
theorem dX1_ready_15 : decode cX1_ready 15 = .ok (.iload_n 2, 1) := by decide +kernel
theorem dX1_ready_16 : decode cX1_ready 16 = .ok (.iaload, 1) := by decide +kernel
theorem dX1_ready_17 : decode cX1_ready 17 = .ok (.putfield 27, 3) := by decide +kernel
theorem dX1_ready_20 : decode cX1_ready 20 = .ok (.aload_n 0, 1) := by decide +kernel
theorem dX1_ready_21 : decode cX1_ready 21 = .ok (.aload_n 1, 1) := by decide +kernel
theorem dX1_ready_22 : decode cX1_ready 22 = .ok (.getfield 30, 3) := by decide +kernel
theorem dX1_ready_25 : decode cX1_ready 25 = .ok (.iload_n 2, 1) := by decide +kernel
theorem dX1_ready_26 : decode cX1_ready 26 = .ok (.iaload, 1) := by decide +kernel
theorem dX1_ready_27 : decode cX1_ready 27 = .ok (.putfield 33, 3) := by decide +kernel
theorem dX1_ready_30 : decode cX1_ready 30 = .ok (.aload_n 0, 1) := by decide +kernel
theorem dX1_ready_31 : decode cX1_ready 31 = .ok (.aload_n 1, 1) := by decide +kernel
theorem dX1_ready_32 : decode cX1_ready 32 = .ok (.getfield 36, 3) := by decide +kernel
theorem dX1_ready_35 : decode cX1_ready 35 = .ok (.iload_n 2, 1) := by decide +kernel
theorem dX1_ready_36 : decode cX1_ready 36 = .ok (.iaload, 1) := by decide +kernel
theorem dX1_ready_37 : decode cX1_ready 37 = .ok (.putfield 39, 3) := by decide +kernel
theorem dX1_ready_40 : decode cX1_ready 40 = .ok (.return_, 1) := by decide +kernel
theorem dX1_begin_0 : decode cX1_begin 0 = .ok (.aload_n 0, 1) := by decide +kernel
theorem dX1_begin_1 : decode cX1_begin 1 = .ok (.getfield 15, 3) := by decide +kernel
theorem dX1_begin_4 : decode cX1_begin 4 = .ok (.bipush 16, 2) := by decide +kernel
theorem dX1_begin_6 : decode cX1_begin 6 = .ok (.if_icmp .ge 23, 3) := by decide +kernel
theorem dX1_begin_9 : decode cX1_begin 9 = .ok (.aload_n 0, 1) := by decide +kernel
theorem dX1_begin_10 : decode cX1_begin 10 = .ok (.getfield 9, 3) := by decide +kernel
theorem dX1_begin_13 : decode cX1_begin 13 = .ok (.aload_n 0, 1) := by decide +kernel
theorem dX1_begin_14 : decode cX1_begin 14 = .ok (.getfield 15, 3) := by decide +kernel
theorem dX1_begin_17 : decode cX1_begin 17 = .ok (.iload_n 1, 1) := by decide +kernel
theorem dX1_begin_18 : decode cX1_begin 18 = .ok (.iastore, 1) := by decide +kernel
theorem dX1_begin_19 : decode cX1_begin 19 = .ok (.aload_n 0, 1) := by decide +kernel
theorem dX1_begin_20 : decode cX1_begin 20 = .ok (.dup, 1) := by decide +kernel
theorem dX1_begin_21 : decode cX1_begin 21 = .ok (.getfield 15, 3) := by decide +kernel
theorem dX1_begin_24 : decode cX1_begin 24 = .ok (.iconst 1, 1) := by decide +kernel
theorem dX1_begin_25 : decode cX1_begin 25 = .ok (.iadd, 1) := by decide +kernel
theorem dX1_begin_26 : decode cX1_begin 26 = .ok (.putfield 15, 3) := by decide +kernel
theorem dX1_begin_29 : decode cX1_begin 29 = .ok (.return_, 1) := by decide +kernel
set_option maxRecDepth 20000 in
theorem ggX1_sizeOfAny_X1_begin : GoodIn wsX1_sizeOfAny wsX1_begin := goodIn_r _ [6, 7, 8, 9, 10, 11, 12, 13, 14] (by decide +kernel) (by decide +kernel)
set_option maxRecDepth 20000 in
theorem gX1_sizeOfAny_X1_begin : GoodIn wsX1_sizeOfAny (wsV RX1 42 RX1 yX1_begin wsX1_begin) := goodIn_app (goodIn_of _ (by decide +kernel)) ggX1_sizeOfAny_X1_begin
theorem dX1_sizeOfAny_0 : decode cX1_sizeOfAny 0 = .ok (.aload_n 0, 1) := by decide +kernel
theorem dX1_sizeOfAny_1 : decode cX1_sizeOfAny 1 = .ok (.bipush 10, 2) := by decide +kernel
theorem dX1_sizeOfAny_3 : decode cX1_sizeOfAny 3 = .ok (.invokevirtual 42, 3) := by decide +kernel
theorem dX1_sizeOfAny_6 : decode cX1_sizeOfAny 6 = .ok (.aload_n 0, 1) := by decide +kernel
theorem dX1_sizeOfAny_7 : decode cX1_sizeOfAny 7 = .ok (.getfield 39, 3) := by decide +kernel
theorem dX1_sizeOfAny_10 : decode cX1_sizeOfAny 10 = .ok (.ireturn, 1) := by decide +kernel
set_option maxRecDepth 20000 in
theorem ggX1_sizeOfPen_X1_begin : GoodIn wsX1_sizeOfPen wsX1_begin := goodIn_r _ [6, 7, 8, 32, 33, 34, 35, 36, 37] (by decide +kernel) (by decide +kernel)
set_option maxRecDepth 20000 in
theorem gX1_sizeOfPen_X1_begin : GoodIn wsX1_sizeOfPen (wsV RX1 42 RX1 yX1_begin wsX1_begin) := goodIn_app (goodIn_of _ (by decide +kernel)) ggX1_sizeOfPen_X1_begin
set_option maxRecDepth 20000 in
theorem ggX1_sizeOfPen_X1_sizeOfAny : GoodIn wsX1_sizeOfPen wsX1_sizeOfAny := goodIn_r _ [12, 13, 2, 3, 4, 5, 6, 7, 8, 32, 33, 34, 35, 36, 37] (by decide +kernel) (by decide +kernel)
set_option maxRecDepth 20000 in
theorem gX1_sizeOfPen_X1_sizeOfAny : GoodIn wsX1_sizeOfPen (wsV RX1 46 RX1 yX1_sizeOfAny wsX1_sizeOfAny) := goodIn_app (goodIn_of _ (by decide +kernel)) ggX1_sizeOfPen_X1_sizeOfAny
set_option maxRecDepth 20000 in
theorem ggX1_sizeOfPen_X1_markOfCob : GoodIn wsX1_sizeOfPen wsX1_markOfCob := goodIn_r _ [17, 2, 3, 4, 5, 6, 7, 8, 18, 19, 20, 21, 22, 23, 24, 25, 26, 27, 32, 33, 34, 35, 36, 37] (by decide +kernel) (by decide +kernel)
set_option maxRecDepth 20000 in
theorem gX1_sizeOfPen_X1_markOfCob : GoodIn wsX1_sizeOfPen (wsV RX1 50 RX1 yX1_markOfCob wsX1_markOfCob) := goodIn_app (goodIn_of _ (by decide +kernel)) ggX1_sizeOfPen_X1_markOfCob
set_option maxRecDepth 20000 in
theorem ggX1_sizeOfPen_X1_markOfCygnet : GoodIn wsX1_sizeOfPen wsX1_markOfCygnet := goodIn_r _ [31, 2, 3, 4, 5, 6, 7, 8, 18, 19, 20, 21, 22, 23, 24, 25, 26, 27, 32, 33, 34, 35, 36, 37] (by decide +kernel) (by decide +kernel)
set_option maxRecDepth 20000 in
theorem gX1_sizeOfPen_X1_markOfCygnet : GoodIn wsX1_sizeOfPen (wsV RX1 53 RX1 yX1_markOfCygnet wsX1_markOfCygnet) := goodIn_app (goodIn_of _ (by decide +kernel)) ggX1_sizeOfPen_X1_markOfCygnet
set_option maxRecDepth 20000 in
theorem ggX1_sizeOfPen_X1_markOfPen : GoodIn wsX1_sizeOfPen wsX1_markOfPen := goodIn_r _ [21, 22, 2, 3, 4, 5, 6, 7, 8, 23, 24, 25, 26, 27, 32, 33, 34, 35, 36, 37] (by decide +kernel) (by decide +kernel)
set_option maxRecDepth 20000 in
theorem gX1_sizeOfPen_X1_markOfPen : GoodIn wsX1_sizeOfPen (wsV RX1 56 RX1 yX1_markOfPen wsX1_markOfPen) := goodIn_app (goodIn_of _ (by decide +kernel)) ggX1_sizeOfPen_X1_markOfPen
theorem dX1_sizeOfPen_0 : decode cX1_sizeOfPen 0 = .ok (.aload_n 0, 1) := by decide +kernel
theorem dX1_sizeOfPen_1 : decode cX1_sizeOfPen 1 = .ok (.bipush 11, 2) := by decide +kernel
theorem dX1_sizeOfPen_3 : decode cX1_sizeOfPen 3 = .ok (.invokevirtual 42, 3) := by decide +kernel
theorem dX1_sizeOfPen_6 : decode cX1_sizeOfPen 6 = .ok (.aload_n 0, 1) := by decide +kernel
theorem dX1_sizeOfPen_7 : decode cX1_sizeOfPen 7 = .ok (.invokevirtual 46, 3) := by decide +kernel
theorem dX1_sizeOfPen_10 : decode cX1_sizeOfPen 10 = .ok (.istore_n 1, 1) := by decide +kernel
theorem dX1_sizeOfPen_11 : decode cX1_sizeOfPen 11 = .ok (.aload_n 0, 1) := by decide +kernel
theorem dX1_sizeOfPen_12 : decode cX1_sizeOfPen 12 = .ok (.getfield 27, 3) := by decide +kernel
theorem dX1_sizeOfPen_15 : decode cX1_sizeOfPen 15 = .ok (.lookupswitch 39 #[(2, 25), (3, 32)], 25) := by decide +kernel
theorem dX1_sizeOfPen_40 : decode cX1_sizeOfPen 40 = .ok (.iload_n 1, 1) := by decide +kernel
theorem dX1_sizeOfPen_41 : decode cX1_sizeOfPen 41 = .ok (.aload_n 0, 1) := by decide +kernel
theorem dX1_sizeOfPen_42 : decode cX1_sizeOfPen 42 = .ok (.invokevirtual 50, 3) := by decide +kernel
theorem dX1_sizeOfPen_45 : decode cX1_sizeOfPen 45 = .ok (.iadd, 1) := by decide +kernel
theorem dX1_sizeOfPen_46 : decode cX1_sizeOfPen 46 = .ok (.ireturn, 1) := by decide +kernel
theorem dX1_sizeOfPen_47 : decode cX1_sizeOfPen 47 = .ok (.iload_n 1, 1) := by decide +kernel
theorem dX1_sizeOfPen_48 : decode cX1_sizeOfPen 48 = .ok (.aload_n 0, 1) := by decide +kernel
theorem dX1_sizeOfPen_49 : decode cX1_sizeOfPen 49 = .ok (.invokevirtual 53, 3) := by decide +kernel
theorem dX1_sizeOfPen_52 : decode cX1_sizeOfPen 52 = .ok (.iadd, 1) := by decide +kernel
theorem dX1_sizeOfPen_53 : decode cX1_sizeOfPen 53 = .ok (.ireturn, 1) := by decide +kernel
theorem dX1_sizeOfPen_54 : decode cX1_sizeOfPen 54 = .ok (.iload_n 1, 1) := by decide +kernel
theorem dX1_sizeOfPen_55 : decode cX1_sizeOfPen 55 = .ok (.aload_n 0, 1) := by decide +kernel
theorem dX1_sizeOfPen_56 : decode cX1_sizeOfPen 56 = .ok (.invokevirtual 56, 3) := by decide +kernel
theorem dX1_sizeOfPen_59 : decode cX1_sizeOfPen 59 = .ok (.iadd, 1) := by decide +kernel
theorem dX1_sizeOfPen_60 : decode cX1_sizeOfPen 60 = .ok (.ireturn, 1) := by decide +kernel
set_option maxRecDepth 20000 in
theorem ggX1_sizeOfCob_X1_begin : GoodIn wsX1_sizeOfCob wsX1_begin := goodIn_r _ [5, 6, 7, 36, 37, 38, 39, 40, 41] (by decide +kernel) (by decide +kernel)
set_option maxRecDepth 20000 in
theorem gX1_sizeOfCob_X1_begin : GoodIn wsX1_sizeOfCob (wsV RX1 42 RX1 yX1_begin wsX1_begin) := goodIn_app (goodIn_of _ (by decide +kernel)) ggX1_sizeOfCob_X1_begin
set_option maxRecDepth 20000 in
theorem ggX1_sizeOfCob_X1_sizeOfPen : GoodIn wsX1_sizeOfCob wsX1_sizeOfPen := goodIn_r _ [11, 12, 1, 2, 3, 4, 5, 6, 7, 13, 14, 15, 16, 17, 18, 19, 20, 21, 22, 23, 24, 25, 26, 27, 28, 29, 30, 31, 32, 33, 34, 35, 36, 37, 38, 39, 40, 41] (by decide +kernel) (by decide +kernel)
set_option maxRecDepth 20000 in
theorem gX1_sizeOfCob_X1_sizeOfPen : GoodIn wsX1_sizeOfCob (wsV RX1 59 RX1 yX1_sizeOfPen wsX1_sizeOfPen) := goodIn_app (goodIn_of _ (by decide +kernel)) ggX1_sizeOfCob_X1_sizeOfPen
theorem dX1_sizeOfCob_0 : decode cX1_sizeOfCob 0 = .ok (.aload_n 0, 1) := by decide +kernel
theorem dX1_sizeOfCob_1 : decode cX1_sizeOfCob 1 = .ok (.bipush 12, 2) := by decide +kernel
theorem dX1_sizeOfCob_3 : decode cX1_sizeOfCob 3 = .ok (.invokevirtual 42, 3) := by decide +kernel
theorem dX1_sizeOfCob_6 : decode cX1_sizeOfCob 6 = .ok (.aload_n 0, 1) := by decide +kernel
theorem dX1_sizeOfCob_7 : decode cX1_sizeOfCob 7 = .ok (.invokevirtual 59, 3) := by decide +kernel
theorem dX1_sizeOfCob_10 : decode cX1_sizeOfCob 10 = .ok (.ineg, 1) := by decide +kernel
theorem dX1_sizeOfCob_11 : decode cX1_sizeOfCob 11 = .ok (.ireturn, 1) := by decide +kernel
set_option maxRecDepth 20000 in
theorem ggX1_sizeOfOld_X1_begin : GoodIn wsX1_sizeOfOld wsX1_begin := goodIn_r _ [5, 6, 7, 13, 14, 15, 16, 17, 18] (by decide +kernel) (by decide +kernel)
set_option maxRecDepth 20000 in
theorem gX1_sizeOfOld_X1_begin : GoodIn wsX1_sizeOfOld (wsV RX1 42 RX1 yX1_begin wsX1_begin) := goodIn_app (goodIn_of _ (by decide +kernel)) ggX1_sizeOfOld_X1_begin
set_option maxRecDepth 20000 in
theorem ggX1_sizeOfOld_X1_sizeOfAny : GoodIn wsX1_sizeOfOld wsX1_sizeOfAny := goodIn_r _ [11, 12, 1, 2, 3, 4, 5, 6, 7, 13, 14, 15, 16, 17, 18] (by decide +kernel) (by decide +kernel)
set_option maxRecDepth 20000 in
theorem gX1_sizeOfOld_X1_sizeOfAny : GoodIn wsX1_sizeOfOld (wsV RX1 46 RX1 yX1_sizeOfAny wsX1_sizeOfAny) := goodIn_app (goodIn_of _ (by decide +kernel)) ggX1_sizeOfOld_X1_sizeOfAny
theorem dX1_sizeOfOld_0 : decode cX1_sizeOfOld 0 = .ok (.aload_n 0, 1) := by decide +kernel
theorem dX1_sizeOfOld_1 : decode cX1_sizeOfOld 1 = .ok (.bipush 13, 2) := by decide +kernel
theorem dX1_sizeOfOld_3 : decode cX1_sizeOfOld 3 = .ok (.invokevirtual 42, 3) := by decide +kernel
theorem dX1_sizeOfOld_6 : decode cX1_sizeOfOld 6 = .ok (.aload_n 0, 1) := by decide +kernel
theorem dX1_sizeOfOld_7 : decode cX1_sizeOfOld 7 = .ok (.invokevirtual 46, 3) := by decide +kernel
theorem dX1_sizeOfOld_10 : decode cX1_sizeOfOld 10 = .ok (.bipush 100, 2) := by decide +kernel
theorem dX1_sizeOfOld_12 : decode cX1_sizeOfOld 12 = .ok (.isub, 1) := by decide +kernel
theorem dX1_sizeOfOld_13 : decode cX1_sizeOfOld 13 = .ok (.ireturn, 1) := by decide +kernel
set_option maxRecDepth 20000 in
theorem ggX1_sizeOfBlack_X1_begin : GoodIn wsX1_sizeOfBlack wsX1_begin := goodIn_r _ [5, 6, 7, 17, 18, 19, 20, 21, 22] (by decide +kernel) (by decide +kernel)
set_option maxRecDepth 20000 in
theorem gX1_sizeOfBlack_X1_begin : GoodIn wsX1_sizeOfBlack (wsV RX1 42 RX1 yX1_begin wsX1_begin) := goodIn_app (goodIn_of _ (by decide +kernel)) ggX1_sizeOfBlack_X1_begin
set_option maxRecDepth 20000 in
theorem ggX1_sizeOfBlack_X1_sizeOfOld : GoodIn wsX1_sizeOfBlack wsX1_sizeOfOld := goodIn_r _ [11, 1, 2, 3, 4, 5, 6, 7, 12, 13, 14, 15, 16, 17, 18, 19, 20, 21, 22] (by decide +kernel) (by decide +kernel)
set_option maxRecDepth 20000 in
theorem gX1_sizeOfBlack_X1_sizeOfOld : GoodIn wsX1_sizeOfBlack (wsV RX1 62 RX1 yX1_sizeOfOld wsX1_sizeOfOld) := goodIn_app (goodIn_of _ (by decide +kernel)) ggX1_sizeOfBlack_X1_sizeOfOld
theorem dX1_sizeOfBlack_0 : decode cX1_sizeOfBlack 0 = .ok (.aload_n 0, 1) := by decide +kernel
theorem dX1_sizeOfBlack_1 : decode cX1_sizeOfBlack 1 = .ok (.bipush 14, 2) := by decide +kernel
theorem dX1_sizeOfBlack_3 : decode cX1_sizeOfBlack 3 = .ok (.invokevirtual 42, 3) := by decide +kernel
theorem dX1_sizeOfBlack_6 : decode cX1_sizeOfBlack 6 = .ok (.iconst 2, 1) := by decide +kernel
theorem dX1_sizeOfBlack_7 : decode cX1_sizeOfBlack 7 = .ok (.aload_n 0, 1) := by decide +kernel
theorem dX1_sizeOfBlack_8 : decode cX1_sizeOfBlack 8 = .ok (.invokevirtual 62, 3) := by decide +kernel
theorem dX1_sizeOfBlack_11 : decode cX1_sizeOfBlack 11 = .ok (.imul, 1) := by decide +kernel
theorem dX1_sizeOfBlack_12 : decode cX1_sizeOfBlack 12 = .ok (.ireturn, 1) := by decide +kernel
set_option maxRecDepth 20000 in
theorem ggX1_markOfAny_X1_begin : GoodIn wsX1_markOfAny wsX1_begin := goodIn_r _ [6, 7, 8, 9, 10, 11, 12, 13, 14] (by decide +kernel) (by decide +kernel)
set_option maxRecDepth 20000 in
theorem gX1_markOfAny_X1_begin : GoodIn wsX1_markOfAny (wsV RX1 42 RX1 yX1_begin wsX1_begin) := goodIn_app (goodIn_of _ (by decide +kernel)) ggX1_markOfAny_X1_begin
theorem dX1_markOfAny_0 : decode cX1_markOfAny 0 = .ok (.aload_n 0, 1) := by decide +kernel
theorem dX1_markOfAny_1 : decode cX1_markOfAny 1 = .ok (.bipush 20, 2) := by decide +kernel
theorem dX1_markOfAny_3 : decode cX1_markOfAny 3 = .ok (.invokevirtual 42, 3) := by decide +kernel
theorem dX1_markOfAny_6 : decode cX1_markOfAny 6 = .ok (.aload_n 0, 1) := by decide +kernel
theorem dX1_markOfAny_7 : decode cX1_markOfAny 7 = .ok (.getfield 19, 3) := by decide +kernel
theorem dX1_markOfAny_10 : decode cX1_markOfAny 10 = .ok (.ireturn, 1) := by decide +kernel
set_option maxRecDepth 20000 in
theorem ggX1_markOfPen_X1_begin : GoodIn wsX1_markOfPen wsX1_begin := goodIn_r _ [6, 7, 8, 14, 15, 16, 17, 18, 19] (by decide +kernel) (by decide +kernel)
set_option maxRecDepth 20000 in
theorem gX1_markOfPen_X1_begin : GoodIn wsX1_markOfPen (wsV RX1 42 RX1 yX1_begin wsX1_begin) := goodIn_app (goodIn_of _ (by decide +kernel)) ggX1_markOfPen_X1_begin
set_option maxRecDepth 20000 in
theorem ggX1_markOfPen_X1_markOfAny : GoodIn wsX1_markOfPen wsX1_markOfAny := goodIn_r _ [12, 13, 2, 3, 4, 5, 6, 7, 8, 14, 15, 16, 17, 18, 19] (by decide +kernel) (by decide +kernel)
set_option maxRecDepth 20000 in
theorem gX1_markOfPen_X1_markOfAny : GoodIn wsX1_markOfPen (wsV RX1 65 RX1 yX1_markOfAny wsX1_markOfAny) := goodIn_app (goodIn_of _ (by decide +kernel)) ggX1_markOfPen_X1_markOfAny
theorem dX1_markOfPen_0 : decode cX1_markOfPen 0 = .ok (.aload_n 0, 1) := by decide +kernel
theorem dX1_markOfPen_1 : decode cX1_markOfPen 1 = .ok (.bipush 21, 2) := by decide +kernel
theorem dX1_markOfPen_3 : decode cX1_markOfPen 3 = .ok (.invokevirtual 42, 3) := by decide +kernel
theorem dX1_markOfPen_6 : decode cX1_markOfPen 6 = .ok (.aload_n 0, 1) := by decide +kernel
theorem dX1_markOfPen_7 : decode cX1_markOfPen 7 = .ok (.invokevirtual 65, 3) := by decide +kernel
theorem dX1_markOfPen_10 : decode cX1_markOfPen 10 = .ok (.aload_n 0, 1) := by decide +kernel
theorem dX1_markOfPen_11 : decode cX1_markOfPen 11 = .ok (.getfield 33, 3) := by decide +kernel
theorem dX1_markOfPen_14 : decode cX1_markOfPen 14 = .ok (.iadd, 1) := by decide +kernel
theorem dX1_markOfPen_15 : decode cX1_markOfPen 15 = .ok (.ireturn, 1) := by decide +kernel
set_option maxRecDepth 20000 in
theorem ggX1_markOfCygnet_X1_begin : GoodIn wsX1_markOfCygnet wsX1_begin := goodIn_r _ [5, 6, 7, 18, 19, 20, 21, 22, 23] (by decide +kernel) (by decide +kernel)
set_option maxRecDepth 20000 in
theorem gX1_markOfCygnet_X1_begin : GoodIn wsX1_markOfCygnet (wsV RX1 42 RX1 yX1_begin wsX1_begin) := goodIn_app (goodIn_of _ (by decide +kernel)) ggX1_markOfCygnet_X1_begin
set_option maxRecDepth 20000 in
theorem ggX1_markOfCygnet_X1_markOfPen : GoodIn wsX1_markOfCygnet wsX1_markOfPen := goodIn_r _ [11, 12, 1, 2, 3, 4, 5, 6, 7, 13, 14, 15, 16, 17, 18, 19, 20, 21, 22, 23] (by decide +kernel) (by decide +kernel)
set_option maxRecDepth 20000 in
theorem gX1_markOfCygnet_X1_markOfPen : GoodIn wsX1_markOfCygnet (wsV RX1 56 RX1 yX1_markOfPen wsX1_markOfPen) := goodIn_app (goodIn_of _ (by decide +kernel)) ggX1_markOfCygnet_X1_markOfPen
theorem dX1_markOfCygnet_0 : decode cX1_markOfCygnet 0 = .ok (.aload_n 0, 1) := by decide +kernel
theorem dX1_markOfCygnet_1 : decode cX1_markOfCygnet 1 = .ok (.bipush 22, 2) := by decide +kernel
theorem dX1_markOfCygnet_3 : decode cX1_markOfCygnet 3 = .ok (.invokevirtual 42, 3) := by decide +kernel
theorem dX1_markOfCygnet_6 : decode cX1_markOfCygnet 6 = .ok (.aload_n 0, 1) := by decide +kernel
theorem dX1_markOfCygnet_7 : decode cX1_markOfCygnet 7 = .ok (.invokevirtual 56, 3) := by decide +kernel
theorem dX1_markOfCygnet_10 : decode cX1_markOfCygnet 10 = .ok (.sipush 1000, 3) := by decide +kernel
theorem dX1_markOfCygnet_13 : decode cX1_markOfCygnet 13 = .ok (.isub, 1) := by decide +kernel
theorem dX1_markOfCygnet_14 : decode cX1_markOfCygnet 14 = .ok (.ireturn, 1) := by decide +kernel
set_option maxRecDepth 20000 in
theorem ggX1_markOfOld_X1_begin : GoodIn wsX1_markOfOld wsX1_begin := goodIn_r _ [6, 7, 8, 27, 28, 29, 30, 31, 32] (by decide +kernel) (by decide +kernel)
set_option maxRecDepth 20000 in
theorem gX1_markOfOld_X1_begin : GoodIn wsX1_markOfOld (wsV RX1 42 RX1 yX1_begin wsX1_begin) := goodIn_app (goodIn_of _ (by decide +kernel)) ggX1_markOfOld_X1_begin
set_option maxRecDepth 20000 in
theorem ggX1_markOfOld_X1_markOfAny : GoodIn wsX1_markOfOld wsX1_markOfAny := goodIn_r _ [12, 13, 2, 3, 4, 5, 6, 7, 8, 27, 28, 29, 30, 31, 32] (by decide +kernel) (by decide +kernel)
set_option maxRecDepth 20000 in
theorem gX1_markOfOld_X1_markOfAny : GoodIn wsX1_markOfOld (wsV RX1 65 RX1 yX1_markOfAny wsX1_markOfAny) := goodIn_app (goodIn_of _ (by decide +kernel)) ggX1_markOfOld_X1_markOfAny
set_option maxRecDepth 20000 in
theorem ggX1_markOfOld_X1_sizeOfBlack : GoodIn wsX1_markOfOld wsX1_sizeOfBlack := goodIn_r _ [17, 2, 3, 4, 5, 6, 7, 8, 18, 19, 20, 21, 22, 23, 24, 25, 26, 27, 28, 29, 30, 31, 32] (by decide +kernel) (by decide +kernel)
set_option maxRecDepth 20000 in
theorem gX1_markOfOld_X1_sizeOfBlack : GoodIn wsX1_markOfOld (wsV RX1 68 RX1 yX1_sizeOfBlack wsX1_sizeOfBlack) := goodIn_app (goodIn_of _ (by decide +kernel)) ggX1_markOfOld_X1_sizeOfBlack
set_option maxRecDepth 20000 in
theorem ggX1_markOfOld_X1_sizeOfOld : GoodIn wsX1_markOfOld wsX1_sizeOfOld := goodIn_r _ [21, 2, 3, 4, 5, 6, 7, 8, 22, 23, 24, 25, 26, 27, 28, 29, 30, 31, 32] (by decide +kernel) (by decide +kernel)
set_option maxRecDepth 20000 in
theorem gX1_markOfOld_X1_sizeOfOld : GoodIn wsX1_markOfOld (wsV RX1 62 RX1 yX1_sizeOfOld wsX1_sizeOfOld) := goodIn_app (goodIn_of _ (by decide +kernel)) ggX1_markOfOld_X1_sizeOfOld
theorem dX1_markOfOld_0 : decode cX1_markOfOld 0 = .ok (.aload_n 0, 1) := by decide +kernel
theorem dX1_markOfOld_1 : decode cX1_markOfOld 1 = .ok (.bipush 23, 2) := by decide +kernel
theorem dX1_markOfOld_3 : decode cX1_markOfOld 3 = .ok (.invokevirtual 42, 3) := by decide +kernel
theorem dX1_markOfOld_6 : decode cX1_markOfOld 6 = .ok (.aload_n 0, 1) := by decide +kernel
theorem dX1_markOfOld_7 : decode cX1_markOfOld 7 = .ok (.invokevirtual 65, 3) := by decide +kernel
theorem dX1_markOfOld_10 : decode cX1_markOfOld 10 = .ok (.istore_n 1, 1) := by decide +kernel
theorem dX1_markOfOld_11 : decode cX1_markOfOld 11 = .ok (.iload_n 1, 1) := by decide +kernel
theorem dX1_markOfOld_12 : decode cX1_markOfOld 12 = .ok (.aload_n 0, 1) := by decide +kernel
theorem dX1_markOfOld_13 : decode cX1_markOfOld 13 = .ok (.getfield 27, 3) := by decide +kernel
theorem dX1_markOfOld_16 : decode cX1_markOfOld 16 = .ok (.iconst 5, 1) := by decide +kernel
theorem dX1_markOfOld_17 : decode cX1_markOfOld 17 = .ok (.if_icmp .ne 10, 3) := by decide +kernel
theorem dX1_markOfOld_20 : decode cX1_markOfOld 20 = .ok (.aload_n 0, 1) := by decide +kernel
theorem dX1_markOfOld_21 : decode cX1_markOfOld 21 = .ok (.invokevirtual 68, 3) := by decide +kernel
theorem dX1_markOfOld_24 : decode cX1_markOfOld 24 = .ok (.goto 7, 3) := by decide +kernel
theorem dX1_markOfOld_27 : decode cX1_markOfOld 27 = .ok (.aload_n 0, 1) := by decide +kernel
theorem dX1_markOfOld_28 : decode cX1_markOfOld 28 = .ok (.invokevirtual 62, 3) := by decide +kernel
theorem dX1_markOfOld_31 : decode cX1_markOfOld 31 = .ok (.isub, 1) := by decide +kernel
theorem dX1_markOfOld_32 : decode cX1_markOfOld 32 = .ok (.ireturn, 1) := by decide +kernel
set_option maxRecDepth 20000 in
theorem ggX1_markOfCob_X1_begin : GoodIn wsX1_markOfCob wsX1_begin := goodIn_r _ [5, 6, 7, 18, 19, 20, 21, 22, 23] (by decide +kernel) (by decide +kernel)
set_option maxRecDepth 20000 in
theorem gX1_markOfCob_X1_begin : GoodIn wsX1_markOfCob (wsV RX1 42 RX1 yX1_begin wsX1_begin) := goodIn_app (goodIn_of _ (by decide +kernel)) ggX1_markOfCob_X1_begin
set_option maxRecDepth 20000 in
theorem ggX1_markOfCob_X1_markOfPen : GoodIn wsX1_markOfCob wsX1_markOfPen := goodIn_r _ [11, 12, 1, 2, 3, 4, 5, 6, 7, 13, 14, 15, 16, 17, 18, 19, 20, 21, 22, 23] (by decide +kernel) (by decide +kernel)
set_option maxRecDepth 20000 in
theorem gX1_markOfCob_X1_markOfPen : GoodIn wsX1_markOfCob (wsV RX1 56 RX1 yX1_markOfPen wsX1_markOfPen) := goodIn_app (goodIn_of _ (by decide +kernel)) ggX1_markOfCob_X1_markOfPen
theorem dX1_markOfCob_0 : decode cX1_markOfCob 0 = .ok (.aload_n 0, 1) := by decide +kernel
theorem dX1_markOfCob_1 : decode cX1_markOfCob 1 = .ok (.bipush 24, 2) := by decide +kernel
theorem dX1_markOfCob_3 : decode cX1_markOfCob 3 = .ok (.invokevirtual 42, 3) := by decide +kernel
theorem dX1_markOfCob_6 : decode cX1_markOfCob 6 = .ok (.iconst 2, 1) := by decide +kernel
theorem dX1_markOfCob_7 : decode cX1_markOfCob 7 = .ok (.aload_n 0, 1) := by decide +kernel
theorem dX1_markOfCob_8 : decode cX1_markOfCob 8 = .ok (.invokevirtual 56, 3) := by decide +kernel
theorem dX1_markOfCob_11 : decode cX1_markOfCob 11 = .ok (.imul, 1) := by decide +kernel
theorem dX1_markOfCob_12 : decode cX1_markOfCob 12 = .ok (.ireturn, 1) := by decide +kernel
theorem dX2_init_0 : decode cX2_init 0 = .ok (.aload_n 0, 1) := by decide +kernel
theorem dX2_init_1 : decode cX2_init 1 = .ok (.invokespecial 3, 3) := by decide +kernel
theorem dX2_init_4 : decode cX2_init 4 = .ok (.aload_n 0, 1) := by decide +kernel
theorem dX2_init_5 : decode cX2_init 5 = .ok (.bipush 9, 2) := by decide +kernel
theorem dX2_init_7 : decode cX2_init 7 = .ok (.newarray .int, 2) := by decide +kernel
theorem dX2_init_9 : decode cX2_init 9 = .ok (.putfield 9, 3) := by decide +kernel
theorem dX2_init_12 : decode cX2_init 12 = .ok (.aload_n 0, 1) := by decide +kernel
theorem dX2_init_13 : decode cX2_init 13 = .ok (.bipush 6, 2) := by decide +kernel
theorem dX2_init_15 : decode cX2_init 15 = .ok (.newarray .int, 2) := by decide +kernel
theorem dX2_init_17 : decode cX2_init 17 = .ok (.putfield 15, 3) := by decide +kernel
theorem dX2_init_20 : decode cX2_init 20 = .ok (.aload_n 0, 1) := by decide +kernel
theorem dX2_init_21 : decode cX2_init 21 = .ok (.bipush 6, 2) := by decide +kernel
theorem dX2_init_23 : decode cX2_init 23 = .ok (.newarray .int, 2) := by decide +kernel
theorem dX2_init_25 : decode cX2_init 25 = .ok (.putfield 18, 3) := by decide +kernel
theorem dX2_init_28 : decode cX2_init 28 = .ok (.aload_n 0, 1) := by decide +kernel
theorem dX2_init_29 : decode cX2_init 29 = .ok (.bipush 6, 2) := by decide +kernel
theorem dX2_init_31 : decode cX2_init 31 = .ok (.newarray .int, 2) := by decide +kernel
theorem dX2_init_33 : decode cX2_init 33 = .ok (.putfield 21, 3) := by decide +kernel
theorem dX2_init_36 : decode cX2_init 36 = .ok (.aload_n 0, 1) := by decide +kernel
theorem dX2_init_37 : decode cX2_init 37 = .ok (.bipush 6, 2) := by decide +kernel
theorem dX2_init_39 : decode cX2_init 39 = .ok (.newarray .int, 2) := by decide +kernel
theorem dX2_init_41 : decode cX2_init 41 = .ok (.putfield 24, 3) := by decide +kernel
theorem dX2_init_44 : decode cX2_init 44 = .ok (.return_, 1) := by decide +kernel
theorem dX2_begin_0 : decode cX2_begin 0 = .ok (.aload_n 0, 1) := by decide +kernel
theorem dX2_begin_1 : decode cX2_begin 1 = .ok (.iload_n 1, 1) := by decide +kernel
theorem dX2_begin_2 : decode cX2_begin 2 = .ok (.putfield 27, 3) := by decide +kernel
theorem dX2_begin_5 : decode cX2_begin 5 = .ok (.aload_n 0, 1) := by decide +kernel
theorem dX2_begin_6 : decode cX2_begin 6 = .ok (.iconst 0, 1) := by decide +kernel
theorem dX2_begin_7 : decode cX2_begin 7 = .ok (.putfield 31, 3) := by decide +kernel
theorem dX2_begin_10 : decode cX2_begin 10 = .ok (.aload_n 0, 1) := by decide +kernel
theorem dX2_begin_11 : decode cX2_begin 11 = .ok (.iconst 0, 1) := by decide +kernel
theorem dX2_begin_12 : decode cX2_begin 12 = .ok (.putfield 34, 3) := by decide +kernel
theorem dX2_begin_15 : decode cX2_begin 15 = .ok (.aload_n 0, 1) := by decide +kernel
theorem dX2_begin_16 : decode cX2_begin 16 = .ok (.iconst 0, 1) := by decide +kernel
theorem dX2_begin_17 : decode cX2_begin 17 = .ok (.putfield 37, 3) := by decide +kernel
theorem dX2_begin_20 : decode cX2_begin 20 = .ok (.iconst 0, 1) := by decide +kernel
theorem dX2_begin_21 : decode cX2_begin 21 = .ok (.istore_n 3, 1) := by decide +kernel
theorem dX2_begin_22 : decode cX2_begin 22 = .ok (.iload_n 3, 1) := by decide +kernel
theorem dX2_begin_23 : decode cX2_begin 23 = .ok (.bipush 9, 2) := by decide +kernel
theorem dX2_begin_25 : decode cX2_begin 25 = .ok (.if_icmp .ge 25, 3) := by decide +kernel
theorem dX2_begin_28 : decode cX2_begin 28 = .ok (.aload_n 0, 1) := by decide +kernel
theorem dX2_begin_29 : decode cX2_begin 29 = .ok (.getfield 9, 3) := by decide +kernel
theorem dX2_begin_32 : decode cX2_begin 32 = .ok (.iload_n 3, 1) := by decide +kernel
theorem dX2_begin_33 : decode cX2_begin 33 = .ok (.iload_n 3, 1) := by decide +kernel
theorem dX2_begin_34 : decode cX2_begin 34 = .ok (.iload_n 1, 1) := by decide +kernel
theorem dX2_begin_35 : decode cX2_begin 35 = .ok (.if_icmp .ge 7, 3) := by decide +kernel
theorem dX2_begin_38 : decode cX2_begin 38 = .ok (.iload_n 2, 1) := by decide +kernel
theorem dX2_begin_39 : decode cX2_begin 39 = .ok (.goto 4, 3) := by decide +kernel
theorem dX2_begin_42 : decode cX2_begin 42 = .ok (.iconst 0, 1) := by decide +kernel
theorem dX2_begin_43 : decode cX2_begin 43 = .ok (.iastore, 1) := by decide +kernel
theorem dX2_begin_44 : decode cX2_begin 44 = .ok (.iinc 3 1, 3) := by decide +kernel
theorem dX2_begin_47 : decode cX2_begin 47 = .ok (.goto (-25), 3) := by decide +kernel
theorem dX2_begin_50 : decode cX2_begin 50 = .ok (.return_, 1) := by decide +kernel
theorem dX2_become_0 : decode cX2_become 0 = .ok (.aload_n 0, 1) := by decide +kernel
theorem dX2_become_1 : decode cX2_become 1 = .ok (.aload_n 1, 1) := by decide +kernel
theorem dX2_become_2 : decode cX2_become 2 = .ok (.getfield 27, 3) := by decide +kernel
theorem dX2_become_5 : decode cX2_become 5 = .ok (.putfield 27, 3) := by decide +kernel
theorem dX2_become_8 : decode cX2_become 8 = .ok (.aload_n 0, 1) := by decide +kernel
theorem dX2_become_9 : decode cX2_become 9 = .ok (.aload_n 1, 1) := by decide +kernel
theorem dX2_become_10 : decode cX2_become 10 = .ok (.getfield 31, 3) := by decide +kernel
theorem dX2_become_13 : decode cX2_become 13 = .ok (.putfield 31, 3) := by decide +kernel
theorem dX2_become_16 : decode cX2_become 16 = .ok (.aload_n 0, 1) := by decide +kernel
theorem dX2_become_17 : decode cX2_become 17 = .ok (.aload_n 1, 1) := by decide +kernel
theorem dX2_become_18 : decode cX2_become 18 = .ok (.getfield 34, 3) := by decide +kernel
theorem dX2_become_21 : decode cX2_become 21 = .ok (.putfield 34, 3) := by decide +kernel
theorem dX2_become_24 : decode cX2_become 24 = .ok (.aload_n 0, 1) := by decide +kernel
theorem dX2_become_25 : decode cX2_become 25 = .ok (.aload_n 1, 1) := by decide +kernel
theorem dX2_become_26 : decode cX2_become 26 = .ok (.getfield 37, 3) := by decide +kernel
theorem dX2_become_29 : decode cX2_become 29 = .ok (.putfield 37, 3) := by decide +kernel
theorem dX2_become_32 : decode cX2_become 32 = .ok (.iconst 0, 1) := by decide +kernel
theorem dX2_become_33 : decode cX2_become 33 = .ok (.istore_n 2, 1) := by decide +kernel
theorem dX2_become_34 : decode cX2_become 34 = .ok (.iload_n 2, 1) := by decide +kernel
theorem dX2_become_35 : decode cX2_become 35 = .ok (.bipush 9, 2) := by decide +kernel
theorem dX2_become_37 : decode cX2_become 37 = .ok (.if_icmp .ge 21, 3) := by decide +kernel
theorem dX2_become_40 : decode cX2_become 40 = .ok (.aload_n 0, 1) := by decide +kernel
theorem dX2_become_41 : decode cX2_become 41 = .ok (.getfield 9, 3) := by decide +kernel
theorem dX2_become_44 : decode cX2_become 44 = .ok (.iload_n 2, 1) := by decide +kernel
theorem dX2_become_45 : decode cX2_become 45 = .ok (.aload_n 1, 1) := by decide +kernel
theorem dX2_become_46 : decode cX2_become 46 = .ok (.getfield 9, 3) := by decide +kernel
theorem dX2_become_49 : decode cX2_become 49 = .ok (.iload_n 2, 1) := by decide +kernel
theorem dX2_become_50 : decode cX2_become 50 = .ok (.iaload, 1) := by decide +kernel
theorem dX2_become_51 : decode cX2_become 51 = .ok (.iastore, 1) := by decide +kernel
theorem dX2_become_52 : decode cX2_become 52 = .ok (.iinc 2 1, 3) := by decide +kernel
theorem dX2_become_55 : decode cX2_become 55 = .ok (.goto (-21), 3) := by decide +kernel
theorem dX2_become_58 : decode cX2_become 58 = .ok (.iconst 0, 1) := by decide +kernel
theorem dX2_become_59 : decode cX2_become 59 = .ok (.istore_n 2, 1) := by decide +kernel
theorem dX2_become_60 : decode cX2_become 60 = .ok (.iload_n 2, 1) := by decide +kernel
theorem dX2_become_61 : decode cX2_become 61 = .ok (.bipush 6, 2) := by decide +kernel
theorem dX2_become_63 : decode cX2_become 63 = .ok (.if_icmp .ge 57, 3) := by decide +kernel
theorem dX2_become_66 : decode cX2_become 66 = .ok (.aload_n 0, 1) := by decide +kernel
theorem dX2_become_67 : decode cX2_become 67 = .ok (.getfield 15, 3) := by decide +kernel
theorem dX2_become_70 : decode cX2_become 70 = .ok (.iload_n 2, 1) := by decide +kernel
theorem dX2_become_71 : decode cX2_become 71 = .ok (.aload_n 1, 1) := by decide +kernel
theorem dX2_become_72 : decode cX2_become 72 = .ok (.getfield 15, 3) := by decide +kernel
theorem dX2_become_75 : decode cX2_become 75 = .ok (.iload_n 2, 1) := by decide +kernel
theorem dX2_become_76 : decode cX2_become 76 = .ok (.iaload, 1) := by decide +kernel
theorem dX2_become_77 : decode cX2_become 77 = .ok (.iastore, 1) := by decide +kernel
theorem dX2_become_78 : decode cX2_become 78 = .ok (.aload_n 0, 1) := by decide +kernel
theorem dX2_become_79 : decode cX2_become 79 = .ok (.getfield 18, 3) := by decide +kernel
theorem dX2_become_82 : decode cX2_become 82 = .ok (.iload_n 2, 1) := by decide +kernel
theorem dX2_become_83 : decode cX2_become 83 = .ok (.aload_n 1, 1) := by decide +kernel
theorem dX2_become_84 : decode cX2_become 84 = .ok (.getfield 18, 3) := by decide +kernel
theorem dX2_become_87 : decode cX2_become 87 = .ok (.iload_n 2, 1) := by decide +kernel
theorem dX2_become_88 : decode cX2_become 88 = .ok (.iaload, 1) := by decide +kernel
theorem dX2_become_89 : decode cX2_become 89 = .ok (.iastore, 1) := by decide +kernel
theorem dX2_become_90 : decode cX2_become 90 = .ok (.aload_n 0, 1) := by decide +kernel
theorem dX2_become_91 : decode cX2_become 91 = .ok (.getfield 21, 3) := by decide +kernel
theorem dX2_become_94 : decode cX2_become 94 = .ok (.iload_n 2, 1) := by decide +kernel
theorem dX2_become_95 : decode cX2_become 95 = .ok (.aload_n 1, 1) := by decide +kernel
theorem dX2_become_96 : decode cX2_become 96 = .ok (.getfield 21, 3) := by decide +kernel
theorem dX2_become_99 : decode cX2_become 99 = .ok (.iload_n 2, 1) := by decide +kernel
theorem dX2_become_100 : decode cX2_become 100 = .ok (.iaload, 1) := by decide +kernel
theorem dX2_become_101 : decode cX2_become 101 = .ok (.iastore, 1) := by decide +kernel
theorem dX2_become_102 : decode cX2_become 102 = .ok (.aload_n 0, 1) := by decide +kernel
theorem dX2_become_103 : decode cX2_become 103 = .ok (.getfield 24, 3) := by decide +kernel
theorem dX2_become_106 : decode cX2_become 106 = .ok (.iload_n 2, 1) := by decide +kernel
theorem dX2_become_107 : decode cX2_become 107 = .ok (.aload_n 1, 1) := by decide +kernel
theorem dX2_become_108 : decode cX2_become 108 = .ok (.getfield 24, 3) := by decide +kernel
theorem dX2_become_111 : decode cX2_become 111 = .ok (.iload_n 2, 1) := by decide +kernel
theorem dX2_become_112 : decode cX2_become 112 = .ok (.iaload, 1) := by decide +kernel
theorem dX2_become_113 : decode cX2_become 113 = .ok (.iastore, 1) := by decide +kernel
theorem dX2_become_114 : decode cX2_become 114 = .ok (.iinc 2 1, 3) := by decide +kernel
theorem dX2_become_117 : decode cX2_become 117 = .ok (.goto (-57), 3) := by decide +kernel
theorem dX2_become_120 : decode cX2_become 120 = .ok (.aload_n 0, 1) := by decide +kernel
theorem dX2_become_121 : decode cX2_become 121 = .ok (.iconst 0, 1) := by decide +kernel
theorem dX2_become_122 : decode cX2_become 122 = .ok (.putfield 40, 3) := by decide +kernel
theorem dX2_become_125 : decode cX2_become 125 = .ok (.aload_n 0, 1) := by decide +kernel
theorem dX2_become_126 : decode cX2_become 126 = .ok (.iconst 0, 1) := by decide +kernel
theorem dX2_become_127 : decode cX2_become 127 = .ok (.putfield 43, 3) := by decide +kernel
theorem dX2_become_130 : decode cX2_become 130 = .ok (.return_, 1) := by decide +kernel
theorem dX2_scatter_0 : decode cX2_scatter 0 = .ok (.aload_n 0, 1) := by decide +kernel
theorem dX2_scatter_1 : decode cX2_scatter 1 = .ok (.getfield 9, 3) := by decide +kernel
theorem dX2_scatter_4 : decode cX2_scatter 4 = .ok (.iload_n 1, 1) := by decide +kernel
theorem dX2_scatter_5 : decode cX2_scatter 5 = .ok (.bipush 99, 2) := by decide +kernel
theorem dX2_scatter_7 : decode cX2_scatter 7 = .ok (.aload_n 0, 1) := by decide +kernel
theorem dX2_scatter_8 : decode cX2_scatter 8 = .ok (.getfield 9, 3) := by decide +kernel
theorem dX2_scatter_11 : decode cX2_scatter 11 = .ok (.iload_n 1, 1) := by decide +kernel
theorem dX2_scatter_12 : decode cX2_scatter 12 = .ok (.iaload, 1) := by decide +kernel
theorem dX2_scatter_13 : decode cX2_scatter 13 = .ok (.iload_n 2, 1) := by decide +kernel
theorem dX2_scatter_14 : decode cX2_scatter 14 = .ok (.iadd, 1) := by decide +kernel
theorem dX2_scatter_15 : decode cX2_scatter 15 = .ok (.invokestatic 46, 3) := by decide +kernel
theorem dX2_scatter_18 : decode cX2_scatter 18 = .ok (.iastore, 1) := by decide +kernel
theorem dX2_scatter_19 : decode cX2_scatter 19 = .ok (.return_, 1) := by decide +kernel
set_option maxRecDepth 20000 in
theorem ggX2_passDays_X2_passDay : GoodIn wsX2_passDays wsX2_passDay := goodIn_r _ [5, 6, 7, 8, 9, 10, 11, 12, 13, 4, 14, 15, 16, 17, 18, 19, 20, 21, 22, 23, 24, 25, 26, 27, 28, 29, 30, 31, 32, 33, 34, 35, 36, 37, 38, 39, 40, 41, 42, 43, 44, 45, 46, 47, 48, 49, 50, 51, 52, 53, 54, 55, 56, 57, 58] (by decide +kernel) (by decide +kernel)
set_option maxRecDepth 20000 in
theorem gX2_passDays_X2_passDay : GoodIn wsX2_passDays (wsV RX2 52 RX2 yX2_passDay wsX2_passDay) := goodIn_app (goodIn_of _ (by decide +kernel)) ggX2_passDays_X2_passDay
theorem dX2_passDays_0 : decode cX2_passDays 0 = .ok (.iconst 0, 1) := by decide +kernel
theorem dX2_passDays_1 : decode cX2_passDays 1 = .ok (.istore_n 2, 1) := by decide +kernel
theorem dX2_passDays_2 : decode cX2_passDays 2 = .ok (.iload_n 2, 1) := by decide +kernel
theorem dX2_passDays_3 : decode cX2_passDays 3 = .ok (.iload_n 1, 1) := by decide +kernel
theorem dX2_passDays_4 : decode cX2_passDays 4 = .ok (.if_icmp .ge 13, 3) := by decide +kernel
theorem dX2_passDays_7 : decode cX2_passDays 7 = .ok (.aload_n 0, 1) := by decide +kernel
theorem dX2_passDays_8 : decode cX2_passDays 8 = .ok (.invokevirtual 52, 3) := by decide +kernel
theorem dX2_passDays_11 : decode cX2_passDays 11 = .ok (.iinc 2 1, 3) := by decide +kernel
theorem dX2_passDays_14 : decode cX2_passDays 14 = .ok (.goto (-12), 3) := by decide +kernel
theorem dX2_passDays_17 : decode cX2_passDays 17 = .ok (.return_, 1) := by decide +kernel
set_option maxRecDepth 20000 in
theorem ggX2_passDay_X2_goalOf : GoodIn wsX2_passDay wsX2_goalOf := goodIn_r _ [10, 2, 11, 3, 12, 13, 14, 9, 15, 16, 17, 18, 19, 20, 21, 22, 23, 24, 25, 26, 27, 28, 29, 30, 31, 32, 33, 1, 44, 45, 46, 47, 48, 49, 50, 51, 52, 53, 54] (by decide +kernel) (by decide +kernel)
set_option maxRecDepth 20000 in
theorem gX2_passDay_X2_goalOf : GoodIn wsX2_passDay (wsV RX2 55 RX2 yX2_goalOf wsX2_goalOf) := goodIn_app (goodIn_of _ (by decide +kernel)) ggX2_passDay_X2_goalOf
set_option maxRecDepth 20000 in
theorem ggX2_passDay_X2_sendBeatenDown : GoodIn wsX2_passDay wsX2_sendBeatenDown := goodIn_r _ [37, 1, 11, 2, 38, 39, 40, 41, 9, 42, 43, 12, 13, 14, 15, 16, 17, 44, 45, 46, 47, 48, 49, 50, 51, 52, 53, 54] (by decide +kernel) (by decide +kernel)
set_option maxRecDepth 20000 in
theorem gX2_passDay_X2_sendBeatenDown : GoodIn wsX2_passDay (wsV RX2 59 RX2 yX2_sendBeatenDown wsX2_sendBeatenDown) := goodIn_app (goodIn_of _ (by decide +kernel)) ggX2_passDay_X2_sendBeatenDown
theorem dX2_passDay_0 : decode cX2_passDay 0 = .ok (.iconst 0, 1) := by decide +kernel
theorem dX2_passDay_1 : decode cX2_passDay 1 = .ok (.istore_n 1, 1) := by decide +kernel
theorem dX2_passDay_2 : decode cX2_passDay 2 = .ok (.iload_n 1, 1) := by decide +kernel
theorem dX2_passDay_3 : decode cX2_passDay 3 = .ok (.aload_n 0, 1) := by decide +kernel
theorem dX2_passDay_4 : decode cX2_passDay 4 = .ok (.getfield 31, 3) := by decide +kernel
theorem dX2_passDay_7 : decode cX2_passDay 7 = .ok (.if_icmp .ge 53, 3) := by decide +kernel
theorem dX2_passDay_10 : decode cX2_passDay 10 = .ok (.aload_n 0, 1) := by decide +kernel
theorem dX2_passDay_11 : decode cX2_passDay 11 = .ok (.iload_n 1, 1) := by decide +kernel
theorem dX2_passDay_12 : decode cX2_passDay 12 = .ok (.invokevirtual 55, 3) := by decide +kernel
theorem dX2_passDay_15 : decode cX2_passDay 15 = .ok (.istore_n 2, 1) := by decide +kernel
theorem dX2_passDay_16 : decode cX2_passDay 16 = .ok (.aload_n 0, 1) := by decide +kernel
theorem dX2_passDay_17 : decode cX2_passDay 17 = .ok (.getfield 21, 3) := by decide +kernel
theorem dX2_passDay_20 : decode cX2_passDay 20 = .ok (.iload_n 1, 1) := by decide +kernel
theorem dX2_passDay_21 : decode cX2_passDay 21 = .ok (.iload_n 2, 1) := by decide +kernel
theorem dX2_passDay_22 : decode cX2_passDay 22 = .ok (.iastore, 1) := by decide +kernel
theorem dX2_passDay_23 : decode cX2_passDay 23 = .ok (.aload_n 0, 1) := by decide +kernel
theorem dX2_passDay_24 : decode cX2_passDay 24 = .ok (.getfield 9, 3) := by decide +kernel
theorem dX2_passDay_27 : decode cX2_passDay 27 = .ok (.iload_n 2, 1) := by decide +kernel
theorem dX2_passDay_28 : decode cX2_passDay 28 = .ok (.iaload, 1) := by decide +kernel
theorem dX2_passDay_29 : decode cX2_passDay 29 = .ok (.ifCond .le 25, 3) := by decide +kernel
theorem dX2_passDay_32 : decode cX2_passDay 32 = .ok (.aload_n 0, 1) := by decide +kernel
theorem dX2_passDay_33 : decode cX2_passDay 33 = .ok (.getfield 9, 3) := by decide +kernel
theorem dX2_passDay_36 : decode cX2_passDay 36 = .ok (.iload_n 2, 1) := by decide +kernel
theorem dX2_passDay_37 : decode cX2_passDay 37 = .ok (.dup2, 1) := by decide +kernel
theorem dX2_passDay_38 : decode cX2_passDay 38 = .ok (.iaload, 1) := by decide +kernel
theorem dX2_passDay_39 : decode cX2_passDay 39 = .ok (.iconst 1, 1) := by decide +kernel
theorem dX2_passDay_40 : decode cX2_passDay 40 = .ok (.isub, 1) := by decide +kernel
theorem dX2_passDay_41 : decode cX2_passDay 41 = .ok (.iastore, 1) := by decide +kernel
theorem dX2_passDay_42 : decode cX2_passDay 42 = .ok (.aload_n 0, 1) := by decide +kernel
theorem dX2_passDay_43 : decode cX2_passDay 43 = .ok (.dup, 1) := by decide +kernel
theorem dX2_passDay_44 : decode cX2_passDay 44 = .ok (.getfield 43, 3) := by decide +kernel
theorem dX2_passDay_47 : decode cX2_passDay 47 = .ok (.iconst 1, 1) := by decide +kernel
theorem dX2_passDay_48 : decode cX2_passDay 48 = .ok (.iload_n 1, 1) := by decide +kernel
theorem dX2_passDay_49 : decode cX2_passDay 49 = .ok (.ishl, 1) := by decide +kernel
theorem dX2_passDay_50 : decode cX2_passDay 50 = .ok (.ior, 1) := by decide +kernel
theorem dX2_passDay_51 : decode cX2_passDay 51 = .ok (.putfield 43, 3) := by decide +kernel
theorem dX2_passDay_54 : decode cX2_passDay 54 = .ok (.iinc 1 1, 3) := by decide +kernel
theorem dX2_passDay_57 : decode cX2_passDay 57 = .ok (.goto (-55), 3) := by decide +kernel
theorem dX2_passDay_60 : decode cX2_passDay 60 = .ok (.aload_n 0, 1) := by decide +kernel
theorem dX2_passDay_61 : decode cX2_passDay 61 = .ok (.invokevirtual 59, 3) := by decide +kernel
theorem dX2_passDay_64 : decode cX2_passDay 64 = .ok (.aload_n 0, 1) := by decide +kernel
theorem dX2_passDay_65 : decode cX2_passDay 65 = .ok (.dup, 1) := by decide +kernel
theorem dX2_passDay_66 : decode cX2_passDay 66 = .ok (.getfield 34, 3) := by decide +kernel
theorem dX2_passDay_69 : decode cX2_passDay 69 = .ok (.iconst 1, 1) := by decide +kernel
theorem dX2_passDay_70 : decode cX2_passDay 70 = .ok (.iadd, 1) := by decide +kernel
theorem dX2_passDay_71 : decode cX2_passDay 71 = .ok (.putfield 34, 3) := by decide +kernel
theorem dX2_passDay_74 : decode cX2_passDay 74 = .ok (.return_, 1) := by decide +kernel
set_option maxRecDepth 20000 in
theorem ggX2_goalOf_X2_beside : GoodIn wsX2_goalOf wsX2_beside := goodIn_r _ [8, 9, 10, 28, 29, 30, 31, 32, 33, 34, 35, 36, 37, 38] (by decide +kernel) (by decide +kernel)
set_option maxRecDepth 20000 in
theorem gX2_goalOf_X2_beside : GoodIn wsX2_goalOf (wsV RX2 62 RX2 yX2_beside wsX2_beside) := goodIn_app (goodIn_of _ (by decide +kernel)) ggX2_goalOf_X2_beside
set_option maxRecDepth 20000 in
theorem ggX2_goalOf_X2_towardsBread : GoodIn wsX2_goalOf wsX2_towardsBread := goodIn_r _ [14, 15, 16, 17, 7, 18, 3, 4, 5, 6, 8, 9, 10, 19, 20, 21, 22, 28, 29, 30, 31, 32, 33, 34, 35, 36, 37, 38] (by decide +kernel) (by decide +kernel)
set_option maxRecDepth 20000 in
theorem gX2_goalOf_X2_towardsBread : GoodIn wsX2_goalOf (wsV RX2 65 RX2 yX2_towardsBread wsX2_towardsBread) := goodIn_app (goodIn_of _ (by decide +kernel)) ggX2_goalOf_X2_towardsBread
set_option maxRecDepth 20000 in
theorem ggX2_goalOf_X2_lawnsOfOtherCobs : GoodIn wsX2_goalOf wsX2_lawnsOfOtherCobs := goodIn_r _ [26, 27, 2, 1, 28, 29, 30, 31, 32, 33, 34, 35, 36, 37, 38] (by decide +kernel) (by decide +kernel)
set_option maxRecDepth 20000 in
theorem gX2_goalOf_X2_lawnsOfOtherCobs : GoodIn wsX2_goalOf (wsV RX2 69 RX2 yX2_lawnsOfOtherCobs wsX2_lawnsOfOtherCobs) := goodIn_app (goodIn_of _ (by decide +kernel)) ggX2_goalOf_X2_lawnsOfOtherCobs
theorem dX2_goalOf_0 : decode cX2_goalOf 0 = .ok (.aload_n 0, 1) := by decide +kernel
theorem dX2_goalOf_1 : decode cX2_goalOf 1 = .ok (.getfield 21, 3) := by decide +kernel
theorem dX2_goalOf_4 : decode cX2_goalOf 4 = .ok (.iload_n 1, 1) := by decide +kernel
theorem dX2_goalOf_5 : decode cX2_goalOf 5 = .ok (.iaload, 1) := by decide +kernel
theorem dX2_goalOf_6 : decode cX2_goalOf 6 = .ok (.istore_n 2, 1) := by decide +kernel
theorem dX2_goalOf_7 : decode cX2_goalOf 7 = .ok (.aload_n 0, 1) := by decide +kernel
theorem dX2_goalOf_8 : decode cX2_goalOf 8 = .ok (.getfield 15, 3) := by decide +kernel
theorem dX2_goalOf_11 : decode cX2_goalOf 11 = .ok (.iload_n 1, 1) := by decide +kernel
theorem dX2_goalOf_12 : decode cX2_goalOf 12 = .ok (.iaload, 1) := by decide +kernel
theorem dX2_goalOf_13 : decode cX2_goalOf 13 = .ok (.tableswitch 91 2 5 #[79, 71, 31, 51], 31) := by decide +kernel
theorem dX2_goalOf_44 : decode cX2_goalOf 44 = .ok (.aload_n 0, 1) := by decide +kernel
theorem dX2_goalOf_45 : decode cX2_goalOf 45 = .ok (.getfield 9, 3) := by decide +kernel
theorem dX2_goalOf_48 : decode cX2_goalOf 48 = .ok (.iload_n 2, 1) := by decide +kernel
theorem dX2_goalOf_49 : decode cX2_goalOf 49 = .ok (.iaload, 1) := by decide +kernel
theorem dX2_goalOf_50 : decode cX2_goalOf 50 = .ok (.ifCond .le 7, 3) := by decide +kernel
theorem dX2_goalOf_53 : decode cX2_goalOf 53 = .ok (.iload_n 2, 1) := by decide +kernel
theorem dX2_goalOf_54 : decode cX2_goalOf 54 = .ok (.goto 9, 3) := by decide +kernel
theorem dX2_goalOf_57 : decode cX2_goalOf 57 = .ok (.aload_n 0, 1) := by decide +kernel
theorem dX2_goalOf_58 : decode cX2_goalOf 58 = .ok (.iload_n 2, 1) := by decide +kernel
theorem dX2_goalOf_59 : decode cX2_goalOf 59 = .ok (.iconst (-1), 1) := by decide +kernel
theorem dX2_goalOf_60 : decode cX2_goalOf 60 = .ok (.invokevirtual 62, 3) := by decide +kernel
theorem dX2_goalOf_63 : decode cX2_goalOf 63 = .ok (.ireturn, 1) := by decide +kernel
theorem dX2_goalOf_64 : decode cX2_goalOf 64 = .ok (.aload_n 0, 1) := by decide +kernel
theorem dX2_goalOf_65 : decode cX2_goalOf 65 = .ok (.getfield 9, 3) := by decide +kernel
theorem dX2_goalOf_68 : decode cX2_goalOf 68 = .ok (.iload_n 2, 1) := by decide +kernel
theorem dX2_goalOf_69 : decode cX2_goalOf 69 = .ok (.iaload, 1) := by decide +kernel
theorem dX2_goalOf_70 : decode cX2_goalOf 70 = .ok (.ifCond .le 7, 3) := by decide +kernel
theorem dX2_goalOf_73 : decode cX2_goalOf 73 = .ok (.iload_n 2, 1) := by decide +kernel
theorem dX2_goalOf_74 : decode cX2_goalOf 74 = .ok (.goto 9, 3) := by decide +kernel
theorem dX2_goalOf_77 : decode cX2_goalOf 77 = .ok (.aload_n 0, 1) := by decide +kernel
theorem dX2_goalOf_78 : decode cX2_goalOf 78 = .ok (.iload_n 2, 1) := by decide +kernel
theorem dX2_goalOf_79 : decode cX2_goalOf 79 = .ok (.iconst 1, 1) := by decide +kernel
theorem dX2_goalOf_80 : decode cX2_goalOf 80 = .ok (.invokevirtual 62, 3) := by decide +kernel
theorem dX2_goalOf_83 : decode cX2_goalOf 83 = .ok (.ireturn, 1) := by decide +kernel
theorem dX2_goalOf_84 : decode cX2_goalOf 84 = .ok (.aload_n 0, 1) := by decide +kernel
theorem dX2_goalOf_85 : decode cX2_goalOf 85 = .ok (.iload_n 2, 1) := by decide +kernel
theorem dX2_goalOf_86 : decode cX2_goalOf 86 = .ok (.iconst 1, 1) := by decide +kernel
theorem dX2_goalOf_87 : decode cX2_goalOf 87 = .ok (.iconst 0, 1) := by decide +kernel
theorem dX2_goalOf_88 : decode cX2_goalOf 88 = .ok (.invokevirtual 65, 3) := by decide +kernel
theorem dX2_goalOf_91 : decode cX2_goalOf 91 = .ok (.ireturn, 1) := by decide +kernel
theorem dX2_goalOf_92 : decode cX2_goalOf 92 = .ok (.aload_n 0, 1) := by decide +kernel
theorem dX2_goalOf_93 : decode cX2_goalOf 93 = .ok (.iload_n 2, 1) := by decide +kernel
theorem dX2_goalOf_94 : decode cX2_goalOf 94 = .ok (.iconst 2, 1) := by decide +kernel
theorem dX2_goalOf_95 : decode cX2_goalOf 95 = .ok (.aload_n 0, 1) := by decide +kernel
theorem dX2_goalOf_96 : decode cX2_goalOf 96 = .ok (.iload_n 1, 1) := by decide +kernel
theorem dX2_goalOf_97 : decode cX2_goalOf 97 = .ok (.invokevirtual 69, 3) := by decide +kernel
theorem dX2_goalOf_100 : decode cX2_goalOf 100 = .ok (.invokevirtual 65, 3) := by decide +kernel
theorem dX2_goalOf_103 : decode cX2_goalOf 103 = .ok (.ireturn, 1) := by decide +kernel
theorem dX2_goalOf_104 : decode cX2_goalOf 104 = .ok (.aload_n 0, 1) := by decide +kernel
theorem dX2_goalOf_105 : decode cX2_goalOf 105 = .ok (.iload_n 2, 1) := by decide +kernel
theorem dX2_goalOf_106 : decode cX2_goalOf 106 = .ok (.iconst 2, 1) := by decide +kernel
theorem dX2_goalOf_107 : decode cX2_goalOf 107 = .ok (.iconst 0, 1) := by decide +kernel
theorem dX2_goalOf_108 : decode cX2_goalOf 108 = .ok (.invokevirtual 65, 3) := by decide +kernel
theorem dX2_goalOf_111 : decode cX2_goalOf 111 = .ok (.ireturn, 1) := by decide +kernel
theorem dX2_lawnsOfOtherCobs_0 : decode cX2_lawnsOfOtherCobs 0 = .ok (.iconst 0, 1) := by decide +kernel
theorem dX2_lawnsOfOtherCobs_1 : decode cX2_lawnsOfOtherCobs 1 = .ok (.istore_n 2, 1) := by decide +kernel
theorem dX2_lawnsOfOtherCobs_2 : decode cX2_lawnsOfOtherCobs 2 = .ok (.iconst 0, 1) := by decide +kernel
theorem dX2_lawnsOfOtherCobs_3 : decode cX2_lawnsOfOtherCobs 3 = .ok (.istore_n 3, 1) := by decide +kernel
theorem dX2_lawnsOfOtherCobs_4 : decode cX2_lawnsOfOtherCobs 4 = .ok (.iload_n 3, 1) := by decide +kernel
theorem dX2_lawnsOfOtherCobs_5 : decode cX2_lawnsOfOtherCobs 5 = .ok (.aload_n 0, 1) := by decide +kernel
theorem dX2_lawnsOfOtherCobs_6 : decode cX2_lawnsOfOtherCobs 6 = .ok (.getfield 31, 3) := by decide +kernel
theorem dX2_lawnsOfOtherCobs_9 : decode cX2_lawnsOfOtherCobs 9 = .ok (.if_icmp .ge 35, 3) := by decide +kernel
theorem dX2_lawnsOfOtherCobs_12 : decode cX2_lawnsOfOtherCobs 12 = .ok (.iload_n 3, 1) := by decide +kernel
theorem dX2_lawnsOfOtherCobs_13 : decode cX2_lawnsOfOtherCobs 13 = .ok (.iload_n 1, 1) := by decide +kernel
theorem dX2_lawnsOfOtherCobs_14 : decode cX2_lawnsOfOtherCobs 14 = .ok (.if_icmp .eq 24, 3) := by decide +kernel
theorem dX2_lawnsOfOtherCobs_17 : decode cX2_lawnsOfOtherCobs 17 = .ok (.aload_n 0, 1) := by decide +kernel
theorem dX2_lawnsOfOtherCobs_18 : decode cX2_lawnsOfOtherCobs 18 = .ok (.getfield 15, 3) := by decide +kernel
theorem dX2_lawnsOfOtherCobs_21 : decode cX2_lawnsOfOtherCobs 21 = .ok (.iload_n 3, 1) := by decide +kernel
theorem dX2_lawnsOfOtherCobs_22 : decode cX2_lawnsOfOtherCobs 22 = .ok (.iaload, 1) := by decide +kernel
theorem dX2_lawnsOfOtherCobs_23 : decode cX2_lawnsOfOtherCobs 23 = .ok (.iconst 2, 1) := by decide +kernel
theorem dX2_lawnsOfOtherCobs_24 : decode cX2_lawnsOfOtherCobs 24 = .ok (.if_icmp .ne 14, 3) := by decide +kernel
theorem dX2_lawnsOfOtherCobs_27 : decode cX2_lawnsOfOtherCobs 27 = .ok (.iload_n 2, 1) := by decide +kernel
theorem dX2_lawnsOfOtherCobs_28 : decode cX2_lawnsOfOtherCobs 28 = .ok (.iconst 1, 1) := by decide +kernel
theorem dX2_lawnsOfOtherCobs_29 : decode cX2_lawnsOfOtherCobs 29 = .ok (.aload_n 0, 1) := by decide +kernel
theorem dX2_lawnsOfOtherCobs_30 : decode cX2_lawnsOfOtherCobs 30 = .ok (.getfield 21, 3) := by decide +kernel
theorem dX2_lawnsOfOtherCobs_33 : decode cX2_lawnsOfOtherCobs 33 = .ok (.iload_n 3, 1) := by decide +kernel
theorem dX2_lawnsOfOtherCobs_34 : decode cX2_lawnsOfOtherCobs 34 = .ok (.iaload, 1) := by decide +kernel
theorem dX2_lawnsOfOtherCobs_35 : decode cX2_lawnsOfOtherCobs 35 = .ok (.ishl, 1) := by decide +kernel
theorem dX2_lawnsOfOtherCobs_36 : decode cX2_lawnsOfOtherCobs 36 = .ok (.ior, 1) := by decide +kernel
theorem dX2_lawnsOfOtherCobs_37 : decode cX2_lawnsOfOtherCobs 37 = .ok (.istore_n 2, 1) := by decide +kernel
theorem dX2_lawnsOfOtherCobs_38 : decode cX2_lawnsOfOtherCobs 38 = .ok (.iinc 3 1, 3) := by decide +kernel
theorem dX2_lawnsOfOtherCobs_41 : decode cX2_lawnsOfOtherCobs 41 = .ok (.goto (-37), 3) := by decide +kernel
theorem dX2_lawnsOfOtherCobs_44 : decode cX2_lawnsOfOtherCobs 44 = .ok (.iload_n 2, 1) := by decide +kernel
theorem dX2_lawnsOfOtherCobs_45 : decode cX2_lawnsOfOtherCobs 45 = .ok (.ireturn, 1) := by decide +kernel
set_option maxRecDepth 20000 in
theorem ggX2_towardsBread_X2_crumbsSeen : GoodIn wsX2_towardsBread wsX2_crumbsSeen := goodIn_r _ [5, 6, 17, 18, 19, 20, 21, 22, 23, 24, 25, 26, 27] (by decide +kernel) (by decide +kernel)
set_option maxRecDepth 20000 in
theorem gX2_towardsBread_X2_crumbsSeen : GoodIn wsX2_towardsBread (wsV RX2 72 RX2 yX2_crumbsSeen wsX2_crumbsSeen) := goodIn_app (goodIn_of _ (by decide +kernel)) ggX2_towardsBread_X2_crumbsSeen
set_option maxRecDepth 20000 in
theorem ggX2_towardsBread_X2_beside : GoodIn wsX2_towardsBread wsX2_beside := goodIn_r _ [10, 11, 12, 17, 18, 19, 20, 21, 22, 23, 24, 25, 26, 27] (by decide +kernel) (by decide +kernel)
set_option maxRecDepth 20000 in
theorem gX2_towardsBread_X2_beside : GoodIn wsX2_towardsBread (wsV RX2 62 RX2 yX2_beside wsX2_beside) := goodIn_app (goodIn_of _ (by decide +kernel)) ggX2_towardsBread_X2_beside
set_option maxRecDepth 20000 in
theorem ggX2_towardsBread_J6_compare_7cf53 : GoodIn wsX2_towardsBread wsJ6_compare_7cf53 := goodIn_r _ [16] (by decide +kernel) (by decide +kernel)
set_option maxRecDepth 20000 in
theorem gX2_towardsBread_J6_compare_7cf53 : GoodIn wsX2_towardsBread (va_wsS RX2 75 yJ6_compare_7cf53 wsJ6_compare_7cf53) := goodIn_app (goodIn_of _ (by decide +kernel)) ggX2_towardsBread_J6_compare_7cf53
theorem dX2_towardsBread_0 : decode cX2_towardsBread 0 = .ok (.iload_n 1, 1) := by decide +kernel
theorem dX2_towardsBread_1 : decode cX2_towardsBread 1 = .ok (.istore 4, 2) := by decide +kernel
theorem dX2_towardsBread_3 : decode cX2_towardsBread 3 = .ok (.aload_n 0, 1) := by decide +kernel
theorem dX2_towardsBread_4 : decode cX2_towardsBread 4 = .ok (.iload_n 1, 1) := by decide +kernel
theorem dX2_towardsBread_5 : decode cX2_towardsBread 5 = .ok (.iload_n 3, 1) := by decide +kernel
theorem dX2_towardsBread_6 : decode cX2_towardsBread 6 = .ok (.invokevirtual 72, 3) := by decide +kernel
theorem dX2_towardsBread_9 : decode cX2_towardsBread 9 = .ok (.istore 5, 2) := by decide +kernel
theorem dX2_towardsBread_11 : decode cX2_towardsBread 11 = .ok (.iload_n 1, 1) := by decide +kernel
theorem dX2_towardsBread_12 : decode cX2_towardsBread 12 = .ok (.istore 6, 2) := by decide +kernel
theorem dX2_towardsBread_14 : decode cX2_towardsBread 14 = .ok (.iload_n 1, 1) := by decide +kernel
theorem dX2_towardsBread_15 : decode cX2_towardsBread 15 = .ok (.istore 7, 2) := by decide +kernel
theorem dX2_towardsBread_17 : decode cX2_towardsBread 17 = .ok (.iconst 1, 1) := by decide +kernel
theorem dX2_towardsBread_18 : decode cX2_towardsBread 18 = .ok (.istore 8, 2) := by decide +kernel
theorem dX2_towardsBread_20 : decode cX2_towardsBread 20 = .ok (.iload 8, 2) := by decide +kernel
theorem dX2_towardsBread_22 : decode cX2_towardsBread 22 = .ok (.iload_n 2, 1) := by decide +kernel
theorem dX2_towardsBread_23 : decode cX2_towardsBread 23 = .ok (.if_icmp .gt 77, 3) := by decide +kernel
theorem dX2_towardsBread_26 : decode cX2_towardsBread 26 = .ok (.aload_n 0, 1) := by decide +kernel
theorem dX2_towardsBread_27 : decode cX2_towardsBread 27 = .ok (.iload 6, 2) := by decide +kernel
theorem dX2_towardsBread_29 : decode cX2_towardsBread 29 = .ok (.iconst (-1), 1) := by decide +kernel
theorem dX2_towardsBread_30 : decode cX2_towardsBread 30 = .ok (.invokevirtual 62, 3) := by decide +kernel
theorem dX2_towardsBread_33 : decode cX2_towardsBread 33 = .ok (.istore 6, 2) := by decide +kernel
theorem dX2_towardsBread_35 : decode cX2_towardsBread 35 = .ok (.aload_n 0, 1) := by decide +kernel
theorem dX2_towardsBread_36 : decode cX2_towardsBread 36 = .ok (.iload 6, 2) := by decide +kernel
theorem dX2_towardsBread_38 : decode cX2_towardsBread 38 = .ok (.iload_n 3, 1) := by decide +kernel
theorem dX2_towardsBread_39 : decode cX2_towardsBread 39 = .ok (.invokevirtual 72, 3) := by decide +kernel
theorem dX2_towardsBread_42 : decode cX2_towardsBread 42 = .ok (.iload 5, 2) := by decide +kernel
theorem dX2_towardsBread_44 : decode cX2_towardsBread 44 = .ok (.if_icmp .le 16, 3) := by decide +kernel
theorem dX2_towardsBread_47 : decode cX2_towardsBread 47 = .ok (.iload 6, 2) := by decide +kernel
theorem dX2_towardsBread_49 : decode cX2_towardsBread 49 = .ok (.istore 4, 2) := by decide +kernel
theorem dX2_towardsBread_51 : decode cX2_towardsBread 51 = .ok (.aload_n 0, 1) := by decide +kernel
theorem dX2_towardsBread_52 : decode cX2_towardsBread 52 = .ok (.iload 6, 2) := by decide +kernel
theorem dX2_towardsBread_54 : decode cX2_towardsBread 54 = .ok (.iload_n 3, 1) := by decide +kernel
theorem dX2_towardsBread_55 : decode cX2_towardsBread 55 = .ok (.invokevirtual 72, 3) := by decide +kernel
theorem dX2_towardsBread_58 : decode cX2_towardsBread 58 = .ok (.istore 5, 2) := by decide +kernel
theorem dX2_towardsBread_60 : decode cX2_towardsBread 60 = .ok (.aload_n 0, 1) := by decide +kernel
theorem dX2_towardsBread_61 : decode cX2_towardsBread 61 = .ok (.iload 7, 2) := by decide +kernel
theorem dX2_towardsBread_63 : decode cX2_towardsBread 63 = .ok (.iconst 1, 1) := by decide +kernel
theorem dX2_towardsBread_64 : decode cX2_towardsBread 64 = .ok (.invokevirtual 62, 3) := by decide +kernel
theorem dX2_towardsBread_67 : decode cX2_towardsBread 67 = .ok (.istore 7, 2) := by decide +kernel
theorem dX2_towardsBread_69 : decode cX2_towardsBread 69 = .ok (.aload_n 0, 1) := by decide +kernel
theorem dX2_towardsBread_70 : decode cX2_towardsBread 70 = .ok (.iload 7, 2) := by decide +kernel
theorem dX2_towardsBread_72 : decode cX2_towardsBread 72 = .ok (.iload_n 3, 1) := by decide +kernel
theorem dX2_towardsBread_73 : decode cX2_towardsBread 73 = .ok (.invokevirtual 72, 3) := by decide +kernel
theorem dX2_towardsBread_76 : decode cX2_towardsBread 76 = .ok (.iload 5, 2) := by decide +kernel
theorem dX2_towardsBread_78 : decode cX2_towardsBread 78 = .ok (.if_icmp .le 16, 3) := by decide +kernel
theorem dX2_towardsBread_81 : decode cX2_towardsBread 81 = .ok (.iload 7, 2) := by decide +kernel
theorem dX2_towardsBread_83 : decode cX2_towardsBread 83 = .ok (.istore 4, 2) := by decide +kernel
theorem dX2_towardsBread_85 : decode cX2_towardsBread 85 = .ok (.aload_n 0, 1) := by decide +kernel
theorem dX2_towardsBread_86 : decode cX2_towardsBread 86 = .ok (.iload 7, 2) := by decide +kernel
theorem dX2_towardsBread_88 : decode cX2_towardsBread 88 = .ok (.iload_n 3, 1) := by decide +kernel
theorem dX2_towardsBread_89 : decode cX2_towardsBread 89 = .ok (.invokevirtual 72, 3) := by decide +kernel
theorem dX2_towardsBread_92 : decode cX2_towardsBread 92 = .ok (.istore 5, 2) := by decide +kernel
theorem dX2_towardsBread_94 : decode cX2_towardsBread 94 = .ok (.iinc 8 1, 3) := by decide +kernel
theorem dX2_towardsBread_97 : decode cX2_towardsBread 97 = .ok (.goto (-77), 3) := by decide +kernel
theorem dX2_towardsBread_100 : decode cX2_towardsBread 100 = .ok (.iload_n 1, 1) := by decide +kernel
theorem dX2_towardsBread_101 : decode cX2_towardsBread 101 = .ok (.iload 4, 2) := by decide +kernel
theorem dX2_towardsBread_103 : decode cX2_towardsBread 103 = .ok (.iload_n 1, 1) := by decide +kernel
theorem dX2_towardsBread_104 : decode cX2_towardsBread 104 = .ok (.invokestatic 75, 3) := by decide +kernel
theorem dX2_towardsBread_107 : decode cX2_towardsBread 107 = .ok (.iadd, 1) := by decide +kernel
theorem dX2_towardsBread_108 : decode cX2_towardsBread 108 = .ok (.ireturn, 1) := by decide +kernel
theorem dX2_crumbsSeen_0 : decode cX2_crumbsSeen 0 = .ok (.iload_n 2, 1) := by decide +kernel
theorem dX2_crumbsSeen_1 : decode cX2_crumbsSeen 1 = .ok (.iload_n 1, 1) := by decide +kernel
theorem dX2_crumbsSeen_2 : decode cX2_crumbsSeen 2 = .ok (.ishr, 1) := by decide +kernel
theorem dX2_crumbsSeen_3 : decode cX2_crumbsSeen 3 = .ok (.iconst 1, 1) := by decide +kernel
theorem dX2_crumbsSeen_4 : decode cX2_crumbsSeen 4 = .ok (.iand, 1) := by decide +kernel
theorem dX2_crumbsSeen_5 : decode cX2_crumbsSeen 5 = .ok (.iconst 1, 1) := by decide +kernel
theorem dX2_crumbsSeen_6 : decode cX2_crumbsSeen 6 = .ok (.if_icmp .ne 7, 3) := by decide +kernel
theorem dX2_crumbsSeen_9 : decode cX2_crumbsSeen 9 = .ok (.iconst 0, 1) := by decide +kernel
theorem dX2_crumbsSeen_10 : decode cX2_crumbsSeen 10 = .ok (.goto 9, 3) := by decide +kernel
theorem dX2_crumbsSeen_13 : decode cX2_crumbsSeen 13 = .ok (.aload_n 0, 1) := by decide +kernel
theorem dX2_crumbsSeen_14 : decode cX2_crumbsSeen 14 = .ok (.getfield 9, 3) := by decide +kernel
theorem dX2_crumbsSeen_17 : decode cX2_crumbsSeen 17 = .ok (.iload_n 1, 1) := by decide +kernel
theorem dX2_crumbsSeen_18 : decode cX2_crumbsSeen 18 = .ok (.iaload, 1) := by decide +kernel
theorem dX2_crumbsSeen_19 : decode cX2_crumbsSeen 19 = .ok (.ireturn, 1) := by decide +kernel
theorem dX2_beside_0 : decode cX2_beside 0 = .ok (.iload_n 1, 1) := by decide +kernel
theorem dX2_beside_1 : decode cX2_beside 1 = .ok (.iload_n 2, 1) := by decide +kernel
theorem dX2_beside_2 : decode cX2_beside 2 = .ok (.iadd, 1) := by decide +kernel
theorem dX2_beside_3 : decode cX2_beside 3 = .ok (.istore_n 3, 1) := by decide +kernel
theorem dX2_beside_4 : decode cX2_beside 4 = .ok (.iload_n 3, 1) := by decide +kernel
theorem dX2_beside_5 : decode cX2_beside 5 = .ok (.ifCond .lt 11, 3) := by decide +kernel
theorem dX2_beside_8 : decode cX2_beside 8 = .ok (.iload_n 3, 1) := by decide +kernel
theorem dX2_beside_9 : decode cX2_beside 9 = .ok (.aload_n 0, 1) := by decide +kernel
theorem dX2_beside_10 : decode cX2_beside 10 = .ok (.getfield 27, 3) := by decide +kernel
theorem dX2_beside_13 : decode cX2_beside 13 = .ok (.if_icmp .lt 5, 3) := by decide +kernel
theorem dX2_beside_16 : decode cX2_beside 16 = .ok (.iload_n 1, 1) := by decide +kernel
theorem dX2_beside_17 : decode cX2_beside 17 = .ok (.ireturn, 1) := by decide +kernel
theorem dX2_beside_18 : decode cX2_beside 18 = .ok (.iload_n 2, 1) := by decide +kernel
theorem dX2_beside_19 : decode cX2_beside 19 = .ok (.ifCond .ge 7, 3) := by decide +kernel
theorem dX2_beside_22 : decode cX2_beside 22 = .ok (.iload_n 3, 1) := by decide +kernel
theorem dX2_beside_23 : decode cX2_beside 23 = .ok (.goto 4, 3) := by decide +kernel
theorem dX2_beside_26 : decode cX2_beside 26 = .ok (.iload_n 1, 1) := by decide +kernel
theorem dX2_beside_27 : decode cX2_beside 27 = .ok (.istore 4, 2) := by decide +kernel
theorem dX2_beside_29 : decode cX2_beside 29 = .ok (.aload_n 0, 1) := by decide +kernel
theorem dX2_beside_30 : decode cX2_beside 30 = .ok (.getfield 37, 3) := by decide +kernel
theorem dX2_beside_33 : decode cX2_beside 33 = .ok (.iload 4, 2) := by decide +kernel
theorem dX2_beside_35 : decode cX2_beside 35 = .ok (.ishr, 1) := by decide +kernel
theorem dX2_beside_36 : decode cX2_beside 36 = .ok (.iconst 1, 1) := by decide +kernel
theorem dX2_beside_37 : decode cX2_beside 37 = .ok (.iand, 1) := by decide +kernel
theorem dX2_beside_38 : decode cX2_beside 38 = .ok (.iconst 1, 1) := by decide +kernel
theorem dX2_beside_39 : decode cX2_beside 39 = .ok (.if_icmp .ne 7, 3) := by decide +kernel
theorem dX2_beside_42 : decode cX2_beside 42 = .ok (.iload_n 1, 1) := by decide +kernel
theorem dX2_beside_43 : decode cX2_beside 43 = .ok (.goto 4, 3) := by decide +kernel
theorem dX2_beside_46 : decode cX2_beside 46 = .ok (.iload_n 3, 1) := by decide +kernel
theorem dX2_beside_47 : decode cX2_beside 47 = .ok (.ireturn, 1) := by decide +kernel
theorem dX2_weirBehind_0 : decode cX2_weirBehind 0 = .ok (.aload_n 0, 1) := by decide +kernel
theorem dX2_weirBehind_1 : decode cX2_weirBehind 1 = .ok (.getfield 37, 3) := by decide +kernel
theorem dX2_weirBehind_4 : decode cX2_weirBehind 4 = .ok (.iload_n 1, 1) := by decide +kernel
theorem dX2_weirBehind_5 : decode cX2_weirBehind 5 = .ok (.ishr, 1) := by decide +kernel
theorem dX2_weirBehind_6 : decode cX2_weirBehind 6 = .ok (.iconst 1, 1) := by decide +kernel
theorem dX2_weirBehind_7 : decode cX2_weirBehind 7 = .ok (.iand, 1) := by decide +kernel
theorem dX2_weirBehind_8 : decode cX2_weirBehind 8 = .ok (.ireturn, 1) := by decide +kernel
set_option maxRecDepth 20000 in
theorem ggX2_sendBeatenDown_X2_isBeaten : GoodIn wsX2_sendBeatenDown wsX2_isBeaten := goodIn_r _ [9, 1, 2, 3, 10, 17, 18, 19, 20, 21, 22, 23, 24, 25, 26, 27] (by decide +kernel) (by decide +kernel)
set_option maxRecDepth 20000 in
theorem gX2_sendBeatenDown_X2_isBeaten : GoodIn wsX2_sendBeatenDown (wsV RX2 80 RX2 yX2_isBeaten wsX2_isBeaten) := goodIn_app (goodIn_of _ (by decide +kernel)) ggX2_sendBeatenDown_X2_isBeaten
set_option maxRecDepth 20000 in
theorem ggX2_sendBeatenDown_X2_beside : GoodIn wsX2_sendBeatenDown wsX2_beside := goodIn_r _ [14, 15, 16, 17, 18, 19, 20, 21, 22, 23, 24, 25, 26, 27] (by decide +kernel) (by decide +kernel)
set_option maxRecDepth 20000 in
theorem gX2_sendBeatenDown_X2_beside : GoodIn wsX2_sendBeatenDown (wsV RX2 62 RX2 yX2_beside wsX2_beside) := goodIn_app (goodIn_of _ (by decide +kernel)) ggX2_sendBeatenDown_X2_beside
theorem dX2_sendBeatenDown_0 : decode cX2_sendBeatenDown 0 = .ok (.iconst 0, 1) := by decide +kernel
theorem dX2_sendBeatenDown_1 : decode cX2_sendBeatenDown 1 = .ok (.istore_n 1, 1) := by decide +kernel
theorem dX2_sendBeatenDown_2 : decode cX2_sendBeatenDown 2 = .ok (.iconst 0, 1) := by decide +kernel
theorem dX2_sendBeatenDown_3 : decode cX2_sendBeatenDown 3 = .ok (.istore_n 2, 1) := by decide +kernel
theorem dX2_sendBeatenDown_4 : decode cX2_sendBeatenDown 4 = .ok (.iload_n 2, 1) := by decide +kernel
theorem dX2_sendBeatenDown_5 : decode cX2_sendBeatenDown 5 = .ok (.aload_n 0, 1) := by decide +kernel
theorem dX2_sendBeatenDown_6 : decode cX2_sendBeatenDown 6 = .ok (.getfield 31, 3) := by decide +kernel
theorem dX2_sendBeatenDown_9 : decode cX2_sendBeatenDown 9 = .ok (.if_icmp .ge 33, 3) := by decide +kernel
theorem dX2_sendBeatenDown_12 : decode cX2_sendBeatenDown 12 = .ok (.aload_n 0, 1) := by decide +kernel
theorem dX2_sendBeatenDown_13 : decode cX2_sendBeatenDown 13 = .ok (.getfield 15, 3) := by decide +kernel
theorem dX2_sendBeatenDown_16 : decode cX2_sendBeatenDown 16 = .ok (.iload_n 2, 1) := by decide +kernel
theorem dX2_sendBeatenDown_17 : decode cX2_sendBeatenDown 17 = .ok (.iaload, 1) := by decide +kernel
theorem dX2_sendBeatenDown_18 : decode cX2_sendBeatenDown 18 = .ok (.iconst 2, 1) := by decide +kernel
theorem dX2_sendBeatenDown_19 : decode cX2_sendBeatenDown 19 = .ok (.if_icmp .ne 17, 3) := by decide +kernel
theorem dX2_sendBeatenDown_22 : decode cX2_sendBeatenDown 22 = .ok (.aload_n 0, 1) := by decide +kernel
theorem dX2_sendBeatenDown_23 : decode cX2_sendBeatenDown 23 = .ok (.iload_n 2, 1) := by decide +kernel
theorem dX2_sendBeatenDown_24 : decode cX2_sendBeatenDown 24 = .ok (.invokevirtual 80, 3) := by decide +kernel
theorem dX2_sendBeatenDown_27 : decode cX2_sendBeatenDown 27 = .ok (.ifCond .eq 9, 3) := by decide +kernel
theorem dX2_sendBeatenDown_30 : decode cX2_sendBeatenDown 30 = .ok (.iload_n 1, 1) := by decide +kernel
theorem dX2_sendBeatenDown_31 : decode cX2_sendBeatenDown 31 = .ok (.iconst 1, 1) := by decide +kernel
theorem dX2_sendBeatenDown_32 : decode cX2_sendBeatenDown 32 = .ok (.iload_n 2, 1) := by decide +kernel
theorem dX2_sendBeatenDown_33 : decode cX2_sendBeatenDown 33 = .ok (.ishl, 1) := by decide +kernel
theorem dX2_sendBeatenDown_34 : decode cX2_sendBeatenDown 34 = .ok (.ior, 1) := by decide +kernel
theorem dX2_sendBeatenDown_35 : decode cX2_sendBeatenDown 35 = .ok (.istore_n 1, 1) := by decide +kernel
theorem dX2_sendBeatenDown_36 : decode cX2_sendBeatenDown 36 = .ok (.iinc 2 1, 3) := by decide +kernel
theorem dX2_sendBeatenDown_39 : decode cX2_sendBeatenDown 39 = .ok (.goto (-35), 3) := by decide +kernel
theorem dX2_sendBeatenDown_42 : decode cX2_sendBeatenDown 42 = .ok (.iconst 0, 1) := by decide +kernel
theorem dX2_sendBeatenDown_43 : decode cX2_sendBeatenDown 43 = .ok (.istore_n 2, 1) := by decide +kernel
theorem dX2_sendBeatenDown_44 : decode cX2_sendBeatenDown 44 = .ok (.iload_n 2, 1) := by decide +kernel
theorem dX2_sendBeatenDown_45 : decode cX2_sendBeatenDown 45 = .ok (.aload_n 0, 1) := by decide +kernel
theorem dX2_sendBeatenDown_46 : decode cX2_sendBeatenDown 46 = .ok (.getfield 31, 3) := by decide +kernel
theorem dX2_sendBeatenDown_49 : decode cX2_sendBeatenDown 49 = .ok (.if_icmp .ge 45, 3) := by decide +kernel
theorem dX2_sendBeatenDown_52 : decode cX2_sendBeatenDown 52 = .ok (.iload_n 1, 1) := by decide +kernel
theorem dX2_sendBeatenDown_53 : decode cX2_sendBeatenDown 53 = .ok (.iload_n 2, 1) := by decide +kernel
theorem dX2_sendBeatenDown_54 : decode cX2_sendBeatenDown 54 = .ok (.ishr, 1) := by decide +kernel
theorem dX2_sendBeatenDown_55 : decode cX2_sendBeatenDown 55 = .ok (.iconst 1, 1) := by decide +kernel
theorem dX2_sendBeatenDown_56 : decode cX2_sendBeatenDown 56 = .ok (.iand, 1) := by decide +kernel
theorem dX2_sendBeatenDown_57 : decode cX2_sendBeatenDown 57 = .ok (.iconst 1, 1) := by decide +kernel
theorem dX2_sendBeatenDown_58 : decode cX2_sendBeatenDown 58 = .ok (.if_icmp .ne 30, 3) := by decide +kernel
theorem dX2_sendBeatenDown_61 : decode cX2_sendBeatenDown 61 = .ok (.aload_n 0, 1) := by decide +kernel
theorem dX2_sendBeatenDown_62 : decode cX2_sendBeatenDown 62 = .ok (.getfield 21, 3) := by decide +kernel
theorem dX2_sendBeatenDown_65 : decode cX2_sendBeatenDown 65 = .ok (.iload_n 2, 1) := by decide +kernel
theorem dX2_sendBeatenDown_66 : decode cX2_sendBeatenDown 66 = .ok (.aload_n 0, 1) := by decide +kernel
theorem dX2_sendBeatenDown_67 : decode cX2_sendBeatenDown 67 = .ok (.aload_n 0, 1) := by decide +kernel
theorem dX2_sendBeatenDown_68 : decode cX2_sendBeatenDown 68 = .ok (.getfield 21, 3) := by decide +kernel
theorem dX2_sendBeatenDown_71 : decode cX2_sendBeatenDown 71 = .ok (.iload_n 2, 1) := by decide +kernel
theorem dX2_sendBeatenDown_72 : decode cX2_sendBeatenDown 72 = .ok (.iaload, 1) := by decide +kernel
theorem dX2_sendBeatenDown_73 : decode cX2_sendBeatenDown 73 = .ok (.iconst (-1), 1) := by decide +kernel
theorem dX2_sendBeatenDown_74 : decode cX2_sendBeatenDown 74 = .ok (.invokevirtual 62, 3) := by decide +kernel
theorem dX2_sendBeatenDown_77 : decode cX2_sendBeatenDown 77 = .ok (.iastore, 1) := by decide +kernel
theorem dX2_sendBeatenDown_78 : decode cX2_sendBeatenDown 78 = .ok (.aload_n 0, 1) := by decide +kernel
theorem dX2_sendBeatenDown_79 : decode cX2_sendBeatenDown 79 = .ok (.dup, 1) := by decide +kernel
theorem dX2_sendBeatenDown_80 : decode cX2_sendBeatenDown 80 = .ok (.getfield 40, 3) := by decide +kernel
theorem dX2_sendBeatenDown_83 : decode cX2_sendBeatenDown 83 = .ok (.iconst 1, 1) := by decide +kernel
theorem dX2_sendBeatenDown_84 : decode cX2_sendBeatenDown 84 = .ok (.iadd, 1) := by decide +kernel
theorem dX2_sendBeatenDown_85 : decode cX2_sendBeatenDown 85 = .ok (.putfield 40, 3) := by decide +kernel
theorem dX2_sendBeatenDown_88 : decode cX2_sendBeatenDown 88 = .ok (.iinc 2 1, 3) := by decide +kernel
theorem dX2_sendBeatenDown_91 : decode cX2_sendBeatenDown 91 = .ok (.goto (-47), 3) := by decide +kernel
theorem dX2_sendBeatenDown_94 : decode cX2_sendBeatenDown 94 = .ok (.return_, 1) := by decide +kernel
theorem dX2_isBeaten_0 : decode cX2_isBeaten 0 = .ok (.iconst 0, 1) := by decide +kernel
theorem dX2_isBeaten_1 : decode cX2_isBeaten 1 = .ok (.istore_n 2, 1) := by decide +kernel
theorem dX2_isBeaten_2 : decode cX2_isBeaten 2 = .ok (.iload_n 2, 1) := by decide +kernel
theorem dX2_isBeaten_3 : decode cX2_isBeaten 3 = .ok (.aload_n 0, 1) := by decide +kernel
theorem dX2_isBeaten_4 : decode cX2_isBeaten 4 = .ok (.getfield 31, 3) := by decide +kernel
theorem dX2_isBeaten_7 : decode cX2_isBeaten 7 = .ok (.if_icmp .ge 78, 3) := by decide +kernel
theorem dX2_isBeaten_10 : decode cX2_isBeaten 10 = .ok (.iload_n 2, 1) := by decide +kernel
theorem dX2_isBeaten_11 : decode cX2_isBeaten 11 = .ok (.iload_n 1, 1) := by decide +kernel
theorem dX2_isBeaten_12 : decode cX2_isBeaten 12 = .ok (.if_icmp .eq 67, 3) := by decide +kernel
theorem dX2_isBeaten_15 : decode cX2_isBeaten 15 = .ok (.aload_n 0, 1) := by decide +kernel
theorem dX2_isBeaten_16 : decode cX2_isBeaten 16 = .ok (.getfield 15, 3) := by decide +kernel
theorem dX2_isBeaten_19 : decode cX2_isBeaten 19 = .ok (.iload_n 2, 1) := by decide +kernel
theorem dX2_isBeaten_20 : decode cX2_isBeaten 20 = .ok (.iaload, 1) := by decide +kernel
theorem dX2_isBeaten_21 : decode cX2_isBeaten 21 = .ok (.iconst 2, 1) := by decide +kernel
theorem dX2_isBeaten_22 : decode cX2_isBeaten 22 = .ok (.if_icmp .ne 57, 3) := by decide +kernel
theorem dX2_isBeaten_25 : decode cX2_isBeaten 25 = .ok (.aload_n 0, 1) := by decide +kernel
theorem dX2_isBeaten_26 : decode cX2_isBeaten 26 = .ok (.getfield 21, 3) := by decide +kernel
theorem dX2_isBeaten_29 : decode cX2_isBeaten 29 = .ok (.iload_n 2, 1) := by decide +kernel
theorem dX2_isBeaten_30 : decode cX2_isBeaten 30 = .ok (.iaload, 1) := by decide +kernel
theorem dX2_isBeaten_31 : decode cX2_isBeaten 31 = .ok (.aload_n 0, 1) := by decide +kernel
theorem dX2_isBeaten_32 : decode cX2_isBeaten 32 = .ok (.getfield 21, 3) := by decide +kernel
theorem dX2_isBeaten_35 : decode cX2_isBeaten 35 = .ok (.iload_n 1, 1) := by decide +kernel
theorem dX2_isBeaten_36 : decode cX2_isBeaten 36 = .ok (.iaload, 1) := by decide +kernel
theorem dX2_isBeaten_37 : decode cX2_isBeaten 37 = .ok (.if_icmp .ne 42, 3) := by decide +kernel
theorem dX2_isBeaten_40 : decode cX2_isBeaten 40 = .ok (.aload_n 0, 1) := by decide +kernel
theorem dX2_isBeaten_41 : decode cX2_isBeaten 41 = .ok (.getfield 24, 3) := by decide +kernel
theorem dX2_isBeaten_44 : decode cX2_isBeaten 44 = .ok (.iload_n 2, 1) := by decide +kernel
theorem dX2_isBeaten_45 : decode cX2_isBeaten 45 = .ok (.iaload, 1) := by decide +kernel
theorem dX2_isBeaten_46 : decode cX2_isBeaten 46 = .ok (.aload_n 0, 1) := by decide +kernel
theorem dX2_isBeaten_47 : decode cX2_isBeaten 47 = .ok (.getfield 24, 3) := by decide +kernel
theorem dX2_isBeaten_50 : decode cX2_isBeaten 50 = .ok (.iload_n 1, 1) := by decide +kernel
theorem dX2_isBeaten_51 : decode cX2_isBeaten 51 = .ok (.iaload, 1) := by decide +kernel
theorem dX2_isBeaten_52 : decode cX2_isBeaten 52 = .ok (.if_icmp .le 5, 3) := by decide +kernel
theorem dX2_isBeaten_55 : decode cX2_isBeaten 55 = .ok (.iconst 1, 1) := by decide +kernel
theorem dX2_isBeaten_56 : decode cX2_isBeaten 56 = .ok (.ireturn, 1) := by decide +kernel
theorem dX2_isBeaten_57 : decode cX2_isBeaten 57 = .ok (.aload_n 0, 1) := by decide +kernel
theorem dX2_isBeaten_58 : decode cX2_isBeaten 58 = .ok (.getfield 24, 3) := by decide +kernel
theorem dX2_isBeaten_61 : decode cX2_isBeaten 61 = .ok (.iload_n 2, 1) := by decide +kernel
theorem dX2_isBeaten_62 : decode cX2_isBeaten 62 = .ok (.iaload, 1) := by decide +kernel
theorem dX2_isBeaten_63 : decode cX2_isBeaten 63 = .ok (.aload_n 0, 1) := by decide +kernel
theorem dX2_isBeaten_64 : decode cX2_isBeaten 64 = .ok (.getfield 24, 3) := by decide +kernel
theorem dX2_isBeaten_67 : decode cX2_isBeaten 67 = .ok (.iload_n 1, 1) := by decide +kernel
theorem dX2_isBeaten_68 : decode cX2_isBeaten 68 = .ok (.iaload, 1) := by decide +kernel
theorem dX2_isBeaten_69 : decode cX2_isBeaten 69 = .ok (.if_icmp .ne 10, 3) := by decide +kernel
theorem dX2_isBeaten_72 : decode cX2_isBeaten 72 = .ok (.iload_n 2, 1) := by decide +kernel
theorem dX2_isBeaten_73 : decode cX2_isBeaten 73 = .ok (.iload_n 1, 1) := by decide +kernel
theorem dX2_isBeaten_74 : decode cX2_isBeaten 74 = .ok (.if_icmp .ge 5, 3) := by decide +kernel
theorem dX2_isBeaten_77 : decode cX2_isBeaten 77 = .ok (.iconst 1, 1) := by decide +kernel
theorem dX2_isBeaten_78 : decode cX2_isBeaten 78 = .ok (.ireturn, 1) := by decide +kernel
theorem dX2_isBeaten_79 : decode cX2_isBeaten 79 = .ok (.iinc 2 1, 3) := by decide +kernel
theorem dX2_isBeaten_82 : decode cX2_isBeaten 82 = .ok (.goto (-80), 3) := by decide +kernel
theorem dX2_isBeaten_85 : decode cX2_isBeaten 85 = .ok (.iconst 0, 1) := by decide +kernel
theorem dX2_isBeaten_86 : decode cX2_isBeaten 86 = .ok (.ireturn, 1) := by decide +kernel
set_option maxRecDepth 20000 in
theorem ggX2_daysHeld_X2_passDay : GoodIn wsX2_daysHeld wsX2_passDay := goodIn_r _ [6, 7, 1, 8, 9, 10, 11, 12, 13, 5, 14, 15, 16, 17, 18, 19, 20, 21, 22, 23, 24, 25, 26, 27, 28, 29, 30, 31, 32, 33, 34, 35, 36, 37, 38, 39, 40, 41, 42, 43, 44, 45, 46, 47, 48, 49, 50, 51, 52, 53, 54, 55, 56, 57, 58] (by decide +kernel) (by decide +kernel)
set_option maxRecDepth 20000 in
theorem gX2_daysHeld_X2_passDay : GoodIn wsX2_daysHeld (wsV RX2 52 RX2 yX2_passDay wsX2_passDay) := goodIn_app (goodIn_of _ (by decide +kernel)) ggX2_daysHeld_X2_passDay
theorem dX2_daysHeld_0 : decode cX2_daysHeld 0 = .ok (.aload_n 0, 1) := by decide +kernel
theorem dX2_daysHeld_1 : decode cX2_daysHeld 1 = .ok (.getfield 21, 3) := by decide +kernel
theorem dX2_daysHeld_4 : decode cX2_daysHeld 4 = .ok (.iload_n 1, 1) := by decide +kernel
theorem dX2_daysHeld_5 : decode cX2_daysHeld 5 = .ok (.iaload, 1) := by decide +kernel
theorem dX2_daysHeld_6 : decode cX2_daysHeld 6 = .ok (.istore_n 2, 1) := by decide +kernel
theorem dX2_daysHeld_7 : decode cX2_daysHeld 7 = .ok (.iconst 0, 1) := by decide +kernel
