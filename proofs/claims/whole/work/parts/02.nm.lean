theorem dX6_sizeOld_0 : decode cX6_sizeOld 0 = .ok (.iload_n 2, 1) := by decide +kernel
theorem dX6_sizeOld_1 : decode cX6_sizeOld 1 = .ok (.ifCond .eq 9, 3) := by decide +kernel
theorem dX6_sizeOld_4 : decode cX6_sizeOld 4 = .ok (.aload_n 0, 1) := by decide +kernel
theorem dX6_sizeOld_5 : decode cX6_sizeOld 5 = .ok (.bipush 14, 2) := by decide +kernel
theorem dX6_sizeOld_7 : decode cX6_sizeOld 7 = .ok (.invokevirtual 233, 3) := by decide +kernel
theorem dX6_sizeOld_10 : decode cX6_sizeOld 10 = .ok (.aload_n 0, 1) := by decide +kernel
theorem dX6_sizeOld_11 : decode cX6_sizeOld 11 = .ok (.bipush 13, 2) := by decide +kernel
theorem dX6_sizeOld_13 : decode cX6_sizeOld 13 = .ok (.invokevirtual 233, 3) := by decide +kernel
theorem dX6_sizeOld_16 : decode cX6_sizeOld 16 = .ok (.aload_n 0, 1) := by decide +kernel
theorem dX6_sizeOld_17 : decode cX6_sizeOld 17 = .ok (.bipush 10, 2) := by decide +kernel
theorem dX6_sizeOld_19 : decode cX6_sizeOld 19 = .ok (.invokevirtual 233, 3) := by decide +kernel
theorem dX6_sizeOld_22 : decode cX6_sizeOld 22 = .ok (.aload_n 0, 1) := by decide +kernel
theorem dX6_sizeOld_23 : decode cX6_sizeOld 23 = .ok (.getfield 7, 3) := by decide +kernel
theorem dX6_sizeOld_26 : decode cX6_sizeOld 26 = .ok (.bipush 17, 2) := by decide +kernel
theorem dX6_sizeOld_28 : decode cX6_sizeOld 28 = .ok (.iload_n 1, 1) := by decide +kernel
theorem dX6_sizeOld_29 : decode cX6_sizeOld 29 = .ok (.iadd, 1) := by decide +kernel
theorem dX6_sizeOld_30 : decode cX6_sizeOld 30 = .ok (.iaload, 1) := by decide +kernel
theorem dX6_sizeOld_31 : decode cX6_sizeOld 31 = .ok (.bipush 100, 2) := by decide +kernel
theorem dX6_sizeOld_33 : decode cX6_sizeOld 33 = .ok (.isub, 1) := by decide +kernel
theorem dX6_sizeOld_34 : decode cX6_sizeOld 34 = .ok (.istore_n 3, 1) := by decide +kernel
theorem dX6_sizeOld_35 : decode cX6_sizeOld 35 = .ok (.iload_n 2, 1) := by decide +kernel
theorem dX6_sizeOld_36 : decode cX6_sizeOld 36 = .ok (.ifCond .eq 9, 3) := by decide +kernel
theorem dX6_sizeOld_39 : decode cX6_sizeOld 39 = .ok (.iconst 2, 1) := by decide +kernel
theorem dX6_sizeOld_40 : decode cX6_sizeOld 40 = .ok (.iload_n 3, 1) := by decide +kernel
theorem dX6_sizeOld_41 : decode cX6_sizeOld 41 = .ok (.imul, 1) := by decide +kernel
theorem dX6_sizeOld_42 : decode cX6_sizeOld 42 = .ok (.goto 4, 3) := by decide +kernel
theorem dX6_sizeOld_45 : decode cX6_sizeOld 45 = .ok (.iload_n 3, 1) := by decide +kernel
theorem dX6_sizeOld_46 : decode cX6_sizeOld 46 = .ok (.ireturn, 1) := by decide +kernel
set_option maxRecDepth 20000 in
theorem ggX6_mark_X6_begins : GoodIn wsX6_mark wsX6_begins := goodIn_r _ [6, 7, 8, 21, 22, 23, 24, 25, 26, 27, 28, 29, 30, 31, 32, 33, 34, 35, 36, 37, 38, 39] (by decide +kernel) (by decide +kernel)
set_option maxRecDepth 20000 in
theorem gX6_mark_X6_begins : GoodIn wsX6_mark (wsV RX6 233 RX6 yX6_begins wsX6_begins) := goodIn_app (goodIn_of _ (by decide +kernel)) ggX6_mark_X6_begins
set_option maxRecDepth 20000 in
theorem ggX6_mark_X6_markPen : GoodIn wsX6_mark wsX6_markPen := goodIn_r _ [12, 1, 2, 3, 4, 5, 6, 7, 8, 13, 14, 15, 16, 21, 22, 23, 24, 25, 26, 27, 28, 29, 30, 31, 32, 33, 34, 35, 36, 37, 38, 39] (by decide +kernel) (by decide +kernel)
set_option maxRecDepth 20000 in
theorem gX6_mark_X6_markPen : GoodIn wsX6_mark (wsV RX6 239 RX6 yX6_markPen wsX6_markPen) := goodIn_app (goodIn_of _ (by decide +kernel)) ggX6_mark_X6_markPen
set_option maxRecDepth 20000 in
theorem ggX6_mark_X6_markLent : GoodIn wsX6_mark wsX6_markLent := goodIn_r _ [16, 2, 3, 4, 5, 6, 7, 8, 21, 22, 23, 24, 25, 26, 27, 28, 29, 30, 31, 32, 33, 34, 35, 36, 37, 38, 39] (by decide +kernel) (by decide +kernel)
set_option maxRecDepth 20000 in
theorem gX6_mark_X6_markLent : GoodIn wsX6_mark (wsV RX6 236 RX6 yX6_markLent wsX6_markLent) := goodIn_app (goodIn_of _ (by decide +kernel)) ggX6_mark_X6_markLent
set_option maxRecDepth 20000 in
theorem ggX6_mark_X6_sizeOld : GoodIn wsX6_mark wsX6_sizeOld := goodIn_r _ [20, 1, 2, 3, 4, 5, 6, 7, 8, 21, 22, 23, 24, 25, 26, 27, 28, 29, 30, 31, 32, 33, 34, 35, 36, 37, 38, 39] (by decide +kernel) (by decide +kernel)
set_option maxRecDepth 20000 in
theorem gX6_mark_X6_sizeOld : GoodIn wsX6_mark (wsV RX6 242 RX6 yX6_sizeOld wsX6_sizeOld) := goodIn_app (goodIn_of _ (by decide +kernel)) ggX6_mark_X6_sizeOld
theorem dX6_mark_0 : decode cX6_mark 0 = .ok (.aload_n 0, 1) := by decide +kernel
theorem dX6_mark_1 : decode cX6_mark 1 = .ok (.getfield 7, 3) := by decide +kernel
theorem dX6_mark_4 : decode cX6_mark 4 = .ok (.bipush 26, 2) := by decide +kernel
theorem dX6_mark_6 : decode cX6_mark 6 = .ok (.iload_n 1, 1) := by decide +kernel
theorem dX6_mark_7 : decode cX6_mark 7 = .ok (.iadd, 1) := by decide +kernel
theorem dX6_mark_8 : decode cX6_mark 8 = .ok (.iaload, 1) := by decide +kernel
theorem dX6_mark_9 : decode cX6_mark 9 = .ok (.istore_n 2, 1) := by decide +kernel
theorem dX6_mark_10 : decode cX6_mark 10 = .ok (.iload_n 2, 1) := by decide +kernel
theorem dX6_mark_11 : decode cX6_mark 11 = .ok (.tableswitch 61 1 3 #[55, 25, 39], 25) := by decide +kernel
theorem dX6_mark_36 : decode cX6_mark 36 = .ok (.aload_n 0, 1) := by decide +kernel
theorem dX6_mark_37 : decode cX6_mark 37 = .ok (.bipush 24, 2) := by decide +kernel
theorem dX6_mark_39 : decode cX6_mark 39 = .ok (.invokevirtual 233, 3) := by decide +kernel
theorem dX6_mark_42 : decode cX6_mark 42 = .ok (.iconst 2, 1) := by decide +kernel
theorem dX6_mark_43 : decode cX6_mark 43 = .ok (.aload_n 0, 1) := by decide +kernel
theorem dX6_mark_44 : decode cX6_mark 44 = .ok (.iload_n 1, 1) := by decide +kernel
theorem dX6_mark_45 : decode cX6_mark 45 = .ok (.invokevirtual 239, 3) := by decide +kernel
theorem dX6_mark_48 : decode cX6_mark 48 = .ok (.imul, 1) := by decide +kernel
theorem dX6_mark_49 : decode cX6_mark 49 = .ok (.ireturn, 1) := by decide +kernel
theorem dX6_mark_50 : decode cX6_mark 50 = .ok (.aload_n 0, 1) := by decide +kernel
theorem dX6_mark_51 : decode cX6_mark 51 = .ok (.bipush 22, 2) := by decide +kernel
theorem dX6_mark_53 : decode cX6_mark 53 = .ok (.invokevirtual 233, 3) := by decide +kernel
theorem dX6_mark_56 : decode cX6_mark 56 = .ok (.aload_n 0, 1) := by decide +kernel
theorem dX6_mark_57 : decode cX6_mark 57 = .ok (.iload_n 1, 1) := by decide +kernel
theorem dX6_mark_58 : decode cX6_mark 58 = .ok (.invokevirtual 239, 3) := by decide +kernel
theorem dX6_mark_61 : decode cX6_mark 61 = .ok (.sipush 1000, 3) := by decide +kernel
theorem dX6_mark_64 : decode cX6_mark 64 = .ok (.isub, 1) := by decide +kernel
theorem dX6_mark_65 : decode cX6_mark 65 = .ok (.ireturn, 1) := by decide +kernel
theorem dX6_mark_66 : decode cX6_mark 66 = .ok (.aload_n 0, 1) := by decide +kernel
theorem dX6_mark_67 : decode cX6_mark 67 = .ok (.iload_n 1, 1) := by decide +kernel
theorem dX6_mark_68 : decode cX6_mark 68 = .ok (.invokevirtual 239, 3) := by decide +kernel
theorem dX6_mark_71 : decode cX6_mark 71 = .ok (.ireturn, 1) := by decide +kernel
theorem dX6_mark_72 : decode cX6_mark 72 = .ok (.aload_n 0, 1) := by decide +kernel
theorem dX6_mark_73 : decode cX6_mark 73 = .ok (.bipush 23, 2) := by decide +kernel
theorem dX6_mark_75 : decode cX6_mark 75 = .ok (.invokevirtual 233, 3) := by decide +kernel
theorem dX6_mark_78 : decode cX6_mark 78 = .ok (.aload_n 0, 1) := by decide +kernel
theorem dX6_mark_79 : decode cX6_mark 79 = .ok (.iload_n 1, 1) := by decide +kernel
theorem dX6_mark_80 : decode cX6_mark 80 = .ok (.invokevirtual 236, 3) := by decide +kernel
theorem dX6_mark_83 : decode cX6_mark 83 = .ok (.aload_n 0, 1) := by decide +kernel
theorem dX6_mark_84 : decode cX6_mark 84 = .ok (.iload_n 1, 1) := by decide +kernel
theorem dX6_mark_85 : decode cX6_mark 85 = .ok (.iload_n 2, 1) := by decide +kernel
theorem dX6_mark_86 : decode cX6_mark 86 = .ok (.iconst 5, 1) := by decide +kernel
theorem dX6_mark_87 : decode cX6_mark 87 = .ok (.if_icmp .ne 7, 3) := by decide +kernel
theorem dX6_mark_90 : decode cX6_mark 90 = .ok (.iconst 1, 1) := by decide +kernel
theorem dX6_mark_91 : decode cX6_mark 91 = .ok (.goto 4, 3) := by decide +kernel
theorem dX6_mark_94 : decode cX6_mark 94 = .ok (.iconst 0, 1) := by decide +kernel
theorem dX6_mark_95 : decode cX6_mark 95 = .ok (.invokevirtual 242, 3) := by decide +kernel
theorem dX6_mark_98 : decode cX6_mark 98 = .ok (.isub, 1) := by decide +kernel
theorem dX6_mark_99 : decode cX6_mark 99 = .ok (.ireturn, 1) := by decide +kernel
set_option maxRecDepth 20000 in
theorem ggX6_sizePen_X6_begins : GoodIn wsX6_sizePen wsX6_begins := goodIn_r _ [6, 7, 8, 25, 26, 27, 28, 29, 30, 31, 32, 33, 34, 35, 36, 37, 38, 39, 40, 41, 42, 43] (by decide +kernel) (by decide +kernel)
set_option maxRecDepth 20000 in
theorem gX6_sizePen_X6_begins : GoodIn wsX6_sizePen (wsV RX6 233 RX6 yX6_begins wsX6_begins) := goodIn_app (goodIn_of _ (by decide +kernel)) ggX6_sizePen_X6_begins
set_option maxRecDepth 20000 in
theorem ggX6_sizePen_X6_mark : GoodIn wsX6_sizePen wsX6_mark := goodIn_r _ [12, 1, 2, 3, 4, 5, 6, 7, 8, 13, 14, 15, 16, 17, 18, 19, 20, 21, 22, 23, 24, 25, 26, 27, 28, 29, 30, 31, 32, 33, 34, 35, 36, 37, 38, 39, 40, 41, 42, 43] (by decide +kernel) (by decide +kernel)
set_option maxRecDepth 20000 in
theorem gX6_sizePen_X6_mark : GoodIn wsX6_sizePen (wsV RX6 246 RX6 yX6_mark wsX6_mark) := goodIn_app (goodIn_of _ (by decide +kernel)) ggX6_sizePen_X6_mark
theorem dX6_sizePen_0 : decode cX6_sizePen 0 = .ok (.aload_n 0, 1) := by decide +kernel
theorem dX6_sizePen_1 : decode cX6_sizePen 1 = .ok (.bipush 11, 2) := by decide +kernel
theorem dX6_sizePen_3 : decode cX6_sizePen 3 = .ok (.invokevirtual 233, 3) := by decide +kernel
theorem dX6_sizePen_6 : decode cX6_sizePen 6 = .ok (.aload_n 0, 1) := by decide +kernel
theorem dX6_sizePen_7 : decode cX6_sizePen 7 = .ok (.bipush 10, 2) := by decide +kernel
theorem dX6_sizePen_9 : decode cX6_sizePen 9 = .ok (.invokevirtual 233, 3) := by decide +kernel
theorem dX6_sizePen_12 : decode cX6_sizePen 12 = .ok (.aload_n 0, 1) := by decide +kernel
theorem dX6_sizePen_13 : decode cX6_sizePen 13 = .ok (.getfield 7, 3) := by decide +kernel
theorem dX6_sizePen_16 : decode cX6_sizePen 16 = .ok (.bipush 17, 2) := by decide +kernel
theorem dX6_sizePen_18 : decode cX6_sizePen 18 = .ok (.iload_n 1, 1) := by decide +kernel
theorem dX6_sizePen_19 : decode cX6_sizePen 19 = .ok (.iadd, 1) := by decide +kernel
theorem dX6_sizePen_20 : decode cX6_sizePen 20 = .ok (.iaload, 1) := by decide +kernel
theorem dX6_sizePen_21 : decode cX6_sizePen 21 = .ok (.aload_n 0, 1) := by decide +kernel
theorem dX6_sizePen_22 : decode cX6_sizePen 22 = .ok (.iload_n 1, 1) := by decide +kernel
theorem dX6_sizePen_23 : decode cX6_sizePen 23 = .ok (.invokevirtual 246, 3) := by decide +kernel
theorem dX6_sizePen_26 : decode cX6_sizePen 26 = .ok (.iadd, 1) := by decide +kernel
theorem dX6_sizePen_27 : decode cX6_sizePen 27 = .ok (.ireturn, 1) := by decide +kernel
set_option maxRecDepth 20000 in
theorem ggX6_size_X6_begins : GoodIn wsX6_size wsX6_begins := goodIn_r _ [6, 7, 8, 29, 30, 31, 32, 33, 34, 35, 36, 37, 38, 39, 40, 41, 42, 43, 44, 45, 46, 47] (by decide +kernel) (by decide +kernel)
set_option maxRecDepth 20000 in
theorem gX6_size_X6_begins : GoodIn wsX6_size (wsV RX6 233 RX6 yX6_begins wsX6_begins) := goodIn_app (goodIn_of _ (by decide +kernel)) ggX6_size_X6_begins
set_option maxRecDepth 20000 in
theorem ggX6_size_X6_sizePen : GoodIn wsX6_size wsX6_sizePen := goodIn_r _ [12, 1, 2, 3, 4, 5, 6, 7, 8, 13, 14, 15, 16, 17, 18, 19, 20, 21, 22, 23, 24, 25, 26, 27, 28, 29, 30, 31, 32, 33, 34, 35, 36, 37, 38, 39, 40, 41, 42, 43, 44, 45, 46, 47] (by decide +kernel) (by decide +kernel)
set_option maxRecDepth 20000 in
theorem gX6_size_X6_sizePen : GoodIn wsX6_size (wsV RX6 249 RX6 yX6_sizePen wsX6_sizePen) := goodIn_app (goodIn_of _ (by decide +kernel)) ggX6_size_X6_sizePen
set_option maxRecDepth 20000 in
theorem ggX6_size_X6_sizeOld : GoodIn wsX6_size wsX6_sizeOld := goodIn_r _ [28, 1, 2, 3, 4, 5, 6, 7, 8, 29, 30, 31, 32, 33, 34, 35, 36, 37, 38, 39, 40, 41, 42, 43, 44, 45, 46, 47] (by decide +kernel) (by decide +kernel)
set_option maxRecDepth 20000 in
theorem gX6_size_X6_sizeOld : GoodIn wsX6_size (wsV RX6 242 RX6 yX6_sizeOld wsX6_sizeOld) := goodIn_app (goodIn_of _ (by decide +kernel)) ggX6_size_X6_sizeOld
theorem dX6_size_0 : decode cX6_size 0 = .ok (.aload_n 0, 1) := by decide +kernel
theorem dX6_size_1 : decode cX6_size 1 = .ok (.getfield 7, 3) := by decide +kernel
theorem dX6_size_4 : decode cX6_size 4 = .ok (.bipush 26, 2) := by decide +kernel
theorem dX6_size_6 : decode cX6_size 6 = .ok (.iload_n 1, 1) := by decide +kernel
theorem dX6_size_7 : decode cX6_size 7 = .ok (.iadd, 1) := by decide +kernel
theorem dX6_size_8 : decode cX6_size 8 = .ok (.iaload, 1) := by decide +kernel
theorem dX6_size_9 : decode cX6_size 9 = .ok (.istore_n 2, 1) := by decide +kernel
theorem dX6_size_10 : decode cX6_size 10 = .ok (.iload_n 2, 1) := by decide +kernel
theorem dX6_size_11 : decode cX6_size 11 = .ok (.tableswitch 44 1 3 #[38, 25, 38], 25) := by decide +kernel
theorem dX6_size_36 : decode cX6_size 36 = .ok (.aload_n 0, 1) := by decide +kernel
theorem dX6_size_37 : decode cX6_size 37 = .ok (.bipush 12, 2) := by decide +kernel
theorem dX6_size_39 : decode cX6_size 39 = .ok (.invokevirtual 233, 3) := by decide +kernel
theorem dX6_size_42 : decode cX6_size 42 = .ok (.aload_n 0, 1) := by decide +kernel
theorem dX6_size_43 : decode cX6_size 43 = .ok (.iload_n 1, 1) := by decide +kernel
theorem dX6_size_44 : decode cX6_size 44 = .ok (.invokevirtual 249, 3) := by decide +kernel
theorem dX6_size_47 : decode cX6_size 47 = .ok (.ineg, 1) := by decide +kernel
theorem dX6_size_48 : decode cX6_size 48 = .ok (.ireturn, 1) := by decide +kernel
theorem dX6_size_49 : decode cX6_size 49 = .ok (.aload_n 0, 1) := by decide +kernel
theorem dX6_size_50 : decode cX6_size 50 = .ok (.iload_n 1, 1) := by decide +kernel
theorem dX6_size_51 : decode cX6_size 51 = .ok (.invokevirtual 249, 3) := by decide +kernel
theorem dX6_size_54 : decode cX6_size 54 = .ok (.ireturn, 1) := by decide +kernel
theorem dX6_size_55 : decode cX6_size 55 = .ok (.aload_n 0, 1) := by decide +kernel
theorem dX6_size_56 : decode cX6_size 56 = .ok (.iload_n 1, 1) := by decide +kernel
theorem dX6_size_57 : decode cX6_size 57 = .ok (.iload_n 2, 1) := by decide +kernel
theorem dX6_size_58 : decode cX6_size 58 = .ok (.iconst 5, 1) := by decide +kernel
theorem dX6_size_59 : decode cX6_size 59 = .ok (.if_icmp .ne 7, 3) := by decide +kernel
theorem dX6_size_62 : decode cX6_size 62 = .ok (.iconst 1, 1) := by decide +kernel
theorem dX6_size_63 : decode cX6_size 63 = .ok (.goto 4, 3) := by decide +kernel
theorem dX6_size_66 : decode cX6_size 66 = .ok (.iconst 0, 1) := by decide +kernel
theorem dX6_size_67 : decode cX6_size 67 = .ok (.invokevirtual 242, 3) := by decide +kernel
theorem dX6_size_70 : decode cX6_size 70 = .ok (.ireturn, 1) := by decide +kernel
set_option maxRecDepth 20000 in
theorem ggX6_ask_X6_isSwan : GoodIn wsX6_ask wsX6_isSwan := goodIn_r _ [7, 8, 9, 10, 6, 11, 41, 42, 43, 44, 45, 46, 47, 48, 49, 50, 51, 52, 53, 54, 55, 56, 57, 58, 59] (by decide +kernel) (by decide +kernel)
set_option maxRecDepth 20000 in
theorem gX6_ask_X6_isSwan : GoodIn wsX6_ask (wsV RX6 174 RX6 yX6_isSwan wsX6_isSwan) := goodIn_app (goodIn_of _ (by decide +kernel)) ggX6_ask_X6_isSwan
set_option maxRecDepth 20000 in
theorem ggX6_ask_X6_in : GoodIn wsX6_ask wsX6_in := goodIn_r _ [11] (by decide +kernel) (by decide +kernel)
set_option maxRecDepth 20000 in
theorem gX6_ask_X6_in : GoodIn wsX6_ask (va_wsS RX6 45 yX6_in wsX6_in) := goodIn_app (goodIn_of _ (by decide +kernel)) ggX6_ask_X6_in
set_option maxRecDepth 20000 in
theorem ggX6_ask_X6_size : GoodIn wsX6_ask wsX6_size := goodIn_r _ [15, 8, 16, 17, 18, 6, 19, 2, 20, 21, 22, 23, 24, 25, 26, 27, 28, 29, 30, 31, 32, 33, 34, 35, 36, 37, 38, 39, 40, 41, 42, 43, 44, 45, 46, 47, 48, 49, 50, 51, 52, 53, 54, 55, 56, 57, 58, 59] (by decide +kernel) (by decide +kernel)
set_option maxRecDepth 20000 in
theorem gX6_ask_X6_size : GoodIn wsX6_ask (wsV RX6 252 RX6 yX6_size wsX6_size) := goodIn_app (goodIn_of _ (by decide +kernel)) ggX6_ask_X6_size
set_option maxRecDepth 20000 in
theorem ggX6_ask_X6_mark : GoodIn wsX6_ask wsX6_mark := goodIn_r _ [28, 8, 16, 17, 18, 6, 19, 2, 20, 29, 30, 31, 32, 33, 34, 35, 36, 37, 38, 39, 40, 41, 42, 43, 44, 45, 46, 47, 48, 49, 50, 51, 52, 53, 54, 55, 56, 57, 58, 59] (by decide +kernel) (by decide +kernel)
set_option maxRecDepth 20000 in
theorem gX6_ask_X6_mark : GoodIn wsX6_ask (wsV RX6 246 RX6 yX6_mark wsX6_mark) := goodIn_app (goodIn_of _ (by decide +kernel)) ggX6_ask_X6_mark
theorem dX6_ask_0 : decode cX6_ask 0 = .ok (.aload_n 0, 1) := by decide +kernel
theorem dX6_ask_1 : decode cX6_ask 1 = .ok (.iload_n 1, 1) := by decide +kernel
theorem dX6_ask_2 : decode cX6_ask 2 = .ok (.invokevirtual 174, 3) := by decide +kernel
theorem dX6_ask_5 : decode cX6_ask 5 = .ok (.ifCond .eq 13, 3) := by decide +kernel
theorem dX6_ask_8 : decode cX6_ask 8 = .ok (.iload_n 2, 1) := by decide +kernel
theorem dX6_ask_9 : decode cX6_ask 9 = .ok (.i2l, 1) := by decide +kernel
theorem dX6_ask_10 : decode cX6_ask 10 = .ok (.lconst 0, 1) := by decide +kernel
theorem dX6_ask_11 : decode cX6_ask 11 = .ok (.lconst 1, 1) := by decide +kernel
theorem dX6_ask_12 : decode cX6_ask 12 = .ok (.invokestatic 45, 3) := by decide +kernel
theorem dX6_ask_15 : decode cX6_ask 15 = .ok (.ifCond .ne 6, 3) := by decide +kernel
theorem dX6_ask_18 : decode cX6_ask 18 = .ok (.ldc 55, 2) := by decide +kernel
theorem dX6_ask_20 : decode cX6_ask 20 = .ok (.ireturn, 1) := by decide +kernel
theorem dX6_ask_21 : decode cX6_ask 21 = .ok (.aload_n 0, 1) := by decide +kernel
theorem dX6_ask_22 : decode cX6_ask 22 = .ok (.iconst 0, 1) := by decide +kernel
theorem dX6_ask_23 : decode cX6_ask 23 = .ok (.putfield 230, 3) := by decide +kernel
theorem dX6_ask_26 : decode cX6_ask 26 = .ok (.iload_n 2, 1) := by decide +kernel
theorem dX6_ask_27 : decode cX6_ask 27 = .ok (.ifCond .ne 11, 3) := by decide +kernel
theorem dX6_ask_30 : decode cX6_ask 30 = .ok (.aload_n 0, 1) := by decide +kernel
theorem dX6_ask_31 : decode cX6_ask 31 = .ok (.iload_n 1, 1) := by decide +kernel
theorem dX6_ask_32 : decode cX6_ask 32 = .ok (.invokevirtual 252, 3) := by decide +kernel
theorem dX6_ask_35 : decode cX6_ask 35 = .ok (.goto 8, 3) := by decide +kernel
theorem dX6_ask_38 : decode cX6_ask 38 = .ok (.aload_n 0, 1) := by decide +kernel
theorem dX6_ask_39 : decode cX6_ask 39 = .ok (.iload_n 1, 1) := by decide +kernel
theorem dX6_ask_40 : decode cX6_ask 40 = .ok (.invokevirtual 246, 3) := by decide +kernel
theorem dX6_ask_43 : decode cX6_ask 43 = .ok (.ireturn, 1) := by decide +kernel
set_option maxRecDepth 20000 in
theorem ggX6_trace_X6_in : GoodIn wsX6_trace wsX6_in := goodIn_r _ [7] (by decide +kernel) (by decide +kernel)
set_option maxRecDepth 20000 in
theorem gX6_trace_X6_in : GoodIn wsX6_trace (va_wsS RX6 45 yX6_in wsX6_in) := goodIn_app (goodIn_of _ (by decide +kernel)) ggX6_trace_X6_in
theorem dX6_trace_0 : decode cX6_trace 0 = .ok (.iload_n 1, 1) := by decide +kernel
theorem dX6_trace_1 : decode cX6_trace 1 = .ok (.i2l, 1) := by decide +kernel
theorem dX6_trace_2 : decode cX6_trace 2 = .ok (.lconst 0, 1) := by decide +kernel
theorem dX6_trace_3 : decode cX6_trace 3 = .ok (.aload_n 0, 1) := by decide +kernel
theorem dX6_trace_4 : decode cX6_trace 4 = .ok (.getfield 230, 3) := by decide +kernel
theorem dX6_trace_7 : decode cX6_trace 7 = .ok (.iconst 1, 1) := by decide +kernel
theorem dX6_trace_8 : decode cX6_trace 8 = .ok (.isub, 1) := by decide +kernel
theorem dX6_trace_9 : decode cX6_trace 9 = .ok (.i2l, 1) := by decide +kernel
theorem dX6_trace_10 : decode cX6_trace 10 = .ok (.invokestatic 45, 3) := by decide +kernel
theorem dX6_trace_13 : decode cX6_trace 13 = .ok (.ifCond .eq 12, 3) := by decide +kernel
theorem dX6_trace_16 : decode cX6_trace 16 = .ok (.aload_n 0, 1) := by decide +kernel
theorem dX6_trace_17 : decode cX6_trace 17 = .ok (.getfield 32, 3) := by decide +kernel
theorem dX6_trace_20 : decode cX6_trace 20 = .ok (.iload_n 1, 1) := by decide +kernel
theorem dX6_trace_21 : decode cX6_trace 21 = .ok (.iaload, 1) := by decide +kernel
theorem dX6_trace_22 : decode cX6_trace 22 = .ok (.goto 5, 3) := by decide +kernel
theorem dX6_trace_25 : decode cX6_trace 25 = .ok (.ldc 194, 2) := by decide +kernel
theorem dX6_trace_27 : decode cX6_trace 27 = .ok (.ireturn, 1) := by decide +kernel
theorem dX6_crumbsOfAll_0 : decode cX6_crumbsOfAll 0 = .ok (.iconst 0, 1) := by decide +kernel
theorem dX6_crumbsOfAll_1 : decode cX6_crumbsOfAll 1 = .ok (.istore_n 1, 1) := by decide +kernel
theorem dX6_crumbsOfAll_2 : decode cX6_crumbsOfAll 2 = .ok (.iconst 0, 1) := by decide +kernel
theorem dX6_crumbsOfAll_3 : decode cX6_crumbsOfAll 3 = .ok (.istore_n 2, 1) := by decide +kernel
theorem dX6_crumbsOfAll_4 : decode cX6_crumbsOfAll 4 = .ok (.iload_n 2, 1) := by decide +kernel
theorem dX6_crumbsOfAll_5 : decode cX6_crumbsOfAll 5 = .ok (.aload_n 0, 1) := by decide +kernel
theorem dX6_crumbsOfAll_6 : decode cX6_crumbsOfAll 6 = .ok (.getfield 7, 3) := by decide +kernel
theorem dX6_crumbsOfAll_9 : decode cX6_crumbsOfAll 9 = .ok (.bipush 24, 2) := by decide +kernel
theorem dX6_crumbsOfAll_11 : decode cX6_crumbsOfAll 11 = .ok (.iaload, 1) := by decide +kernel
theorem dX6_crumbsOfAll_12 : decode cX6_crumbsOfAll 12 = .ok (.if_icmp .ge 20, 3) := by decide +kernel
theorem dX6_crumbsOfAll_15 : decode cX6_crumbsOfAll 15 = .ok (.iload_n 1, 1) := by decide +kernel
theorem dX6_crumbsOfAll_16 : decode cX6_crumbsOfAll 16 = .ok (.aload_n 0, 1) := by decide +kernel
theorem dX6_crumbsOfAll_17 : decode cX6_crumbsOfAll 17 = .ok (.getfield 7, 3) := by decide +kernel
theorem dX6_crumbsOfAll_20 : decode cX6_crumbsOfAll 20 = .ok (.iconst 1, 1) := by decide +kernel
theorem dX6_crumbsOfAll_21 : decode cX6_crumbsOfAll 21 = .ok (.iload_n 2, 1) := by decide +kernel
theorem dX6_crumbsOfAll_22 : decode cX6_crumbsOfAll 22 = .ok (.iadd, 1) := by decide +kernel
theorem dX6_crumbsOfAll_23 : decode cX6_crumbsOfAll 23 = .ok (.iaload, 1) := by decide +kernel
theorem dX6_crumbsOfAll_24 : decode cX6_crumbsOfAll 24 = .ok (.iadd, 1) := by decide +kernel
theorem dX6_crumbsOfAll_25 : decode cX6_crumbsOfAll 25 = .ok (.istore_n 1, 1) := by decide +kernel
theorem dX6_crumbsOfAll_26 : decode cX6_crumbsOfAll 26 = .ok (.iinc 2 1, 3) := by decide +kernel
theorem dX6_crumbsOfAll_29 : decode cX6_crumbsOfAll 29 = .ok (.goto (-25), 3) := by decide +kernel
theorem dX6_crumbsOfAll_32 : decode cX6_crumbsOfAll 32 = .ok (.iload_n 1, 1) := by decide +kernel
theorem dX6_crumbsOfAll_33 : decode cX6_crumbsOfAll 33 = .ok (.ireturn, 1) := by decide +kernel
set_option maxRecDepth 20000 in
theorem ggX6_count_X6_crumbsOfAll : GoodIn wsX6_count wsX6_crumbsOfAll := goodIn_r _ [10, 2, 11, 12, 13, 14, 15, 16, 17, 18, 19, 20, 21, 22, 23, 24, 25, 26, 27, 28, 29] (by decide +kernel) (by decide +kernel)
set_option maxRecDepth 20000 in
theorem gX6_count_X6_crumbsOfAll : GoodIn wsX6_count (wsV RX6 255 RX6 yX6_crumbsOfAll wsX6_crumbsOfAll) := goodIn_app (goodIn_of _ (by decide +kernel)) ggX6_count_X6_crumbsOfAll
theorem dX6_count_0 : decode cX6_count 0 = .ok (.iload_n 1, 1) := by decide +kernel
theorem dX6_count_1 : decode cX6_count 1 = .ok (.tableswitch 128 0 7 #[47, 82, 90, 98, 105, 110, 118, 123], 47) := by decide +kernel
theorem dX6_count_48 : decode cX6_count 48 = .ok (.iconst 0, 1) := by decide +kernel
theorem dX6_count_49 : decode cX6_count 49 = .ok (.istore_n 2, 1) := by decide +kernel
theorem dX6_count_50 : decode cX6_count 50 = .ok (.iconst 0, 1) := by decide +kernel
theorem dX6_count_51 : decode cX6_count 51 = .ok (.istore_n 3, 1) := by decide +kernel
theorem dX6_count_52 : decode cX6_count 52 = .ok (.iload_n 3, 1) := by decide +kernel
theorem dX6_count_53 : decode cX6_count 53 = .ok (.bipush 8, 2) := by decide +kernel
theorem dX6_count_55 : decode cX6_count 55 = .ok (.if_icmp .ge 26, 3) := by decide +kernel
theorem dX6_count_58 : decode cX6_count 58 = .ok (.iload_n 2, 1) := by decide +kernel
theorem dX6_count_59 : decode cX6_count 59 = .ok (.aload_n 0, 1) := by decide +kernel
theorem dX6_count_60 : decode cX6_count 60 = .ok (.getfield 23, 3) := by decide +kernel
theorem dX6_count_63 : decode cX6_count 63 = .ok (.iload_n 3, 1) := by decide +kernel
theorem dX6_count_64 : decode cX6_count 64 = .ok (.iaload, 1) := by decide +kernel
theorem dX6_count_65 : decode cX6_count 65 = .ok (.ifCond .ge 7, 3) := by decide +kernel
theorem dX6_count_68 : decode cX6_count 68 = .ok (.iconst 0, 1) := by decide +kernel
theorem dX6_count_69 : decode cX6_count 69 = .ok (.goto 4, 3) := by decide +kernel
theorem dX6_count_72 : decode cX6_count 72 = .ok (.iconst 1, 1) := by decide +kernel
theorem dX6_count_73 : decode cX6_count 73 = .ok (.iadd, 1) := by decide +kernel
theorem dX6_count_74 : decode cX6_count 74 = .ok (.istore_n 2, 1) := by decide +kernel
theorem dX6_count_75 : decode cX6_count 75 = .ok (.iinc 3 1, 3) := by decide +kernel
theorem dX6_count_78 : decode cX6_count 78 = .ok (.goto (-26), 3) := by decide +kernel
theorem dX6_count_81 : decode cX6_count 81 = .ok (.iload_n 2, 1) := by decide +kernel
theorem dX6_count_82 : decode cX6_count 82 = .ok (.ireturn, 1) := by decide +kernel
theorem dX6_count_83 : decode cX6_count 83 = .ok (.aload_n 0, 1) := by decide +kernel
theorem dX6_count_84 : decode cX6_count 84 = .ok (.getfield 7, 3) := by decide +kernel
theorem dX6_count_87 : decode cX6_count 87 = .ok (.bipush 24, 2) := by decide +kernel
theorem dX6_count_89 : decode cX6_count 89 = .ok (.iaload, 1) := by decide +kernel
theorem dX6_count_90 : decode cX6_count 90 = .ok (.ireturn, 1) := by decide +kernel
theorem dX6_count_91 : decode cX6_count 91 = .ok (.aload_n 0, 1) := by decide +kernel
theorem dX6_count_92 : decode cX6_count 92 = .ok (.getfield 7, 3) := by decide +kernel
theorem dX6_count_95 : decode cX6_count 95 = .ok (.bipush 25, 2) := by decide +kernel
theorem dX6_count_97 : decode cX6_count 97 = .ok (.iaload, 1) := by decide +kernel
theorem dX6_count_98 : decode cX6_count 98 = .ok (.ireturn, 1) := by decide +kernel
theorem dX6_count_99 : decode cX6_count 99 = .ok (.aload_n 0, 1) := by decide +kernel
theorem dX6_count_100 : decode cX6_count 100 = .ok (.getfield 7, 3) := by decide +kernel
theorem dX6_count_103 : decode cX6_count 103 = .ok (.iconst 0, 1) := by decide +kernel
theorem dX6_count_104 : decode cX6_count 104 = .ok (.iaload, 1) := by decide +kernel
theorem dX6_count_105 : decode cX6_count 105 = .ok (.ireturn, 1) := by decide +kernel
theorem dX6_count_106 : decode cX6_count 106 = .ok (.aload_n 0, 1) := by decide +kernel
theorem dX6_count_107 : decode cX6_count 107 = .ok (.invokevirtual 255, 3) := by decide +kernel
theorem dX6_count_110 : decode cX6_count 110 = .ok (.ireturn, 1) := by decide +kernel
theorem dX6_count_111 : decode cX6_count 111 = .ok (.aload_n 0, 1) := by decide +kernel
theorem dX6_count_112 : decode cX6_count 112 = .ok (.getfield 7, 3) := by decide +kernel
theorem dX6_count_115 : decode cX6_count 115 = .ok (.bipush 10, 2) := by decide +kernel
theorem dX6_count_117 : decode cX6_count 117 = .ok (.iaload, 1) := by decide +kernel
theorem dX6_count_118 : decode cX6_count 118 = .ok (.ireturn, 1) := by decide +kernel
theorem dX6_count_119 : decode cX6_count 119 = .ok (.aload_n 0, 1) := by decide +kernel
theorem dX6_count_120 : decode cX6_count 120 = .ok (.getfield 117, 3) := by decide +kernel
theorem dX6_count_123 : decode cX6_count 123 = .ok (.ireturn, 1) := by decide +kernel
theorem dX6_count_124 : decode cX6_count 124 = .ok (.aload_n 0, 1) := by decide +kernel
theorem dX6_count_125 : decode cX6_count 125 = .ok (.getfield 69, 3) := by decide +kernel
theorem dX6_count_128 : decode cX6_count 128 = .ok (.ireturn, 1) := by decide +kernel
theorem dX6_count_129 : decode cX6_count 129 = .ok (.ldc 55, 2) := by decide +kernel
theorem dX6_count_131 : decode cX6_count 131 = .ok (.ireturn, 1) := by decide +kernel
theorem dX6_status_0 : decode cX6_status 0 = .ok (.aload_n 0, 1) := by decide +kernel
theorem dX6_status_1 : decode cX6_status 1 = .ok (.getfield 38, 3) := by decide +kernel
theorem dX6_status_4 : decode cX6_status 4 = .ok (.ireturn, 1) := by decide +kernel
theorem dJ6_compare_7cf53_0 : decode cJ6_compare_7cf53 0 = .ok (.iload_n 0, 1) := by decide +kernel
theorem dJ6_compare_7cf53_1 : decode cJ6_compare_7cf53 1 = .ok (.iload_n 1, 1) := by decide +kernel
theorem dJ6_compare_7cf53_2 : decode cJ6_compare_7cf53 2 = .ok (.if_icmp .ge 7, 3) := by decide +kernel
theorem dJ6_compare_7cf53_5 : decode cJ6_compare_7cf53 5 = .ok (.iconst (-1), 1) := by decide +kernel
theorem dJ6_compare_7cf53_6 : decode cJ6_compare_7cf53 6 = .ok (.goto 13, 3) := by decide +kernel
theorem dJ6_compare_7cf53_9 : decode cJ6_compare_7cf53 9 = .ok (.iload_n 0, 1) := by decide +kernel
theorem dJ6_compare_7cf53_10 : decode cJ6_compare_7cf53 10 = .ok (.iload_n 1, 1) := by decide +kernel
theorem dJ6_compare_7cf53_11 : decode cJ6_compare_7cf53 11 = .ok (.if_icmp .ne 7, 3) := by decide +kernel
theorem dJ6_compare_7cf53_14 : decode cJ6_compare_7cf53 14 = .ok (.iconst 0, 1) := by decide +kernel
theorem dJ6_compare_7cf53_15 : decode cJ6_compare_7cf53 15 = .ok (.goto 4, 3) := by decide +kernel
theorem dJ6_compare_7cf53_18 : decode cJ6_compare_7cf53 18 = .ok (.iconst 1, 1) := by decide +kernel
theorem dJ6_compare_7cf53_19 : decode cJ6_compare_7cf53 19 = .ok (.ireturn, 1) := by decide +kernel
theorem dJ6_bitCount_0f7a4_0 : decode cJ6_bitCount_0f7a4 0 = .ok (.iload_n 0, 1) := by decide +kernel
theorem dJ6_bitCount_0f7a4_1 : decode cJ6_bitCount_0f7a4 1 = .ok (.iload_n 0, 1) := by decide +kernel
theorem dJ6_bitCount_0f7a4_2 : decode cJ6_bitCount_0f7a4 2 = .ok (.iconst 1, 1) := by decide +kernel
theorem dJ6_bitCount_0f7a4_3 : decode cJ6_bitCount_0f7a4 3 = .ok (.iushr, 1) := by decide +kernel
theorem dJ6_bitCount_0f7a4_4 : decode cJ6_bitCount_0f7a4 4 = .ok (.ldc_w 265, 3) := by decide +kernel
theorem dJ6_bitCount_0f7a4_7 : decode cJ6_bitCount_0f7a4 7 = .ok (.iand, 1) := by decide +kernel
theorem dJ6_bitCount_0f7a4_8 : decode cJ6_bitCount_0f7a4 8 = .ok (.isub, 1) := by decide +kernel
theorem dJ6_bitCount_0f7a4_9 : decode cJ6_bitCount_0f7a4 9 = .ok (.istore_n 0, 1) := by decide +kernel
theorem dJ6_bitCount_0f7a4_10 : decode cJ6_bitCount_0f7a4 10 = .ok (.iload_n 0, 1) := by decide +kernel
theorem dJ6_bitCount_0f7a4_11 : decode cJ6_bitCount_0f7a4 11 = .ok (.ldc_w 266, 3) := by decide +kernel
theorem dJ6_bitCount_0f7a4_14 : decode cJ6_bitCount_0f7a4 14 = .ok (.iand, 1) := by decide +kernel
theorem dJ6_bitCount_0f7a4_15 : decode cJ6_bitCount_0f7a4 15 = .ok (.iload_n 0, 1) := by decide +kernel
theorem dJ6_bitCount_0f7a4_16 : decode cJ6_bitCount_0f7a4 16 = .ok (.iconst 2, 1) := by decide +kernel
theorem dJ6_bitCount_0f7a4_17 : decode cJ6_bitCount_0f7a4 17 = .ok (.iushr, 1) := by decide +kernel
theorem dJ6_bitCount_0f7a4_18 : decode cJ6_bitCount_0f7a4 18 = .ok (.ldc_w 266, 3) := by decide +kernel
theorem dJ6_bitCount_0f7a4_21 : decode cJ6_bitCount_0f7a4 21 = .ok (.iand, 1) := by decide +kernel
theorem dJ6_bitCount_0f7a4_22 : decode cJ6_bitCount_0f7a4 22 = .ok (.iadd, 1) := by decide +kernel
theorem dJ6_bitCount_0f7a4_23 : decode cJ6_bitCount_0f7a4 23 = .ok (.istore_n 0, 1) := by decide +kernel
theorem dJ6_bitCount_0f7a4_24 : decode cJ6_bitCount_0f7a4 24 = .ok (.iload_n 0, 1) := by decide +kernel
theorem dJ6_bitCount_0f7a4_25 : decode cJ6_bitCount_0f7a4 25 = .ok (.iload_n 0, 1) := by decide +kernel
theorem dJ6_bitCount_0f7a4_26 : decode cJ6_bitCount_0f7a4 26 = .ok (.iconst 4, 1) := by decide +kernel
theorem dJ6_bitCount_0f7a4_27 : decode cJ6_bitCount_0f7a4 27 = .ok (.iushr, 1) := by decide +kernel
theorem dJ6_bitCount_0f7a4_28 : decode cJ6_bitCount_0f7a4 28 = .ok (.iadd, 1) := by decide +kernel
theorem dJ6_bitCount_0f7a4_29 : decode cJ6_bitCount_0f7a4 29 = .ok (.ldc_w 267, 3) := by decide +kernel
theorem dJ6_bitCount_0f7a4_32 : decode cJ6_bitCount_0f7a4 32 = .ok (.iand, 1) := by decide +kernel
theorem dJ6_bitCount_0f7a4_33 : decode cJ6_bitCount_0f7a4 33 = .ok (.istore_n 0, 1) := by decide +kernel
theorem dJ6_bitCount_0f7a4_34 : decode cJ6_bitCount_0f7a4 34 = .ok (.iload_n 0, 1) := by decide +kernel
theorem dJ6_bitCount_0f7a4_35 : decode cJ6_bitCount_0f7a4 35 = .ok (.iload_n 0, 1) := by decide +kernel
theorem dJ6_bitCount_0f7a4_36 : decode cJ6_bitCount_0f7a4 36 = .ok (.bipush 8, 2) := by decide +kernel
theorem dJ6_bitCount_0f7a4_38 : decode cJ6_bitCount_0f7a4 38 = .ok (.iushr, 1) := by decide +kernel
theorem dJ6_bitCount_0f7a4_39 : decode cJ6_bitCount_0f7a4 39 = .ok (.iadd, 1) := by decide +kernel
theorem dJ6_bitCount_0f7a4_40 : decode cJ6_bitCount_0f7a4 40 = .ok (.istore_n 0, 1) := by decide +kernel
theorem dJ6_bitCount_0f7a4_41 : decode cJ6_bitCount_0f7a4 41 = .ok (.iload_n 0, 1) := by decide +kernel
theorem dJ6_bitCount_0f7a4_42 : decode cJ6_bitCount_0f7a4 42 = .ok (.iload_n 0, 1) := by decide +kernel
theorem dJ6_bitCount_0f7a4_43 : decode cJ6_bitCount_0f7a4 43 = .ok (.bipush 16, 2) := by decide +kernel
theorem dJ6_bitCount_0f7a4_45 : decode cJ6_bitCount_0f7a4 45 = .ok (.iushr, 1) := by decide +kernel
theorem dJ6_bitCount_0f7a4_46 : decode cJ6_bitCount_0f7a4 46 = .ok (.iadd, 1) := by decide +kernel
theorem dJ6_bitCount_0f7a4_47 : decode cJ6_bitCount_0f7a4 47 = .ok (.istore_n 0, 1) := by decide +kernel
theorem dJ6_bitCount_0f7a4_48 : decode cJ6_bitCount_0f7a4 48 = .ok (.iload_n 0, 1) := by decide +kernel
theorem dJ6_bitCount_0f7a4_49 : decode cJ6_bitCount_0f7a4 49 = .ok (.bipush 63, 2) := by decide +kernel
theorem dJ6_bitCount_0f7a4_51 : decode cJ6_bitCount_0f7a4 51 = .ok (.iand, 1) := by decide +kernel
theorem dJ6_bitCount_0f7a4_52 : decode cJ6_bitCount_0f7a4 52 = .ok (.ireturn, 1) := by decide +kernel
theorem dJ9_max_f86c9_0 : decode cJ9_max_f86c9 0 = .ok (.lload_n 0, 1) := by decide +kernel
theorem dJ9_max_f86c9_1 : decode cJ9_max_f86c9 1 = .ok (.lload_n 2, 1) := by decide +kernel
theorem dJ9_max_f86c9_2 : decode cJ9_max_f86c9 2 = .ok (.lcmp, 1) := by decide +kernel
theorem dJ9_max_f86c9_3 : decode cJ9_max_f86c9 3 = .ok (.ifCond .lt 7, 3) := by decide +kernel
theorem dJ9_max_f86c9_6 : decode cJ9_max_f86c9 6 = .ok (.lload_n 0, 1) := by decide +kernel
theorem dJ9_max_f86c9_7 : decode cJ9_max_f86c9 7 = .ok (.goto 4, 3) := by decide +kernel
theorem dJ9_max_f86c9_10 : decode cJ9_max_f86c9 10 = .ok (.lload_n 2, 1) := by decide +kernel
theorem dJ9_max_f86c9_11 : decode cJ9_max_f86c9 11 = .ok (.lreturn, 1) := by decide +kernel
theorem dJ9_min_7cf53_0 : decode cJ9_min_7cf53 0 = .ok (.iload_n 0, 1) := by decide +kernel
theorem dJ9_min_7cf53_1 : decode cJ9_min_7cf53 1 = .ok (.iload_n 1, 1) := by decide +kernel
theorem dJ9_min_7cf53_2 : decode cJ9_min_7cf53 2 = .ok (.if_icmp .gt 7, 3) := by decide +kernel
theorem dJ9_min_7cf53_5 : decode cJ9_min_7cf53 5 = .ok (.iload_n 0, 1) := by decide +kernel
theorem dJ9_min_7cf53_6 : decode cJ9_min_7cf53 6 = .ok (.goto 4, 3) := by decide +kernel
theorem dJ9_min_7cf53_9 : decode cJ9_min_7cf53 9 = .ok (.iload_n 1, 1) := by decide +kernel
theorem dJ9_min_7cf53_10 : decode cJ9_min_7cf53 10 = .ok (.ireturn, 1) := by decide +kernel
