theorem dX5_kind_17 : decode cX5_kind 17 = .ok (.goto 5, 3) := by decide +kernel
theorem dX5_kind_20 : decode cX5_kind 20 = .ok (.ldc 58, 2) := by decide +kernel
theorem dX5_kind_22 : decode cX5_kind 22 = .ok (.ireturn, 1) := by decide +kernel
set_option maxRecDepth 20000 in
theorem ggX5_as_X5_isSwan : GoodIn wsX5_as wsX5_isSwan := goodIn_r _ [9, 2, 10, 11, 12, 8, 13, 23, 24, 25, 26, 27, 28, 29, 30, 31, 32, 33, 34, 35, 36, 37, 38, 39, 40, 41, 42] (by decide +kernel) (by decide +kernel)
set_option maxRecDepth 20000 in
theorem gX5_as_X5_isSwan : GoodIn wsX5_as (wsV RX5 164 RX5 yX5_isSwan wsX5_isSwan) := goodIn_app (goodIn_of _ (by decide +kernel)) ggX5_as_X5_isSwan
set_option maxRecDepth 20000 in
theorem ggX5_as_X5_within : GoodIn wsX5_as wsX5_within := goodIn_r _ [13] (by decide +kernel) (by decide +kernel)
set_option maxRecDepth 20000 in
theorem gX5_as_X5_within : GoodIn wsX5_as (va_wsS RX5 54 yX5_within wsX5_within) := goodIn_app (goodIn_of _ (by decide +kernel)) ggX5_as_X5_within
set_option maxRecDepth 20000 in
theorem ggX5_as_X5_isOfKind : GoodIn wsX5_as wsX5_isOfKind := goodIn_r _ [16, 17] (by decide +kernel) (by decide +kernel)
set_option maxRecDepth 20000 in
theorem gX5_as_X5_isOfKind : GoodIn wsX5_as (va_wsS RX5 269 yX5_isOfKind wsX5_isOfKind) := goodIn_app (goodIn_of _ (by decide +kernel)) ggX5_as_X5_isOfKind
set_option maxRecDepth 20000 in
theorem ggX5_as_X5_found : GoodIn wsX5_as wsX5_found := goodIn_r _ [21, 4, 22, 23, 24, 25, 26, 27, 28, 29, 30, 31] (by decide +kernel) (by decide +kernel)
set_option maxRecDepth 20000 in
theorem gX5_as_X5_found : GoodIn wsX5_as (wsV RX5 59 RX5 yX5_found wsX5_found) := goodIn_app (goodIn_of _ (by decide +kernel)) ggX5_as_X5_found
theorem dX5_as_0 : decode cX5_as 0 = .ok (.aload_n 0, 1) := by decide +kernel
theorem dX5_as_1 : decode cX5_as 1 = .ok (.iload_n 1, 1) := by decide +kernel
theorem dX5_as_2 : decode cX5_as 2 = .ok (.invokevirtual 164, 3) := by decide +kernel
theorem dX5_as_5 : decode cX5_as 5 = .ok (.ifCond .eq 12, 3) := by decide +kernel
theorem dX5_as_8 : decode cX5_as 8 = .ok (.iload_n 2, 1) := by decide +kernel
theorem dX5_as_9 : decode cX5_as 9 = .ok (.iconst 0, 1) := by decide +kernel
theorem dX5_as_10 : decode cX5_as 10 = .ok (.iconst 5, 1) := by decide +kernel
theorem dX5_as_11 : decode cX5_as 11 = .ok (.invokestatic 54, 3) := by decide +kernel
theorem dX5_as_14 : decode cX5_as 14 = .ok (.ifCond .ne 6, 3) := by decide +kernel
theorem dX5_as_17 : decode cX5_as 17 = .ok (.ldc 58, 2) := by decide +kernel
theorem dX5_as_19 : decode cX5_as 19 = .ok (.ireturn, 1) := by decide +kernel
theorem dX5_as_20 : decode cX5_as 20 = .ok (.aload_n 0, 1) := by decide +kernel
theorem dX5_as_21 : decode cX5_as 21 = .ok (.getfield 40, 3) := by decide +kernel
theorem dX5_as_24 : decode cX5_as 24 = .ok (.getfield 266, 3) := by decide +kernel
theorem dX5_as_27 : decode cX5_as 27 = .ok (.iload_n 1, 1) := by decide +kernel
theorem dX5_as_28 : decode cX5_as 28 = .ok (.iaload, 1) := by decide +kernel
theorem dX5_as_29 : decode cX5_as 29 = .ok (.iload_n 2, 1) := by decide +kernel
theorem dX5_as_30 : decode cX5_as 30 = .ok (.invokestatic 269, 3) := by decide +kernel
theorem dX5_as_33 : decode cX5_as 33 = .ok (.ifCond .ne 9, 3) := by decide +kernel
theorem dX5_as_36 : decode cX5_as 36 = .ok (.aload_n 0, 1) := by decide +kernel
theorem dX5_as_37 : decode cX5_as 37 = .ok (.iconst 3, 1) := by decide +kernel
theorem dX5_as_38 : decode cX5_as 38 = .ok (.invokevirtual 59, 3) := by decide +kernel
theorem dX5_as_41 : decode cX5_as 41 = .ok (.ireturn, 1) := by decide +kernel
theorem dX5_as_42 : decode cX5_as 42 = .ok (.aload_n 0, 1) := by decide +kernel
theorem dX5_as_43 : decode cX5_as 43 = .ok (.iconst 0, 1) := by decide +kernel
theorem dX5_as_44 : decode cX5_as 44 = .ok (.putfield 63, 3) := by decide +kernel
theorem dX5_as_47 : decode cX5_as 47 = .ok (.iload_n 1, 1) := by decide +kernel
theorem dX5_as_48 : decode cX5_as 48 = .ok (.ireturn, 1) := by decide +kernel
set_option maxRecDepth 20000 in
theorem ggX5_ask_X5_isSwan : GoodIn wsX5_ask wsX5_isSwan := goodIn_r _ [9, 3, 10, 11, 12, 8, 13, 78, 79, 80, 81, 82, 83, 84, 85, 86, 87, 88, 89, 90, 91, 92, 93, 94, 95, 96, 97] (by decide +kernel) (by decide +kernel)
set_option maxRecDepth 20000 in
theorem gX5_ask_X5_isSwan : GoodIn wsX5_ask (wsV RX5 164 RX5 yX5_isSwan wsX5_isSwan) := goodIn_app (goodIn_of _ (by decide +kernel)) ggX5_ask_X5_isSwan
set_option maxRecDepth 20000 in
theorem ggX5_ask_X5_within : GoodIn wsX5_ask wsX5_within := goodIn_r _ [13] (by decide +kernel) (by decide +kernel)
set_option maxRecDepth 20000 in
theorem gX5_ask_X5_within : GoodIn wsX5_ask (va_wsS RX5 54 yX5_within wsX5_within) := goodIn_app (goodIn_of _ (by decide +kernel)) ggX5_ask_X5_within
set_option maxRecDepth 20000 in
theorem ggX5_ask_X1_ready : GoodIn wsX5_ask wsX1_ready := goodIn_r _ [18, 19, 20, 21, 22, 23, 24, 25, 26, 98, 99, 100, 101, 102, 103, 87, 88, 89, 90, 91, 92, 93, 94, 95, 96, 97] (by decide +kernel) (by decide +kernel)
set_option maxRecDepth 20000 in
theorem gX5_ask_X1_ready : GoodIn wsX5_ask (wsV RX5 273 RX1 yX1_ready wsX1_ready) := goodIn_app (goodIn_of _ (by decide +kernel)) ggX5_ask_X1_ready
set_option maxRecDepth 20000 in
theorem ggX5_ask_X1_sizeOfCob : GoodIn wsX5_ask wsX1_sizeOfCob := goodIn_r _ [30, 31, 32, 33, 17, 34, 19, 35, 36, 37, 38, 39, 22, 40, 41, 42, 43, 26, 44, 45, 46, 47, 48, 49, 50, 51, 24, 52, 53, 54, 55, 20, 56, 57, 58, 59, 98, 99, 100, 101, 102, 103] (by decide +kernel) (by decide +kernel)
set_option maxRecDepth 20000 in
theorem gX5_ask_X1_sizeOfCob : GoodIn wsX5_ask (wsV RX5 277 RX1 yX1_sizeOfCob wsX1_sizeOfCob) := goodIn_app (goodIn_of _ (by decide +kernel)) ggX5_ask_X1_sizeOfCob
set_option maxRecDepth 20000 in
theorem ggX5_ask_X1_markOfCob : GoodIn wsX5_ask wsX1_markOfCob := goodIn_r _ [47, 31, 32, 33, 17, 34, 19, 35, 48, 49, 50, 51, 24, 52, 53, 54, 55, 20, 98, 99, 100, 101, 102, 103] (by decide +kernel) (by decide +kernel)
set_option maxRecDepth 20000 in
theorem gX5_ask_X1_markOfCob : GoodIn wsX5_ask (wsV RX5 280 RX1 yX1_markOfCob wsX1_markOfCob) := goodIn_app (goodIn_of _ (by decide +kernel)) ggX5_ask_X1_markOfCob
set_option maxRecDepth 20000 in
theorem ggX5_ask_X1_sizeOfPen : GoodIn wsX5_ask wsX1_sizeOfPen := goodIn_r _ [39, 22, 31, 32, 33, 17, 34, 19, 35, 40, 41, 42, 43, 26, 44, 45, 46, 47, 48, 49, 50, 51, 24, 52, 53, 54, 55, 20, 56, 57, 58, 59, 98, 99, 100, 101, 102, 103] (by decide +kernel) (by decide +kernel)
set_option maxRecDepth 20000 in
theorem gX5_ask_X1_sizeOfPen : GoodIn wsX5_ask (wsV RX5 283 RX1 yX1_sizeOfPen wsX1_sizeOfPen) := goodIn_app (goodIn_of _ (by decide +kernel)) ggX5_ask_X1_sizeOfPen
set_option maxRecDepth 20000 in
theorem ggX5_ask_X1_markOfCygnet : GoodIn wsX5_ask wsX1_markOfCygnet := goodIn_r _ [59, 31, 32, 33, 17, 34, 19, 35, 48, 49, 50, 51, 24, 52, 53, 54, 55, 20, 98, 99, 100, 101, 102, 103] (by decide +kernel) (by decide +kernel)
set_option maxRecDepth 20000 in
theorem gX5_ask_X1_markOfCygnet : GoodIn wsX5_ask (wsV RX5 286 RX1 yX1_markOfCygnet wsX1_markOfCygnet) := goodIn_app (goodIn_of _ (by decide +kernel)) ggX5_ask_X1_markOfCygnet
set_option maxRecDepth 20000 in
theorem ggX5_ask_X1_sizeOfOld : GoodIn wsX5_ask wsX1_sizeOfOld := goodIn_r _ [66, 31, 32, 33, 17, 34, 19, 35, 40, 41, 42, 43, 26, 98, 99, 100, 101, 102, 103] (by decide +kernel) (by decide +kernel)
set_option maxRecDepth 20000 in
theorem gX5_ask_X1_sizeOfOld : GoodIn wsX5_ask (wsV RX5 289 RX1 yX1_sizeOfOld wsX1_sizeOfOld) := goodIn_app (goodIn_of _ (by decide +kernel)) ggX5_ask_X1_sizeOfOld
set_option maxRecDepth 20000 in
theorem ggX5_ask_X1_markOfOld : GoodIn wsX5_ask wsX1_markOfOld := goodIn_r _ [70, 22, 31, 32, 33, 17, 34, 19, 35, 52, 53, 54, 55, 20, 71, 72, 73, 74, 75, 64, 65, 66, 40, 41, 42, 43, 26, 98, 99, 100, 101, 102, 103] (by decide +kernel) (by decide +kernel)
set_option maxRecDepth 20000 in
theorem gX5_ask_X1_markOfOld : GoodIn wsX5_ask (wsV RX5 292 RX1 yX1_markOfOld wsX1_markOfOld) := goodIn_app (goodIn_of _ (by decide +kernel)) ggX5_ask_X1_markOfOld
set_option maxRecDepth 20000 in
theorem ggX5_ask_X1_sizeOfBlack : GoodIn wsX5_ask wsX1_sizeOfBlack := goodIn_r _ [74, 31, 32, 33, 17, 34, 19, 35, 75, 64, 65, 66, 40, 41, 42, 43, 26, 98, 99, 100, 101, 102, 103] (by decide +kernel) (by decide +kernel)
set_option maxRecDepth 20000 in
theorem gX5_ask_X1_sizeOfBlack : GoodIn wsX5_ask (wsV RX5 295 RX1 yX1_sizeOfBlack wsX1_sizeOfBlack) := goodIn_app (goodIn_of _ (by decide +kernel)) ggX5_ask_X1_sizeOfBlack
set_option maxRecDepth 20000 in
theorem ggX5_ask_X1_markOfPen : GoodIn wsX5_ask wsX1_markOfPen := goodIn_r _ [51, 24, 31, 32, 33, 17, 34, 19, 35, 52, 53, 54, 55, 20, 98, 99, 100, 101, 102, 103] (by decide +kernel) (by decide +kernel)
set_option maxRecDepth 20000 in
theorem gX5_ask_X1_markOfPen : GoodIn wsX5_ask (wsV RX5 298 RX1 yX1_markOfPen wsX1_markOfPen) := goodIn_app (goodIn_of _ (by decide +kernel)) ggX5_ask_X1_markOfPen
theorem dX5_ask_0 : decode cX5_ask 0 = .ok (.aload_n 0, 1) := by decide +kernel
theorem dX5_ask_1 : decode cX5_ask 1 = .ok (.iload_n 1, 1) := by decide +kernel
theorem dX5_ask_2 : decode cX5_ask 2 = .ok (.invokevirtual 164, 3) := by decide +kernel
theorem dX5_ask_5 : decode cX5_ask 5 = .ok (.ifCond .eq 12, 3) := by decide +kernel
theorem dX5_ask_8 : decode cX5_ask 8 = .ok (.iload_n 2, 1) := by decide +kernel
theorem dX5_ask_9 : decode cX5_ask 9 = .ok (.iconst 0, 1) := by decide +kernel
theorem dX5_ask_10 : decode cX5_ask 10 = .ok (.iconst 1, 1) := by decide +kernel
theorem dX5_ask_11 : decode cX5_ask 11 = .ok (.invokestatic 54, 3) := by decide +kernel
theorem dX5_ask_14 : decode cX5_ask 14 = .ok (.ifCond .ne 6, 3) := by decide +kernel
theorem dX5_ask_17 : decode cX5_ask 17 = .ok (.ldc 58, 2) := by decide +kernel
theorem dX5_ask_19 : decode cX5_ask 19 = .ok (.ireturn, 1) := by decide +kernel
theorem dX5_ask_20 : decode cX5_ask 20 = .ok (.aload_n 0, 1) := by decide +kernel
theorem dX5_ask_21 : decode cX5_ask 21 = .ok (.getfield 33, 3) := by decide +kernel
theorem dX5_ask_24 : decode cX5_ask 24 = .ok (.aload_n 0, 1) := by decide +kernel
theorem dX5_ask_25 : decode cX5_ask 25 = .ok (.getfield 40, 3) := by decide +kernel
theorem dX5_ask_28 : decode cX5_ask 28 = .ok (.iload_n 1, 1) := by decide +kernel
theorem dX5_ask_29 : decode cX5_ask 29 = .ok (.invokevirtual 273, 3) := by decide +kernel
theorem dX5_ask_32 : decode cX5_ask 32 = .ok (.iload_n 2, 1) := by decide +kernel
theorem dX5_ask_33 : decode cX5_ask 33 = .ok (.ifCond .ne 7, 3) := by decide +kernel
theorem dX5_ask_36 : decode cX5_ask 36 = .ok (.iconst 1, 1) := by decide +kernel
theorem dX5_ask_37 : decode cX5_ask 37 = .ok (.goto 4, 3) := by decide +kernel
theorem dX5_ask_40 : decode cX5_ask 40 = .ok (.iconst 0, 1) := by decide +kernel
theorem dX5_ask_41 : decode cX5_ask 41 = .ok (.istore_n 3, 1) := by decide +kernel
theorem dX5_ask_42 : decode cX5_ask 42 = .ok (.aload_n 0, 1) := by decide +kernel
theorem dX5_ask_43 : decode cX5_ask 43 = .ok (.getfield 40, 3) := by decide +kernel
theorem dX5_ask_46 : decode cX5_ask 46 = .ok (.getfield 266, 3) := by decide +kernel
theorem dX5_ask_49 : decode cX5_ask 49 = .ok (.iload_n 1, 1) := by decide +kernel
theorem dX5_ask_50 : decode cX5_ask 50 = .ok (.iaload, 1) := by decide +kernel
theorem dX5_ask_51 : decode cX5_ask 51 = .ok (.tableswitch 117 2 5 #[29, 51, 73, 95], 29) := by decide +kernel
theorem dX5_ask_80 : decode cX5_ask 80 = .ok (.iload_n 3, 1) := by decide +kernel
theorem dX5_ask_81 : decode cX5_ask 81 = .ok (.ifCond .eq 13, 3) := by decide +kernel
theorem dX5_ask_84 : decode cX5_ask 84 = .ok (.aload_n 0, 1) := by decide +kernel
theorem dX5_ask_85 : decode cX5_ask 85 = .ok (.getfield 33, 3) := by decide +kernel
theorem dX5_ask_88 : decode cX5_ask 88 = .ok (.invokevirtual 277, 3) := by decide +kernel
theorem dX5_ask_91 : decode cX5_ask 91 = .ok (.goto 10, 3) := by decide +kernel
theorem dX5_ask_94 : decode cX5_ask 94 = .ok (.aload_n 0, 1) := by decide +kernel
theorem dX5_ask_95 : decode cX5_ask 95 = .ok (.getfield 33, 3) := by decide +kernel
theorem dX5_ask_98 : decode cX5_ask 98 = .ok (.invokevirtual 280, 3) := by decide +kernel
theorem dX5_ask_101 : decode cX5_ask 101 = .ok (.ireturn, 1) := by decide +kernel
theorem dX5_ask_102 : decode cX5_ask 102 = .ok (.iload_n 3, 1) := by decide +kernel
theorem dX5_ask_103 : decode cX5_ask 103 = .ok (.ifCond .eq 13, 3) := by decide +kernel
theorem dX5_ask_106 : decode cX5_ask 106 = .ok (.aload_n 0, 1) := by decide +kernel
theorem dX5_ask_107 : decode cX5_ask 107 = .ok (.getfield 33, 3) := by decide +kernel
theorem dX5_ask_110 : decode cX5_ask 110 = .ok (.invokevirtual 283, 3) := by decide +kernel
theorem dX5_ask_113 : decode cX5_ask 113 = .ok (.goto 10, 3) := by decide +kernel
theorem dX5_ask_116 : decode cX5_ask 116 = .ok (.aload_n 0, 1) := by decide +kernel
theorem dX5_ask_117 : decode cX5_ask 117 = .ok (.getfield 33, 3) := by decide +kernel
theorem dX5_ask_120 : decode cX5_ask 120 = .ok (.invokevirtual 286, 3) := by decide +kernel
theorem dX5_ask_123 : decode cX5_ask 123 = .ok (.ireturn, 1) := by decide +kernel
theorem dX5_ask_124 : decode cX5_ask 124 = .ok (.iload_n 3, 1) := by decide +kernel
theorem dX5_ask_125 : decode cX5_ask 125 = .ok (.ifCond .eq 13, 3) := by decide +kernel
theorem dX5_ask_128 : decode cX5_ask 128 = .ok (.aload_n 0, 1) := by decide +kernel
theorem dX5_ask_129 : decode cX5_ask 129 = .ok (.getfield 33, 3) := by decide +kernel
theorem dX5_ask_132 : decode cX5_ask 132 = .ok (.invokevirtual 289, 3) := by decide +kernel
theorem dX5_ask_135 : decode cX5_ask 135 = .ok (.goto 10, 3) := by decide +kernel
theorem dX5_ask_138 : decode cX5_ask 138 = .ok (.aload_n 0, 1) := by decide +kernel
theorem dX5_ask_139 : decode cX5_ask 139 = .ok (.getfield 33, 3) := by decide +kernel
theorem dX5_ask_142 : decode cX5_ask 142 = .ok (.invokevirtual 292, 3) := by decide +kernel
theorem dX5_ask_145 : decode cX5_ask 145 = .ok (.ireturn, 1) := by decide +kernel
theorem dX5_ask_146 : decode cX5_ask 146 = .ok (.iload_n 3, 1) := by decide +kernel
theorem dX5_ask_147 : decode cX5_ask 147 = .ok (.ifCond .eq 13, 3) := by decide +kernel
theorem dX5_ask_150 : decode cX5_ask 150 = .ok (.aload_n 0, 1) := by decide +kernel
theorem dX5_ask_151 : decode cX5_ask 151 = .ok (.getfield 33, 3) := by decide +kernel
theorem dX5_ask_154 : decode cX5_ask 154 = .ok (.invokevirtual 295, 3) := by decide +kernel
theorem dX5_ask_157 : decode cX5_ask 157 = .ok (.goto 10, 3) := by decide +kernel
theorem dX5_ask_160 : decode cX5_ask 160 = .ok (.aload_n 0, 1) := by decide +kernel
theorem dX5_ask_161 : decode cX5_ask 161 = .ok (.getfield 33, 3) := by decide +kernel
theorem dX5_ask_164 : decode cX5_ask 164 = .ok (.invokevirtual 292, 3) := by decide +kernel
theorem dX5_ask_167 : decode cX5_ask 167 = .ok (.ireturn, 1) := by decide +kernel
theorem dX5_ask_168 : decode cX5_ask 168 = .ok (.iload_n 3, 1) := by decide +kernel
theorem dX5_ask_169 : decode cX5_ask 169 = .ok (.ifCond .eq 13, 3) := by decide +kernel
theorem dX5_ask_172 : decode cX5_ask 172 = .ok (.aload_n 0, 1) := by decide +kernel
theorem dX5_ask_173 : decode cX5_ask 173 = .ok (.getfield 33, 3) := by decide +kernel
theorem dX5_ask_176 : decode cX5_ask 176 = .ok (.invokevirtual 283, 3) := by decide +kernel
theorem dX5_ask_179 : decode cX5_ask 179 = .ok (.goto 10, 3) := by decide +kernel
theorem dX5_ask_182 : decode cX5_ask 182 = .ok (.aload_n 0, 1) := by decide +kernel
theorem dX5_ask_183 : decode cX5_ask 183 = .ok (.getfield 33, 3) := by decide +kernel
theorem dX5_ask_186 : decode cX5_ask 186 = .ok (.invokevirtual 298, 3) := by decide +kernel
theorem dX5_ask_189 : decode cX5_ask 189 = .ok (.ireturn, 1) := by decide +kernel
set_option maxRecDepth 20000 in
theorem ggX5_trace_X5_within : GoodIn wsX5_trace wsX5_within := goodIn_r _ [8] (by decide +kernel) (by decide +kernel)
set_option maxRecDepth 20000 in
theorem gX5_trace_X5_within : GoodIn wsX5_trace (va_wsS RX5 54 yX5_within wsX5_within) := goodIn_app (goodIn_of _ (by decide +kernel)) ggX5_trace_X5_within
theorem dX5_trace_0 : decode cX5_trace 0 = .ok (.iload_n 1, 1) := by decide +kernel
theorem dX5_trace_1 : decode cX5_trace 1 = .ok (.iconst 0, 1) := by decide +kernel
theorem dX5_trace_2 : decode cX5_trace 2 = .ok (.aload_n 0, 1) := by decide +kernel
theorem dX5_trace_3 : decode cX5_trace 3 = .ok (.getfield 33, 3) := by decide +kernel
theorem dX5_trace_6 : decode cX5_trace 6 = .ok (.getfield 301, 3) := by decide +kernel
theorem dX5_trace_9 : decode cX5_trace 9 = .ok (.iconst 1, 1) := by decide +kernel
theorem dX5_trace_10 : decode cX5_trace 10 = .ok (.isub, 1) := by decide +kernel
theorem dX5_trace_11 : decode cX5_trace 11 = .ok (.invokestatic 54, 3) := by decide +kernel
theorem dX5_trace_14 : decode cX5_trace 14 = .ok (.ifCond .eq 15, 3) := by decide +kernel
theorem dX5_trace_17 : decode cX5_trace 17 = .ok (.aload_n 0, 1) := by decide +kernel
theorem dX5_trace_18 : decode cX5_trace 18 = .ok (.getfield 33, 3) := by decide +kernel
theorem dX5_trace_21 : decode cX5_trace 21 = .ok (.getfield 304, 3) := by decide +kernel
theorem dX5_trace_24 : decode cX5_trace 24 = .ok (.iload_n 1, 1) := by decide +kernel
theorem dX5_trace_25 : decode cX5_trace 25 = .ok (.iaload, 1) := by decide +kernel
theorem dX5_trace_26 : decode cX5_trace 26 = .ok (.goto 5, 3) := by decide +kernel
theorem dX5_trace_29 : decode cX5_trace 29 = .ok (.ldc 199, 2) := by decide +kernel
theorem dX5_trace_31 : decode cX5_trace 31 = .ok (.ireturn, 1) := by decide +kernel
set_option maxRecDepth 20000 in
theorem ggX5_count_X3_countPresent : GoodIn wsX5_count wsX3_countPresent := goodIn_r _ [16, 17, 18, 19, 15, 20, 21, 60, 61, 62] (by decide +kernel) (by decide +kernel)
set_option maxRecDepth 20000 in
theorem gX5_count_X3_countPresent : GoodIn wsX5_count (wsV RX5 307 RX3 yX3_countPresent wsX3_countPresent) := goodIn_app (goodIn_of _ (by decide +kernel)) ggX5_count_X3_countPresent
set_option maxRecDepth 20000 in
theorem ggX5_count_X2_crumbSum : GoodIn wsX5_count wsX2_crumbSum := goodIn_r _ [26, 27, 28, 38, 39, 40, 41, 42, 43, 44, 45, 46, 47, 48] (by decide +kernel) (by decide +kernel)
set_option maxRecDepth 20000 in
theorem gX5_count_X2_crumbSum : GoodIn wsX5_count (wsV RX5 310 RX2 yX2_crumbSum wsX2_crumbSum) := goodIn_app (goodIn_of _ (by decide +kernel)) ggX5_count_X2_crumbSum
theorem dX5_count_0 : decode cX5_count 0 = .ok (.iload_n 1, 1) := by decide +kernel
theorem dX5_count_1 : decode cX5_count 1 = .ok (.tableswitch 111 0 7 #[47, 55, 63, 71, 79, 87, 95, 103], 47) := by decide +kernel
theorem dX5_count_48 : decode cX5_count 48 = .ok (.aload_n 0, 1) := by decide +kernel
theorem dX5_count_49 : decode cX5_count 49 = .ok (.getfield 10, 3) := by decide +kernel
theorem dX5_count_52 : decode cX5_count 52 = .ok (.invokevirtual 307, 3) := by decide +kernel
theorem dX5_count_55 : decode cX5_count 55 = .ok (.ireturn, 1) := by decide +kernel
theorem dX5_count_56 : decode cX5_count 56 = .ok (.aload_n 0, 1) := by decide +kernel
theorem dX5_count_57 : decode cX5_count 57 = .ok (.getfield 40, 3) := by decide +kernel
theorem dX5_count_60 : decode cX5_count 60 = .ok (.getfield 207, 3) := by decide +kernel
theorem dX5_count_63 : decode cX5_count 63 = .ok (.ireturn, 1) := by decide +kernel
theorem dX5_count_64 : decode cX5_count 64 = .ok (.aload_n 0, 1) := by decide +kernel
theorem dX5_count_65 : decode cX5_count 65 = .ok (.getfield 40, 3) := by decide +kernel
theorem dX5_count_68 : decode cX5_count 68 = .ok (.getfield 117, 3) := by decide +kernel
theorem dX5_count_71 : decode cX5_count 71 = .ok (.ireturn, 1) := by decide +kernel
theorem dX5_count_72 : decode cX5_count 72 = .ok (.aload_n 0, 1) := by decide +kernel
theorem dX5_count_73 : decode cX5_count 73 = .ok (.getfield 40, 3) := by decide +kernel
theorem dX5_count_76 : decode cX5_count 76 = .ok (.getfield 134, 3) := by decide +kernel
theorem dX5_count_79 : decode cX5_count 79 = .ok (.ireturn, 1) := by decide +kernel
theorem dX5_count_80 : decode cX5_count 80 = .ok (.aload_n 0, 1) := by decide +kernel
theorem dX5_count_81 : decode cX5_count 81 = .ok (.getfield 40, 3) := by decide +kernel
theorem dX5_count_84 : decode cX5_count 84 = .ok (.invokevirtual 310, 3) := by decide +kernel
theorem dX5_count_87 : decode cX5_count 87 = .ok (.ireturn, 1) := by decide +kernel
theorem dX5_count_88 : decode cX5_count 88 = .ok (.aload_n 0, 1) := by decide +kernel
theorem dX5_count_89 : decode cX5_count 89 = .ok (.getfield 40, 3) := by decide +kernel
theorem dX5_count_92 : decode cX5_count 92 = .ok (.getfield 161, 3) := by decide +kernel
theorem dX5_count_95 : decode cX5_count 95 = .ok (.ireturn, 1) := by decide +kernel
theorem dX5_count_96 : decode cX5_count 96 = .ok (.aload_n 0, 1) := by decide +kernel
theorem dX5_count_97 : decode cX5_count 97 = .ok (.getfield 26, 3) := by decide +kernel
theorem dX5_count_100 : decode cX5_count 100 = .ok (.getfield 126, 3) := by decide +kernel
theorem dX5_count_103 : decode cX5_count 103 = .ok (.ireturn, 1) := by decide +kernel
theorem dX5_count_104 : decode cX5_count 104 = .ok (.aload_n 0, 1) := by decide +kernel
theorem dX5_count_105 : decode cX5_count 105 = .ok (.getfield 19, 3) := by decide +kernel
theorem dX5_count_108 : decode cX5_count 108 = .ok (.getfield 98, 3) := by decide +kernel
theorem dX5_count_111 : decode cX5_count 111 = .ok (.ireturn, 1) := by decide +kernel
theorem dX5_count_112 : decode cX5_count 112 = .ok (.ldc 58, 2) := by decide +kernel
theorem dX5_count_114 : decode cX5_count 114 = .ok (.ireturn, 1) := by decide +kernel
theorem dX5_status_0 : decode cX5_status 0 = .ok (.aload_n 0, 1) := by decide +kernel
theorem dX5_status_1 : decode cX5_status 1 = .ok (.getfield 63, 3) := by decide +kernel
theorem dX5_status_4 : decode cX5_status 4 = .ok (.ireturn, 1) := by decide +kernel
theorem dX5_within_0 : decode cX5_within 0 = .ok (.iload_n 0, 1) := by decide +kernel
theorem dX5_within_1 : decode cX5_within 1 = .ok (.iload_n 1, 1) := by decide +kernel
theorem dX5_within_2 : decode cX5_within 2 = .ok (.if_icmp .lt 12, 3) := by decide +kernel
theorem dX5_within_5 : decode cX5_within 5 = .ok (.iload_n 0, 1) := by decide +kernel
theorem dX5_within_6 : decode cX5_within 6 = .ok (.iload_n 2, 1) := by decide +kernel
theorem dX5_within_7 : decode cX5_within 7 = .ok (.if_icmp .gt 7, 3) := by decide +kernel
theorem dX5_within_10 : decode cX5_within 10 = .ok (.iconst 1, 1) := by decide +kernel
theorem dX5_within_11 : decode cX5_within 11 = .ok (.goto 4, 3) := by decide +kernel
theorem dX5_within_14 : decode cX5_within 14 = .ok (.iconst 0, 1) := by decide +kernel
theorem dX5_within_15 : decode cX5_within 15 = .ok (.ireturn, 1) := by decide +kernel
theorem dX5_found_0 : decode cX5_found 0 = .ok (.aload_n 0, 1) := by decide +kernel
theorem dX5_found_1 : decode cX5_found 1 = .ok (.iload_n 1, 1) := by decide +kernel
theorem dX5_found_2 : decode cX5_found 2 = .ok (.putfield 63, 3) := by decide +kernel
theorem dX5_found_5 : decode cX5_found 5 = .ok (.ldc_w 313, 3) := by decide +kernel
theorem dX5_found_8 : decode cX5_found 8 = .ok (.iload_n 1, 1) := by decide +kernel
theorem dX5_found_9 : decode cX5_found 9 = .ok (.isub, 1) := by decide +kernel
theorem dX5_found_10 : decode cX5_found 10 = .ok (.ireturn, 1) := by decide +kernel
theorem dX5_hasRiver_0 : decode cX5_hasRiver 0 = .ok (.aload_n 0, 1) := by decide +kernel
theorem dX5_hasRiver_1 : decode cX5_hasRiver 1 = .ok (.getfield 40, 3) := by decide +kernel
theorem dX5_hasRiver_4 : decode cX5_hasRiver 4 = .ok (.getfield 207, 3) := by decide +kernel
theorem dX5_hasRiver_7 : decode cX5_hasRiver 7 = .ok (.ifCond .le 7, 3) := by decide +kernel
theorem dX5_hasRiver_10 : decode cX5_hasRiver 10 = .ok (.iconst 1, 1) := by decide +kernel
theorem dX5_hasRiver_11 : decode cX5_hasRiver 11 = .ok (.goto 4, 3) := by decide +kernel
theorem dX5_hasRiver_14 : decode cX5_hasRiver 14 = .ok (.iconst 0, 1) := by decide +kernel
theorem dX5_hasRiver_15 : decode cX5_hasRiver 15 = .ok (.ireturn, 1) := by decide +kernel
set_option maxRecDepth 20000 in
theorem ggX5_isSwan_X5_within : GoodIn wsX5_isSwan wsX5_within := goodIn_r _ [6] (by decide +kernel) (by decide +kernel)
set_option maxRecDepth 20000 in
theorem gX5_isSwan_X5_within : GoodIn wsX5_isSwan (va_wsS RX5 54 yX5_within wsX5_within) := goodIn_app (goodIn_of _ (by decide +kernel)) ggX5_isSwan_X5_within
theorem dX5_isSwan_0 : decode cX5_isSwan 0 = .ok (.iload_n 1, 1) := by decide +kernel
theorem dX5_isSwan_1 : decode cX5_isSwan 1 = .ok (.iconst 0, 1) := by decide +kernel
theorem dX5_isSwan_2 : decode cX5_isSwan 2 = .ok (.aload_n 0, 1) := by decide +kernel
theorem dX5_isSwan_3 : decode cX5_isSwan 3 = .ok (.getfield 40, 3) := by decide +kernel
theorem dX5_isSwan_6 : decode cX5_isSwan 6 = .ok (.getfield 117, 3) := by decide +kernel
theorem dX5_isSwan_9 : decode cX5_isSwan 9 = .ok (.iconst 1, 1) := by decide +kernel
theorem dX5_isSwan_10 : decode cX5_isSwan 10 = .ok (.isub, 1) := by decide +kernel
theorem dX5_isSwan_11 : decode cX5_isSwan 11 = .ok (.invokestatic 54, 3) := by decide +kernel
theorem dX5_isSwan_14 : decode cX5_isSwan 14 = .ok (.ireturn, 1) := by decide +kernel
set_option maxRecDepth 20000 in
theorem ggX5_isLawn_X5_within : GoodIn wsX5_isLawn wsX5_within := goodIn_r _ [6] (by decide +kernel) (by decide +kernel)
set_option maxRecDepth 20000 in
theorem gX5_isLawn_X5_within : GoodIn wsX5_isLawn (va_wsS RX5 54 yX5_within wsX5_within) := goodIn_app (goodIn_of _ (by decide +kernel)) ggX5_isLawn_X5_within
theorem dX5_isLawn_0 : decode cX5_isLawn 0 = .ok (.iload_n 1, 1) := by decide +kernel
theorem dX5_isLawn_1 : decode cX5_isLawn 1 = .ok (.iconst 0, 1) := by decide +kernel
theorem dX5_isLawn_2 : decode cX5_isLawn 2 = .ok (.aload_n 0, 1) := by decide +kernel
theorem dX5_isLawn_3 : decode cX5_isLawn 3 = .ok (.getfield 40, 3) := by decide +kernel
theorem dX5_isLawn_6 : decode cX5_isLawn 6 = .ok (.getfield 207, 3) := by decide +kernel
theorem dX5_isLawn_9 : decode cX5_isLawn 9 = .ok (.iconst 1, 1) := by decide +kernel
theorem dX5_isLawn_10 : decode cX5_isLawn 10 = .ok (.isub, 1) := by decide +kernel
theorem dX5_isLawn_11 : decode cX5_isLawn 11 = .ok (.invokestatic 54, 3) := by decide +kernel
theorem dX5_isLawn_14 : decode cX5_isLawn 14 = .ok (.ireturn, 1) := by decide +kernel
set_option maxRecDepth 20000 in
theorem ggX5_foretell_X2_become : GoodIn wsX5_foretell wsX2_become := goodIn_r _ [7, 8, 9, 10, 11, 12, 13, 14, 15, 16, 17, 18, 68, 69, 70, 71, 72, 73, 74, 75, 76, 77, 78] (by decide +kernel) (by decide +kernel)
set_option maxRecDepth 20000 in
theorem gX5_foretell_X2_become : GoodIn wsX5_foretell (wsV RX5 110 RX2 yX2_become wsX2_become) := goodIn_app (goodIn_of _ (by decide +kernel)) ggX5_foretell_X2_become
set_option maxRecDepth 20000 in
theorem ggX5_foretell_X2_passDays : GoodIn wsX5_foretell wsX2_passDays := goodIn_r _ [22, 23, 24, 25, 6, 26, 9, 15, 12, 18, 10, 27, 28, 29, 30, 13, 31, 32, 33, 34, 8, 11, 35, 36, 37, 38, 39, 40, 41, 42, 43, 44, 45, 46, 47, 48, 49, 50, 51, 52, 53, 54, 17, 55, 56, 57, 58, 16, 68, 69, 70, 71, 72, 73, 74, 75, 76, 77, 78] (by decide +kernel) (by decide +kernel)
set_option maxRecDepth 20000 in
theorem gX5_foretell_X2_passDays : GoodIn wsX5_foretell (wsV RX5 314 RX2 yX2_passDays wsX2_passDays) := goodIn_app (goodIn_of _ (by decide +kernel)) ggX5_foretell_X2_passDays
theorem dX5_foretell_0 : decode cX5_foretell 0 = .ok (.aload_n 0, 1) := by decide +kernel
theorem dX5_foretell_1 : decode cX5_foretell 1 = .ok (.getfield 44, 3) := by decide +kernel
theorem dX5_foretell_4 : decode cX5_foretell 4 = .ok (.aload_n 0, 1) := by decide +kernel
theorem dX5_foretell_5 : decode cX5_foretell 5 = .ok (.getfield 40, 3) := by decide +kernel
theorem dX5_foretell_8 : decode cX5_foretell 8 = .ok (.invokevirtual 110, 3) := by decide +kernel
theorem dX5_foretell_11 : decode cX5_foretell 11 = .ok (.aload_n 0, 1) := by decide +kernel
theorem dX5_foretell_12 : decode cX5_foretell 12 = .ok (.getfield 44, 3) := by decide +kernel
theorem dX5_foretell_15 : decode cX5_foretell 15 = .ok (.iload_n 1, 1) := by decide +kernel
theorem dX5_foretell_16 : decode cX5_foretell 16 = .ok (.invokevirtual 314, 3) := by decide +kernel
theorem dX5_foretell_19 : decode cX5_foretell 19 = .ok (.return_, 1) := by decide +kernel
set_option maxRecDepth 20000 in
theorem ggX5_fewest_J6_bitCount_0f7a4 : GoodIn wsX5_fewest wsJ6_bitCount_0f7a4 := goodIn_r _ [7, 8, 9, 10] (by decide +kernel) (by decide +kernel)
set_option maxRecDepth 20000 in
theorem gX5_fewest_J6_bitCount_0f7a4 : GoodIn wsX5_fewest (va_wsS RX5 237 yJ6_bitCount_0f7a4 wsJ6_bitCount_0f7a4) := goodIn_app (goodIn_of _ (by decide +kernel)) ggX5_fewest_J6_bitCount_0f7a4
set_option maxRecDepth 20000 in
theorem ggX5_fewest_X5_comesByWeirs : GoodIn wsX5_fewest wsX5_comesByWeirs := goodIn_r _ [15, 1, 16, 17, 18, 19, 20, 21, 22, 23, 24, 25, 26, 27, 28, 29, 30, 31, 32, 33, 34, 35, 36, 37, 38, 39, 40, 41, 42, 43, 44, 45, 46, 47, 48, 49, 50, 51, 52, 53, 54, 55, 56, 57, 58, 59, 60, 6, 61, 62, 63, 64, 65, 66, 67, 68, 69, 70, 71, 72, 73, 86, 87, 88, 89, 90, 91, 92, 93, 94, 95, 96, 97, 98, 99, 100, 101, 102, 103, 104, 105] (by decide +kernel) (by decide +kernel)
set_option maxRecDepth 20000 in
theorem gX5_fewest_X5_comesByWeirs : GoodIn wsX5_fewest (wsV RX5 317 RX5 yX5_comesByWeirs wsX5_comesByWeirs) := goodIn_app (goodIn_of _ (by decide +kernel)) ggX5_fewest_X5_comesByWeirs
set_option maxRecDepth 20000 in
theorem ggX5_fewest_X5_comesByCrusts : GoodIn wsX5_fewest wsX5_comesByCrusts := goodIn_r _ [77, 17, 1, 2, 18, 19, 20, 21, 22, 23, 24, 25, 26, 27, 28, 29, 30, 31, 32, 33, 34, 78, 79, 80, 81, 82, 83, 84, 85, 35, 36, 37, 38, 39, 40, 41, 42, 43, 44, 45, 46, 47, 48, 49, 50, 51, 52, 53, 54, 55, 56, 57, 58, 59, 60, 6, 61, 62, 63, 64, 65, 66, 67, 68, 69, 70, 71, 72, 73, 86, 87, 88, 89, 90, 91, 92, 93, 94, 95, 96, 97, 98, 99, 100, 101, 102, 103, 104, 105] (by decide +kernel) (by decide +kernel)
set_option maxRecDepth 20000 in
theorem gX5_fewest_X5_comesByCrusts : GoodIn wsX5_fewest (wsV RX5 320 RX5 yX5_comesByCrusts wsX5_comesByCrusts) := goodIn_app (goodIn_of _ (by decide +kernel)) ggX5_fewest_X5_comesByCrusts
theorem dX5_fewest_0 : decode cX5_fewest 0 = .ok (.iload_n 1, 1) := by decide +kernel
theorem dX5_fewest_1 : decode cX5_fewest 1 = .ok (.ifCond .eq 15, 3) := by decide +kernel
theorem dX5_fewest_4 : decode cX5_fewest 4 = .ok (.aload_n 0, 1) := by decide +kernel
theorem dX5_fewest_5 : decode cX5_fewest 5 = .ok (.getfield 40, 3) := by decide +kernel
theorem dX5_fewest_8 : decode cX5_fewest 8 = .ok (.getfield 207, 3) := by decide +kernel
theorem dX5_fewest_11 : decode cX5_fewest 11 = .ok (.iconst 1, 1) := by decide +kernel
theorem dX5_fewest_12 : decode cX5_fewest 12 = .ok (.isub, 1) := by decide +kernel
theorem dX5_fewest_13 : decode cX5_fewest 13 = .ok (.goto 10, 3) := by decide +kernel
theorem dX5_fewest_16 : decode cX5_fewest 16 = .ok (.aload_n 0, 1) := by decide +kernel
theorem dX5_fewest_17 : decode cX5_fewest 17 = .ok (.getfield 40, 3) := by decide +kernel
theorem dX5_fewest_20 : decode cX5_fewest 20 = .ok (.getfield 207, 3) := by decide +kernel
theorem dX5_fewest_23 : decode cX5_fewest 23 = .ok (.istore 5, 2) := by decide +kernel
theorem dX5_fewest_25 : decode cX5_fewest 25 = .ok (.iconst 0, 1) := by decide +kernel
theorem dX5_fewest_26 : decode cX5_fewest 26 = .ok (.istore 6, 2) := by decide +kernel
theorem dX5_fewest_28 : decode cX5_fewest 28 = .ok (.iload 6, 2) := by decide +kernel
theorem dX5_fewest_30 : decode cX5_fewest 30 = .ok (.iload 5, 2) := by decide +kernel
theorem dX5_fewest_32 : decode cX5_fewest 32 = .ok (.if_icmp .gt 76, 3) := by decide +kernel
theorem dX5_fewest_35 : decode cX5_fewest 35 = .ok (.iconst 0, 1) := by decide +kernel
theorem dX5_fewest_36 : decode cX5_fewest 36 = .ok (.istore 7, 2) := by decide +kernel
theorem dX5_fewest_38 : decode cX5_fewest 38 = .ok (.iload 7, 2) := by decide +kernel
theorem dX5_fewest_40 : decode cX5_fewest 40 = .ok (.iconst 1, 1) := by decide +kernel
theorem dX5_fewest_41 : decode cX5_fewest 41 = .ok (.iload 5, 2) := by decide +kernel
theorem dX5_fewest_43 : decode cX5_fewest 43 = .ok (.ishl, 1) := by decide +kernel
theorem dX5_fewest_44 : decode cX5_fewest 44 = .ok (.if_icmp .ge 58, 3) := by decide +kernel
theorem dX5_fewest_47 : decode cX5_fewest 47 = .ok (.iload 7, 2) := by decide +kernel
theorem dX5_fewest_49 : decode cX5_fewest 49 = .ok (.invokestatic 237, 3) := by decide +kernel
theorem dX5_fewest_52 : decode cX5_fewest 52 = .ok (.iload 6, 2) := by decide +kernel
theorem dX5_fewest_54 : decode cX5_fewest 54 = .ok (.if_icmp .eq 6, 3) := by decide +kernel
theorem dX5_fewest_57 : decode cX5_fewest 57 = .ok (.goto 39, 3) := by decide +kernel
theorem dX5_fewest_60 : decode cX5_fewest 60 = .ok (.iload_n 1, 1) := by decide +kernel
theorem dX5_fewest_61 : decode cX5_fewest 61 = .ok (.ifCond .eq 19, 3) := by decide +kernel
theorem dX5_fewest_64 : decode cX5_fewest 64 = .ok (.aload_n 0, 1) := by decide +kernel
theorem dX5_fewest_65 : decode cX5_fewest 65 = .ok (.iload 7, 2) := by decide +kernel
theorem dX5_fewest_67 : decode cX5_fewest 67 = .ok (.iload_n 2, 1) := by decide +kernel
theorem dX5_fewest_68 : decode cX5_fewest 68 = .ok (.iload_n 3, 1) := by decide +kernel
theorem dX5_fewest_69 : decode cX5_fewest 69 = .ok (.iload 4, 2) := by decide +kernel
theorem dX5_fewest_71 : decode cX5_fewest 71 = .ok (.invokevirtual 317, 3) := by decide +kernel
theorem dX5_fewest_74 : decode cX5_fewest 74 = .ok (.ifCond .eq 22, 3) := by decide +kernel
theorem dX5_fewest_77 : decode cX5_fewest 77 = .ok (.goto 16, 3) := by decide +kernel
theorem dX5_fewest_80 : decode cX5_fewest 80 = .ok (.aload_n 0, 1) := by decide +kernel
theorem dX5_fewest_81 : decode cX5_fewest 81 = .ok (.iload 7, 2) := by decide +kernel
theorem dX5_fewest_83 : decode cX5_fewest 83 = .ok (.iload_n 2, 1) := by decide +kernel
theorem dX5_fewest_84 : decode cX5_fewest 84 = .ok (.iload_n 3, 1) := by decide +kernel
theorem dX5_fewest_85 : decode cX5_fewest 85 = .ok (.iload 4, 2) := by decide +kernel
theorem dX5_fewest_87 : decode cX5_fewest 87 = .ok (.invokevirtual 320, 3) := by decide +kernel
theorem dX5_fewest_90 : decode cX5_fewest 90 = .ok (.ifCond .eq 6, 3) := by decide +kernel
theorem dX5_fewest_93 : decode cX5_fewest 93 = .ok (.iload 7, 2) := by decide +kernel
theorem dX5_fewest_95 : decode cX5_fewest 95 = .ok (.ireturn, 1) := by decide +kernel
theorem dX5_fewest_96 : decode cX5_fewest 96 = .ok (.iinc 7 1, 3) := by decide +kernel
theorem dX5_fewest_99 : decode cX5_fewest 99 = .ok (.goto (-61), 3) := by decide +kernel
theorem dX5_fewest_102 : decode cX5_fewest 102 = .ok (.iinc 6 1, 3) := by decide +kernel
theorem dX5_fewest_105 : decode cX5_fewest 105 = .ok (.goto (-77), 3) := by decide +kernel
theorem dX5_fewest_108 : decode cX5_fewest 108 = .ok (.ldc 199, 2) := by decide +kernel
theorem dX5_fewest_110 : decode cX5_fewest 110 = .ok (.ireturn, 1) := by decide +kernel
set_option maxRecDepth 20000 in
theorem ggX5_sizeOrSet_J6_bitCount_0f7a4 : GoodIn wsX5_sizeOrSet wsJ6_bitCount_0f7a4 := goodIn_r _ [5, 6, 7, 8] (by decide +kernel) (by decide +kernel)
set_option maxRecDepth 20000 in
theorem gX5_sizeOrSet_J6_bitCount_0f7a4 : GoodIn wsX5_sizeOrSet (va_wsS RX5 237 yJ6_bitCount_0f7a4 wsJ6_bitCount_0f7a4) := goodIn_app (goodIn_of _ (by decide +kernel)) ggX5_sizeOrSet_J6_bitCount_0f7a4
theorem dX5_sizeOrSet_0 : decode cX5_sizeOrSet 0 = .ok (.iload_n 0, 1) := by decide +kernel
theorem dX5_sizeOrSet_1 : decode cX5_sizeOrSet 1 = .ok (.ldc 199, 2) := by decide +kernel
theorem dX5_sizeOrSet_3 : decode cX5_sizeOrSet 3 = .ok (.if_icmp .eq 8, 3) := by decide +kernel
theorem dX5_sizeOrSet_6 : decode cX5_sizeOrSet 6 = .ok (.iload_n 1, 1) := by decide +kernel
theorem dX5_sizeOrSet_7 : decode cX5_sizeOrSet 7 = .ok (.iconst 1, 1) := by decide +kernel
theorem dX5_sizeOrSet_8 : decode cX5_sizeOrSet 8 = .ok (.if_icmp .ne 7, 3) := by decide +kernel
theorem dX5_sizeOrSet_11 : decode cX5_sizeOrSet 11 = .ok (.iload_n 0, 1) := by decide +kernel
theorem dX5_sizeOrSet_12 : decode cX5_sizeOrSet 12 = .ok (.goto 7, 3) := by decide +kernel
theorem dX5_sizeOrSet_15 : decode cX5_sizeOrSet 15 = .ok (.iload_n 0, 1) := by decide +kernel
theorem dX5_sizeOrSet_16 : decode cX5_sizeOrSet 16 = .ok (.invokestatic 237, 3) := by decide +kernel
theorem dX5_sizeOrSet_19 : decode cX5_sizeOrSet 19 = .ok (.ireturn, 1) := by decide +kernel
set_option maxRecDepth 20000 in
theorem ggX5_comesByCrusts_X2_become : GoodIn wsX5_comesByCrusts wsX2_become := goodIn_r _ [9, 10, 11, 12, 13, 14, 15, 16, 17, 18, 19, 20, 78, 79, 80, 81, 82, 83, 84, 85, 86, 87, 88] (by decide +kernel) (by decide +kernel)
set_option maxRecDepth 20000 in
theorem gX5_comesByCrusts_X2_become : GoodIn wsX5_comesByCrusts (wsV RX5 110 RX2 yX2_become wsX2_become) := goodIn_app (goodIn_of _ (by decide +kernel)) ggX5_comesByCrusts_X2_become
set_option maxRecDepth 20000 in
theorem ggX5_comesByCrusts_X2_scatter : GoodIn wsX5_comesByCrusts wsX2_scatter := goodIn_r _ [24, 14, 25, 26, 27, 28, 78, 79, 80, 81, 82, 83, 84, 85, 86, 87, 88] (by decide +kernel) (by decide +kernel)
set_option maxRecDepth 20000 in
theorem gX5_comesByCrusts_X2_scatter : GoodIn wsX5_comesByCrusts (wsV RX5 150 RX2 yX2_scatter wsX2_scatter) := goodIn_app (goodIn_of _ (by decide +kernel)) ggX5_comesByCrusts_X2_scatter
set_option maxRecDepth 20000 in
theorem ggX5_comesByCrusts_X2_passDays : GoodIn wsX5_comesByCrusts wsX2_passDays := goodIn_r _ [32, 33, 34, 35, 8, 36, 11, 17, 14, 20, 12, 37, 38, 39, 40, 15, 41, 42, 43, 44, 10, 13, 45, 46, 47, 48, 49, 50, 51, 52, 53, 54, 55, 56, 57, 58, 59, 60, 61, 62, 63, 64, 19, 65, 66, 67, 68, 18, 78, 79, 80, 81, 82, 83, 84, 85, 86, 87, 88] (by decide +kernel) (by decide +kernel)
set_option maxRecDepth 20000 in
theorem gX5_comesByCrusts_X2_passDays : GoodIn wsX5_comesByCrusts (wsV RX5 314 RX2 yX2_passDays wsX2_passDays) := goodIn_app (goodIn_of _ (by decide +kernel)) ggX5_comesByCrusts_X2_passDays
theorem dX5_comesByCrusts_0 : decode cX5_comesByCrusts 0 = .ok (.aload_n 0, 1) := by decide +kernel
theorem dX5_comesByCrusts_1 : decode cX5_comesByCrusts 1 = .ok (.getfield 44, 3) := by decide +kernel
theorem dX5_comesByCrusts_4 : decode cX5_comesByCrusts 4 = .ok (.aload_n 0, 1) := by decide +kernel
theorem dX5_comesByCrusts_5 : decode cX5_comesByCrusts 5 = .ok (.getfield 40, 3) := by decide +kernel
theorem dX5_comesByCrusts_8 : decode cX5_comesByCrusts 8 = .ok (.invokevirtual 110, 3) := by decide +kernel
theorem dX5_comesByCrusts_11 : decode cX5_comesByCrusts 11 = .ok (.iconst 0, 1) := by decide +kernel
theorem dX5_comesByCrusts_12 : decode cX5_comesByCrusts 12 = .ok (.istore 5, 2) := by decide +kernel
theorem dX5_comesByCrusts_14 : decode cX5_comesByCrusts 14 = .ok (.iload 5, 2) := by decide +kernel
theorem dX5_comesByCrusts_16 : decode cX5_comesByCrusts 16 = .ok (.aload_n 0, 1) := by decide +kernel
theorem dX5_comesByCrusts_17 : decode cX5_comesByCrusts 17 = .ok (.getfield 40, 3) := by decide +kernel
theorem dX5_comesByCrusts_20 : decode cX5_comesByCrusts 20 = .ok (.getfield 207, 3) := by decide +kernel
theorem dX5_comesByCrusts_23 : decode cX5_comesByCrusts 23 = .ok (.if_icmp .ge 30, 3) := by decide +kernel
theorem dX5_comesByCrusts_26 : decode cX5_comesByCrusts 26 = .ok (.iload_n 1, 1) := by decide +kernel
theorem dX5_comesByCrusts_27 : decode cX5_comesByCrusts 27 = .ok (.iload 5, 2) := by decide +kernel
theorem dX5_comesByCrusts_29 : decode cX5_comesByCrusts 29 = .ok (.ishr, 1) := by decide +kernel
theorem dX5_comesByCrusts_30 : decode cX5_comesByCrusts 30 = .ok (.iconst 1, 1) := by decide +kernel
theorem dX5_comesByCrusts_31 : decode cX5_comesByCrusts 31 = .ok (.iand, 1) := by decide +kernel
theorem dX5_comesByCrusts_32 : decode cX5_comesByCrusts 32 = .ok (.iconst 1, 1) := by decide +kernel
theorem dX5_comesByCrusts_33 : decode cX5_comesByCrusts 33 = .ok (.if_icmp .ne 14, 3) := by decide +kernel
theorem dX5_comesByCrusts_36 : decode cX5_comesByCrusts 36 = .ok (.aload_n 0, 1) := by decide +kernel
theorem dX5_comesByCrusts_37 : decode cX5_comesByCrusts 37 = .ok (.getfield 44, 3) := by decide +kernel
theorem dX5_comesByCrusts_40 : decode cX5_comesByCrusts 40 = .ok (.iload 5, 2) := by decide +kernel
theorem dX5_comesByCrusts_42 : decode cX5_comesByCrusts 42 = .ok (.bipush 9, 2) := by decide +kernel
theorem dX5_comesByCrusts_44 : decode cX5_comesByCrusts 44 = .ok (.invokevirtual 150, 3) := by decide +kernel
theorem dX5_comesByCrusts_47 : decode cX5_comesByCrusts 47 = .ok (.iinc 5 1, 3) := by decide +kernel
theorem dX5_comesByCrusts_50 : decode cX5_comesByCrusts 50 = .ok (.goto (-36), 3) := by decide +kernel
theorem dX5_comesByCrusts_53 : decode cX5_comesByCrusts 53 = .ok (.aload_n 0, 1) := by decide +kernel
theorem dX5_comesByCrusts_54 : decode cX5_comesByCrusts 54 = .ok (.getfield 44, 3) := by decide +kernel
theorem dX5_comesByCrusts_57 : decode cX5_comesByCrusts 57 = .ok (.iload 4, 2) := by decide +kernel
theorem dX5_comesByCrusts_59 : decode cX5_comesByCrusts 59 = .ok (.invokevirtual 314, 3) := by decide +kernel
theorem dX5_comesByCrusts_62 : decode cX5_comesByCrusts 62 = .ok (.aload_n 0, 1) := by decide +kernel
theorem dX5_comesByCrusts_63 : decode cX5_comesByCrusts 63 = .ok (.getfield 44, 3) := by decide +kernel
theorem dX5_comesByCrusts_66 : decode cX5_comesByCrusts 66 = .ok (.getfield 167, 3) := by decide +kernel
theorem dX5_comesByCrusts_69 : decode cX5_comesByCrusts 69 = .ok (.iload_n 2, 1) := by decide +kernel
theorem dX5_comesByCrusts_70 : decode cX5_comesByCrusts 70 = .ok (.iaload, 1) := by decide +kernel
theorem dX5_comesByCrusts_71 : decode cX5_comesByCrusts 71 = .ok (.iload_n 3, 1) := by decide +kernel
theorem dX5_comesByCrusts_72 : decode cX5_comesByCrusts 72 = .ok (.if_icmp .ne 7, 3) := by decide +kernel
theorem dX5_comesByCrusts_75 : decode cX5_comesByCrusts 75 = .ok (.iconst 1, 1) := by decide +kernel
theorem dX5_comesByCrusts_76 : decode cX5_comesByCrusts 76 = .ok (.goto 4, 3) := by decide +kernel
theorem dX5_comesByCrusts_79 : decode cX5_comesByCrusts 79 = .ok (.iconst 0, 1) := by decide +kernel
theorem dX5_comesByCrusts_80 : decode cX5_comesByCrusts 80 = .ok (.ireturn, 1) := by decide +kernel
set_option maxRecDepth 20000 in
theorem ggX5_comesByWeirs_X2_become : GoodIn wsX5_comesByWeirs wsX2_become := goodIn_r _ [9, 10, 11, 12, 13, 14, 15, 16, 17, 18, 19, 20, 70, 71, 72, 73, 74, 75, 76, 77, 78, 79, 80] (by decide +kernel) (by decide +kernel)
set_option maxRecDepth 20000 in
theorem gX5_comesByWeirs_X2_become : GoodIn wsX5_comesByWeirs (wsV RX5 110 RX2 yX2_become wsX2_become) := goodIn_app (goodIn_of _ (by decide +kernel)) ggX5_comesByWeirs_X2_become
set_option maxRecDepth 20000 in
theorem ggX5_comesByWeirs_X2_passDays : GoodIn wsX5_comesByWeirs wsX2_passDays := goodIn_r _ [24, 25, 26, 27, 8, 28, 11, 17, 14, 20, 12, 29, 30, 31, 32, 15, 33, 34, 35, 36, 10, 13, 37, 38, 39, 40, 41, 42, 43, 44, 45, 46, 47, 48, 49, 50, 51, 52, 53, 54, 55, 56, 19, 57, 58, 59, 60, 18, 70, 71, 72, 73, 74, 75, 76, 77, 78, 79, 80] (by decide +kernel) (by decide +kernel)
set_option maxRecDepth 20000 in
theorem gX5_comesByWeirs_X2_passDays : GoodIn wsX5_comesByWeirs (wsV RX5 314 RX2 yX2_passDays wsX2_passDays) := goodIn_app (goodIn_of _ (by decide +kernel)) ggX5_comesByWeirs_X2_passDays
theorem dX5_comesByWeirs_0 : decode cX5_comesByWeirs 0 = .ok (.iload_n 1, 1) := by decide +kernel
theorem dX5_comesByWeirs_1 : decode cX5_comesByWeirs 1 = .ok (.aload_n 0, 1) := by decide +kernel
theorem dX5_comesByWeirs_2 : decode cX5_comesByWeirs 2 = .ok (.getfield 40, 3) := by decide +kernel
theorem dX5_comesByWeirs_5 : decode cX5_comesByWeirs 5 = .ok (.getfield 161, 3) := by decide +kernel
theorem dX5_comesByWeirs_8 : decode cX5_comesByWeirs 8 = .ok (.iand, 1) := by decide +kernel
theorem dX5_comesByWeirs_9 : decode cX5_comesByWeirs 9 = .ok (.ifCond .eq 5, 3) := by decide +kernel
theorem dX5_comesByWeirs_12 : decode cX5_comesByWeirs 12 = .ok (.iconst 0, 1) := by decide +kernel
theorem dX5_comesByWeirs_13 : decode cX5_comesByWeirs 13 = .ok (.ireturn, 1) := by decide +kernel
theorem dX5_comesByWeirs_14 : decode cX5_comesByWeirs 14 = .ok (.aload_n 0, 1) := by decide +kernel
theorem dX5_comesByWeirs_15 : decode cX5_comesByWeirs 15 = .ok (.getfield 44, 3) := by decide +kernel
theorem dX5_comesByWeirs_18 : decode cX5_comesByWeirs 18 = .ok (.aload_n 0, 1) := by decide +kernel
theorem dX5_comesByWeirs_19 : decode cX5_comesByWeirs 19 = .ok (.getfield 40, 3) := by decide +kernel
theorem dX5_comesByWeirs_22 : decode cX5_comesByWeirs 22 = .ok (.invokevirtual 110, 3) := by decide +kernel
theorem dX5_comesByWeirs_25 : decode cX5_comesByWeirs 25 = .ok (.aload_n 0, 1) := by decide +kernel
theorem dX5_comesByWeirs_26 : decode cX5_comesByWeirs 26 = .ok (.getfield 44, 3) := by decide +kernel
theorem dX5_comesByWeirs_29 : decode cX5_comesByWeirs 29 = .ok (.dup, 1) := by decide +kernel
theorem dX5_comesByWeirs_30 : decode cX5_comesByWeirs 30 = .ok (.getfield 161, 3) := by decide +kernel
theorem dX5_comesByWeirs_33 : decode cX5_comesByWeirs 33 = .ok (.iload_n 1, 1) := by decide +kernel
theorem dX5_comesByWeirs_34 : decode cX5_comesByWeirs 34 = .ok (.ior, 1) := by decide +kernel
theorem dX5_comesByWeirs_35 : decode cX5_comesByWeirs 35 = .ok (.putfield 161, 3) := by decide +kernel
theorem dX5_comesByWeirs_38 : decode cX5_comesByWeirs 38 = .ok (.aload_n 0, 1) := by decide +kernel
theorem dX5_comesByWeirs_39 : decode cX5_comesByWeirs 39 = .ok (.getfield 44, 3) := by decide +kernel
theorem dX5_comesByWeirs_42 : decode cX5_comesByWeirs 42 = .ok (.iload 4, 2) := by decide +kernel
theorem dX5_comesByWeirs_44 : decode cX5_comesByWeirs 44 = .ok (.invokevirtual 314, 3) := by decide +kernel
theorem dX5_comesByWeirs_47 : decode cX5_comesByWeirs 47 = .ok (.aload_n 0, 1) := by decide +kernel
theorem dX5_comesByWeirs_48 : decode cX5_comesByWeirs 48 = .ok (.getfield 44, 3) := by decide +kernel
theorem dX5_comesByWeirs_51 : decode cX5_comesByWeirs 51 = .ok (.getfield 167, 3) := by decide +kernel
theorem dX5_comesByWeirs_54 : decode cX5_comesByWeirs 54 = .ok (.iload_n 2, 1) := by decide +kernel
theorem dX5_comesByWeirs_55 : decode cX5_comesByWeirs 55 = .ok (.iaload, 1) := by decide +kernel
theorem dX5_comesByWeirs_56 : decode cX5_comesByWeirs 56 = .ok (.iload_n 3, 1) := by decide +kernel
theorem dX5_comesByWeirs_57 : decode cX5_comesByWeirs 57 = .ok (.if_icmp .ne 7, 3) := by decide +kernel
theorem dX5_comesByWeirs_60 : decode cX5_comesByWeirs 60 = .ok (.iconst 1, 1) := by decide +kernel
theorem dX5_comesByWeirs_61 : decode cX5_comesByWeirs 61 = .ok (.goto 4, 3) := by decide +kernel
theorem dX5_comesByWeirs_64 : decode cX5_comesByWeirs 64 = .ok (.iconst 0, 1) := by decide +kernel
theorem dX5_comesByWeirs_65 : decode cX5_comesByWeirs 65 = .ok (.ireturn, 1) := by decide +kernel
set_option maxRecDepth 20000 in
theorem ggX5_suppose_X2_become : GoodIn wsX5_suppose wsX2_become := goodIn_r _ [10, 11, 12, 13, 14, 15, 16, 17, 18, 19, 20, 21, 31, 32, 33, 34, 35, 36, 37, 38, 39, 40, 41] (by decide +kernel) (by decide +kernel)
set_option maxRecDepth 20000 in
theorem gX5_suppose_X2_become : GoodIn wsX5_suppose (wsV RX5 110 RX2 yX2_become wsX2_become) := goodIn_app (goodIn_of _ (by decide +kernel)) ggX5_suppose_X2_become
theorem dX5_suppose_0 : decode cX5_suppose 0 = .ok (.aload_n 0, 1) := by decide +kernel
theorem dX5_suppose_1 : decode cX5_suppose 1 = .ok (.getfield 44, 3) := by decide +kernel
theorem dX5_suppose_4 : decode cX5_suppose 4 = .ok (.aload_n 0, 1) := by decide +kernel
theorem dX5_suppose_5 : decode cX5_suppose 5 = .ok (.getfield 40, 3) := by decide +kernel
theorem dX5_suppose_8 : decode cX5_suppose 8 = .ok (.invokevirtual 110, 3) := by decide +kernel
theorem dX5_suppose_11 : decode cX5_suppose 11 = .ok (.iload_n 2, 1) := by decide +kernel
theorem dX5_suppose_12 : decode cX5_suppose 12 = .ok (.lookupswitch 54 #[(0, 28), (1, 41)], 28) := by decide +kernel
theorem dX5_suppose_40 : decode cX5_suppose 40 = .ok (.aload_n 0, 1) := by decide +kernel
theorem dX5_suppose_41 : decode cX5_suppose 41 = .ok (.getfield 44, 3) := by decide +kernel
theorem dX5_suppose_44 : decode cX5_suppose 44 = .ok (.getfield 266, 3) := by decide +kernel
theorem dX5_suppose_47 : decode cX5_suppose 47 = .ok (.iload_n 1, 1) := by decide +kernel
theorem dX5_suppose_48 : decode cX5_suppose 48 = .ok (.iload_n 3, 1) := by decide +kernel
theorem dX5_suppose_49 : decode cX5_suppose 49 = .ok (.iastore, 1) := by decide +kernel
theorem dX5_suppose_50 : decode cX5_suppose 50 = .ok (.goto 26, 3) := by decide +kernel
theorem dX5_suppose_53 : decode cX5_suppose 53 = .ok (.aload_n 0, 1) := by decide +kernel
theorem dX5_suppose_54 : decode cX5_suppose 54 = .ok (.getfield 44, 3) := by decide +kernel
theorem dX5_suppose_57 : decode cX5_suppose 57 = .ok (.getfield 167, 3) := by decide +kernel
theorem dX5_suppose_60 : decode cX5_suppose 60 = .ok (.iload_n 1, 1) := by decide +kernel
theorem dX5_suppose_61 : decode cX5_suppose 61 = .ok (.iload_n 3, 1) := by decide +kernel
theorem dX5_suppose_62 : decode cX5_suppose 62 = .ok (.iastore, 1) := by decide +kernel
theorem dX5_suppose_63 : decode cX5_suppose 63 = .ok (.goto 13, 3) := by decide +kernel
theorem dX5_suppose_66 : decode cX5_suppose 66 = .ok (.aload_n 0, 1) := by decide +kernel
theorem dX5_suppose_67 : decode cX5_suppose 67 = .ok (.getfield 44, 3) := by decide +kernel
theorem dX5_suppose_70 : decode cX5_suppose 70 = .ok (.getfield 174, 3) := by decide +kernel
theorem dX5_suppose_73 : decode cX5_suppose 73 = .ok (.iload_n 1, 1) := by decide +kernel
theorem dX5_suppose_74 : decode cX5_suppose 74 = .ok (.iload_n 3, 1) := by decide +kernel
theorem dX5_suppose_75 : decode cX5_suppose 75 = .ok (.iastore, 1) := by decide +kernel
theorem dX5_suppose_76 : decode cX5_suppose 76 = .ok (.return_, 1) := by decide +kernel
set_option maxRecDepth 20000 in
theorem ggX5_trialFits_X2_passDay : GoodIn wsX5_trialFits wsX2_passDay := goodIn_r _ [8, 9, 10, 11, 12, 13, 14, 15, 16, 7, 17, 18, 19, 20, 21, 22, 23, 24, 25, 26, 27, 28, 29, 30, 31, 32, 33, 34, 35, 36, 37, 38, 39, 40, 41, 42, 43, 44, 45, 46, 47, 48, 49, 50, 66, 67, 68, 69, 70, 71, 72, 73, 74, 75, 76] (by decide +kernel) (by decide +kernel)
set_option maxRecDepth 20000 in
theorem gX5_trialFits_X2_passDay : GoodIn wsX5_trialFits (wsV RX5 140 RX2 yX2_passDay wsX2_passDay) := goodIn_app (goodIn_of _ (by decide +kernel)) ggX5_trialFits_X2_passDay
set_option maxRecDepth 20000 in
theorem ggX5_trialFits_X3_itemAt : GoodIn wsX5_trialFits wsX3_itemAt := goodIn_r _ [55, 56, 77, 78, 79] (by decide +kernel) (by decide +kernel)
set_option maxRecDepth 20000 in
theorem gX5_trialFits_X3_itemAt : GoodIn wsX5_trialFits (wsV RX5 323 RX3 yX3_itemAt wsX3_itemAt) := goodIn_app (goodIn_of _ (by decide +kernel)) ggX5_trialFits_X3_itemAt
theorem dX5_trialFits_0 : decode cX5_trialFits 0 = .ok (.iconst 0, 1) := by decide +kernel
theorem dX5_trialFits_1 : decode cX5_trialFits 1 = .ok (.istore 5, 2) := by decide +kernel
theorem dX5_trialFits_3 : decode cX5_trialFits 3 = .ok (.iload 5, 2) := by decide +kernel
theorem dX5_trialFits_5 : decode cX5_trialFits 5 = .ok (.iload 4, 2) := by decide +kernel
theorem dX5_trialFits_7 : decode cX5_trialFits 7 = .ok (.if_icmp .ge 42, 3) := by decide +kernel
theorem dX5_trialFits_10 : decode cX5_trialFits 10 = .ok (.aload_n 0, 1) := by decide +kernel
theorem dX5_trialFits_11 : decode cX5_trialFits 11 = .ok (.getfield 44, 3) := by decide +kernel
theorem dX5_trialFits_14 : decode cX5_trialFits 14 = .ok (.invokevirtual 140, 3) := by decide +kernel
theorem dX5_trialFits_17 : decode cX5_trialFits 17 = .ok (.aload_n 0, 1) := by decide +kernel
theorem dX5_trialFits_18 : decode cX5_trialFits 18 = .ok (.getfield 44, 3) := by decide +kernel
theorem dX5_trialFits_21 : decode cX5_trialFits 21 = .ok (.getfield 167, 3) := by decide +kernel
theorem dX5_trialFits_24 : decode cX5_trialFits 24 = .ok (.iload_n 1, 1) := by decide +kernel
theorem dX5_trialFits_25 : decode cX5_trialFits 25 = .ok (.iaload, 1) := by decide +kernel
theorem dX5_trialFits_26 : decode cX5_trialFits 26 = .ok (.aload_n 0, 1) := by decide +kernel
theorem dX5_trialFits_27 : decode cX5_trialFits 27 = .ok (.getfield 10, 3) := by decide +kernel
theorem dX5_trialFits_30 : decode cX5_trialFits 30 = .ok (.iload_n 2, 1) := by decide +kernel
theorem dX5_trialFits_31 : decode cX5_trialFits 31 = .ok (.iload_n 3, 1) := by decide +kernel
theorem dX5_trialFits_32 : decode cX5_trialFits 32 = .ok (.iload 5, 2) := by decide +kernel
theorem dX5_trialFits_34 : decode cX5_trialFits 34 = .ok (.iadd, 1) := by decide +kernel
theorem dX5_trialFits_35 : decode cX5_trialFits 35 = .ok (.invokevirtual 323, 3) := by decide +kernel
theorem dX5_trialFits_38 : decode cX5_trialFits 38 = .ok (.if_icmp .eq 5, 3) := by decide +kernel
theorem dX5_trialFits_41 : decode cX5_trialFits 41 = .ok (.iconst 0, 1) := by decide +kernel
theorem dX5_trialFits_42 : decode cX5_trialFits 42 = .ok (.ireturn, 1) := by decide +kernel
theorem dX5_trialFits_43 : decode cX5_trialFits 43 = .ok (.iinc 5 1, 3) := by decide +kernel
theorem dX5_trialFits_46 : decode cX5_trialFits 46 = .ok (.goto (-43), 3) := by decide +kernel
theorem dX5_trialFits_49 : decode cX5_trialFits 49 = .ok (.iconst 1, 1) := by decide +kernel
theorem dX5_trialFits_50 : decode cX5_trialFits 50 = .ok (.ireturn, 1) := by decide +kernel
set_option maxRecDepth 20000 in
theorem ggX5_comesBySinking_X2_breadLawns : GoodIn wsX5_comesBySinking wsX2_breadLawns := goodIn_r _ [10, 11, 12, 71, 72, 73, 74, 75, 76, 77, 78, 79, 80, 81] (by decide +kernel) (by decide +kernel)
set_option maxRecDepth 20000 in
theorem gX5_comesBySinking_X2_breadLawns : GoodIn wsX5_comesBySinking (wsV RX5 234 RX2 yX2_breadLawns wsX2_breadLawns) := goodIn_app (goodIn_of _ (by decide +kernel)) ggX5_comesBySinking_X2_breadLawns
set_option maxRecDepth 20000 in
theorem ggX5_comesBySinking_X2_become : GoodIn wsX5_comesBySinking wsX2_become := goodIn_r _ [16, 11, 17, 18, 19, 12, 20, 21, 22, 23, 24, 25, 71, 72, 73, 74, 75, 76, 77, 78, 79, 80, 81] (by decide +kernel) (by decide +kernel)
set_option maxRecDepth 20000 in
theorem gX5_comesBySinking_X2_become : GoodIn wsX5_comesBySinking (wsV RX5 110 RX2 yX2_become wsX2_become) := goodIn_app (goodIn_of _ (by decide +kernel)) ggX5_comesBySinking_X2_become
set_option maxRecDepth 20000 in
theorem ggX5_comesBySinking_X2_passDay : GoodIn wsX5_comesBySinking wsX2_passDay := goodIn_r _ [29, 17, 22, 12, 25, 18, 30, 31, 32, 9, 33, 20, 34, 35, 36, 37, 11, 19, 38, 39, 40, 41, 42, 43, 44, 45, 46, 47, 48, 49, 50, 51, 52, 53, 54, 55, 56, 57, 24, 58, 59, 60, 61, 23, 71, 72, 73, 74, 75, 76, 77, 78, 79, 80, 81] (by decide +kernel) (by decide +kernel)
set_option maxRecDepth 20000 in
theorem gX5_comesBySinking_X2_passDay : GoodIn wsX5_comesBySinking (wsV RX5 140 RX2 yX2_passDay wsX2_passDay) := goodIn_app (goodIn_of _ (by decide +kernel)) ggX5_comesBySinking_X2_passDay
theorem dX5_comesBySinking_0 : decode cX5_comesBySinking 0 = .ok (.iload_n 1, 1) := by decide +kernel
theorem dX5_comesBySinking_1 : decode cX5_comesBySinking 1 = .ok (.aload_n 0, 1) := by decide +kernel
theorem dX5_comesBySinking_2 : decode cX5_comesBySinking 2 = .ok (.getfield 40, 3) := by decide +kernel
theorem dX5_comesBySinking_5 : decode cX5_comesBySinking 5 = .ok (.invokevirtual 234, 3) := by decide +kernel
theorem dX5_comesBySinking_8 : decode cX5_comesBySinking 8 = .ok (.iconst (-1), 1) := by decide +kernel
theorem dX5_comesBySinking_9 : decode cX5_comesBySinking 9 = .ok (.ixor, 1) := by decide +kernel
theorem dX5_comesBySinking_10 : decode cX5_comesBySinking 10 = .ok (.iand, 1) := by decide +kernel
theorem dX5_comesBySinking_11 : decode cX5_comesBySinking 11 = .ok (.ifCond .eq 5, 3) := by decide +kernel
theorem dX5_comesBySinking_14 : decode cX5_comesBySinking 14 = .ok (.iconst 0, 1) := by decide +kernel
theorem dX5_comesBySinking_15 : decode cX5_comesBySinking 15 = .ok (.ireturn, 1) := by decide +kernel
theorem dX5_comesBySinking_16 : decode cX5_comesBySinking 16 = .ok (.aload_n 0, 1) := by decide +kernel
theorem dX5_comesBySinking_17 : decode cX5_comesBySinking 17 = .ok (.getfield 44, 3) := by decide +kernel
theorem dX5_comesBySinking_20 : decode cX5_comesBySinking 20 = .ok (.aload_n 0, 1) := by decide +kernel
theorem dX5_comesBySinking_21 : decode cX5_comesBySinking 21 = .ok (.getfield 40, 3) := by decide +kernel
theorem dX5_comesBySinking_24 : decode cX5_comesBySinking 24 = .ok (.invokevirtual 110, 3) := by decide +kernel
theorem dX5_comesBySinking_27 : decode cX5_comesBySinking 27 = .ok (.iconst 0, 1) := by decide +kernel
theorem dX5_comesBySinking_28 : decode cX5_comesBySinking 28 = .ok (.istore 4, 2) := by decide +kernel
theorem dX5_comesBySinking_30 : decode cX5_comesBySinking 30 = .ok (.iload 4, 2) := by decide +kernel
theorem dX5_comesBySinking_32 : decode cX5_comesBySinking 32 = .ok (.aload_n 0, 1) := by decide +kernel
theorem dX5_comesBySinking_33 : decode cX5_comesBySinking 33 = .ok (.getfield 40, 3) := by decide +kernel
theorem dX5_comesBySinking_36 : decode cX5_comesBySinking 36 = .ok (.getfield 207, 3) := by decide +kernel
theorem dX5_comesBySinking_39 : decode cX5_comesBySinking 39 = .ok (.if_icmp .ge 30, 3) := by decide +kernel
theorem dX5_comesBySinking_42 : decode cX5_comesBySinking 42 = .ok (.iload_n 1, 1) := by decide +kernel
theorem dX5_comesBySinking_43 : decode cX5_comesBySinking 43 = .ok (.iload 4, 2) := by decide +kernel
theorem dX5_comesBySinking_45 : decode cX5_comesBySinking 45 = .ok (.ishr, 1) := by decide +kernel
theorem dX5_comesBySinking_46 : decode cX5_comesBySinking 46 = .ok (.iconst 1, 1) := by decide +kernel
theorem dX5_comesBySinking_47 : decode cX5_comesBySinking 47 = .ok (.iand, 1) := by decide +kernel
theorem dX5_comesBySinking_48 : decode cX5_comesBySinking 48 = .ok (.iconst 1, 1) := by decide +kernel
theorem dX5_comesBySinking_49 : decode cX5_comesBySinking 49 = .ok (.if_icmp .ne 14, 3) := by decide +kernel
theorem dX5_comesBySinking_52 : decode cX5_comesBySinking 52 = .ok (.aload_n 0, 1) := by decide +kernel
theorem dX5_comesBySinking_53 : decode cX5_comesBySinking 53 = .ok (.getfield 44, 3) := by decide +kernel
theorem dX5_comesBySinking_56 : decode cX5_comesBySinking 56 = .ok (.getfield 154, 3) := by decide +kernel
theorem dX5_comesBySinking_59 : decode cX5_comesBySinking 59 = .ok (.iload 4, 2) := by decide +kernel
theorem dX5_comesBySinking_61 : decode cX5_comesBySinking 61 = .ok (.iconst 0, 1) := by decide +kernel
theorem dX5_comesBySinking_62 : decode cX5_comesBySinking 62 = .ok (.iastore, 1) := by decide +kernel
theorem dX5_comesBySinking_63 : decode cX5_comesBySinking 63 = .ok (.iinc 4 1, 3) := by decide +kernel
theorem dX5_comesBySinking_66 : decode cX5_comesBySinking 66 = .ok (.goto (-36), 3) := by decide +kernel
theorem dX5_comesBySinking_69 : decode cX5_comesBySinking 69 = .ok (.aload_n 0, 1) := by decide +kernel
theorem dX5_comesBySinking_70 : decode cX5_comesBySinking 70 = .ok (.getfield 44, 3) := by decide +kernel
theorem dX5_comesBySinking_73 : decode cX5_comesBySinking 73 = .ok (.invokevirtual 140, 3) := by decide +kernel
theorem dX5_comesBySinking_76 : decode cX5_comesBySinking 76 = .ok (.aload_n 0, 1) := by decide +kernel
theorem dX5_comesBySinking_77 : decode cX5_comesBySinking 77 = .ok (.getfield 44, 3) := by decide +kernel
theorem dX5_comesBySinking_80 : decode cX5_comesBySinking 80 = .ok (.getfield 167, 3) := by decide +kernel
theorem dX5_comesBySinking_83 : decode cX5_comesBySinking 83 = .ok (.iload_n 2, 1) := by decide +kernel
theorem dX5_comesBySinking_84 : decode cX5_comesBySinking 84 = .ok (.iaload, 1) := by decide +kernel
theorem dX5_comesBySinking_85 : decode cX5_comesBySinking 85 = .ok (.iload_n 3, 1) := by decide +kernel
theorem dX5_comesBySinking_86 : decode cX5_comesBySinking 86 = .ok (.if_icmp .ne 7, 3) := by decide +kernel
theorem dX5_comesBySinking_89 : decode cX5_comesBySinking 89 = .ok (.iconst 1, 1) := by decide +kernel
theorem dX5_comesBySinking_90 : decode cX5_comesBySinking 90 = .ok (.goto 4, 3) := by decide +kernel
theorem dX5_comesBySinking_93 : decode cX5_comesBySinking 93 = .ok (.iconst 0, 1) := by decide +kernel
theorem dX5_comesBySinking_94 : decode cX5_comesBySinking 94 = .ok (.ireturn, 1) := by decide +kernel
set_option maxRecDepth 20000 in
theorem ggX5_casesOf_J6_bitCount_0f7a4 : GoodIn wsX5_casesOf wsJ6_bitCount_0f7a4 := goodIn_r _ [5, 6, 7, 8] (by decide +kernel) (by decide +kernel)
set_option maxRecDepth 20000 in
theorem gX5_casesOf_J6_bitCount_0f7a4 : GoodIn wsX5_casesOf (va_wsS RX5 237 yJ6_bitCount_0f7a4 wsJ6_bitCount_0f7a4) := goodIn_app (goodIn_of _ (by decide +kernel)) ggX5_casesOf_J6_bitCount_0f7a4
set_option maxRecDepth 20000 in
theorem ggX5_casesOf_X2_breadLawns : GoodIn wsX5_casesOf wsX2_breadLawns := goodIn_r _ [13, 14, 15, 29, 30, 31, 32, 33, 34, 35, 36, 37, 38, 39] (by decide +kernel) (by decide +kernel)
set_option maxRecDepth 20000 in
theorem gX5_casesOf_X2_breadLawns : GoodIn wsX5_casesOf (wsV RX5 234 RX2 yX2_breadLawns wsX2_breadLawns) := goodIn_app (goodIn_of _ (by decide +kernel)) ggX5_casesOf_X2_breadLawns
set_option maxRecDepth 20000 in
theorem ggX5_casesOf_X5_power : GoodIn wsX5_casesOf wsX5_power := goodIn_r _ [19] (by decide +kernel) (by decide +kernel)
set_option maxRecDepth 20000 in
theorem gX5_casesOf_X5_power : GoodIn wsX5_casesOf (va_wsS RX5 242 yX5_power wsX5_power) := goodIn_app (goodIn_of _ (by decide +kernel)) ggX5_casesOf_X5_power
theorem dX5_casesOf_0 : decode cX5_casesOf 0 = .ok (.iload_n 1, 1) := by decide +kernel
theorem dX5_casesOf_1 : decode cX5_casesOf 1 = .ok (.invokestatic 237, 3) := by decide +kernel
theorem dX5_casesOf_4 : decode cX5_casesOf 4 = .ok (.istore_n 3, 1) := by decide +kernel
theorem dX5_casesOf_5 : decode cX5_casesOf 5 = .ok (.aload_n 0, 1) := by decide +kernel
theorem dX5_casesOf_6 : decode cX5_casesOf 6 = .ok (.getfield 40, 3) := by decide +kernel
theorem dX5_casesOf_9 : decode cX5_casesOf 9 = .ok (.invokevirtual 234, 3) := by decide +kernel
theorem dX5_casesOf_12 : decode cX5_casesOf 12 = .ok (.invokestatic 237, 3) := by decide +kernel
theorem dX5_casesOf_15 : decode cX5_casesOf 15 = .ok (.iload_n 3, 1) := by decide +kernel
theorem dX5_casesOf_16 : decode cX5_casesOf 16 = .ok (.isub, 1) := by decide +kernel
theorem dX5_casesOf_17 : decode cX5_casesOf 17 = .ok (.istore 4, 2) := by decide +kernel
theorem dX5_casesOf_19 : decode cX5_casesOf 19 = .ok (.iload_n 2, 1) := by decide +kernel
theorem dX5_casesOf_20 : decode cX5_casesOf 20 = .ok (.i2l, 1) := by decide +kernel
theorem dX5_casesOf_21 : decode cX5_casesOf 21 = .ok (.iload_n 3, 1) := by decide +kernel
theorem dX5_casesOf_22 : decode cX5_casesOf 22 = .ok (.invokestatic 242, 3) := by decide +kernel
theorem dX5_casesOf_25 : decode cX5_casesOf 25 = .ok (.bipush 10, 2) := by decide +kernel
theorem dX5_casesOf_27 : decode cX5_casesOf 27 = .ok (.iload_n 2, 1) := by decide +kernel
theorem dX5_casesOf_28 : decode cX5_casesOf 28 = .ok (.isub, 1) := by decide +kernel
theorem dX5_casesOf_29 : decode cX5_casesOf 29 = .ok (.i2l, 1) := by decide +kernel
theorem dX5_casesOf_30 : decode cX5_casesOf 30 = .ok (.iload 4, 2) := by decide +kernel
theorem dX5_casesOf_32 : decode cX5_casesOf 32 = .ok (.invokestatic 242, 3) := by decide +kernel
theorem dX5_casesOf_35 : decode cX5_casesOf 35 = .ok (.lmul, 1) := by decide +kernel
theorem dX5_casesOf_36 : decode cX5_casesOf 36 = .ok (.lreturn, 1) := by decide +kernel
theorem dX5_power_0 : decode cX5_power 0 = .ok (.lconst 1, 1) := by decide +kernel
theorem dX5_power_1 : decode cX5_power 1 = .ok (.lstore_n 3, 1) := by decide +kernel
theorem dX5_power_2 : decode cX5_power 2 = .ok (.iconst 0, 1) := by decide +kernel
theorem dX5_power_3 : decode cX5_power 3 = .ok (.istore 5, 2) := by decide +kernel
theorem dX5_power_5 : decode cX5_power 5 = .ok (.iload 5, 2) := by decide +kernel
theorem dX5_power_7 : decode cX5_power 7 = .ok (.iload_n 2, 1) := by decide +kernel
theorem dX5_power_8 : decode cX5_power 8 = .ok (.if_icmp .ge 13, 3) := by decide +kernel
theorem dX5_power_11 : decode cX5_power 11 = .ok (.lload_n 3, 1) := by decide +kernel
theorem dX5_power_12 : decode cX5_power 12 = .ok (.lload_n 0, 1) := by decide +kernel
theorem dX5_power_13 : decode cX5_power 13 = .ok (.lmul, 1) := by decide +kernel
theorem dX5_power_14 : decode cX5_power 14 = .ok (.lstore_n 3, 1) := by decide +kernel
theorem dX5_power_15 : decode cX5_power 15 = .ok (.iinc 5 1, 3) := by decide +kernel
theorem dX5_power_18 : decode cX5_power 18 = .ok (.goto (-13), 3) := by decide +kernel
theorem dX5_power_21 : decode cX5_power 21 = .ok (.lload_n 3, 1) := by decide +kernel
theorem dX5_power_22 : decode cX5_power 22 = .ok (.lreturn, 1) := by decide +kernel
theorem dX5_sharedDivisor_0 : decode cX5_sharedDivisor 0 = .ok (.lload_n 0, 1) := by decide +kernel
theorem dX5_sharedDivisor_1 : decode cX5_sharedDivisor 1 = .ok (.lstore 4, 2) := by decide +kernel
theorem dX5_sharedDivisor_3 : decode cX5_sharedDivisor 3 = .ok (.lload_n 2, 1) := by decide +kernel
theorem dX5_sharedDivisor_4 : decode cX5_sharedDivisor 4 = .ok (.lstore 6, 2) := by decide +kernel
theorem dX5_sharedDivisor_6 : decode cX5_sharedDivisor 6 = .ok (.iconst 0, 1) := by decide +kernel
theorem dX5_sharedDivisor_7 : decode cX5_sharedDivisor 7 = .ok (.istore 8, 2) := by decide +kernel
theorem dX5_sharedDivisor_9 : decode cX5_sharedDivisor 9 = .ok (.iload 8, 2) := by decide +kernel
theorem dX5_sharedDivisor_11 : decode cX5_sharedDivisor 11 = .ok (.bipush 100, 2) := by decide +kernel
theorem dX5_sharedDivisor_13 : decode cX5_sharedDivisor 13 = .ok (.if_icmp .ge 31, 3) := by decide +kernel
theorem dX5_sharedDivisor_16 : decode cX5_sharedDivisor 16 = .ok (.lload 6, 2) := by decide +kernel
theorem dX5_sharedDivisor_18 : decode cX5_sharedDivisor 18 = .ok (.lconst 0, 1) := by decide +kernel
theorem dX5_sharedDivisor_19 : decode cX5_sharedDivisor 19 = .ok (.lcmp, 1) := by decide +kernel
theorem dX5_sharedDivisor_20 : decode cX5_sharedDivisor 20 = .ok (.ifCond .eq 24, 3) := by decide +kernel
theorem dX5_sharedDivisor_23 : decode cX5_sharedDivisor 23 = .ok (.lload 4, 2) := by decide +kernel
theorem dX5_sharedDivisor_25 : decode cX5_sharedDivisor 25 = .ok (.lload 6, 2) := by decide +kernel
theorem dX5_sharedDivisor_27 : decode cX5_sharedDivisor 27 = .ok (.lrem, 1) := by decide +kernel
theorem dX5_sharedDivisor_28 : decode cX5_sharedDivisor 28 = .ok (.lstore 9, 2) := by decide +kernel
theorem dX5_sharedDivisor_30 : decode cX5_sharedDivisor 30 = .ok (.lload 6, 2) := by decide +kernel
theorem dX5_sharedDivisor_32 : decode cX5_sharedDivisor 32 = .ok (.lstore 4, 2) := by decide +kernel
theorem dX5_sharedDivisor_34 : decode cX5_sharedDivisor 34 = .ok (.lload 9, 2) := by decide +kernel
theorem dX5_sharedDivisor_36 : decode cX5_sharedDivisor 36 = .ok (.lstore 6, 2) := by decide +kernel
theorem dX5_sharedDivisor_38 : decode cX5_sharedDivisor 38 = .ok (.iinc 8 1, 3) := by decide +kernel
theorem dX5_sharedDivisor_41 : decode cX5_sharedDivisor 41 = .ok (.goto (-32), 3) := by decide +kernel
theorem dX5_sharedDivisor_44 : decode cX5_sharedDivisor 44 = .ok (.lload 4, 2) := by decide +kernel
theorem dX5_sharedDivisor_46 : decode cX5_sharedDivisor 46 = .ok (.lreturn, 1) := by decide +kernel
theorem dX5_isOfKind_0 : decode cX5_isOfKind 0 = .ok (.iload_n 0, 1) := by decide +kernel
theorem dX5_isOfKind_1 : decode cX5_isOfKind 1 = .ok (.istore_n 2, 1) := by decide +kernel
theorem dX5_isOfKind_2 : decode cX5_isOfKind 2 = .ok (.iconst 0, 1) := by decide +kernel
theorem dX5_isOfKind_3 : decode cX5_isOfKind 3 = .ok (.istore_n 3, 1) := by decide +kernel
theorem dX5_isOfKind_4 : decode cX5_isOfKind 4 = .ok (.iload_n 3, 1) := by decide +kernel
theorem dX5_isOfKind_5 : decode cX5_isOfKind 5 = .ok (.bipush 6, 2) := by decide +kernel
theorem dX5_isOfKind_7 : decode cX5_isOfKind 7 = .ok (.if_icmp .ge 22, 3) := by decide +kernel
theorem dX5_isOfKind_10 : decode cX5_isOfKind 10 = .ok (.iload_n 2, 1) := by decide +kernel
theorem dX5_isOfKind_11 : decode cX5_isOfKind 11 = .ok (.iload_n 1, 1) := by decide +kernel
theorem dX5_isOfKind_12 : decode cX5_isOfKind 12 = .ok (.if_icmp .ne 5, 3) := by decide +kernel
theorem dX5_isOfKind_15 : decode cX5_isOfKind 15 = .ok (.iconst 1, 1) := by decide +kernel
theorem dX5_isOfKind_16 : decode cX5_isOfKind 16 = .ok (.ireturn, 1) := by decide +kernel
theorem dX5_isOfKind_17 : decode cX5_isOfKind 17 = .ok (.getstatic 326, 3) := by decide +kernel
theorem dX5_isOfKind_20 : decode cX5_isOfKind 20 = .ok (.iload_n 2, 1) := by decide +kernel
theorem dX5_isOfKind_21 : decode cX5_isOfKind 21 = .ok (.iaload, 1) := by decide +kernel
theorem dX5_isOfKind_22 : decode cX5_isOfKind 22 = .ok (.istore_n 2, 1) := by decide +kernel
theorem dX5_isOfKind_23 : decode cX5_isOfKind 23 = .ok (.iinc 3 1, 3) := by decide +kernel
theorem dX5_isOfKind_26 : decode cX5_isOfKind 26 = .ok (.goto (-22), 3) := by decide +kernel
theorem dX5_isOfKind_29 : decode cX5_isOfKind 29 = .ok (.iconst 0, 1) := by decide +kernel
theorem dX5_isOfKind_30 : decode cX5_isOfKind 30 = .ok (.ireturn, 1) := by decide +kernel
theorem dX6_init_0 : decode cX6_init 0 = .ok (.aload_n 0, 1) := by decide +kernel
theorem dX6_init_1 : decode cX6_init 1 = .ok (.invokespecial 1, 3) := by decide +kernel
theorem dX6_init_4 : decode cX6_init 4 = .ok (.aload_n 0, 1) := by decide +kernel
theorem dX6_init_5 : decode cX6_init 5 = .ok (.sipush 152, 3) := by decide +kernel
theorem dX6_init_8 : decode cX6_init 8 = .ok (.newarray .int, 2) := by decide +kernel
theorem dX6_init_10 : decode cX6_init 10 = .ok (.putfield 7, 3) := by decide +kernel
theorem dX6_init_13 : decode cX6_init 13 = .ok (.aload_n 0, 1) := by decide +kernel
theorem dX6_init_14 : decode cX6_init 14 = .ok (.iconst 2, 1) := by decide +kernel
theorem dX6_init_15 : decode cX6_init 15 = .ok (.newarray .boolean, 2) := by decide +kernel
theorem dX6_init_17 : decode cX6_init 17 = .ok (.putfield 13, 3) := by decide +kernel
theorem dX6_init_20 : decode cX6_init 20 = .ok (.aload_n 0, 1) := by decide +kernel
theorem dX6_init_21 : decode cX6_init 21 = .ok (.sipush 552, 3) := by decide +kernel
theorem dX6_init_24 : decode cX6_init 24 = .ok (.newarray .int, 2) := by decide +kernel
theorem dX6_init_26 : decode cX6_init 26 = .ok (.putfield 17, 3) := by decide +kernel
theorem dX6_init_29 : decode cX6_init 29 = .ok (.aload_n 0, 1) := by decide +kernel
theorem dX6_init_30 : decode cX6_init 30 = .ok (.sipush 320, 3) := by decide +kernel
theorem dX6_init_33 : decode cX6_init 33 = .ok (.newarray .int, 2) := by decide +kernel
theorem dX6_init_35 : decode cX6_init 35 = .ok (.putfield 20, 3) := by decide +kernel
theorem dX6_init_38 : decode cX6_init 38 = .ok (.aload_n 0, 1) := by decide +kernel
theorem dX6_init_39 : decode cX6_init 39 = .ok (.bipush 8, 2) := by decide +kernel
theorem dX6_init_41 : decode cX6_init 41 = .ok (.newarray .int, 2) := by decide +kernel
theorem dX6_init_43 : decode cX6_init 43 = .ok (.putfield 23, 3) := by decide +kernel
theorem dX6_init_46 : decode cX6_init 46 = .ok (.aload_n 0, 1) := by decide +kernel
theorem dX6_init_47 : decode cX6_init 47 = .ok (.bipush 8, 2) := by decide +kernel
theorem dX6_init_49 : decode cX6_init 49 = .ok (.newarray .int, 2) := by decide +kernel
theorem dX6_init_51 : decode cX6_init 51 = .ok (.putfield 26, 3) := by decide +kernel
theorem dX6_init_54 : decode cX6_init 54 = .ok (.aload_n 0, 1) := by decide +kernel
theorem dX6_init_55 : decode cX6_init 55 = .ok (.bipush 100, 2) := by decide +kernel
theorem dX6_init_57 : decode cX6_init 57 = .ok (.newarray .int, 2) := by decide +kernel
theorem dX6_init_59 : decode cX6_init 59 = .ok (.putfield 29, 3) := by decide +kernel
theorem dX6_init_62 : decode cX6_init 62 = .ok (.aload_n 0, 1) := by decide +kernel
theorem dX6_init_63 : decode cX6_init 63 = .ok (.bipush 16, 2) := by decide +kernel
theorem dX6_init_65 : decode cX6_init 65 = .ok (.newarray .int, 2) := by decide +kernel
theorem dX6_init_67 : decode cX6_init 67 = .ok (.putfield 32, 3) := by decide +kernel
theorem dX6_init_70 : decode cX6_init 70 = .ok (.aload_n 0, 1) := by decide +kernel
theorem dX6_init_71 : decode cX6_init 71 = .ok (.bipush 40, 2) := by decide +kernel
theorem dX6_init_73 : decode cX6_init 73 = .ok (.newarray .int, 2) := by decide +kernel
theorem dX6_init_75 : decode cX6_init 75 = .ok (.putfield 35, 3) := by decide +kernel
theorem dX6_init_78 : decode cX6_init 78 = .ok (.iconst 0, 1) := by decide +kernel
theorem dX6_init_79 : decode cX6_init 79 = .ok (.istore_n 1, 1) := by decide +kernel
theorem dX6_init_80 : decode cX6_init 80 = .ok (.iload_n 1, 1) := by decide +kernel
theorem dX6_init_81 : decode cX6_init 81 = .ok (.bipush 8, 2) := by decide +kernel
theorem dX6_init_83 : decode cX6_init 83 = .ok (.if_icmp .ge 16, 3) := by decide +kernel
theorem dX6_init_86 : decode cX6_init 86 = .ok (.aload_n 0, 1) := by decide +kernel
theorem dX6_init_87 : decode cX6_init 87 = .ok (.getfield 23, 3) := by decide +kernel
theorem dX6_init_90 : decode cX6_init 90 = .ok (.iload_n 1, 1) := by decide +kernel
theorem dX6_init_91 : decode cX6_init 91 = .ok (.iconst (-1), 1) := by decide +kernel
theorem dX6_init_92 : decode cX6_init 92 = .ok (.iastore, 1) := by decide +kernel
theorem dX6_init_93 : decode cX6_init 93 = .ok (.iinc 1 1, 3) := by decide +kernel
theorem dX6_init_96 : decode cX6_init 96 = .ok (.goto (-16), 3) := by decide +kernel
theorem dX6_init_99 : decode cX6_init 99 = .ok (.return_, 1) := by decide +kernel
theorem dX6_in_0 : decode cX6_in 0 = .ok (.lload_n 0, 1) := by decide +kernel
theorem dX6_in_1 : decode cX6_in 1 = .ok (.lload_n 2, 1) := by decide +kernel
theorem dX6_in_2 : decode cX6_in 2 = .ok (.lcmp, 1) := by decide +kernel
theorem dX6_in_3 : decode cX6_in 3 = .ok (.ifCond .lt 14, 3) := by decide +kernel
theorem dX6_in_6 : decode cX6_in 6 = .ok (.lload_n 0, 1) := by decide +kernel
theorem dX6_in_7 : decode cX6_in 7 = .ok (.lload 4, 2) := by decide +kernel
theorem dX6_in_9 : decode cX6_in 9 = .ok (.lcmp, 1) := by decide +kernel
theorem dX6_in_10 : decode cX6_in 10 = .ok (.ifCond .gt 7, 3) := by decide +kernel
theorem dX6_in_13 : decode cX6_in 13 = .ok (.iconst 1, 1) := by decide +kernel
theorem dX6_in_14 : decode cX6_in 14 = .ok (.goto 4, 3) := by decide +kernel
theorem dX6_in_17 : decode cX6_in 17 = .ok (.iconst 0, 1) := by decide +kernel
theorem dX6_in_18 : decode cX6_in 18 = .ok (.ireturn, 1) := by decide +kernel
theorem dX6_has_0 : decode cX6_has 0 = .ok (.iload_n 0, 1) := by decide +kernel
theorem dX6_has_1 : decode cX6_has 1 = .ok (.iload_n 1, 1) := by decide +kernel
theorem dX6_has_2 : decode cX6_has 2 = .ok (.ishr, 1) := by decide +kernel
theorem dX6_has_3 : decode cX6_has 3 = .ok (.iconst 1, 1) := by decide +kernel
theorem dX6_has_4 : decode cX6_has 4 = .ok (.iand, 1) := by decide +kernel
theorem dX6_has_5 : decode cX6_has 5 = .ok (.iconst 1, 1) := by decide +kernel
theorem dX6_has_6 : decode cX6_has 6 = .ok (.if_icmp .ne 7, 3) := by decide +kernel
theorem dX6_has_9 : decode cX6_has 9 = .ok (.iconst 1, 1) := by decide +kernel
theorem dX6_has_10 : decode cX6_has 10 = .ok (.goto 4, 3) := by decide +kernel
theorem dX6_has_13 : decode cX6_has 13 = .ok (.iconst 0, 1) := by decide +kernel
theorem dX6_has_14 : decode cX6_has 14 = .ok (.ireturn, 1) := by decide +kernel
theorem dX6_ones_0 : decode cX6_ones 0 = .ok (.iconst 0, 1) := by decide +kernel
theorem dX6_ones_1 : decode cX6_ones 1 = .ok (.istore_n 1, 1) := by decide +kernel
theorem dX6_ones_2 : decode cX6_ones 2 = .ok (.iconst 0, 1) := by decide +kernel
theorem dX6_ones_3 : decode cX6_ones 3 = .ok (.istore_n 2, 1) := by decide +kernel
theorem dX6_ones_4 : decode cX6_ones 4 = .ok (.iload_n 2, 1) := by decide +kernel
theorem dX6_ones_5 : decode cX6_ones 5 = .ok (.bipush 9, 2) := by decide +kernel
theorem dX6_ones_7 : decode cX6_ones 7 = .ok (.if_icmp .ge 17, 3) := by decide +kernel
theorem dX6_ones_10 : decode cX6_ones 10 = .ok (.iload_n 1, 1) := by decide +kernel
theorem dX6_ones_11 : decode cX6_ones 11 = .ok (.iload_n 0, 1) := by decide +kernel
theorem dX6_ones_12 : decode cX6_ones 12 = .ok (.iload_n 2, 1) := by decide +kernel
theorem dX6_ones_13 : decode cX6_ones 13 = .ok (.ishr, 1) := by decide +kernel
theorem dX6_ones_14 : decode cX6_ones 14 = .ok (.iconst 1, 1) := by decide +kernel
theorem dX6_ones_15 : decode cX6_ones 15 = .ok (.iand, 1) := by decide +kernel
theorem dX6_ones_16 : decode cX6_ones 16 = .ok (.iadd, 1) := by decide +kernel
theorem dX6_ones_17 : decode cX6_ones 17 = .ok (.istore_n 1, 1) := by decide +kernel
theorem dX6_ones_18 : decode cX6_ones 18 = .ok (.iinc 2 1, 3) := by decide +kernel
theorem dX6_ones_21 : decode cX6_ones 21 = .ok (.goto (-17), 3) := by decide +kernel
theorem dX6_ones_24 : decode cX6_ones 24 = .ok (.iload_n 1, 1) := by decide +kernel
theorem dX6_ones_25 : decode cX6_ones 25 = .ok (.ireturn, 1) := by decide +kernel
theorem dX6_found_0 : decode cX6_found 0 = .ok (.aload_n 0, 1) := by decide +kernel
theorem dX6_found_1 : decode cX6_found 1 = .ok (.iload_n 1, 1) := by decide +kernel
theorem dX6_found_2 : decode cX6_found 2 = .ok (.putfield 38, 3) := by decide +kernel
theorem dX6_found_5 : decode cX6_found 5 = .ok (.ldc 42, 2) := by decide +kernel
theorem dX6_found_7 : decode cX6_found 7 = .ok (.iload_n 1, 1) := by decide +kernel
theorem dX6_found_8 : decode cX6_found 8 = .ok (.isub, 1) := by decide +kernel
theorem dX6_found_9 : decode cX6_found 9 = .ok (.ireturn, 1) := by decide +kernel
theorem dX6_good_0 : decode cX6_good 0 = .ok (.aload_n 0, 1) := by decide +kernel
theorem dX6_good_1 : decode cX6_good 1 = .ok (.iconst 0, 1) := by decide +kernel
theorem dX6_good_2 : decode cX6_good 2 = .ok (.putfield 38, 3) := by decide +kernel
theorem dX6_good_5 : decode cX6_good 5 = .ok (.iload_n 1, 1) := by decide +kernel
theorem dX6_good_6 : decode cX6_good 6 = .ok (.ireturn, 1) := by decide +kernel
set_option maxRecDepth 20000 in
theorem ggX6_isRow_X6_in : GoodIn wsX6_isRow wsX6_in := goodIn_r _ [5] (by decide +kernel) (by decide +kernel)
set_option maxRecDepth 20000 in
theorem gX6_isRow_X6_in : GoodIn wsX6_isRow (va_wsS RX6 45 yX6_in wsX6_in) := goodIn_app (goodIn_of _ (by decide +kernel)) ggX6_isRow_X6_in
theorem dX6_isRow_0 : decode cX6_isRow 0 = .ok (.iload_n 0, 1) := by decide +kernel
theorem dX6_isRow_1 : decode cX6_isRow 1 = .ok (.i2l, 1) := by decide +kernel
theorem dX6_isRow_2 : decode cX6_isRow 2 = .ok (.lconst 0, 1) := by decide +kernel
theorem dX6_isRow_3 : decode cX6_isRow 3 = .ok (.ldc2_w 43, 3) := by decide +kernel
theorem dX6_isRow_6 : decode cX6_isRow 6 = .ok (.invokestatic 45, 3) := by decide +kernel
theorem dX6_isRow_9 : decode cX6_isRow 9 = .ok (.ireturn, 1) := by decide +kernel
set_option maxRecDepth 20000 in
theorem ggX6_row_X6_isRow : GoodIn wsX6_row wsX6_isRow := goodIn_r _ [9, 10, 11, 12, 8, 13] (by decide +kernel) (by decide +kernel)
set_option maxRecDepth 20000 in
theorem gX6_row_X6_isRow : GoodIn wsX6_row (va_wsS RX6 49 yX6_isRow wsX6_isRow) := goodIn_app (goodIn_of _ (by decide +kernel)) ggX6_row_X6_isRow
set_option maxRecDepth 20000 in
theorem ggX6_row_X6_in : GoodIn wsX6_row wsX6_in := goodIn_r _ [13] (by decide +kernel) (by decide +kernel)
set_option maxRecDepth 20000 in
theorem gX6_row_X6_in : GoodIn wsX6_row (va_wsS RX6 45 yX6_in wsX6_in) := goodIn_app (goodIn_of _ (by decide +kernel)) ggX6_row_X6_in
set_option maxRecDepth 20000 in
theorem ggX6_row_X6_found : GoodIn wsX6_row wsX6_found := goodIn_r _ [17, 18, 19, 24, 25, 26, 27, 28, 29, 30, 31, 32, 33, 34, 35, 36, 37, 38, 39, 40, 41, 42] (by decide +kernel) (by decide +kernel)
set_option maxRecDepth 20000 in
theorem gX6_row_X6_found : GoodIn wsX6_row (wsV RX6 56 RX6 yX6_found wsX6_found) := goodIn_app (goodIn_of _ (by decide +kernel)) ggX6_row_X6_found
set_option maxRecDepth 20000 in
theorem ggX6_row_X6_good : GoodIn wsX6_row wsX6_good := goodIn_r _ [23, 18, 24, 25, 26, 27, 28, 29, 30, 31, 32, 33, 34, 35, 36, 37, 38, 39, 40, 41, 42] (by decide +kernel) (by decide +kernel)
set_option maxRecDepth 20000 in
theorem gX6_row_X6_good : GoodIn wsX6_row (wsV RX6 60 RX6 yX6_good wsX6_good) := goodIn_app (goodIn_of _ (by decide +kernel)) ggX6_row_X6_good
theorem dX6_row_0 : decode cX6_row 0 = .ok (.iload_n 1, 1) := by decide +kernel
theorem dX6_row_1 : decode cX6_row 1 = .ok (.invokestatic 49, 3) := by decide +kernel
theorem dX6_row_4 : decode cX6_row 4 = .ok (.ifCond .eq 21, 3) := by decide +kernel
theorem dX6_row_7 : decode cX6_row 7 = .ok (.iload_n 2, 1) := by decide +kernel
theorem dX6_row_8 : decode cX6_row 8 = .ok (.i2l, 1) := by decide +kernel
theorem dX6_row_9 : decode cX6_row 9 = .ok (.lconst 0, 1) := by decide +kernel
theorem dX6_row_10 : decode cX6_row 10 = .ok (.ldc2_w 53, 3) := by decide +kernel
theorem dX6_row_13 : decode cX6_row 13 = .ok (.invokestatic 45, 3) := by decide +kernel
theorem dX6_row_16 : decode cX6_row 16 = .ok (.ifCond .eq 9, 3) := by decide +kernel
theorem dX6_row_19 : decode cX6_row 19 = .ok (.iload_n 3, 1) := by decide +kernel
theorem dX6_row_20 : decode cX6_row 20 = .ok (.bipush 40, 2) := by decide +kernel
theorem dX6_row_22 : decode cX6_row 22 = .ok (.if_icmp .le 6, 3) := by decide +kernel
theorem dX6_row_25 : decode cX6_row 25 = .ok (.ldc 55, 2) := by decide +kernel
theorem dX6_row_27 : decode cX6_row 27 = .ok (.ireturn, 1) := by decide +kernel
theorem dX6_row_28 : decode cX6_row 28 = .ok (.iload_n 3, 1) := by decide +kernel
theorem dX6_row_29 : decode cX6_row 29 = .ok (.ifCond .ge 9, 3) := by decide +kernel
theorem dX6_row_32 : decode cX6_row 32 = .ok (.aload_n 0, 1) := by decide +kernel
theorem dX6_row_33 : decode cX6_row 33 = .ok (.iconst 4, 1) := by decide +kernel
theorem dX6_row_34 : decode cX6_row 34 = .ok (.invokevirtual 56, 3) := by decide +kernel
theorem dX6_row_37 : decode cX6_row 37 = .ok (.ireturn, 1) := by decide +kernel
theorem dX6_row_38 : decode cX6_row 38 = .ok (.aload_n 0, 1) := by decide +kernel
theorem dX6_row_39 : decode cX6_row 39 = .ok (.getfield 23, 3) := by decide +kernel
theorem dX6_row_42 : decode cX6_row 42 = .ok (.iload_n 1, 1) := by decide +kernel
theorem dX6_row_43 : decode cX6_row 43 = .ok (.iload_n 3, 1) := by decide +kernel
theorem dX6_row_44 : decode cX6_row 44 = .ok (.iastore, 1) := by decide +kernel
theorem dX6_row_45 : decode cX6_row 45 = .ok (.aload_n 0, 1) := by decide +kernel
theorem dX6_row_46 : decode cX6_row 46 = .ok (.getfield 26, 3) := by decide +kernel
theorem dX6_row_49 : decode cX6_row 49 = .ok (.iload_n 1, 1) := by decide +kernel
theorem dX6_row_50 : decode cX6_row 50 = .ok (.iload_n 2, 1) := by decide +kernel
theorem dX6_row_51 : decode cX6_row 51 = .ok (.iastore, 1) := by decide +kernel
theorem dX6_row_52 : decode cX6_row 52 = .ok (.iconst 0, 1) := by decide +kernel
theorem dX6_row_53 : decode cX6_row 53 = .ok (.istore 4, 2) := by decide +kernel
theorem dX6_row_55 : decode cX6_row 55 = .ok (.iload 4, 2) := by decide +kernel
theorem dX6_row_57 : decode cX6_row 57 = .ok (.bipush 40, 2) := by decide +kernel
theorem dX6_row_59 : decode cX6_row 59 = .ok (.if_icmp .ge 22, 3) := by decide +kernel
theorem dX6_row_62 : decode cX6_row 62 = .ok (.aload_n 0, 1) := by decide +kernel
theorem dX6_row_63 : decode cX6_row 63 = .ok (.getfield 20, 3) := by decide +kernel
theorem dX6_row_66 : decode cX6_row 66 = .ok (.bipush 40, 2) := by decide +kernel
theorem dX6_row_68 : decode cX6_row 68 = .ok (.iload_n 1, 1) := by decide +kernel
theorem dX6_row_69 : decode cX6_row 69 = .ok (.imul, 1) := by decide +kernel
theorem dX6_row_70 : decode cX6_row 70 = .ok (.iload 4, 2) := by decide +kernel
theorem dX6_row_72 : decode cX6_row 72 = .ok (.iadd, 1) := by decide +kernel
theorem dX6_row_73 : decode cX6_row 73 = .ok (.iconst 0, 1) := by decide +kernel
theorem dX6_row_74 : decode cX6_row 74 = .ok (.iastore, 1) := by decide +kernel
theorem dX6_row_75 : decode cX6_row 75 = .ok (.iinc 4 1, 3) := by decide +kernel
theorem dX6_row_78 : decode cX6_row 78 = .ok (.goto (-23), 3) := by decide +kernel
theorem dX6_row_81 : decode cX6_row 81 = .ok (.aload_n 0, 1) := by decide +kernel
theorem dX6_row_82 : decode cX6_row 82 = .ok (.iload_n 3, 1) := by decide +kernel
theorem dX6_row_83 : decode cX6_row 83 = .ok (.invokevirtual 60, 3) := by decide +kernel
theorem dX6_row_86 : decode cX6_row 86 = .ok (.ireturn, 1) := by decide +kernel
set_option maxRecDepth 20000 in
theorem ggX6_set_X6_isRow : GoodIn wsX6_set wsX6_isRow := goodIn_r _ [8, 9, 10, 11, 7, 12] (by decide +kernel) (by decide +kernel)
set_option maxRecDepth 20000 in
theorem gX6_set_X6_isRow : GoodIn wsX6_set (va_wsS RX6 49 yX6_isRow wsX6_isRow) := goodIn_app (goodIn_of _ (by decide +kernel)) ggX6_set_X6_isRow
set_option maxRecDepth 20000 in
theorem ggX6_set_X6_found : GoodIn wsX6_set wsX6_found := goodIn_r _ [16, 17, 18, 23, 24, 25, 26, 27, 28, 29, 30, 31, 32, 33, 34, 35, 36, 37, 38, 39, 40, 41] (by decide +kernel) (by decide +kernel)
set_option maxRecDepth 20000 in
theorem gX6_set_X6_found : GoodIn wsX6_set (wsV RX6 56 RX6 yX6_found wsX6_found) := goodIn_app (goodIn_of _ (by decide +kernel)) ggX6_set_X6_found
set_option maxRecDepth 20000 in
theorem ggX6_set_X6_in : GoodIn wsX6_set wsX6_in := goodIn_r _ [12] (by decide +kernel) (by decide +kernel)
set_option maxRecDepth 20000 in
theorem gX6_set_X6_in : GoodIn wsX6_set (va_wsS RX6 45 yX6_in wsX6_in) := goodIn_app (goodIn_of _ (by decide +kernel)) ggX6_set_X6_in
set_option maxRecDepth 20000 in
theorem ggX6_set_X6_good : GoodIn wsX6_set wsX6_good := goodIn_r _ [22, 17, 23, 24, 25, 26, 27, 28, 29, 30, 31, 32, 33, 34, 35, 36, 37, 38, 39, 40, 41] (by decide +kernel) (by decide +kernel)
set_option maxRecDepth 20000 in
theorem gX6_set_X6_good : GoodIn wsX6_set (wsV RX6 60 RX6 yX6_good wsX6_good) := goodIn_app (goodIn_of _ (by decide +kernel)) ggX6_set_X6_good
