theorem dX6_set_0 : decode cX6_set 0 = .ok (.iload_n 1, 1) := by decide +kernel
theorem dX6_set_1 : decode cX6_set 1 = .ok (.invokestatic 49, 3) := by decide +kernel
theorem dX6_set_4 : decode cX6_set 4 = .ok (.ifCond .ne 6, 3) := by decide +kernel
theorem dX6_set_7 : decode cX6_set 7 = .ok (.ldc 55, 2) := by decide +kernel
theorem dX6_set_9 : decode cX6_set 9 = .ok (.ireturn, 1) := by decide +kernel
theorem dX6_set_10 : decode cX6_set 10 = .ok (.aload_n 0, 1) := by decide +kernel
theorem dX6_set_11 : decode cX6_set 11 = .ok (.getfield 23, 3) := by decide +kernel
theorem dX6_set_14 : decode cX6_set 14 = .ok (.iload_n 1, 1) := by decide +kernel
theorem dX6_set_15 : decode cX6_set 15 = .ok (.iaload, 1) := by decide +kernel
theorem dX6_set_16 : decode cX6_set 16 = .ok (.ifCond .ge 9, 3) := by decide +kernel
theorem dX6_set_19 : decode cX6_set 19 = .ok (.aload_n 0, 1) := by decide +kernel
theorem dX6_set_20 : decode cX6_set 20 = .ok (.iconst 1, 1) := by decide +kernel
theorem dX6_set_21 : decode cX6_set 21 = .ok (.invokevirtual 56, 3) := by decide +kernel
theorem dX6_set_24 : decode cX6_set 24 = .ok (.ireturn, 1) := by decide +kernel
theorem dX6_set_25 : decode cX6_set 25 = .ok (.iload_n 2, 1) := by decide +kernel
theorem dX6_set_26 : decode cX6_set 26 = .ok (.i2l, 1) := by decide +kernel
theorem dX6_set_27 : decode cX6_set 27 = .ok (.lconst 0, 1) := by decide +kernel
theorem dX6_set_28 : decode cX6_set 28 = .ok (.aload_n 0, 1) := by decide +kernel
theorem dX6_set_29 : decode cX6_set 29 = .ok (.getfield 23, 3) := by decide +kernel
theorem dX6_set_32 : decode cX6_set 32 = .ok (.iload_n 1, 1) := by decide +kernel
theorem dX6_set_33 : decode cX6_set 33 = .ok (.iaload, 1) := by decide +kernel
theorem dX6_set_34 : decode cX6_set 34 = .ok (.iconst 1, 1) := by decide +kernel
theorem dX6_set_35 : decode cX6_set 35 = .ok (.isub, 1) := by decide +kernel
theorem dX6_set_36 : decode cX6_set 36 = .ok (.i2l, 1) := by decide +kernel
theorem dX6_set_37 : decode cX6_set 37 = .ok (.invokestatic 45, 3) := by decide +kernel
theorem dX6_set_40 : decode cX6_set 40 = .ok (.ifCond .ne 9, 3) := by decide +kernel
theorem dX6_set_43 : decode cX6_set 43 = .ok (.aload_n 0, 1) := by decide +kernel
theorem dX6_set_44 : decode cX6_set 44 = .ok (.iconst 2, 1) := by decide +kernel
theorem dX6_set_45 : decode cX6_set 45 = .ok (.invokevirtual 56, 3) := by decide +kernel
theorem dX6_set_48 : decode cX6_set 48 = .ok (.ireturn, 1) := by decide +kernel
theorem dX6_set_49 : decode cX6_set 49 = .ok (.aload_n 0, 1) := by decide +kernel
theorem dX6_set_50 : decode cX6_set 50 = .ok (.getfield 20, 3) := by decide +kernel
theorem dX6_set_53 : decode cX6_set 53 = .ok (.bipush 40, 2) := by decide +kernel
theorem dX6_set_55 : decode cX6_set 55 = .ok (.iload_n 1, 1) := by decide +kernel
theorem dX6_set_56 : decode cX6_set 56 = .ok (.imul, 1) := by decide +kernel
theorem dX6_set_57 : decode cX6_set 57 = .ok (.iload_n 2, 1) := by decide +kernel
theorem dX6_set_58 : decode cX6_set 58 = .ok (.iadd, 1) := by decide +kernel
theorem dX6_set_59 : decode cX6_set 59 = .ok (.aload_n 0, 1) := by decide +kernel
theorem dX6_set_60 : decode cX6_set 60 = .ok (.getfield 26, 3) := by decide +kernel
theorem dX6_set_63 : decode cX6_set 63 = .ok (.iload_n 1, 1) := by decide +kernel
theorem dX6_set_64 : decode cX6_set 64 = .ok (.iaload, 1) := by decide +kernel
theorem dX6_set_65 : decode cX6_set 65 = .ok (.ifCond .ne 8, 3) := by decide +kernel
theorem dX6_set_68 : decode cX6_set 68 = .ok (.iload_n 3, 1) := by decide +kernel
theorem dX6_set_69 : decode cX6_set 69 = .ok (.i2b, 1) := by decide +kernel
theorem dX6_set_70 : decode cX6_set 70 = .ok (.goto 19, 3) := by decide +kernel
theorem dX6_set_73 : decode cX6_set 73 = .ok (.aload_n 0, 1) := by decide +kernel
theorem dX6_set_74 : decode cX6_set 74 = .ok (.getfield 26, 3) := by decide +kernel
theorem dX6_set_77 : decode cX6_set 77 = .ok (.iload_n 1, 1) := by decide +kernel
theorem dX6_set_78 : decode cX6_set 78 = .ok (.iaload, 1) := by decide +kernel
theorem dX6_set_79 : decode cX6_set 79 = .ok (.iconst 1, 1) := by decide +kernel
theorem dX6_set_80 : decode cX6_set 80 = .ok (.if_icmp .ne 8, 3) := by decide +kernel
theorem dX6_set_83 : decode cX6_set 83 = .ok (.iload_n 3, 1) := by decide +kernel
theorem dX6_set_84 : decode cX6_set 84 = .ok (.i2s, 1) := by decide +kernel
theorem dX6_set_85 : decode cX6_set 85 = .ok (.goto 4, 3) := by decide +kernel
theorem dX6_set_88 : decode cX6_set 88 = .ok (.iload_n 3, 1) := by decide +kernel
theorem dX6_set_89 : decode cX6_set 89 = .ok (.iastore, 1) := by decide +kernel
theorem dX6_set_90 : decode cX6_set 90 = .ok (.aload_n 0, 1) := by decide +kernel
theorem dX6_set_91 : decode cX6_set 91 = .ok (.aload_n 0, 1) := by decide +kernel
theorem dX6_set_92 : decode cX6_set 92 = .ok (.getfield 20, 3) := by decide +kernel
theorem dX6_set_95 : decode cX6_set 95 = .ok (.bipush 40, 2) := by decide +kernel
theorem dX6_set_97 : decode cX6_set 97 = .ok (.iload_n 1, 1) := by decide +kernel
theorem dX6_set_98 : decode cX6_set 98 = .ok (.imul, 1) := by decide +kernel
theorem dX6_set_99 : decode cX6_set 99 = .ok (.iload_n 2, 1) := by decide +kernel
theorem dX6_set_100 : decode cX6_set 100 = .ok (.iadd, 1) := by decide +kernel
theorem dX6_set_101 : decode cX6_set 101 = .ok (.iaload, 1) := by decide +kernel
theorem dX6_set_102 : decode cX6_set 102 = .ok (.invokevirtual 60, 3) := by decide +kernel
theorem dX6_set_105 : decode cX6_set 105 = .ok (.ireturn, 1) := by decide +kernel
theorem dX6_fits_0 : decode cX6_fits 0 = .ok (.iload_n 0, 1) := by decide +kernel
theorem dX6_fits_1 : decode cX6_fits 1 = .ok (.ifCond .lt 18, 3) := by decide +kernel
theorem dX6_fits_4 : decode cX6_fits 4 = .ok (.iload_n 0, 1) := by decide +kernel
theorem dX6_fits_5 : decode cX6_fits 5 = .ok (.i2l, 1) := by decide +kernel
theorem dX6_fits_6 : decode cX6_fits 6 = .ok (.iload_n 1, 1) := by decide +kernel
theorem dX6_fits_7 : decode cX6_fits 7 = .ok (.i2l, 1) := by decide +kernel
theorem dX6_fits_8 : decode cX6_fits 8 = .ok (.ladd, 1) := by decide +kernel
theorem dX6_fits_9 : decode cX6_fits 9 = .ok (.iload_n 2, 1) := by decide +kernel
theorem dX6_fits_10 : decode cX6_fits 10 = .ok (.i2l, 1) := by decide +kernel
theorem dX6_fits_11 : decode cX6_fits 11 = .ok (.lcmp, 1) := by decide +kernel
theorem dX6_fits_12 : decode cX6_fits 12 = .ok (.ifCond .gt 7, 3) := by decide +kernel
theorem dX6_fits_15 : decode cX6_fits 15 = .ok (.iconst 1, 1) := by decide +kernel
theorem dX6_fits_16 : decode cX6_fits 16 = .ok (.goto 4, 3) := by decide +kernel
theorem dX6_fits_19 : decode cX6_fits 19 = .ok (.iconst 0, 1) := by decide +kernel
theorem dX6_fits_20 : decode cX6_fits 20 = .ok (.ireturn, 1) := by decide +kernel
set_option maxRecDepth 20000 in
theorem ggX6_copy_X6_isRow : GoodIn wsX6_copy wsX6_isRow := goodIn_r _ [9, 10, 11, 12, 8, 13] (by decide +kernel) (by decide +kernel)
set_option maxRecDepth 20000 in
theorem gX6_copy_X6_isRow : GoodIn wsX6_copy (va_wsS RX6 49 yX6_isRow wsX6_isRow) := goodIn_app (goodIn_of _ (by decide +kernel)) ggX6_copy_X6_isRow
set_option maxRecDepth 20000 in
theorem ggX6_copy_X6_found : GoodIn wsX6_copy wsX6_found := goodIn_r _ [17, 18, 19, 27, 28, 29, 30, 31, 32, 33, 34, 35, 36, 37, 38, 39, 40, 41, 42, 43, 44, 45] (by decide +kernel) (by decide +kernel)
set_option maxRecDepth 20000 in
theorem gX6_copy_X6_found : GoodIn wsX6_copy (wsV RX6 56 RX6 yX6_found wsX6_found) := goodIn_app (goodIn_of _ (by decide +kernel)) ggX6_copy_X6_found
set_option maxRecDepth 20000 in
theorem ggX6_copy_X6_fits : GoodIn wsX6_copy wsX6_fits := goodIn_r _ [22] (by decide +kernel) (by decide +kernel)
set_option maxRecDepth 20000 in
theorem gX6_copy_X6_fits : GoodIn wsX6_copy (va_wsS RX6 63 yX6_fits wsX6_fits) := goodIn_app (goodIn_of _ (by decide +kernel)) ggX6_copy_X6_fits
set_option maxRecDepth 20000 in
theorem ggX6_copy_X6_good : GoodIn wsX6_copy wsX6_good := goodIn_r _ [26, 18, 27, 28, 29, 30, 31, 32, 33, 34, 35, 36, 37, 38, 39, 40, 41, 42, 43, 44, 45] (by decide +kernel) (by decide +kernel)
set_option maxRecDepth 20000 in
theorem gX6_copy_X6_good : GoodIn wsX6_copy (wsV RX6 60 RX6 yX6_good wsX6_good) := goodIn_app (goodIn_of _ (by decide +kernel)) ggX6_copy_X6_good
theorem dX6_copy_0 : decode cX6_copy 0 = .ok (.iload_n 1, 1) := by decide +kernel
theorem dX6_copy_1 : decode cX6_copy 1 = .ok (.invokestatic 49, 3) := by decide +kernel
theorem dX6_copy_4 : decode cX6_copy 4 = .ok (.ifCond .eq 10, 3) := by decide +kernel
theorem dX6_copy_7 : decode cX6_copy 7 = .ok (.iload_n 3, 1) := by decide +kernel
theorem dX6_copy_8 : decode cX6_copy 8 = .ok (.invokestatic 49, 3) := by decide +kernel
theorem dX6_copy_11 : decode cX6_copy 11 = .ok (.ifCond .ne 6, 3) := by decide +kernel
theorem dX6_copy_14 : decode cX6_copy 14 = .ok (.ldc 55, 2) := by decide +kernel
theorem dX6_copy_16 : decode cX6_copy 16 = .ok (.ireturn, 1) := by decide +kernel
theorem dX6_copy_17 : decode cX6_copy 17 = .ok (.aload_n 0, 1) := by decide +kernel
theorem dX6_copy_18 : decode cX6_copy 18 = .ok (.getfield 23, 3) := by decide +kernel
theorem dX6_copy_21 : decode cX6_copy 21 = .ok (.iload_n 1, 1) := by decide +kernel
theorem dX6_copy_22 : decode cX6_copy 22 = .ok (.iaload, 1) := by decide +kernel
theorem dX6_copy_23 : decode cX6_copy 23 = .ok (.ifCond .lt 12, 3) := by decide +kernel
theorem dX6_copy_26 : decode cX6_copy 26 = .ok (.aload_n 0, 1) := by decide +kernel
theorem dX6_copy_27 : decode cX6_copy 27 = .ok (.getfield 23, 3) := by decide +kernel
theorem dX6_copy_30 : decode cX6_copy 30 = .ok (.iload_n 3, 1) := by decide +kernel
theorem dX6_copy_31 : decode cX6_copy 31 = .ok (.iaload, 1) := by decide +kernel
theorem dX6_copy_32 : decode cX6_copy 32 = .ok (.ifCond .ge 9, 3) := by decide +kernel
theorem dX6_copy_35 : decode cX6_copy 35 = .ok (.aload_n 0, 1) := by decide +kernel
theorem dX6_copy_36 : decode cX6_copy 36 = .ok (.iconst 1, 1) := by decide +kernel
theorem dX6_copy_37 : decode cX6_copy 37 = .ok (.invokevirtual 56, 3) := by decide +kernel
theorem dX6_copy_40 : decode cX6_copy 40 = .ok (.ireturn, 1) := by decide +kernel
theorem dX6_copy_41 : decode cX6_copy 41 = .ok (.aload_n 0, 1) := by decide +kernel
theorem dX6_copy_42 : decode cX6_copy 42 = .ok (.getfield 26, 3) := by decide +kernel
theorem dX6_copy_45 : decode cX6_copy 45 = .ok (.iload_n 1, 1) := by decide +kernel
theorem dX6_copy_46 : decode cX6_copy 46 = .ok (.iaload, 1) := by decide +kernel
theorem dX6_copy_47 : decode cX6_copy 47 = .ok (.aload_n 0, 1) := by decide +kernel
theorem dX6_copy_48 : decode cX6_copy 48 = .ok (.getfield 26, 3) := by decide +kernel
theorem dX6_copy_51 : decode cX6_copy 51 = .ok (.iload_n 3, 1) := by decide +kernel
theorem dX6_copy_52 : decode cX6_copy 52 = .ok (.iaload, 1) := by decide +kernel
theorem dX6_copy_53 : decode cX6_copy 53 = .ok (.if_icmp .eq 9, 3) := by decide +kernel
theorem dX6_copy_56 : decode cX6_copy 56 = .ok (.aload_n 0, 1) := by decide +kernel
theorem dX6_copy_57 : decode cX6_copy 57 = .ok (.iconst 5, 1) := by decide +kernel
theorem dX6_copy_58 : decode cX6_copy 58 = .ok (.invokevirtual 56, 3) := by decide +kernel
theorem dX6_copy_61 : decode cX6_copy 61 = .ok (.ireturn, 1) := by decide +kernel
theorem dX6_copy_62 : decode cX6_copy 62 = .ok (.iload 5, 2) := by decide +kernel
theorem dX6_copy_64 : decode cX6_copy 64 = .ok (.ifCond .lt 34, 3) := by decide +kernel
theorem dX6_copy_67 : decode cX6_copy 67 = .ok (.iload_n 2, 1) := by decide +kernel
theorem dX6_copy_68 : decode cX6_copy 68 = .ok (.iload 5, 2) := by decide +kernel
theorem dX6_copy_70 : decode cX6_copy 70 = .ok (.aload_n 0, 1) := by decide +kernel
theorem dX6_copy_71 : decode cX6_copy 71 = .ok (.getfield 23, 3) := by decide +kernel
theorem dX6_copy_74 : decode cX6_copy 74 = .ok (.iload_n 1, 1) := by decide +kernel
theorem dX6_copy_75 : decode cX6_copy 75 = .ok (.iaload, 1) := by decide +kernel
theorem dX6_copy_76 : decode cX6_copy 76 = .ok (.invokestatic 63, 3) := by decide +kernel
theorem dX6_copy_79 : decode cX6_copy 79 = .ok (.ifCond .eq 19, 3) := by decide +kernel
theorem dX6_copy_82 : decode cX6_copy 82 = .ok (.iload 4, 2) := by decide +kernel
theorem dX6_copy_84 : decode cX6_copy 84 = .ok (.iload 5, 2) := by decide +kernel
theorem dX6_copy_86 : decode cX6_copy 86 = .ok (.aload_n 0, 1) := by decide +kernel
theorem dX6_copy_87 : decode cX6_copy 87 = .ok (.getfield 23, 3) := by decide +kernel
theorem dX6_copy_90 : decode cX6_copy 90 = .ok (.iload_n 3, 1) := by decide +kernel
theorem dX6_copy_91 : decode cX6_copy 91 = .ok (.iaload, 1) := by decide +kernel
theorem dX6_copy_92 : decode cX6_copy 92 = .ok (.invokestatic 63, 3) := by decide +kernel
theorem dX6_copy_95 : decode cX6_copy 95 = .ok (.ifCond .ne 9, 3) := by decide +kernel
theorem dX6_copy_98 : decode cX6_copy 98 = .ok (.aload_n 0, 1) := by decide +kernel
theorem dX6_copy_99 : decode cX6_copy 99 = .ok (.iconst 2, 1) := by decide +kernel
theorem dX6_copy_100 : decode cX6_copy 100 = .ok (.invokevirtual 56, 3) := by decide +kernel
theorem dX6_copy_103 : decode cX6_copy 103 = .ok (.ireturn, 1) := by decide +kernel
theorem dX6_copy_104 : decode cX6_copy 104 = .ok (.iconst 0, 1) := by decide +kernel
theorem dX6_copy_105 : decode cX6_copy 105 = .ok (.istore 6, 2) := by decide +kernel
theorem dX6_copy_107 : decode cX6_copy 107 = .ok (.iload 6, 2) := by decide +kernel
theorem dX6_copy_109 : decode cX6_copy 109 = .ok (.iload 5, 2) := by decide +kernel
theorem dX6_copy_111 : decode cX6_copy 111 = .ok (.if_icmp .ge 30, 3) := by decide +kernel
theorem dX6_copy_114 : decode cX6_copy 114 = .ok (.aload_n 0, 1) := by decide +kernel
theorem dX6_copy_115 : decode cX6_copy 115 = .ok (.getfield 35, 3) := by decide +kernel
theorem dX6_copy_118 : decode cX6_copy 118 = .ok (.iload 6, 2) := by decide +kernel
theorem dX6_copy_120 : decode cX6_copy 120 = .ok (.aload_n 0, 1) := by decide +kernel
theorem dX6_copy_121 : decode cX6_copy 121 = .ok (.getfield 20, 3) := by decide +kernel
theorem dX6_copy_124 : decode cX6_copy 124 = .ok (.bipush 40, 2) := by decide +kernel
theorem dX6_copy_126 : decode cX6_copy 126 = .ok (.iload_n 1, 1) := by decide +kernel
theorem dX6_copy_127 : decode cX6_copy 127 = .ok (.imul, 1) := by decide +kernel
theorem dX6_copy_128 : decode cX6_copy 128 = .ok (.iload_n 2, 1) := by decide +kernel
theorem dX6_copy_129 : decode cX6_copy 129 = .ok (.iadd, 1) := by decide +kernel
theorem dX6_copy_130 : decode cX6_copy 130 = .ok (.iload 6, 2) := by decide +kernel
theorem dX6_copy_132 : decode cX6_copy 132 = .ok (.iadd, 1) := by decide +kernel
theorem dX6_copy_133 : decode cX6_copy 133 = .ok (.iaload, 1) := by decide +kernel
theorem dX6_copy_134 : decode cX6_copy 134 = .ok (.iastore, 1) := by decide +kernel
theorem dX6_copy_135 : decode cX6_copy 135 = .ok (.iinc 6 1, 3) := by decide +kernel
theorem dX6_copy_138 : decode cX6_copy 138 = .ok (.goto (-31), 3) := by decide +kernel
theorem dX6_copy_141 : decode cX6_copy 141 = .ok (.iconst 0, 1) := by decide +kernel
theorem dX6_copy_142 : decode cX6_copy 142 = .ok (.istore 6, 2) := by decide +kernel
theorem dX6_copy_144 : decode cX6_copy 144 = .ok (.iload 6, 2) := by decide +kernel
theorem dX6_copy_146 : decode cX6_copy 146 = .ok (.iload 5, 2) := by decide +kernel
theorem dX6_copy_148 : decode cX6_copy 148 = .ok (.if_icmp .ge 31, 3) := by decide +kernel
theorem dX6_copy_151 : decode cX6_copy 151 = .ok (.aload_n 0, 1) := by decide +kernel
theorem dX6_copy_152 : decode cX6_copy 152 = .ok (.getfield 20, 3) := by decide +kernel
theorem dX6_copy_155 : decode cX6_copy 155 = .ok (.bipush 40, 2) := by decide +kernel
theorem dX6_copy_157 : decode cX6_copy 157 = .ok (.iload_n 3, 1) := by decide +kernel
theorem dX6_copy_158 : decode cX6_copy 158 = .ok (.imul, 1) := by decide +kernel
theorem dX6_copy_159 : decode cX6_copy 159 = .ok (.iload 4, 2) := by decide +kernel
theorem dX6_copy_161 : decode cX6_copy 161 = .ok (.iadd, 1) := by decide +kernel
theorem dX6_copy_162 : decode cX6_copy 162 = .ok (.iload 6, 2) := by decide +kernel
theorem dX6_copy_164 : decode cX6_copy 164 = .ok (.iadd, 1) := by decide +kernel
theorem dX6_copy_165 : decode cX6_copy 165 = .ok (.aload_n 0, 1) := by decide +kernel
theorem dX6_copy_166 : decode cX6_copy 166 = .ok (.getfield 35, 3) := by decide +kernel
theorem dX6_copy_169 : decode cX6_copy 169 = .ok (.iload 6, 2) := by decide +kernel
theorem dX6_copy_171 : decode cX6_copy 171 = .ok (.iaload, 1) := by decide +kernel
theorem dX6_copy_172 : decode cX6_copy 172 = .ok (.iastore, 1) := by decide +kernel
theorem dX6_copy_173 : decode cX6_copy 173 = .ok (.iinc 6 1, 3) := by decide +kernel
theorem dX6_copy_176 : decode cX6_copy 176 = .ok (.goto (-32), 3) := by decide +kernel
theorem dX6_copy_179 : decode cX6_copy 179 = .ok (.aload_n 0, 1) := by decide +kernel
theorem dX6_copy_180 : decode cX6_copy 180 = .ok (.iload 5, 2) := by decide +kernel
theorem dX6_copy_182 : decode cX6_copy 182 = .ok (.invokevirtual 60, 3) := by decide +kernel
theorem dX6_copy_185 : decode cX6_copy 185 = .ok (.ireturn, 1) := by decide +kernel
set_option maxRecDepth 20000 in
theorem ggX6_drop_X6_isRow : GoodIn wsX6_drop wsX6_isRow := goodIn_r _ [6, 7, 8, 9, 5, 10] (by decide +kernel) (by decide +kernel)
set_option maxRecDepth 20000 in
theorem gX6_drop_X6_isRow : GoodIn wsX6_drop (va_wsS RX6 49 yX6_isRow wsX6_isRow) := goodIn_app (goodIn_of _ (by decide +kernel)) ggX6_drop_X6_isRow
set_option maxRecDepth 20000 in
theorem ggX6_drop_X6_found : GoodIn wsX6_drop wsX6_found := goodIn_r _ [14, 15, 16, 21, 22, 23, 24, 25, 26, 27, 28, 29, 30, 31, 32, 33, 34, 35, 36, 37, 38, 39] (by decide +kernel) (by decide +kernel)
set_option maxRecDepth 20000 in
theorem gX6_drop_X6_found : GoodIn wsX6_drop (wsV RX6 56 RX6 yX6_found wsX6_found) := goodIn_app (goodIn_of _ (by decide +kernel)) ggX6_drop_X6_found
set_option maxRecDepth 20000 in
theorem ggX6_drop_X6_good : GoodIn wsX6_drop wsX6_good := goodIn_r _ [20, 15, 21, 22, 23, 24, 25, 26, 27, 28, 29, 30, 31, 32, 33, 34, 35, 36, 37, 38, 39] (by decide +kernel) (by decide +kernel)
set_option maxRecDepth 20000 in
theorem gX6_drop_X6_good : GoodIn wsX6_drop (wsV RX6 60 RX6 yX6_good wsX6_good) := goodIn_app (goodIn_of _ (by decide +kernel)) ggX6_drop_X6_good
theorem dX6_drop_0 : decode cX6_drop 0 = .ok (.iload_n 1, 1) := by decide +kernel
theorem dX6_drop_1 : decode cX6_drop 1 = .ok (.invokestatic 49, 3) := by decide +kernel
theorem dX6_drop_4 : decode cX6_drop 4 = .ok (.ifCond .ne 6, 3) := by decide +kernel
theorem dX6_drop_7 : decode cX6_drop 7 = .ok (.ldc 55, 2) := by decide +kernel
theorem dX6_drop_9 : decode cX6_drop 9 = .ok (.ireturn, 1) := by decide +kernel
theorem dX6_drop_10 : decode cX6_drop 10 = .ok (.aload_n 0, 1) := by decide +kernel
theorem dX6_drop_11 : decode cX6_drop 11 = .ok (.getfield 23, 3) := by decide +kernel
theorem dX6_drop_14 : decode cX6_drop 14 = .ok (.iload_n 1, 1) := by decide +kernel
theorem dX6_drop_15 : decode cX6_drop 15 = .ok (.iaload, 1) := by decide +kernel
theorem dX6_drop_16 : decode cX6_drop 16 = .ok (.ifCond .ge 9, 3) := by decide +kernel
theorem dX6_drop_19 : decode cX6_drop 19 = .ok (.aload_n 0, 1) := by decide +kernel
theorem dX6_drop_20 : decode cX6_drop 20 = .ok (.iconst 1, 1) := by decide +kernel
theorem dX6_drop_21 : decode cX6_drop 21 = .ok (.invokevirtual 56, 3) := by decide +kernel
theorem dX6_drop_24 : decode cX6_drop 24 = .ok (.ireturn, 1) := by decide +kernel
theorem dX6_drop_25 : decode cX6_drop 25 = .ok (.aload_n 0, 1) := by decide +kernel
theorem dX6_drop_26 : decode cX6_drop 26 = .ok (.getfield 23, 3) := by decide +kernel
theorem dX6_drop_29 : decode cX6_drop 29 = .ok (.iload_n 1, 1) := by decide +kernel
theorem dX6_drop_30 : decode cX6_drop 30 = .ok (.iaload, 1) := by decide +kernel
theorem dX6_drop_31 : decode cX6_drop 31 = .ok (.istore_n 2, 1) := by decide +kernel
theorem dX6_drop_32 : decode cX6_drop 32 = .ok (.aload_n 0, 1) := by decide +kernel
theorem dX6_drop_33 : decode cX6_drop 33 = .ok (.getfield 23, 3) := by decide +kernel
theorem dX6_drop_36 : decode cX6_drop 36 = .ok (.iload_n 1, 1) := by decide +kernel
theorem dX6_drop_37 : decode cX6_drop 37 = .ok (.iconst (-1), 1) := by decide +kernel
theorem dX6_drop_38 : decode cX6_drop 38 = .ok (.iastore, 1) := by decide +kernel
theorem dX6_drop_39 : decode cX6_drop 39 = .ok (.aload_n 0, 1) := by decide +kernel
theorem dX6_drop_40 : decode cX6_drop 40 = .ok (.iload_n 2, 1) := by decide +kernel
theorem dX6_drop_41 : decode cX6_drop 41 = .ok (.invokevirtual 60, 3) := by decide +kernel
theorem dX6_drop_44 : decode cX6_drop 44 = .ok (.ireturn, 1) := by decide +kernel
set_option maxRecDepth 20000 in
theorem ggX6_against_X6_found : GoodIn wsX6_against wsX6_found := goodIn_r _ [6, 7, 8, 12, 13, 14, 15, 16, 17, 18, 19, 20, 21, 22, 23, 24, 25, 26, 27, 28, 29, 30] (by decide +kernel) (by decide +kernel)
set_option maxRecDepth 20000 in
theorem gX6_against_X6_found : GoodIn wsX6_against (wsV RX6 56 RX6 yX6_found wsX6_found) := goodIn_app (goodIn_of _ (by decide +kernel)) ggX6_against_X6_found
set_option maxRecDepth 20000 in
theorem ggX6_against_X6_fits : GoodIn wsX6_against wsX6_fits := goodIn_r _ [11] (by decide +kernel) (by decide +kernel)
set_option maxRecDepth 20000 in
theorem gX6_against_X6_fits : GoodIn wsX6_against (va_wsS RX6 63 yX6_fits wsX6_fits) := goodIn_app (goodIn_of _ (by decide +kernel)) ggX6_against_X6_fits
theorem dX6_against_0 : decode cX6_against 0 = .ok (.aload_n 0, 1) := by decide +kernel
theorem dX6_against_1 : decode cX6_against 1 = .ok (.getfield 23, 3) := by decide +kernel
theorem dX6_against_4 : decode cX6_against 4 = .ok (.iload_n 1, 1) := by decide +kernel
theorem dX6_against_5 : decode cX6_against 5 = .ok (.iaload, 1) := by decide +kernel
theorem dX6_against_6 : decode cX6_against 6 = .ok (.ifCond .ge 9, 3) := by decide +kernel
theorem dX6_against_9 : decode cX6_against 9 = .ok (.aload_n 0, 1) := by decide +kernel
theorem dX6_against_10 : decode cX6_against 10 = .ok (.iconst 1, 1) := by decide +kernel
theorem dX6_against_11 : decode cX6_against 11 = .ok (.invokevirtual 56, 3) := by decide +kernel
theorem dX6_against_14 : decode cX6_against 14 = .ok (.ireturn, 1) := by decide +kernel
theorem dX6_against_15 : decode cX6_against 15 = .ok (.iload_n 2, 1) := by decide +kernel
theorem dX6_against_16 : decode cX6_against 16 = .ok (.iload_n 3, 1) := by decide +kernel
theorem dX6_against_17 : decode cX6_against 17 = .ok (.aload_n 0, 1) := by decide +kernel
theorem dX6_against_18 : decode cX6_against 18 = .ok (.getfield 23, 3) := by decide +kernel
theorem dX6_against_21 : decode cX6_against 21 = .ok (.iload_n 1, 1) := by decide +kernel
theorem dX6_against_22 : decode cX6_against 22 = .ok (.iaload, 1) := by decide +kernel
theorem dX6_against_23 : decode cX6_against 23 = .ok (.invokestatic 63, 3) := by decide +kernel
theorem dX6_against_26 : decode cX6_against 26 = .ok (.ifCond .eq 7, 3) := by decide +kernel
theorem dX6_against_29 : decode cX6_against 29 = .ok (.iconst 0, 1) := by decide +kernel
theorem dX6_against_30 : decode cX6_against 30 = .ok (.goto 8, 3) := by decide +kernel
theorem dX6_against_33 : decode cX6_against 33 = .ok (.aload_n 0, 1) := by decide +kernel
theorem dX6_against_34 : decode cX6_against 34 = .ok (.iconst 2, 1) := by decide +kernel
theorem dX6_against_35 : decode cX6_against 35 = .ok (.invokevirtual 56, 3) := by decide +kernel
theorem dX6_against_38 : decode cX6_against 38 = .ok (.ireturn, 1) := by decide +kernel
set_option maxRecDepth 20000 in
theorem ggX6_feed_X6_in : GoodIn wsX6_feed wsX6_in := goodIn_r _ [9] (by decide +kernel) (by decide +kernel)
set_option maxRecDepth 20000 in
theorem gX6_feed_X6_in : GoodIn wsX6_feed (va_wsS RX6 45 yX6_in wsX6_in) := goodIn_app (goodIn_of _ (by decide +kernel)) ggX6_feed_X6_in
theorem dX6_feed_0 : decode cX6_feed 0 = .ok (.iload_n 1, 1) := by decide +kernel
theorem dX6_feed_1 : decode cX6_feed 1 = .ok (.i2l, 1) := by decide +kernel
theorem dX6_feed_2 : decode cX6_feed 2 = .ok (.lconst 0, 1) := by decide +kernel
theorem dX6_feed_3 : decode cX6_feed 3 = .ok (.ldc2_w 67, 3) := by decide +kernel
theorem dX6_feed_6 : decode cX6_feed 6 = .ok (.invokestatic 45, 3) := by decide +kernel
theorem dX6_feed_9 : decode cX6_feed 9 = .ok (.ifCond .ne 6, 3) := by decide +kernel
theorem dX6_feed_12 : decode cX6_feed 12 = .ok (.ldc 55, 2) := by decide +kernel
theorem dX6_feed_14 : decode cX6_feed 14 = .ok (.ireturn, 1) := by decide +kernel
theorem dX6_feed_15 : decode cX6_feed 15 = .ok (.aload_n 0, 1) := by decide +kernel
theorem dX6_feed_16 : decode cX6_feed 16 = .ok (.getfield 69, 3) := by decide +kernel
theorem dX6_feed_19 : decode cX6_feed 19 = .ok (.bipush 100, 2) := by decide +kernel
theorem dX6_feed_21 : decode cX6_feed 21 = .ok (.if_icmp .ne 6, 3) := by decide +kernel
theorem dX6_feed_24 : decode cX6_feed 24 = .ok (.ldc 72, 2) := by decide +kernel
theorem dX6_feed_26 : decode cX6_feed 26 = .ok (.ireturn, 1) := by decide +kernel
theorem dX6_feed_27 : decode cX6_feed 27 = .ok (.aload_n 0, 1) := by decide +kernel
theorem dX6_feed_28 : decode cX6_feed 28 = .ok (.getfield 29, 3) := by decide +kernel
theorem dX6_feed_31 : decode cX6_feed 31 = .ok (.aload_n 0, 1) := by decide +kernel
theorem dX6_feed_32 : decode cX6_feed 32 = .ok (.getfield 69, 3) := by decide +kernel
theorem dX6_feed_35 : decode cX6_feed 35 = .ok (.iload_n 1, 1) := by decide +kernel
theorem dX6_feed_36 : decode cX6_feed 36 = .ok (.iastore, 1) := by decide +kernel
theorem dX6_feed_37 : decode cX6_feed 37 = .ok (.aload_n 0, 1) := by decide +kernel
theorem dX6_feed_38 : decode cX6_feed 38 = .ok (.dup, 1) := by decide +kernel
theorem dX6_feed_39 : decode cX6_feed 39 = .ok (.getfield 69, 3) := by decide +kernel
theorem dX6_feed_42 : decode cX6_feed 42 = .ok (.iconst 1, 1) := by decide +kernel
theorem dX6_feed_43 : decode cX6_feed 43 = .ok (.iadd, 1) := by decide +kernel
theorem dX6_feed_44 : decode cX6_feed 44 = .ok (.putfield 69, 3) := by decide +kernel
theorem dX6_feed_47 : decode cX6_feed 47 = .ok (.aload_n 0, 1) := by decide +kernel
theorem dX6_feed_48 : decode cX6_feed 48 = .ok (.getfield 69, 3) := by decide +kernel
theorem dX6_feed_51 : decode cX6_feed 51 = .ok (.ireturn, 1) := by decide +kernel
theorem dX6_byteAt_0 : decode cX6_byteAt 0 = .ok (.iload_n 1, 1) := by decide +kernel
theorem dX6_byteAt_1 : decode cX6_byteAt 1 = .ok (.aload_n 0, 1) := by decide +kernel
theorem dX6_byteAt_2 : decode cX6_byteAt 2 = .ok (.getfield 69, 3) := by decide +kernel
theorem dX6_byteAt_5 : decode cX6_byteAt 5 = .ok (.if_icmp .ge 12, 3) := by decide +kernel
theorem dX6_byteAt_8 : decode cX6_byteAt 8 = .ok (.aload_n 0, 1) := by decide +kernel
theorem dX6_byteAt_9 : decode cX6_byteAt 9 = .ok (.getfield 29, 3) := by decide +kernel
theorem dX6_byteAt_12 : decode cX6_byteAt 12 = .ok (.iload_n 1, 1) := by decide +kernel
theorem dX6_byteAt_13 : decode cX6_byteAt 13 = .ok (.iaload, 1) := by decide +kernel
theorem dX6_byteAt_14 : decode cX6_byteAt 14 = .ok (.goto 4, 3) := by decide +kernel
theorem dX6_byteAt_17 : decode cX6_byteAt 17 = .ok (.iconst (-1), 1) := by decide +kernel
theorem dX6_byteAt_18 : decode cX6_byteAt 18 = .ok (.ireturn, 1) := by decide +kernel
theorem dX6_fails_0 : decode cX6_fails 0 = .ok (.aload_n 0, 1) := by decide +kernel
theorem dX6_fails_1 : decode cX6_fails 1 = .ok (.iload_n 1, 1) := by decide +kernel
theorem dX6_fails_2 : decode cX6_fails 2 = .ok (.putfield 73, 3) := by decide +kernel
theorem dX6_fails_5 : decode cX6_fails 5 = .ok (.aload_n 0, 1) := by decide +kernel
theorem dX6_fails_6 : decode cX6_fails 6 = .ok (.iload_n 2, 1) := by decide +kernel
theorem dX6_fails_7 : decode cX6_fails 7 = .ok (.putfield 76, 3) := by decide +kernel
theorem dX6_fails_10 : decode cX6_fails 10 = .ok (.iconst 0, 1) := by decide +kernel
theorem dX6_fails_11 : decode cX6_fails 11 = .ok (.ireturn, 1) := by decide +kernel
set_option maxRecDepth 20000 in
theorem ggX6_takes_X6_byteAt : GoodIn wsX6_takes wsX6_byteAt := goodIn_r _ [6, 7, 8, 15, 16, 17, 18, 19, 20, 21, 22, 23, 24, 25, 26, 27, 28, 29, 30, 31, 32, 33] (by decide +kernel) (by decide +kernel)
set_option maxRecDepth 20000 in
theorem gX6_takes_X6_byteAt : GoodIn wsX6_takes (wsV RX6 82 RX6 yX6_byteAt wsX6_byteAt) := goodIn_app (goodIn_of _ (by decide +kernel)) ggX6_takes_X6_byteAt
set_option maxRecDepth 20000 in
theorem ggX6_takes_X6_fails : GoodIn wsX6_takes wsX6_fails := goodIn_r _ [12, 13, 14, 15, 16, 17, 18, 19, 20, 21, 22, 23, 24, 25, 26, 27, 28, 29, 30, 31, 32, 33] (by decide +kernel) (by decide +kernel)
set_option maxRecDepth 20000 in
theorem gX6_takes_X6_fails : GoodIn wsX6_takes (wsV RX6 85 RX6 yX6_fails wsX6_fails) := goodIn_app (goodIn_of _ (by decide +kernel)) ggX6_takes_X6_fails
theorem dX6_takes_0 : decode cX6_takes 0 = .ok (.aload_n 0, 1) := by decide +kernel
theorem dX6_takes_1 : decode cX6_takes 1 = .ok (.aload_n 0, 1) := by decide +kernel
theorem dX6_takes_2 : decode cX6_takes 2 = .ok (.getfield 79, 3) := by decide +kernel
theorem dX6_takes_5 : decode cX6_takes 5 = .ok (.invokevirtual 82, 3) := by decide +kernel
theorem dX6_takes_8 : decode cX6_takes 8 = .ok (.iload_n 1, 1) := by decide +kernel
theorem dX6_takes_9 : decode cX6_takes 9 = .ok (.if_icmp .eq 13, 3) := by decide +kernel
theorem dX6_takes_12 : decode cX6_takes 12 = .ok (.aload_n 0, 1) := by decide +kernel
theorem dX6_takes_13 : decode cX6_takes 13 = .ok (.iconst 1, 1) := by decide +kernel
theorem dX6_takes_14 : decode cX6_takes 14 = .ok (.aload_n 0, 1) := by decide +kernel
theorem dX6_takes_15 : decode cX6_takes 15 = .ok (.getfield 79, 3) := by decide +kernel
theorem dX6_takes_18 : decode cX6_takes 18 = .ok (.invokevirtual 85, 3) := by decide +kernel
theorem dX6_takes_21 : decode cX6_takes 21 = .ok (.ireturn, 1) := by decide +kernel
theorem dX6_takes_22 : decode cX6_takes 22 = .ok (.aload_n 0, 1) := by decide +kernel
theorem dX6_takes_23 : decode cX6_takes 23 = .ok (.dup, 1) := by decide +kernel
theorem dX6_takes_24 : decode cX6_takes 24 = .ok (.getfield 79, 3) := by decide +kernel
theorem dX6_takes_27 : decode cX6_takes 27 = .ok (.iconst 1, 1) := by decide +kernel
theorem dX6_takes_28 : decode cX6_takes 28 = .ok (.iadd, 1) := by decide +kernel
theorem dX6_takes_29 : decode cX6_takes 29 = .ok (.putfield 79, 3) := by decide +kernel
theorem dX6_takes_32 : decode cX6_takes 32 = .ok (.iconst 1, 1) := by decide +kernel
theorem dX6_takes_33 : decode cX6_takes 33 = .ok (.ireturn, 1) := by decide +kernel
set_option maxRecDepth 20000 in
theorem ggX6_takesNumber_X6_byteAt : GoodIn wsX6_takesNumber wsX6_byteAt := goodIn_r _ [9, 10, 11, 25, 26, 27, 28, 29, 30, 31, 32, 33, 34, 35, 36, 37, 38, 39, 40, 41, 42, 43] (by decide +kernel) (by decide +kernel)
set_option maxRecDepth 20000 in
theorem gX6_takesNumber_X6_byteAt : GoodIn wsX6_takesNumber (wsV RX6 82 RX6 yX6_byteAt wsX6_byteAt) := goodIn_app (goodIn_of _ (by decide +kernel)) ggX6_takesNumber_X6_byteAt
set_option maxRecDepth 20000 in
theorem ggX6_takesNumber_X6_in : GoodIn wsX6_takesNumber wsX6_in := goodIn_r _ [14] (by decide +kernel) (by decide +kernel)
set_option maxRecDepth 20000 in
theorem gX6_takesNumber_X6_in : GoodIn wsX6_takesNumber (va_wsS RX6 45 yX6_in wsX6_in) := goodIn_app (goodIn_of _ (by decide +kernel)) ggX6_takesNumber_X6_in
set_option maxRecDepth 20000 in
theorem ggX6_takesNumber_X6_fails : GoodIn wsX6_takesNumber wsX6_fails := goodIn_r _ [18, 19, 20, 25, 26, 27, 28, 29, 30, 31, 32, 33, 34, 35, 36, 37, 38, 39, 40, 41, 42, 43] (by decide +kernel) (by decide +kernel)
set_option maxRecDepth 20000 in
theorem gX6_takesNumber_X6_fails : GoodIn wsX6_takesNumber (wsV RX6 85 RX6 yX6_fails wsX6_fails) := goodIn_app (goodIn_of _ (by decide +kernel)) ggX6_takesNumber_X6_fails
set_option maxRecDepth 20000 in
theorem ggX6_takesNumber_X6_takes : GoodIn wsX6_takesNumber wsX6_takes := goodIn_r _ [24, 1, 5, 6, 7, 8, 9, 10, 11, 15, 16, 17, 18, 19, 20, 25, 26, 27, 28, 29, 30, 31, 32, 33, 34, 35, 36, 37, 38, 39, 40, 41, 42, 43] (by decide +kernel) (by decide +kernel)
set_option maxRecDepth 20000 in
theorem gX6_takesNumber_X6_takes : GoodIn wsX6_takesNumber (wsV RX6 96 RX6 yX6_takes wsX6_takes) := goodIn_app (goodIn_of _ (by decide +kernel)) ggX6_takesNumber_X6_takes
theorem dX6_takesNumber_0 : decode cX6_takesNumber 0 = .ok (.aload_n 0, 1) := by decide +kernel
theorem dX6_takesNumber_1 : decode cX6_takesNumber 1 = .ok (.getfield 79, 3) := by decide +kernel
theorem dX6_takesNumber_4 : decode cX6_takesNumber 4 = .ok (.istore 4, 2) := by decide +kernel
theorem dX6_takesNumber_6 : decode cX6_takesNumber 6 = .ok (.aload_n 0, 1) := by decide +kernel
theorem dX6_takesNumber_7 : decode cX6_takesNumber 7 = .ok (.iconst 0, 1) := by decide +kernel
theorem dX6_takesNumber_8 : decode cX6_takesNumber 8 = .ok (.putfield 89, 3) := by decide +kernel
theorem dX6_takesNumber_11 : decode cX6_takesNumber 11 = .ok (.aload_n 0, 1) := by decide +kernel
theorem dX6_takesNumber_12 : decode cX6_takesNumber 12 = .ok (.aload_n 0, 1) := by decide +kernel
theorem dX6_takesNumber_13 : decode cX6_takesNumber 13 = .ok (.getfield 79, 3) := by decide +kernel
theorem dX6_takesNumber_16 : decode cX6_takesNumber 16 = .ok (.invokevirtual 82, 3) := by decide +kernel
theorem dX6_takesNumber_19 : decode cX6_takesNumber 19 = .ok (.i2l, 1) := by decide +kernel
theorem dX6_takesNumber_20 : decode cX6_takesNumber 20 = .ok (.ldc2_w 92, 3) := by decide +kernel
theorem dX6_takesNumber_23 : decode cX6_takesNumber 23 = .ok (.ldc2_w 94, 3) := by decide +kernel
theorem dX6_takesNumber_26 : decode cX6_takesNumber 26 = .ok (.invokestatic 45, 3) := by decide +kernel
theorem dX6_takesNumber_29 : decode cX6_takesNumber 29 = .ok (.ifCond .eq 57, 3) := by decide +kernel
theorem dX6_takesNumber_32 : decode cX6_takesNumber 32 = .ok (.aload_n 0, 1) := by decide +kernel
theorem dX6_takesNumber_33 : decode cX6_takesNumber 33 = .ok (.aload_n 0, 1) := by decide +kernel
theorem dX6_takesNumber_34 : decode cX6_takesNumber 34 = .ok (.getfield 79, 3) := by decide +kernel
theorem dX6_takesNumber_37 : decode cX6_takesNumber 37 = .ok (.iload 4, 2) := by decide +kernel
theorem dX6_takesNumber_39 : decode cX6_takesNumber 39 = .ok (.isub, 1) := by decide +kernel
theorem dX6_takesNumber_40 : decode cX6_takesNumber 40 = .ok (.iconst 2, 1) := by decide +kernel
theorem dX6_takesNumber_41 : decode cX6_takesNumber 41 = .ok (.if_icmp .ge 25, 3) := by decide +kernel
theorem dX6_takesNumber_44 : decode cX6_takesNumber 44 = .ok (.bipush 10, 2) := by decide +kernel
theorem dX6_takesNumber_46 : decode cX6_takesNumber 46 = .ok (.aload_n 0, 1) := by decide +kernel
theorem dX6_takesNumber_47 : decode cX6_takesNumber 47 = .ok (.getfield 89, 3) := by decide +kernel
theorem dX6_takesNumber_50 : decode cX6_takesNumber 50 = .ok (.imul, 1) := by decide +kernel
theorem dX6_takesNumber_51 : decode cX6_takesNumber 51 = .ok (.aload_n 0, 1) := by decide +kernel
theorem dX6_takesNumber_52 : decode cX6_takesNumber 52 = .ok (.aload_n 0, 1) := by decide +kernel
theorem dX6_takesNumber_53 : decode cX6_takesNumber 53 = .ok (.getfield 79, 3) := by decide +kernel
theorem dX6_takesNumber_56 : decode cX6_takesNumber 56 = .ok (.invokevirtual 82, 3) := by decide +kernel
theorem dX6_takesNumber_59 : decode cX6_takesNumber 59 = .ok (.iadd, 1) := by decide +kernel
theorem dX6_takesNumber_60 : decode cX6_takesNumber 60 = .ok (.bipush 48, 2) := by decide +kernel
theorem dX6_takesNumber_62 : decode cX6_takesNumber 62 = .ok (.isub, 1) := by decide +kernel
theorem dX6_takesNumber_63 : decode cX6_takesNumber 63 = .ok (.goto 7, 3) := by decide +kernel
theorem dX6_takesNumber_66 : decode cX6_takesNumber 66 = .ok (.aload_n 0, 1) := by decide +kernel
theorem dX6_takesNumber_67 : decode cX6_takesNumber 67 = .ok (.getfield 89, 3) := by decide +kernel
theorem dX6_takesNumber_70 : decode cX6_takesNumber 70 = .ok (.putfield 89, 3) := by decide +kernel
theorem dX6_takesNumber_73 : decode cX6_takesNumber 73 = .ok (.aload_n 0, 1) := by decide +kernel
theorem dX6_takesNumber_74 : decode cX6_takesNumber 74 = .ok (.dup, 1) := by decide +kernel
theorem dX6_takesNumber_75 : decode cX6_takesNumber 75 = .ok (.getfield 79, 3) := by decide +kernel
theorem dX6_takesNumber_78 : decode cX6_takesNumber 78 = .ok (.iconst 1, 1) := by decide +kernel
theorem dX6_takesNumber_79 : decode cX6_takesNumber 79 = .ok (.iadd, 1) := by decide +kernel
theorem dX6_takesNumber_80 : decode cX6_takesNumber 80 = .ok (.putfield 79, 3) := by decide +kernel
theorem dX6_takesNumber_83 : decode cX6_takesNumber 83 = .ok (.goto (-72), 3) := by decide +kernel
theorem dX6_takesNumber_86 : decode cX6_takesNumber 86 = .ok (.aload_n 0, 1) := by decide +kernel
theorem dX6_takesNumber_87 : decode cX6_takesNumber 87 = .ok (.getfield 79, 3) := by decide +kernel
theorem dX6_takesNumber_90 : decode cX6_takesNumber 90 = .ok (.iload 4, 2) := by decide +kernel
theorem dX6_takesNumber_92 : decode cX6_takesNumber 92 = .ok (.if_icmp .eq 14, 3) := by decide +kernel
theorem dX6_takesNumber_95 : decode cX6_takesNumber 95 = .ok (.aload_n 0, 1) := by decide +kernel
theorem dX6_takesNumber_96 : decode cX6_takesNumber 96 = .ok (.getfield 79, 3) := by decide +kernel
theorem dX6_takesNumber_99 : decode cX6_takesNumber 99 = .ok (.iload 4, 2) := by decide +kernel
theorem dX6_takesNumber_101 : decode cX6_takesNumber 101 = .ok (.isub, 1) := by decide +kernel
theorem dX6_takesNumber_102 : decode cX6_takesNumber 102 = .ok (.iconst 2, 1) := by decide +kernel
theorem dX6_takesNumber_103 : decode cX6_takesNumber 103 = .ok (.if_icmp .le 11, 3) := by decide +kernel
theorem dX6_takesNumber_106 : decode cX6_takesNumber 106 = .ok (.aload_n 0, 1) := by decide +kernel
theorem dX6_takesNumber_107 : decode cX6_takesNumber 107 = .ok (.iconst 1, 1) := by decide +kernel
theorem dX6_takesNumber_108 : decode cX6_takesNumber 108 = .ok (.iload 4, 2) := by decide +kernel
theorem dX6_takesNumber_110 : decode cX6_takesNumber 110 = .ok (.invokevirtual 85, 3) := by decide +kernel
theorem dX6_takesNumber_113 : decode cX6_takesNumber 113 = .ok (.ireturn, 1) := by decide +kernel
theorem dX6_takesNumber_114 : decode cX6_takesNumber 114 = .ok (.aload_n 0, 1) := by decide +kernel
theorem dX6_takesNumber_115 : decode cX6_takesNumber 115 = .ok (.getfield 89, 3) := by decide +kernel
theorem dX6_takesNumber_118 : decode cX6_takesNumber 118 = .ok (.i2l, 1) := by decide +kernel
theorem dX6_takesNumber_119 : decode cX6_takesNumber 119 = .ok (.iload_n 1, 1) := by decide +kernel
theorem dX6_takesNumber_120 : decode cX6_takesNumber 120 = .ok (.i2l, 1) := by decide +kernel
theorem dX6_takesNumber_121 : decode cX6_takesNumber 121 = .ok (.iload_n 2, 1) := by decide +kernel
theorem dX6_takesNumber_122 : decode cX6_takesNumber 122 = .ok (.i2l, 1) := by decide +kernel
theorem dX6_takesNumber_123 : decode cX6_takesNumber 123 = .ok (.invokestatic 45, 3) := by decide +kernel
theorem dX6_takesNumber_126 : decode cX6_takesNumber 126 = .ok (.ifCond .eq 11, 3) := by decide +kernel
theorem dX6_takesNumber_129 : decode cX6_takesNumber 129 = .ok (.aload_n 0, 1) := by decide +kernel
theorem dX6_takesNumber_130 : decode cX6_takesNumber 130 = .ok (.iload_n 3, 1) := by decide +kernel
theorem dX6_takesNumber_131 : decode cX6_takesNumber 131 = .ok (.invokevirtual 96, 3) := by decide +kernel
theorem dX6_takesNumber_134 : decode cX6_takesNumber 134 = .ok (.goto 10, 3) := by decide +kernel
theorem dX6_takesNumber_137 : decode cX6_takesNumber 137 = .ok (.aload_n 0, 1) := by decide +kernel
theorem dX6_takesNumber_138 : decode cX6_takesNumber 138 = .ok (.iconst 2, 1) := by decide +kernel
theorem dX6_takesNumber_139 : decode cX6_takesNumber 139 = .ok (.iload 4, 2) := by decide +kernel
theorem dX6_takesNumber_141 : decode cX6_takesNumber 141 = .ok (.invokevirtual 85, 3) := by decide +kernel
theorem dX6_takesNumber_144 : decode cX6_takesNumber 144 = .ok (.ireturn, 1) := by decide +kernel
set_option maxRecDepth 20000 in
theorem ggX6_takesLaw_X6_takes : GoodIn wsX6_takesLaw wsX6_takes := goodIn_r _ [7, 8, 9, 10, 11, 6, 12, 13, 14, 15, 16, 17, 18, 19, 20, 30, 31, 32, 33, 34, 35, 36, 37, 38, 39, 40, 41, 42, 43, 44, 45, 46, 47, 48] (by decide +kernel) (by decide +kernel)
set_option maxRecDepth 20000 in
theorem gX6_takesLaw_X6_takes : GoodIn wsX6_takesLaw (wsV RX6 96 RX6 yX6_takes wsX6_takes) := goodIn_app (goodIn_of _ (by decide +kernel)) ggX6_takesLaw_X6_takes
set_option maxRecDepth 20000 in
theorem ggX6_takesLaw_X6_takesNumber : GoodIn wsX6_takesLaw wsX6_takesNumber := goodIn_r _ [24, 8, 2, 25, 26, 9, 10, 11, 6, 12, 13, 14, 27, 28, 29, 15, 16, 17, 18, 19, 20, 3, 4, 5, 7, 30, 31, 32, 33, 34, 35, 36, 37, 38, 39, 40, 41, 42, 43, 44, 45, 46, 47, 48] (by decide +kernel) (by decide +kernel)
set_option maxRecDepth 20000 in
theorem gX6_takesLaw_X6_takesNumber : GoodIn wsX6_takesLaw (wsV RX6 99 RX6 yX6_takesNumber wsX6_takesNumber) := goodIn_app (goodIn_of _ (by decide +kernel)) ggX6_takesLaw_X6_takesNumber
theorem dX6_takesLaw_0 : decode cX6_takesLaw 0 = .ok (.iconst 0, 1) := by decide +kernel
theorem dX6_takesLaw_1 : decode cX6_takesLaw 1 = .ok (.istore_n 1, 1) := by decide +kernel
theorem dX6_takesLaw_2 : decode cX6_takesLaw 2 = .ok (.iload_n 1, 1) := by decide +kernel
theorem dX6_takesLaw_3 : decode cX6_takesLaw 3 = .ok (.bipush 38, 2) := by decide +kernel
theorem dX6_takesLaw_5 : decode cX6_takesLaw 5 = .ok (.if_icmp .ge 19, 3) := by decide +kernel
theorem dX6_takesLaw_8 : decode cX6_takesLaw 8 = .ok (.aload_n 0, 1) := by decide +kernel
theorem dX6_takesLaw_9 : decode cX6_takesLaw 9 = .ok (.getfield 7, 3) := by decide +kernel
theorem dX6_takesLaw_12 : decode cX6_takesLaw 12 = .ok (.bipush 114, 2) := by decide +kernel
theorem dX6_takesLaw_14 : decode cX6_takesLaw 14 = .ok (.iload_n 1, 1) := by decide +kernel
theorem dX6_takesLaw_15 : decode cX6_takesLaw 15 = .ok (.iadd, 1) := by decide +kernel
theorem dX6_takesLaw_16 : decode cX6_takesLaw 16 = .ok (.iconst 0, 1) := by decide +kernel
theorem dX6_takesLaw_17 : decode cX6_takesLaw 17 = .ok (.iastore, 1) := by decide +kernel
theorem dX6_takesLaw_18 : decode cX6_takesLaw 18 = .ok (.iinc 1 1, 3) := by decide +kernel
theorem dX6_takesLaw_21 : decode cX6_takesLaw 21 = .ok (.goto (-19), 3) := by decide +kernel
theorem dX6_takesLaw_24 : decode cX6_takesLaw 24 = .ok (.aload_n 0, 1) := by decide +kernel
theorem dX6_takesLaw_25 : decode cX6_takesLaw 25 = .ok (.getfield 7, 3) := by decide +kernel
theorem dX6_takesLaw_28 : decode cX6_takesLaw 28 = .ok (.sipush 137, 3) := by decide +kernel
theorem dX6_takesLaw_31 : decode cX6_takesLaw 31 = .ok (.iconst 1, 1) := by decide +kernel
theorem dX6_takesLaw_32 : decode cX6_takesLaw 32 = .ok (.iastore, 1) := by decide +kernel
theorem dX6_takesLaw_33 : decode cX6_takesLaw 33 = .ok (.aload_n 0, 1) := by decide +kernel
theorem dX6_takesLaw_34 : decode cX6_takesLaw 34 = .ok (.bipush 114, 2) := by decide +kernel
theorem dX6_takesLaw_36 : decode cX6_takesLaw 36 = .ok (.invokevirtual 96, 3) := by decide +kernel
theorem dX6_takesLaw_39 : decode cX6_takesLaw 39 = .ok (.ifCond .eq 15, 3) := by decide +kernel
theorem dX6_takesLaw_42 : decode cX6_takesLaw 42 = .ok (.aload_n 0, 1) := by decide +kernel
theorem dX6_takesLaw_43 : decode cX6_takesLaw 43 = .ok (.iconst 2, 1) := by decide +kernel
theorem dX6_takesLaw_44 : decode cX6_takesLaw 44 = .ok (.bipush 9, 2) := by decide +kernel
theorem dX6_takesLaw_46 : decode cX6_takesLaw 46 = .ok (.bipush 44, 2) := by decide +kernel
theorem dX6_takesLaw_48 : decode cX6_takesLaw 48 = .ok (.invokevirtual 99, 3) := by decide +kernel
theorem dX6_takesLaw_51 : decode cX6_takesLaw 51 = .ok (.ifCond .ne 5, 3) := by decide +kernel
theorem dX6_takesLaw_54 : decode cX6_takesLaw 54 = .ok (.iconst 0, 1) := by decide +kernel
theorem dX6_takesLaw_55 : decode cX6_takesLaw 55 = .ok (.ireturn, 1) := by decide +kernel
theorem dX6_takesLaw_56 : decode cX6_takesLaw 56 = .ok (.aload_n 0, 1) := by decide +kernel
theorem dX6_takesLaw_57 : decode cX6_takesLaw 57 = .ok (.getfield 7, 3) := by decide +kernel
theorem dX6_takesLaw_60 : decode cX6_takesLaw 60 = .ok (.sipush 138, 3) := by decide +kernel
theorem dX6_takesLaw_63 : decode cX6_takesLaw 63 = .ok (.aload_n 0, 1) := by decide +kernel
theorem dX6_takesLaw_64 : decode cX6_takesLaw 64 = .ok (.getfield 89, 3) := by decide +kernel
theorem dX6_takesLaw_67 : decode cX6_takesLaw 67 = .ok (.iastore, 1) := by decide +kernel
theorem dX6_takesLaw_68 : decode cX6_takesLaw 68 = .ok (.aload_n 0, 1) := by decide +kernel
theorem dX6_takesLaw_69 : decode cX6_takesLaw 69 = .ok (.iconst 0, 1) := by decide +kernel
theorem dX6_takesLaw_70 : decode cX6_takesLaw 70 = .ok (.bipush 9, 2) := by decide +kernel
theorem dX6_takesLaw_72 : decode cX6_takesLaw 72 = .ok (.bipush 59, 2) := by decide +kernel
theorem dX6_takesLaw_74 : decode cX6_takesLaw 74 = .ok (.invokevirtual 99, 3) := by decide +kernel
theorem dX6_takesLaw_77 : decode cX6_takesLaw 77 = .ok (.ifCond .ne 5, 3) := by decide +kernel
theorem dX6_takesLaw_80 : decode cX6_takesLaw 80 = .ok (.iconst 0, 1) := by decide +kernel
theorem dX6_takesLaw_81 : decode cX6_takesLaw 81 = .ok (.ireturn, 1) := by decide +kernel
theorem dX6_takesLaw_82 : decode cX6_takesLaw 82 = .ok (.iconst 0, 1) := by decide +kernel
theorem dX6_takesLaw_83 : decode cX6_takesLaw 83 = .ok (.istore_n 1, 1) := by decide +kernel
theorem dX6_takesLaw_84 : decode cX6_takesLaw 84 = .ok (.iload_n 1, 1) := by decide +kernel
theorem dX6_takesLaw_85 : decode cX6_takesLaw 85 = .ok (.aload_n 0, 1) := by decide +kernel
theorem dX6_takesLaw_86 : decode cX6_takesLaw 86 = .ok (.getfield 7, 3) := by decide +kernel
theorem dX6_takesLaw_89 : decode cX6_takesLaw 89 = .ok (.sipush 138, 3) := by decide +kernel
theorem dX6_takesLaw_92 : decode cX6_takesLaw 92 = .ok (.iaload, 1) := by decide +kernel
theorem dX6_takesLaw_93 : decode cX6_takesLaw 93 = .ok (.if_icmp .ge 22, 3) := by decide +kernel
theorem dX6_takesLaw_96 : decode cX6_takesLaw 96 = .ok (.aload_n 0, 1) := by decide +kernel
theorem dX6_takesLaw_97 : decode cX6_takesLaw 97 = .ok (.getfield 7, 3) := by decide +kernel
theorem dX6_takesLaw_100 : decode cX6_takesLaw 100 = .ok (.bipush 115, 2) := by decide +kernel
theorem dX6_takesLaw_102 : decode cX6_takesLaw 102 = .ok (.iload_n 1, 1) := by decide +kernel
theorem dX6_takesLaw_103 : decode cX6_takesLaw 103 = .ok (.iadd, 1) := by decide +kernel
theorem dX6_takesLaw_104 : decode cX6_takesLaw 104 = .ok (.aload_n 0, 1) := by decide +kernel
theorem dX6_takesLaw_105 : decode cX6_takesLaw 105 = .ok (.getfield 89, 3) := by decide +kernel
theorem dX6_takesLaw_108 : decode cX6_takesLaw 108 = .ok (.iastore, 1) := by decide +kernel
theorem dX6_takesLaw_109 : decode cX6_takesLaw 109 = .ok (.iinc 1 1, 3) := by decide +kernel
theorem dX6_takesLaw_112 : decode cX6_takesLaw 112 = .ok (.goto (-28), 3) := by decide +kernel
theorem dX6_takesLaw_115 : decode cX6_takesLaw 115 = .ok (.iconst 1, 1) := by decide +kernel
theorem dX6_takesLaw_116 : decode cX6_takesLaw 116 = .ok (.ireturn, 1) := by decide +kernel
theorem dX6_kindOf_0 : decode cX6_kindOf 0 = .ok (.iload_n 0, 1) := by decide +kernel
theorem dX6_kindOf_1 : decode cX6_kindOf 1 = .ok (.bipush 112, 2) := by decide +kernel
theorem dX6_kindOf_3 : decode cX6_kindOf 3 = .ok (.if_icmp .ne 7, 3) := by decide +kernel
theorem dX6_kindOf_6 : decode cX6_kindOf 6 = .ok (.iconst 1, 1) := by decide +kernel
theorem dX6_kindOf_7 : decode cX6_kindOf 7 = .ok (.goto 44, 3) := by decide +kernel
theorem dX6_kindOf_10 : decode cX6_kindOf 10 = .ok (.iload_n 0, 1) := by decide +kernel
theorem dX6_kindOf_11 : decode cX6_kindOf 11 = .ok (.bipush 99, 2) := by decide +kernel
theorem dX6_kindOf_13 : decode cX6_kindOf 13 = .ok (.if_icmp .ne 7, 3) := by decide +kernel
theorem dX6_kindOf_16 : decode cX6_kindOf 16 = .ok (.iconst 2, 1) := by decide +kernel
theorem dX6_kindOf_17 : decode cX6_kindOf 17 = .ok (.goto 34, 3) := by decide +kernel
theorem dX6_kindOf_20 : decode cX6_kindOf 20 = .ok (.iload_n 0, 1) := by decide +kernel
theorem dX6_kindOf_21 : decode cX6_kindOf 21 = .ok (.bipush 121, 2) := by decide +kernel
theorem dX6_kindOf_23 : decode cX6_kindOf 23 = .ok (.if_icmp .ne 7, 3) := by decide +kernel
theorem dX6_kindOf_26 : decode cX6_kindOf 26 = .ok (.iconst 3, 1) := by decide +kernel
theorem dX6_kindOf_27 : decode cX6_kindOf 27 = .ok (.goto 24, 3) := by decide +kernel
theorem dX6_kindOf_30 : decode cX6_kindOf 30 = .ok (.iload_n 0, 1) := by decide +kernel
theorem dX6_kindOf_31 : decode cX6_kindOf 31 = .ok (.bipush 111, 2) := by decide +kernel
theorem dX6_kindOf_33 : decode cX6_kindOf 33 = .ok (.if_icmp .ne 7, 3) := by decide +kernel
theorem dX6_kindOf_36 : decode cX6_kindOf 36 = .ok (.iconst 4, 1) := by decide +kernel
theorem dX6_kindOf_37 : decode cX6_kindOf 37 = .ok (.goto 14, 3) := by decide +kernel
theorem dX6_kindOf_40 : decode cX6_kindOf 40 = .ok (.iload_n 0, 1) := by decide +kernel
theorem dX6_kindOf_41 : decode cX6_kindOf 41 = .ok (.bipush 98, 2) := by decide +kernel
theorem dX6_kindOf_43 : decode cX6_kindOf 43 = .ok (.if_icmp .ne 7, 3) := by decide +kernel
theorem dX6_kindOf_46 : decode cX6_kindOf 46 = .ok (.iconst 5, 1) := by decide +kernel
theorem dX6_kindOf_47 : decode cX6_kindOf 47 = .ok (.goto 4, 3) := by decide +kernel
theorem dX6_kindOf_50 : decode cX6_kindOf 50 = .ok (.iconst 0, 1) := by decide +kernel
theorem dX6_kindOf_51 : decode cX6_kindOf 51 = .ok (.ireturn, 1) := by decide +kernel
set_option maxRecDepth 20000 in
theorem ggX6_takesSwan_X6_byteAt : GoodIn wsX6_takesSwan wsX6_byteAt := goodIn_r _ [8, 9, 10, 33, 34, 35, 36, 37, 38, 39, 40, 41, 42, 43, 44, 45, 46, 47, 48, 49, 50, 51] (by decide +kernel) (by decide +kernel)
set_option maxRecDepth 20000 in
theorem gX6_takesSwan_X6_byteAt : GoodIn wsX6_takesSwan (wsV RX6 82 RX6 yX6_byteAt wsX6_byteAt) := goodIn_app (goodIn_of _ (by decide +kernel)) ggX6_takesSwan_X6_byteAt
set_option maxRecDepth 20000 in
theorem ggX6_takesSwan_X6_kindOf : GoodIn wsX6_takesSwan wsX6_kindOf := goodIn_r _ [13] (by decide +kernel) (by decide +kernel)
set_option maxRecDepth 20000 in
theorem gX6_takesSwan_X6_kindOf : GoodIn wsX6_takesSwan (va_wsS RX6 102 yX6_kindOf wsX6_kindOf) := goodIn_app (goodIn_of _ (by decide +kernel)) ggX6_takesSwan_X6_kindOf
set_option maxRecDepth 20000 in
theorem ggX6_takesSwan_X6_fails : GoodIn wsX6_takesSwan wsX6_fails := goodIn_r _ [17, 18, 19, 33, 34, 35, 36, 37, 38, 39, 40, 41, 42, 43, 44, 45, 46, 47, 48, 49, 50, 51] (by decide +kernel) (by decide +kernel)
set_option maxRecDepth 20000 in
theorem gX6_takesSwan_X6_fails : GoodIn wsX6_takesSwan (wsV RX6 85 RX6 yX6_fails wsX6_fails) := goodIn_app (goodIn_of _ (by decide +kernel)) ggX6_takesSwan_X6_fails
set_option maxRecDepth 20000 in
theorem ggX6_takesSwan_X6_takesNumber : GoodIn wsX6_takesSwan wsX6_takesNumber := goodIn_r _ [23, 2, 3, 24, 25, 4, 5, 6, 7, 8, 9, 10, 26, 27, 28, 14, 15, 16, 17, 18, 19, 29, 30, 31, 32, 33, 34, 35, 36, 37, 38, 39, 40, 41, 42, 43, 44, 45, 46, 47, 48, 49, 50, 51] (by decide +kernel) (by decide +kernel)
set_option maxRecDepth 20000 in
theorem gX6_takesSwan_X6_takesNumber : GoodIn wsX6_takesSwan (wsV RX6 99 RX6 yX6_takesNumber wsX6_takesNumber) := goodIn_app (goodIn_of _ (by decide +kernel)) ggX6_takesSwan_X6_takesNumber
theorem dX6_takesSwan_0 : decode cX6_takesSwan 0 = .ok (.aload_n 0, 1) := by decide +kernel
theorem dX6_takesSwan_1 : decode cX6_takesSwan 1 = .ok (.getfield 7, 3) := by decide +kernel
theorem dX6_takesSwan_4 : decode cX6_takesSwan 4 = .ok (.sipush 139, 3) := by decide +kernel
theorem dX6_takesSwan_7 : decode cX6_takesSwan 7 = .ok (.iaload, 1) := by decide +kernel
theorem dX6_takesSwan_8 : decode cX6_takesSwan 8 = .ok (.istore_n 1, 1) := by decide +kernel
theorem dX6_takesSwan_9 : decode cX6_takesSwan 9 = .ok (.aload_n 0, 1) := by decide +kernel
theorem dX6_takesSwan_10 : decode cX6_takesSwan 10 = .ok (.aload_n 0, 1) := by decide +kernel
theorem dX6_takesSwan_11 : decode cX6_takesSwan 11 = .ok (.getfield 79, 3) := by decide +kernel
theorem dX6_takesSwan_14 : decode cX6_takesSwan 14 = .ok (.invokevirtual 82, 3) := by decide +kernel
theorem dX6_takesSwan_17 : decode cX6_takesSwan 17 = .ok (.invokestatic 102, 3) := by decide +kernel
theorem dX6_takesSwan_20 : decode cX6_takesSwan 20 = .ok (.istore_n 2, 1) := by decide +kernel
theorem dX6_takesSwan_21 : decode cX6_takesSwan 21 = .ok (.iload_n 2, 1) := by decide +kernel
theorem dX6_takesSwan_22 : decode cX6_takesSwan 22 = .ok (.ifCond .ne 13, 3) := by decide +kernel
theorem dX6_takesSwan_25 : decode cX6_takesSwan 25 = .ok (.aload_n 0, 1) := by decide +kernel
theorem dX6_takesSwan_26 : decode cX6_takesSwan 26 = .ok (.iconst 1, 1) := by decide +kernel
theorem dX6_takesSwan_27 : decode cX6_takesSwan 27 = .ok (.aload_n 0, 1) := by decide +kernel
theorem dX6_takesSwan_28 : decode cX6_takesSwan 28 = .ok (.getfield 79, 3) := by decide +kernel
theorem dX6_takesSwan_31 : decode cX6_takesSwan 31 = .ok (.invokevirtual 85, 3) := by decide +kernel
theorem dX6_takesSwan_34 : decode cX6_takesSwan 34 = .ok (.ireturn, 1) := by decide +kernel
theorem dX6_takesSwan_35 : decode cX6_takesSwan 35 = .ok (.iload_n 1, 1) := by decide +kernel
theorem dX6_takesSwan_36 : decode cX6_takesSwan 36 = .ok (.bipush 6, 2) := by decide +kernel
theorem dX6_takesSwan_38 : decode cX6_takesSwan 38 = .ok (.if_icmp .ne 13, 3) := by decide +kernel
theorem dX6_takesSwan_41 : decode cX6_takesSwan 41 = .ok (.aload_n 0, 1) := by decide +kernel
theorem dX6_takesSwan_42 : decode cX6_takesSwan 42 = .ok (.iconst 3, 1) := by decide +kernel
theorem dX6_takesSwan_43 : decode cX6_takesSwan 43 = .ok (.aload_n 0, 1) := by decide +kernel
theorem dX6_takesSwan_44 : decode cX6_takesSwan 44 = .ok (.getfield 79, 3) := by decide +kernel
theorem dX6_takesSwan_47 : decode cX6_takesSwan 47 = .ok (.invokevirtual 85, 3) := by decide +kernel
theorem dX6_takesSwan_50 : decode cX6_takesSwan 50 = .ok (.ireturn, 1) := by decide +kernel
theorem dX6_takesSwan_51 : decode cX6_takesSwan 51 = .ok (.aload_n 0, 1) := by decide +kernel
theorem dX6_takesSwan_52 : decode cX6_takesSwan 52 = .ok (.dup, 1) := by decide +kernel
theorem dX6_takesSwan_53 : decode cX6_takesSwan 53 = .ok (.getfield 79, 3) := by decide +kernel
theorem dX6_takesSwan_56 : decode cX6_takesSwan 56 = .ok (.iconst 1, 1) := by decide +kernel
theorem dX6_takesSwan_57 : decode cX6_takesSwan 57 = .ok (.iadd, 1) := by decide +kernel
theorem dX6_takesSwan_58 : decode cX6_takesSwan 58 = .ok (.putfield 79, 3) := by decide +kernel
theorem dX6_takesSwan_61 : decode cX6_takesSwan 61 = .ok (.aload_n 0, 1) := by decide +kernel
theorem dX6_takesSwan_62 : decode cX6_takesSwan 62 = .ok (.getfield 7, 3) := by decide +kernel
theorem dX6_takesSwan_65 : decode cX6_takesSwan 65 = .ok (.sipush 140, 3) := by decide +kernel
theorem dX6_takesSwan_68 : decode cX6_takesSwan 68 = .ok (.iload_n 1, 1) := by decide +kernel
theorem dX6_takesSwan_69 : decode cX6_takesSwan 69 = .ok (.iadd, 1) := by decide +kernel
theorem dX6_takesSwan_70 : decode cX6_takesSwan 70 = .ok (.iload_n 2, 1) := by decide +kernel
theorem dX6_takesSwan_71 : decode cX6_takesSwan 71 = .ok (.iastore, 1) := by decide +kernel
theorem dX6_takesSwan_72 : decode cX6_takesSwan 72 = .ok (.aload_n 0, 1) := by decide +kernel
theorem dX6_takesSwan_73 : decode cX6_takesSwan 73 = .ok (.iconst 0, 1) := by decide +kernel
theorem dX6_takesSwan_74 : decode cX6_takesSwan 74 = .ok (.aload_n 0, 1) := by decide +kernel
theorem dX6_takesSwan_75 : decode cX6_takesSwan 75 = .ok (.getfield 7, 3) := by decide +kernel
theorem dX6_takesSwan_78 : decode cX6_takesSwan 78 = .ok (.sipush 138, 3) := by decide +kernel
theorem dX6_takesSwan_81 : decode cX6_takesSwan 81 = .ok (.iaload, 1) := by decide +kernel
theorem dX6_takesSwan_82 : decode cX6_takesSwan 82 = .ok (.iconst 1, 1) := by decide +kernel
theorem dX6_takesSwan_83 : decode cX6_takesSwan 83 = .ok (.isub, 1) := by decide +kernel
theorem dX6_takesSwan_84 : decode cX6_takesSwan 84 = .ok (.bipush 44, 2) := by decide +kernel
theorem dX6_takesSwan_86 : decode cX6_takesSwan 86 = .ok (.invokevirtual 99, 3) := by decide +kernel
theorem dX6_takesSwan_89 : decode cX6_takesSwan 89 = .ok (.ifCond .ne 5, 3) := by decide +kernel
theorem dX6_takesSwan_92 : decode cX6_takesSwan 92 = .ok (.iconst 0, 1) := by decide +kernel
theorem dX6_takesSwan_93 : decode cX6_takesSwan 93 = .ok (.ireturn, 1) := by decide +kernel
theorem dX6_takesSwan_94 : decode cX6_takesSwan 94 = .ok (.aload_n 0, 1) := by decide +kernel
theorem dX6_takesSwan_95 : decode cX6_takesSwan 95 = .ok (.getfield 7, 3) := by decide +kernel
theorem dX6_takesSwan_98 : decode cX6_takesSwan 98 = .ok (.bipush 125, 2) := by decide +kernel
theorem dX6_takesSwan_100 : decode cX6_takesSwan 100 = .ok (.iload_n 1, 1) := by decide +kernel
theorem dX6_takesSwan_101 : decode cX6_takesSwan 101 = .ok (.iadd, 1) := by decide +kernel
theorem dX6_takesSwan_102 : decode cX6_takesSwan 102 = .ok (.aload_n 0, 1) := by decide +kernel
theorem dX6_takesSwan_103 : decode cX6_takesSwan 103 = .ok (.getfield 89, 3) := by decide +kernel
theorem dX6_takesSwan_106 : decode cX6_takesSwan 106 = .ok (.iastore, 1) := by decide +kernel
theorem dX6_takesSwan_107 : decode cX6_takesSwan 107 = .ok (.aload_n 0, 1) := by decide +kernel
theorem dX6_takesSwan_108 : decode cX6_takesSwan 108 = .ok (.iconst 0, 1) := by decide +kernel
theorem dX6_takesSwan_109 : decode cX6_takesSwan 109 = .ok (.aload_n 0, 1) := by decide +kernel
theorem dX6_takesSwan_110 : decode cX6_takesSwan 110 = .ok (.getfield 7, 3) := by decide +kernel
theorem dX6_takesSwan_113 : decode cX6_takesSwan 113 = .ok (.sipush 138, 3) := by decide +kernel
theorem dX6_takesSwan_116 : decode cX6_takesSwan 116 = .ok (.iaload, 1) := by decide +kernel
theorem dX6_takesSwan_117 : decode cX6_takesSwan 117 = .ok (.iconst 1, 1) := by decide +kernel
theorem dX6_takesSwan_118 : decode cX6_takesSwan 118 = .ok (.isub, 1) := by decide +kernel
theorem dX6_takesSwan_119 : decode cX6_takesSwan 119 = .ok (.bipush 44, 2) := by decide +kernel
theorem dX6_takesSwan_121 : decode cX6_takesSwan 121 = .ok (.invokevirtual 99, 3) := by decide +kernel
theorem dX6_takesSwan_124 : decode cX6_takesSwan 124 = .ok (.ifCond .ne 5, 3) := by decide +kernel
theorem dX6_takesSwan_127 : decode cX6_takesSwan 127 = .ok (.iconst 0, 1) := by decide +kernel
theorem dX6_takesSwan_128 : decode cX6_takesSwan 128 = .ok (.ireturn, 1) := by decide +kernel
theorem dX6_takesSwan_129 : decode cX6_takesSwan 129 = .ok (.aload_n 0, 1) := by decide +kernel
theorem dX6_takesSwan_130 : decode cX6_takesSwan 130 = .ok (.getfield 7, 3) := by decide +kernel
theorem dX6_takesSwan_133 : decode cX6_takesSwan 133 = .ok (.sipush 146, 3) := by decide +kernel
theorem dX6_takesSwan_136 : decode cX6_takesSwan 136 = .ok (.iload_n 1, 1) := by decide +kernel
theorem dX6_takesSwan_137 : decode cX6_takesSwan 137 = .ok (.iadd, 1) := by decide +kernel
theorem dX6_takesSwan_138 : decode cX6_takesSwan 138 = .ok (.aload_n 0, 1) := by decide +kernel
theorem dX6_takesSwan_139 : decode cX6_takesSwan 139 = .ok (.getfield 89, 3) := by decide +kernel
theorem dX6_takesSwan_142 : decode cX6_takesSwan 142 = .ok (.iastore, 1) := by decide +kernel
theorem dX6_takesSwan_143 : decode cX6_takesSwan 143 = .ok (.aload_n 0, 1) := by decide +kernel
theorem dX6_takesSwan_144 : decode cX6_takesSwan 144 = .ok (.iconst 1, 1) := by decide +kernel
theorem dX6_takesSwan_145 : decode cX6_takesSwan 145 = .ok (.bipush 9, 2) := by decide +kernel
theorem dX6_takesSwan_147 : decode cX6_takesSwan 147 = .ok (.bipush 59, 2) := by decide +kernel
theorem dX6_takesSwan_149 : decode cX6_takesSwan 149 = .ok (.invokevirtual 99, 3) := by decide +kernel
theorem dX6_takesSwan_152 : decode cX6_takesSwan 152 = .ok (.ifCond .ne 5, 3) := by decide +kernel
theorem dX6_takesSwan_155 : decode cX6_takesSwan 155 = .ok (.iconst 0, 1) := by decide +kernel
theorem dX6_takesSwan_156 : decode cX6_takesSwan 156 = .ok (.ireturn, 1) := by decide +kernel
theorem dX6_takesSwan_157 : decode cX6_takesSwan 157 = .ok (.aload_n 0, 1) := by decide +kernel
theorem dX6_takesSwan_158 : decode cX6_takesSwan 158 = .ok (.getfield 7, 3) := by decide +kernel
theorem dX6_takesSwan_161 : decode cX6_takesSwan 161 = .ok (.sipush 131, 3) := by decide +kernel
theorem dX6_takesSwan_164 : decode cX6_takesSwan 164 = .ok (.iload_n 1, 1) := by decide +kernel
theorem dX6_takesSwan_165 : decode cX6_takesSwan 165 = .ok (.iadd, 1) := by decide +kernel
theorem dX6_takesSwan_166 : decode cX6_takesSwan 166 = .ok (.aload_n 0, 1) := by decide +kernel
theorem dX6_takesSwan_167 : decode cX6_takesSwan 167 = .ok (.getfield 89, 3) := by decide +kernel
theorem dX6_takesSwan_170 : decode cX6_takesSwan 170 = .ok (.iastore, 1) := by decide +kernel
theorem dX6_takesSwan_171 : decode cX6_takesSwan 171 = .ok (.aload_n 0, 1) := by decide +kernel
theorem dX6_takesSwan_172 : decode cX6_takesSwan 172 = .ok (.getfield 7, 3) := by decide +kernel
theorem dX6_takesSwan_175 : decode cX6_takesSwan 175 = .ok (.sipush 139, 3) := by decide +kernel
theorem dX6_takesSwan_178 : decode cX6_takesSwan 178 = .ok (.dup2, 1) := by decide +kernel
theorem dX6_takesSwan_179 : decode cX6_takesSwan 179 = .ok (.iaload, 1) := by decide +kernel
theorem dX6_takesSwan_180 : decode cX6_takesSwan 180 = .ok (.iconst 1, 1) := by decide +kernel
theorem dX6_takesSwan_181 : decode cX6_takesSwan 181 = .ok (.iadd, 1) := by decide +kernel
theorem dX6_takesSwan_182 : decode cX6_takesSwan 182 = .ok (.iastore, 1) := by decide +kernel
theorem dX6_takesSwan_183 : decode cX6_takesSwan 183 = .ok (.iconst 1, 1) := by decide +kernel
theorem dX6_takesSwan_184 : decode cX6_takesSwan 184 = .ok (.ireturn, 1) := by decide +kernel
theorem dX6_copyAll_0 : decode cX6_copyAll 0 = .ok (.iconst 0, 1) := by decide +kernel
theorem dX6_copyAll_1 : decode cX6_copyAll 1 = .ok (.istore_n 3, 1) := by decide +kernel
theorem dX6_copyAll_2 : decode cX6_copyAll 2 = .ok (.iload_n 3, 1) := by decide +kernel
theorem dX6_copyAll_3 : decode cX6_copyAll 3 = .ok (.bipush 38, 2) := by decide +kernel
theorem dX6_copyAll_5 : decode cX6_copyAll 5 = .ok (.if_icmp .ge 25, 3) := by decide +kernel
theorem dX6_copyAll_8 : decode cX6_copyAll 8 = .ok (.aload_n 0, 1) := by decide +kernel
theorem dX6_copyAll_9 : decode cX6_copyAll 9 = .ok (.getfield 7, 3) := by decide +kernel
theorem dX6_copyAll_12 : decode cX6_copyAll 12 = .ok (.iload_n 2, 1) := by decide +kernel
theorem dX6_copyAll_13 : decode cX6_copyAll 13 = .ok (.iload_n 3, 1) := by decide +kernel
theorem dX6_copyAll_14 : decode cX6_copyAll 14 = .ok (.iadd, 1) := by decide +kernel
theorem dX6_copyAll_15 : decode cX6_copyAll 15 = .ok (.aload_n 0, 1) := by decide +kernel
theorem dX6_copyAll_16 : decode cX6_copyAll 16 = .ok (.getfield 7, 3) := by decide +kernel
theorem dX6_copyAll_19 : decode cX6_copyAll 19 = .ok (.iload_n 1, 1) := by decide +kernel
theorem dX6_copyAll_20 : decode cX6_copyAll 20 = .ok (.iload_n 3, 1) := by decide +kernel
theorem dX6_copyAll_21 : decode cX6_copyAll 21 = .ok (.iadd, 1) := by decide +kernel
theorem dX6_copyAll_22 : decode cX6_copyAll 22 = .ok (.iaload, 1) := by decide +kernel
theorem dX6_copyAll_23 : decode cX6_copyAll 23 = .ok (.iastore, 1) := by decide +kernel
theorem dX6_copyAll_24 : decode cX6_copyAll 24 = .ok (.iinc 3 1, 3) := by decide +kernel
theorem dX6_copyAll_27 : decode cX6_copyAll 27 = .ok (.goto (-25), 3) := by decide +kernel
theorem dX6_copyAll_30 : decode cX6_copyAll 30 = .ok (.return_, 1) := by decide +kernel
set_option maxRecDepth 20000 in
theorem ggX6_river_X6_takesLaw : GoodIn wsX6_river wsX6_takesLaw := goodIn_r _ [11, 3, 12, 13, 14, 15, 10, 16, 1, 17, 18, 19, 20, 2, 21, 22, 23, 24, 25, 26, 5, 27, 28, 29, 30, 31, 32, 33, 34, 35, 47, 48, 49, 50, 51, 52, 53, 54, 55, 56, 57, 58, 59, 60, 61, 62, 63, 64, 65] (by decide +kernel) (by decide +kernel)
set_option maxRecDepth 20000 in
theorem gX6_river_X6_takesLaw : GoodIn wsX6_river (wsV RX6 105 RX6 yX6_takesLaw wsX6_takesLaw) := goodIn_app (goodIn_of _ (by decide +kernel)) ggX6_river_X6_takesLaw
set_option maxRecDepth 20000 in
theorem ggX6_river_X6_takesSwan : GoodIn wsX6_river wsX6_takesSwan := goodIn_r _ [39, 3, 1, 12, 17, 18, 19, 10, 20, 2, 21, 40, 41, 42, 22, 23, 24, 25, 26, 5, 27, 28, 29, 30, 31, 32, 33, 34, 35, 13, 14, 15, 16, 47, 48, 49, 50, 51, 52, 53, 54, 55, 56, 57, 58, 59, 60, 61, 62, 63, 64, 65] (by decide +kernel) (by decide +kernel)
set_option maxRecDepth 20000 in
theorem gX6_river_X6_takesSwan : GoodIn wsX6_river (wsV RX6 109 RX6 yX6_takesSwan wsX6_takesSwan) := goodIn_app (goodIn_of _ (by decide +kernel)) ggX6_river_X6_takesSwan
set_option maxRecDepth 20000 in
theorem ggX6_river_X6_copyAll : GoodIn wsX6_river wsX6_copyAll := goodIn_r _ [46, 3, 47, 48, 49, 50, 51, 52, 53, 54, 55, 56, 57, 58, 59, 60, 61, 62, 63, 64, 65] (by decide +kernel) (by decide +kernel)
set_option maxRecDepth 20000 in
theorem gX6_river_X6_copyAll : GoodIn wsX6_river (wsV RX6 113 RX6 yX6_copyAll wsX6_copyAll) := goodIn_app (goodIn_of _ (by decide +kernel)) ggX6_river_X6_copyAll
theorem dX6_river_0 : decode cX6_river 0 = .ok (.aload_n 0, 1) := by decide +kernel
theorem dX6_river_1 : decode cX6_river 1 = .ok (.iconst 0, 1) := by decide +kernel
theorem dX6_river_2 : decode cX6_river 2 = .ok (.putfield 79, 3) := by decide +kernel
theorem dX6_river_5 : decode cX6_river 5 = .ok (.aload_n 0, 1) := by decide +kernel
theorem dX6_river_6 : decode cX6_river 6 = .ok (.invokevirtual 105, 3) := by decide +kernel
theorem dX6_river_9 : decode cX6_river 9 = .ok (.istore_n 1, 1) := by decide +kernel
theorem dX6_river_10 : decode cX6_river 10 = .ok (.iload_n 1, 1) := by decide +kernel
theorem dX6_river_11 : decode cX6_river 11 = .ok (.ifCond .eq 33, 3) := by decide +kernel
theorem dX6_river_14 : decode cX6_river 14 = .ok (.aload_n 0, 1) := by decide +kernel
theorem dX6_river_15 : decode cX6_river 15 = .ok (.getfield 79, 3) := by decide +kernel
theorem dX6_river_18 : decode cX6_river 18 = .ok (.aload_n 0, 1) := by decide +kernel
theorem dX6_river_19 : decode cX6_river 19 = .ok (.getfield 69, 3) := by decide +kernel
theorem dX6_river_22 : decode cX6_river 22 = .ok (.if_icmp .lt 14, 3) := by decide +kernel
theorem dX6_river_25 : decode cX6_river 25 = .ok (.aload_n 0, 1) := by decide +kernel
theorem dX6_river_26 : decode cX6_river 26 = .ok (.getfield 7, 3) := by decide +kernel
theorem dX6_river_29 : decode cX6_river 29 = .ok (.sipush 139, 3) := by decide +kernel
theorem dX6_river_32 : decode cX6_river 32 = .ok (.iaload, 1) := by decide +kernel
theorem dX6_river_33 : decode cX6_river 33 = .ok (.ifCond .ne 11, 3) := by decide +kernel
theorem dX6_river_36 : decode cX6_river 36 = .ok (.aload_n 0, 1) := by decide +kernel
theorem dX6_river_37 : decode cX6_river 37 = .ok (.invokevirtual 109, 3) := by decide +kernel
theorem dX6_river_40 : decode cX6_river 40 = .ok (.istore_n 1, 1) := by decide +kernel
theorem dX6_river_41 : decode cX6_river 41 = .ok (.goto (-31), 3) := by decide +kernel
theorem dX6_river_44 : decode cX6_river 44 = .ok (.aload_n 0, 1) := by decide +kernel
theorem dX6_river_45 : decode cX6_river 45 = .ok (.iconst 0, 1) := by decide +kernel
theorem dX6_river_46 : decode cX6_river 46 = .ok (.putfield 69, 3) := by decide +kernel
theorem dX6_river_49 : decode cX6_river 49 = .ok (.iload_n 1, 1) := by decide +kernel
theorem dX6_river_50 : decode cX6_river 50 = .ok (.ifCond .ne 11, 3) := by decide +kernel
theorem dX6_river_53 : decode cX6_river 53 = .ok (.ldc 112, 2) := by decide +kernel
theorem dX6_river_55 : decode cX6_river 55 = .ok (.aload_n 0, 1) := by decide +kernel
theorem dX6_river_56 : decode cX6_river 56 = .ok (.getfield 76, 3) := by decide +kernel
theorem dX6_river_59 : decode cX6_river 59 = .ok (.isub, 1) := by decide +kernel
theorem dX6_river_60 : decode cX6_river 60 = .ok (.ireturn, 1) := by decide +kernel
theorem dX6_river_61 : decode cX6_river 61 = .ok (.aload_n 0, 1) := by decide +kernel
theorem dX6_river_62 : decode cX6_river 62 = .ok (.bipush 114, 2) := by decide +kernel
theorem dX6_river_64 : decode cX6_river 64 = .ok (.iconst 0, 1) := by decide +kernel
theorem dX6_river_65 : decode cX6_river 65 = .ok (.invokevirtual 113, 3) := by decide +kernel
theorem dX6_river_68 : decode cX6_river 68 = .ok (.aload_n 0, 1) := by decide +kernel
theorem dX6_river_69 : decode cX6_river 69 = .ok (.iconst 0, 1) := by decide +kernel
theorem dX6_river_70 : decode cX6_river 70 = .ok (.putfield 117, 3) := by decide +kernel
theorem dX6_river_73 : decode cX6_river 73 = .ok (.aload_n 0, 1) := by decide +kernel
theorem dX6_river_74 : decode cX6_river 74 = .ok (.getfield 7, 3) := by decide +kernel
theorem dX6_river_77 : decode cX6_river 77 = .ok (.bipush 25, 2) := by decide +kernel
theorem dX6_river_79 : decode cX6_river 79 = .ok (.iaload, 1) := by decide +kernel
theorem dX6_river_80 : decode cX6_river 80 = .ok (.ireturn, 1) := by decide +kernel
theorem dX6_fault_0 : decode cX6_fault 0 = .ok (.aload_n 0, 1) := by decide +kernel
theorem dX6_fault_1 : decode cX6_fault 1 = .ok (.getfield 73, 3) := by decide +kernel
theorem dX6_fault_4 : decode cX6_fault 4 = .ok (.ireturn, 1) := by decide +kernel
theorem dX6_isRiver_0 : decode cX6_isRiver 0 = .ok (.aload_n 0, 1) := by decide +kernel
theorem dX6_isRiver_1 : decode cX6_isRiver 1 = .ok (.getfield 7, 3) := by decide +kernel
theorem dX6_isRiver_4 : decode cX6_isRiver 4 = .ok (.bipush 23, 2) := by decide +kernel
theorem dX6_isRiver_6 : decode cX6_isRiver 6 = .ok (.iaload, 1) := by decide +kernel
theorem dX6_isRiver_7 : decode cX6_isRiver 7 = .ok (.iconst 1, 1) := by decide +kernel
theorem dX6_isRiver_8 : decode cX6_isRiver 8 = .ok (.if_icmp .ne 7, 3) := by decide +kernel
theorem dX6_isRiver_11 : decode cX6_isRiver 11 = .ok (.iconst 1, 1) := by decide +kernel
theorem dX6_isRiver_12 : decode cX6_isRiver 12 = .ok (.goto 4, 3) := by decide +kernel
theorem dX6_isRiver_15 : decode cX6_isRiver 15 = .ok (.iconst 0, 1) := by decide +kernel
theorem dX6_isRiver_16 : decode cX6_isRiver 16 = .ok (.ireturn, 1) := by decide +kernel
set_option maxRecDepth 20000 in
theorem ggX6_isSwan_X6_in : GoodIn wsX6_isSwan wsX6_in := goodIn_r _ [5] (by decide +kernel) (by decide +kernel)
set_option maxRecDepth 20000 in
theorem gX6_isSwan_X6_in : GoodIn wsX6_isSwan (va_wsS RX6 45 yX6_in wsX6_in) := goodIn_app (goodIn_of _ (by decide +kernel)) ggX6_isSwan_X6_in
theorem dX6_isSwan_0 : decode cX6_isSwan 0 = .ok (.iload_n 1, 1) := by decide +kernel
theorem dX6_isSwan_1 : decode cX6_isSwan 1 = .ok (.i2l, 1) := by decide +kernel
theorem dX6_isSwan_2 : decode cX6_isSwan 2 = .ok (.lconst 0, 1) := by decide +kernel
theorem dX6_isSwan_3 : decode cX6_isSwan 3 = .ok (.aload_n 0, 1) := by decide +kernel
theorem dX6_isSwan_4 : decode cX6_isSwan 4 = .ok (.getfield 7, 3) := by decide +kernel
theorem dX6_isSwan_7 : decode cX6_isSwan 7 = .ok (.bipush 25, 2) := by decide +kernel
theorem dX6_isSwan_9 : decode cX6_isSwan 9 = .ok (.iaload, 1) := by decide +kernel
theorem dX6_isSwan_10 : decode cX6_isSwan 10 = .ok (.iconst 1, 1) := by decide +kernel
theorem dX6_isSwan_11 : decode cX6_isSwan 11 = .ok (.isub, 1) := by decide +kernel
theorem dX6_isSwan_12 : decode cX6_isSwan 12 = .ok (.i2l, 1) := by decide +kernel
theorem dX6_isSwan_13 : decode cX6_isSwan 13 = .ok (.invokestatic 45, 3) := by decide +kernel
theorem dX6_isSwan_16 : decode cX6_isSwan 16 = .ok (.ireturn, 1) := by decide +kernel
set_option maxRecDepth 20000 in
theorem ggX6_isLawn_X6_in : GoodIn wsX6_isLawn wsX6_in := goodIn_r _ [5] (by decide +kernel) (by decide +kernel)
set_option maxRecDepth 20000 in
theorem gX6_isLawn_X6_in : GoodIn wsX6_isLawn (va_wsS RX6 45 yX6_in wsX6_in) := goodIn_app (goodIn_of _ (by decide +kernel)) ggX6_isLawn_X6_in
theorem dX6_isLawn_0 : decode cX6_isLawn 0 = .ok (.iload_n 1, 1) := by decide +kernel
theorem dX6_isLawn_1 : decode cX6_isLawn 1 = .ok (.i2l, 1) := by decide +kernel
theorem dX6_isLawn_2 : decode cX6_isLawn 2 = .ok (.lconst 0, 1) := by decide +kernel
theorem dX6_isLawn_3 : decode cX6_isLawn 3 = .ok (.aload_n 0, 1) := by decide +kernel
theorem dX6_isLawn_4 : decode cX6_isLawn 4 = .ok (.getfield 7, 3) := by decide +kernel
theorem dX6_isLawn_7 : decode cX6_isLawn 7 = .ok (.bipush 24, 2) := by decide +kernel
theorem dX6_isLawn_9 : decode cX6_isLawn 9 = .ok (.iaload, 1) := by decide +kernel
theorem dX6_isLawn_10 : decode cX6_isLawn 10 = .ok (.iconst 1, 1) := by decide +kernel
theorem dX6_isLawn_11 : decode cX6_isLawn 11 = .ok (.isub, 1) := by decide +kernel
theorem dX6_isLawn_12 : decode cX6_isLawn 12 = .ok (.i2l, 1) := by decide +kernel
theorem dX6_isLawn_13 : decode cX6_isLawn 13 = .ok (.invokestatic 45, 3) := by decide +kernel
theorem dX6_isLawn_16 : decode cX6_isLawn 16 = .ok (.ireturn, 1) := by decide +kernel
set_option maxRecDepth 20000 in
theorem ggX6_isOpen_X6_in : GoodIn wsX6_isOpen wsX6_in := goodIn_r _ [5] (by decide +kernel) (by decide +kernel)
set_option maxRecDepth 20000 in
theorem gX6_isOpen_X6_in : GoodIn wsX6_isOpen (va_wsS RX6 45 yX6_in wsX6_in) := goodIn_app (goodIn_of _ (by decide +kernel)) ggX6_isOpen_X6_in
set_option maxRecDepth 20000 in
theorem ggX6_isOpen_X6_has : GoodIn wsX6_isOpen wsX6_has := goodIn_r _ [8] (by decide +kernel) (by decide +kernel)
set_option maxRecDepth 20000 in
theorem gX6_isOpen_X6_has : GoodIn wsX6_isOpen (va_wsS RX6 120 yX6_has wsX6_has) := goodIn_app (goodIn_of _ (by decide +kernel)) ggX6_isOpen_X6_has
theorem dX6_isOpen_0 : decode cX6_isOpen 0 = .ok (.iload_n 2, 1) := by decide +kernel
theorem dX6_isOpen_1 : decode cX6_isOpen 1 = .ok (.iload_n 3, 1) := by decide +kernel
theorem dX6_isOpen_2 : decode cX6_isOpen 2 = .ok (.iadd, 1) := by decide +kernel
theorem dX6_isOpen_3 : decode cX6_isOpen 3 = .ok (.istore 4, 2) := by decide +kernel
theorem dX6_isOpen_5 : decode cX6_isOpen 5 = .ok (.iload_n 3, 1) := by decide +kernel
theorem dX6_isOpen_6 : decode cX6_isOpen 6 = .ok (.ifCond .le 7, 3) := by decide +kernel
theorem dX6_isOpen_9 : decode cX6_isOpen 9 = .ok (.iload_n 2, 1) := by decide +kernel
theorem dX6_isOpen_10 : decode cX6_isOpen 10 = .ok (.goto 5, 3) := by decide +kernel
theorem dX6_isOpen_13 : decode cX6_isOpen 13 = .ok (.iload 4, 2) := by decide +kernel
theorem dX6_isOpen_15 : decode cX6_isOpen 15 = .ok (.istore 5, 2) := by decide +kernel
theorem dX6_isOpen_17 : decode cX6_isOpen 17 = .ok (.iload 4, 2) := by decide +kernel
theorem dX6_isOpen_19 : decode cX6_isOpen 19 = .ok (.i2l, 1) := by decide +kernel
theorem dX6_isOpen_20 : decode cX6_isOpen 20 = .ok (.lconst 0, 1) := by decide +kernel
theorem dX6_isOpen_21 : decode cX6_isOpen 21 = .ok (.aload_n 0, 1) := by decide +kernel
theorem dX6_isOpen_22 : decode cX6_isOpen 22 = .ok (.getfield 7, 3) := by decide +kernel
theorem dX6_isOpen_25 : decode cX6_isOpen 25 = .ok (.iload_n 1, 1) := by decide +kernel
theorem dX6_isOpen_26 : decode cX6_isOpen 26 = .ok (.bipush 24, 2) := by decide +kernel
theorem dX6_isOpen_28 : decode cX6_isOpen 28 = .ok (.iadd, 1) := by decide +kernel
theorem dX6_isOpen_29 : decode cX6_isOpen 29 = .ok (.iaload, 1) := by decide +kernel
theorem dX6_isOpen_30 : decode cX6_isOpen 30 = .ok (.iconst 1, 1) := by decide +kernel
theorem dX6_isOpen_31 : decode cX6_isOpen 31 = .ok (.isub, 1) := by decide +kernel
theorem dX6_isOpen_32 : decode cX6_isOpen 32 = .ok (.i2l, 1) := by decide +kernel
theorem dX6_isOpen_33 : decode cX6_isOpen 33 = .ok (.invokestatic 45, 3) := by decide +kernel
theorem dX6_isOpen_36 : decode cX6_isOpen 36 = .ok (.ifCond .eq 24, 3) := by decide +kernel
theorem dX6_isOpen_39 : decode cX6_isOpen 39 = .ok (.aload_n 0, 1) := by decide +kernel
theorem dX6_isOpen_40 : decode cX6_isOpen 40 = .ok (.getfield 7, 3) := by decide +kernel
theorem dX6_isOpen_43 : decode cX6_isOpen 43 = .ok (.iload_n 1, 1) := by decide +kernel
theorem dX6_isOpen_44 : decode cX6_isOpen 44 = .ok (.bipush 10, 2) := by decide +kernel
theorem dX6_isOpen_46 : decode cX6_isOpen 46 = .ok (.iadd, 1) := by decide +kernel
theorem dX6_isOpen_47 : decode cX6_isOpen 47 = .ok (.iaload, 1) := by decide +kernel
theorem dX6_isOpen_48 : decode cX6_isOpen 48 = .ok (.iload 5, 2) := by decide +kernel
theorem dX6_isOpen_50 : decode cX6_isOpen 50 = .ok (.invokestatic 120, 3) := by decide +kernel
theorem dX6_isOpen_53 : decode cX6_isOpen 53 = .ok (.ifCond .ne 7, 3) := by decide +kernel
theorem dX6_isOpen_56 : decode cX6_isOpen 56 = .ok (.iconst 1, 1) := by decide +kernel
theorem dX6_isOpen_57 : decode cX6_isOpen 57 = .ok (.goto 4, 3) := by decide +kernel
theorem dX6_isOpen_60 : decode cX6_isOpen 60 = .ok (.iconst 0, 1) := by decide +kernel
theorem dX6_isOpen_61 : decode cX6_isOpen 61 = .ok (.ireturn, 1) := by decide +kernel
theorem dX6_seesOn_0 : decode cX6_seesOn 0 = .ok (.iconst 0, 1) := by decide +kernel
theorem dX6_seesOn_1 : decode cX6_seesOn 1 = .ok (.istore 4, 2) := by decide +kernel
theorem dX6_seesOn_3 : decode cX6_seesOn 3 = .ok (.aload_n 0, 1) := by decide +kernel
theorem dX6_seesOn_4 : decode cX6_seesOn 4 = .ok (.getfield 7, 3) := by decide +kernel
theorem dX6_seesOn_7 : decode cX6_seesOn 7 = .ok (.iload_n 1, 1) := by decide +kernel
theorem dX6_seesOn_8 : decode cX6_seesOn 8 = .ok (.bipush 26, 2) := by decide +kernel
theorem dX6_seesOn_10 : decode cX6_seesOn 10 = .ok (.iadd, 1) := by decide +kernel
theorem dX6_seesOn_11 : decode cX6_seesOn 11 = .ok (.iload_n 2, 1) := by decide +kernel
theorem dX6_seesOn_12 : decode cX6_seesOn 12 = .ok (.iadd, 1) := by decide +kernel
theorem dX6_seesOn_13 : decode cX6_seesOn 13 = .ok (.iaload, 1) := by decide +kernel
theorem dX6_seesOn_14 : decode cX6_seesOn 14 = .ok (.iconst 2, 1) := by decide +kernel
theorem dX6_seesOn_15 : decode cX6_seesOn 15 = .ok (.if_icmp .ne 76, 3) := by decide +kernel
theorem dX6_seesOn_18 : decode cX6_seesOn 18 = .ok (.iconst 0, 1) := by decide +kernel
theorem dX6_seesOn_19 : decode cX6_seesOn 19 = .ok (.istore 5, 2) := by decide +kernel
theorem dX6_seesOn_21 : decode cX6_seesOn 21 = .ok (.iload 5, 2) := by decide +kernel
theorem dX6_seesOn_23 : decode cX6_seesOn 23 = .ok (.aload_n 0, 1) := by decide +kernel
theorem dX6_seesOn_24 : decode cX6_seesOn 24 = .ok (.getfield 7, 3) := by decide +kernel
theorem dX6_seesOn_27 : decode cX6_seesOn 27 = .ok (.iload_n 1, 1) := by decide +kernel
theorem dX6_seesOn_28 : decode cX6_seesOn 28 = .ok (.bipush 25, 2) := by decide +kernel
theorem dX6_seesOn_30 : decode cX6_seesOn 30 = .ok (.iadd, 1) := by decide +kernel
theorem dX6_seesOn_31 : decode cX6_seesOn 31 = .ok (.iaload, 1) := by decide +kernel
theorem dX6_seesOn_32 : decode cX6_seesOn 32 = .ok (.if_icmp .ge 59, 3) := by decide +kernel
theorem dX6_seesOn_35 : decode cX6_seesOn 35 = .ok (.iload 4, 2) := by decide +kernel
theorem dX6_seesOn_37 : decode cX6_seesOn 37 = .ok (.ifCond .ne 41, 3) := by decide +kernel
theorem dX6_seesOn_40 : decode cX6_seesOn 40 = .ok (.iload 5, 2) := by decide +kernel
theorem dX6_seesOn_42 : decode cX6_seesOn 42 = .ok (.iload_n 2, 1) := by decide +kernel
theorem dX6_seesOn_43 : decode cX6_seesOn 43 = .ok (.if_icmp .eq 39, 3) := by decide +kernel
theorem dX6_seesOn_46 : decode cX6_seesOn 46 = .ok (.aload_n 0, 1) := by decide +kernel
theorem dX6_seesOn_47 : decode cX6_seesOn 47 = .ok (.getfield 7, 3) := by decide +kernel
theorem dX6_seesOn_50 : decode cX6_seesOn 50 = .ok (.iload_n 1, 1) := by decide +kernel
theorem dX6_seesOn_51 : decode cX6_seesOn 51 = .ok (.bipush 26, 2) := by decide +kernel
theorem dX6_seesOn_53 : decode cX6_seesOn 53 = .ok (.iadd, 1) := by decide +kernel
theorem dX6_seesOn_54 : decode cX6_seesOn 54 = .ok (.iload 5, 2) := by decide +kernel
theorem dX6_seesOn_56 : decode cX6_seesOn 56 = .ok (.iadd, 1) := by decide +kernel
theorem dX6_seesOn_57 : decode cX6_seesOn 57 = .ok (.iaload, 1) := by decide +kernel
theorem dX6_seesOn_58 : decode cX6_seesOn 58 = .ok (.iconst 2, 1) := by decide +kernel
theorem dX6_seesOn_59 : decode cX6_seesOn 59 = .ok (.if_icmp .ne 23, 3) := by decide +kernel
theorem dX6_seesOn_62 : decode cX6_seesOn 62 = .ok (.aload_n 0, 1) := by decide +kernel
theorem dX6_seesOn_63 : decode cX6_seesOn 63 = .ok (.getfield 7, 3) := by decide +kernel
theorem dX6_seesOn_66 : decode cX6_seesOn 66 = .ok (.iload_n 1, 1) := by decide +kernel
theorem dX6_seesOn_67 : decode cX6_seesOn 67 = .ok (.bipush 11, 2) := by decide +kernel
theorem dX6_seesOn_69 : decode cX6_seesOn 69 = .ok (.iadd, 1) := by decide +kernel
theorem dX6_seesOn_70 : decode cX6_seesOn 70 = .ok (.iload 5, 2) := by decide +kernel
theorem dX6_seesOn_72 : decode cX6_seesOn 72 = .ok (.iadd, 1) := by decide +kernel
theorem dX6_seesOn_73 : decode cX6_seesOn 73 = .ok (.iaload, 1) := by decide +kernel
theorem dX6_seesOn_74 : decode cX6_seesOn 74 = .ok (.iload_n 3, 1) := by decide +kernel
theorem dX6_seesOn_75 : decode cX6_seesOn 75 = .ok (.if_icmp .ne 7, 3) := by decide +kernel
theorem dX6_seesOn_78 : decode cX6_seesOn 78 = .ok (.iconst 1, 1) := by decide +kernel
theorem dX6_seesOn_79 : decode cX6_seesOn 79 = .ok (.goto 4, 3) := by decide +kernel
theorem dX6_seesOn_82 : decode cX6_seesOn 82 = .ok (.iconst 0, 1) := by decide +kernel
theorem dX6_seesOn_83 : decode cX6_seesOn 83 = .ok (.istore 4, 2) := by decide +kernel
theorem dX6_seesOn_85 : decode cX6_seesOn 85 = .ok (.iinc 5 1, 3) := by decide +kernel
theorem dX6_seesOn_88 : decode cX6_seesOn 88 = .ok (.goto (-67), 3) := by decide +kernel
theorem dX6_seesOn_91 : decode cX6_seesOn 91 = .ok (.iload 4, 2) := by decide +kernel
theorem dX6_seesOn_93 : decode cX6_seesOn 93 = .ok (.ifCond .eq 7, 3) := by decide +kernel
theorem dX6_seesOn_96 : decode cX6_seesOn 96 = .ok (.iconst 0, 1) := by decide +kernel
theorem dX6_seesOn_97 : decode cX6_seesOn 97 = .ok (.goto 13, 3) := by decide +kernel
theorem dX6_seesOn_100 : decode cX6_seesOn 100 = .ok (.aload_n 0, 1) := by decide +kernel
theorem dX6_seesOn_101 : decode cX6_seesOn 101 = .ok (.getfield 7, 3) := by decide +kernel
theorem dX6_seesOn_104 : decode cX6_seesOn 104 = .ok (.iload_n 1, 1) := by decide +kernel
theorem dX6_seesOn_105 : decode cX6_seesOn 105 = .ok (.iconst 1, 1) := by decide +kernel
theorem dX6_seesOn_106 : decode cX6_seesOn 106 = .ok (.iadd, 1) := by decide +kernel
theorem dX6_seesOn_107 : decode cX6_seesOn 107 = .ok (.iload_n 3, 1) := by decide +kernel
theorem dX6_seesOn_108 : decode cX6_seesOn 108 = .ok (.iadd, 1) := by decide +kernel
