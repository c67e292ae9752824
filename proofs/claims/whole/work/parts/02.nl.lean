theorem dX6_doubles_115 : decode cX6_doubles 115 = .ok (.iload_n 2, 1) := by decide +kernel
theorem dX6_doubles_116 : decode cX6_doubles 116 = .ok (.iload 6, 2) := by decide +kernel
theorem dX6_doubles_118 : decode cX6_doubles 118 = .ok (.ifCond .eq 7, 3) := by decide +kernel
theorem dX6_doubles_121 : decode cX6_doubles 121 = .ok (.iconst 1, 1) := by decide +kernel
theorem dX6_doubles_122 : decode cX6_doubles 122 = .ok (.goto 4, 3) := by decide +kernel
theorem dX6_doubles_125 : decode cX6_doubles 125 = .ok (.iconst 0, 1) := by decide +kernel
theorem dX6_doubles_126 : decode cX6_doubles 126 = .ok (.iadd, 1) := by decide +kernel
theorem dX6_doubles_127 : decode cX6_doubles 127 = .ok (.istore_n 2, 1) := by decide +kernel
theorem dX6_doubles_128 : decode cX6_doubles 128 = .ok (.iinc 5 1, 3) := by decide +kernel
theorem dX6_doubles_131 : decode cX6_doubles 131 = .ok (.goto (-82), 3) := by decide +kernel
theorem dX6_doubles_134 : decode cX6_doubles 134 = .ok (.iinc 4 1, 3) := by decide +kernel
theorem dX6_doubles_137 : decode cX6_doubles 137 = .ok (.goto (-106), 3) := by decide +kernel
theorem dX6_doubles_140 : decode cX6_doubles 140 = .ok (.iload_n 1, 1) := by decide +kernel
theorem dX6_doubles_141 : decode cX6_doubles 141 = .ok (.ifCond .ne 7, 3) := by decide +kernel
theorem dX6_doubles_144 : decode cX6_doubles 144 = .ok (.iload_n 2, 1) := by decide +kernel
theorem dX6_doubles_145 : decode cX6_doubles 145 = .ok (.goto 4, 3) := by decide +kernel
theorem dX6_doubles_148 : decode cX6_doubles 148 = .ok (.iload_n 3, 1) := by decide +kernel
theorem dX6_doubles_149 : decode cX6_doubles 149 = .ok (.ireturn, 1) := by decide +kernel
set_option maxRecDepth 20000 in
theorem ggX6_isSo_X6_passes : GoodIn wsX6_isSo wsX6_passes := goodIn_r _ [7, 8, 9, 1, 10, 11, 12, 6, 13, 14, 15, 16, 17, 18, 19, 20, 21, 22, 23, 24, 25, 26, 27, 28, 29, 30, 31, 32, 33, 34, 35, 36, 37, 38, 39, 40, 41, 42, 43, 44, 45, 46, 47, 48, 49, 50, 51, 52, 53, 54] (by decide +kernel) (by decide +kernel)
set_option maxRecDepth 20000 in
theorem gX6_isSo_X6_passes : GoodIn wsX6_isSo (wsV RX6 155 RX6 yX6_passes wsX6_passes) := goodIn_app (goodIn_of _ (by decide +kernel)) ggX6_isSo_X6_passes
theorem dX6_isSo_0 : decode cX6_isSo 0 = .ok (.iconst 1, 1) := by decide +kernel
theorem dX6_isSo_1 : decode cX6_isSo 1 = .ok (.istore 4, 2) := by decide +kernel
theorem dX6_isSo_3 : decode cX6_isSo 3 = .ok (.iconst 0, 1) := by decide +kernel
theorem dX6_isSo_4 : decode cX6_isSo 4 = .ok (.istore 5, 2) := by decide +kernel
theorem dX6_isSo_6 : decode cX6_isSo 6 = .ok (.iload 5, 2) := by decide +kernel
theorem dX6_isSo_8 : decode cX6_isSo 8 = .ok (.iload_n 3, 1) := by decide +kernel
theorem dX6_isSo_9 : decode cX6_isSo 9 = .ok (.if_icmp .ge 48, 3) := by decide +kernel
theorem dX6_isSo_12 : decode cX6_isSo 12 = .ok (.aload_n 0, 1) := by decide +kernel
theorem dX6_isSo_13 : decode cX6_isSo 13 = .ok (.bipush 114, 2) := by decide +kernel
theorem dX6_isSo_15 : decode cX6_isSo 15 = .ok (.invokevirtual 155, 3) := by decide +kernel
theorem dX6_isSo_18 : decode cX6_isSo 18 = .ok (.iload 4, 2) := by decide +kernel
theorem dX6_isSo_20 : decode cX6_isSo 20 = .ok (.ifCond .eq 28, 3) := by decide +kernel
theorem dX6_isSo_23 : decode cX6_isSo 23 = .ok (.aload_n 0, 1) := by decide +kernel
theorem dX6_isSo_24 : decode cX6_isSo 24 = .ok (.getfield 7, 3) := by decide +kernel
theorem dX6_isSo_27 : decode cX6_isSo 27 = .ok (.bipush 125, 2) := by decide +kernel
theorem dX6_isSo_29 : decode cX6_isSo 29 = .ok (.iload_n 1, 1) := by decide +kernel
theorem dX6_isSo_30 : decode cX6_isSo 30 = .ok (.iadd, 1) := by decide +kernel
theorem dX6_isSo_31 : decode cX6_isSo 31 = .ok (.iaload, 1) := by decide +kernel
theorem dX6_isSo_32 : decode cX6_isSo 32 = .ok (.aload_n 0, 1) := by decide +kernel
theorem dX6_isSo_33 : decode cX6_isSo 33 = .ok (.getfield 20, 3) := by decide +kernel
theorem dX6_isSo_36 : decode cX6_isSo 36 = .ok (.iload_n 2, 1) := by decide +kernel
theorem dX6_isSo_37 : decode cX6_isSo 37 = .ok (.iload 5, 2) := by decide +kernel
theorem dX6_isSo_39 : decode cX6_isSo 39 = .ok (.iadd, 1) := by decide +kernel
theorem dX6_isSo_40 : decode cX6_isSo 40 = .ok (.iaload, 1) := by decide +kernel
theorem dX6_isSo_41 : decode cX6_isSo 41 = .ok (.if_icmp .ne 7, 3) := by decide +kernel
theorem dX6_isSo_44 : decode cX6_isSo 44 = .ok (.iconst 1, 1) := by decide +kernel
theorem dX6_isSo_45 : decode cX6_isSo 45 = .ok (.goto 4, 3) := by decide +kernel
theorem dX6_isSo_48 : decode cX6_isSo 48 = .ok (.iconst 0, 1) := by decide +kernel
theorem dX6_isSo_49 : decode cX6_isSo 49 = .ok (.istore 4, 2) := by decide +kernel
theorem dX6_isSo_51 : decode cX6_isSo 51 = .ok (.iinc 5 1, 3) := by decide +kernel
theorem dX6_isSo_54 : decode cX6_isSo 54 = .ok (.goto (-48), 3) := by decide +kernel
theorem dX6_isSo_57 : decode cX6_isSo 57 = .ok (.iload 4, 2) := by decide +kernel
theorem dX6_isSo_59 : decode cX6_isSo 59 = .ok (.ireturn, 1) := by decide +kernel
set_option maxRecDepth 20000 in
theorem ggX6_who_X6_isSwan : GoodIn wsX6_who wsX6_isSwan := goodIn_r _ [9, 4, 10, 11, 8, 12, 77, 78, 79, 80, 81, 82, 83, 84, 85, 86, 87, 88, 89, 90, 91, 92, 93, 94, 95] (by decide +kernel) (by decide +kernel)
set_option maxRecDepth 20000 in
theorem gX6_who_X6_isSwan : GoodIn wsX6_who (wsV RX6 174 RX6 yX6_isSwan wsX6_isSwan) := goodIn_app (goodIn_of _ (by decide +kernel)) ggX6_who_X6_isSwan
set_option maxRecDepth 20000 in
theorem ggX6_who_X6_in : GoodIn wsX6_who wsX6_in := goodIn_r _ [12] (by decide +kernel) (by decide +kernel)
set_option maxRecDepth 20000 in
theorem gX6_who_X6_in : GoodIn wsX6_who (va_wsS RX6 45 yX6_in wsX6_in) := goodIn_app (goodIn_of _ (by decide +kernel)) ggX6_who_X6_in
set_option maxRecDepth 20000 in
theorem ggX6_who_X6_isRow : GoodIn wsX6_who wsX6_isRow := goodIn_r _ [15, 16, 10, 11, 8, 12] (by decide +kernel) (by decide +kernel)
set_option maxRecDepth 20000 in
theorem gX6_who_X6_isRow : GoodIn wsX6_who (va_wsS RX6 49 yX6_isRow wsX6_isRow) := goodIn_app (goodIn_of _ (by decide +kernel)) ggX6_who_X6_isRow
set_option maxRecDepth 20000 in
theorem ggX6_who_X6_against : GoodIn wsX6_who wsX6_against := goodIn_r _ [20, 21, 22, 23, 24, 8, 25, 26, 27, 28, 29, 30, 77, 78, 79, 80, 81, 82, 83, 84, 85, 86, 87, 88, 89, 90, 91, 92, 93, 94, 95] (by decide +kernel) (by decide +kernel)
set_option maxRecDepth 20000 in
theorem gX6_who_X6_against : GoodIn wsX6_who (wsV RX6 210 RX6 yX6_against wsX6_against) := goodIn_app (goodIn_of _ (by decide +kernel)) ggX6_who_X6_against
set_option maxRecDepth 20000 in
theorem ggX6_who_X6_tries : GoodIn wsX6_who wsX6_tries := goodIn_r _ [34, 35, 36, 37, 8, 38, 4, 77, 78, 79, 80, 81, 82, 83, 84, 85, 86, 87, 88, 89, 90, 91, 92, 93, 94, 95] (by decide +kernel) (by decide +kernel)
set_option maxRecDepth 20000 in
theorem gX6_who_X6_tries : GoodIn wsX6_who (wsV RX6 185 RX6 yX6_tries wsX6_tries) := goodIn_app (goodIn_of _ (by decide +kernel)) ggX6_who_X6_tries
set_option maxRecDepth 20000 in
theorem ggX6_who_X6_isSo : GoodIn wsX6_who wsX6_isSo := goodIn_r _ [42, 4, 43, 44, 45, 46, 8, 47, 48, 49, 50, 51, 52, 53, 54, 55, 56, 57, 58, 59, 60, 61, 62, 63, 64, 65, 10, 11, 12, 66, 67, 68, 69, 70, 71, 72, 77, 78, 79, 80, 81, 82, 83, 84, 85, 86, 87, 88, 89, 90, 91, 92, 93, 94, 95] (by decide +kernel) (by decide +kernel)
set_option maxRecDepth 20000 in
theorem gX6_who_X6_isSo : GoodIn wsX6_who (wsV RX6 213 RX6 yX6_isSo wsX6_isSo) := goodIn_app (goodIn_of _ (by decide +kernel)) ggX6_who_X6_isSo
set_option maxRecDepth 20000 in
theorem ggX6_who_X6_good : GoodIn wsX6_who wsX6_good := goodIn_r _ [76, 26, 77, 78, 79, 80, 81, 82, 83, 84, 85, 86, 87, 88, 89, 90, 91, 92, 93, 94, 95] (by decide +kernel) (by decide +kernel)
set_option maxRecDepth 20000 in
theorem gX6_who_X6_good : GoodIn wsX6_who (wsV RX6 60 RX6 yX6_good wsX6_good) := goodIn_app (goodIn_of _ (by decide +kernel)) ggX6_who_X6_good
theorem dX6_who_0 : decode cX6_who 0 = .ok (.aload_n 0, 1) := by decide +kernel
theorem dX6_who_1 : decode cX6_who 1 = .ok (.iload_n 1, 1) := by decide +kernel
theorem dX6_who_2 : decode cX6_who 2 = .ok (.invokevirtual 174, 3) := by decide +kernel
theorem dX6_who_5 : decode cX6_who 5 = .ok (.ifCond .eq 44, 3) := by decide +kernel
theorem dX6_who_8 : decode cX6_who 8 = .ok (.iload_n 2, 1) := by decide +kernel
theorem dX6_who_9 : decode cX6_who 9 = .ok (.i2l, 1) := by decide +kernel
theorem dX6_who_10 : decode cX6_who 10 = .ok (.lconst 0, 1) := by decide +kernel
theorem dX6_who_11 : decode cX6_who 11 = .ok (.ldc2_w 53, 3) := by decide +kernel
theorem dX6_who_14 : decode cX6_who 14 = .ok (.invokestatic 45, 3) := by decide +kernel
theorem dX6_who_17 : decode cX6_who 17 = .ok (.ifCond .eq 32, 3) := by decide +kernel
theorem dX6_who_20 : decode cX6_who 20 = .ok (.aload_n 0, 1) := by decide +kernel
theorem dX6_who_21 : decode cX6_who 21 = .ok (.iload_n 3, 1) := by decide +kernel
theorem dX6_who_22 : decode cX6_who 22 = .ok (.invokevirtual 174, 3) := by decide +kernel
theorem dX6_who_25 : decode cX6_who 25 = .ok (.ifCond .eq 24, 3) := by decide +kernel
theorem dX6_who_28 : decode cX6_who 28 = .ok (.iload 4, 2) := by decide +kernel
theorem dX6_who_30 : decode cX6_who 30 = .ok (.invokestatic 49, 3) := by decide +kernel
theorem dX6_who_33 : decode cX6_who 33 = .ok (.ifCond .eq 16, 3) := by decide +kernel
theorem dX6_who_36 : decode cX6_who 36 = .ok (.iload 6, 2) := by decide +kernel
theorem dX6_who_38 : decode cX6_who 38 = .ok (.i2l, 1) := by decide +kernel
theorem dX6_who_39 : decode cX6_who 39 = .ok (.lconst 1, 1) := by decide +kernel
theorem dX6_who_40 : decode cX6_who 40 = .ok (.ldc2_w 208, 3) := by decide +kernel
theorem dX6_who_43 : decode cX6_who 43 = .ok (.invokestatic 45, 3) := by decide +kernel
theorem dX6_who_46 : decode cX6_who 46 = .ok (.ifCond .ne 6, 3) := by decide +kernel
theorem dX6_who_49 : decode cX6_who 49 = .ok (.ldc 55, 2) := by decide +kernel
theorem dX6_who_51 : decode cX6_who 51 = .ok (.ireturn, 1) := by decide +kernel
theorem dX6_who_52 : decode cX6_who 52 = .ok (.aload_n 0, 1) := by decide +kernel
theorem dX6_who_53 : decode cX6_who 53 = .ok (.iload 4, 2) := by decide +kernel
theorem dX6_who_55 : decode cX6_who 55 = .ok (.iload 5, 2) := by decide +kernel
theorem dX6_who_57 : decode cX6_who 57 = .ok (.iload 6, 2) := by decide +kernel
theorem dX6_who_59 : decode cX6_who 59 = .ok (.invokevirtual 210, 3) := by decide +kernel
theorem dX6_who_62 : decode cX6_who 62 = .ok (.istore 7, 2) := by decide +kernel
theorem dX6_who_64 : decode cX6_who 64 = .ok (.iload 7, 2) := by decide +kernel
theorem dX6_who_66 : decode cX6_who 66 = .ok (.ifCond .ge 6, 3) := by decide +kernel
theorem dX6_who_69 : decode cX6_who 69 = .ok (.iload 7, 2) := by decide +kernel
theorem dX6_who_71 : decode cX6_who 71 = .ok (.ireturn, 1) := by decide +kernel
theorem dX6_who_72 : decode cX6_who 72 = .ok (.iload_n 2, 1) := by decide +kernel
theorem dX6_who_73 : decode cX6_who 73 = .ok (.ifCond .ne 8, 3) := by decide +kernel
theorem dX6_who_76 : decode cX6_who 76 = .ok (.bipush 26, 2) := by decide +kernel
theorem dX6_who_78 : decode cX6_who 78 = .ok (.goto 15, 3) := by decide +kernel
theorem dX6_who_81 : decode cX6_who 81 = .ok (.iload_n 2, 1) := by decide +kernel
theorem dX6_who_82 : decode cX6_who 82 = .ok (.iconst 1, 1) := by decide +kernel
theorem dX6_who_83 : decode cX6_who 83 = .ok (.if_icmp .ne 8, 3) := by decide +kernel
theorem dX6_who_86 : decode cX6_who 86 = .ok (.bipush 11, 2) := by decide +kernel
theorem dX6_who_88 : decode cX6_who 88 = .ok (.goto 5, 3) := by decide +kernel
theorem dX6_who_91 : decode cX6_who 91 = .ok (.bipush 17, 2) := by decide +kernel
theorem dX6_who_93 : decode cX6_who 93 = .ok (.istore 8, 2) := by decide +kernel
theorem dX6_who_95 : decode cX6_who 95 = .ok (.iload_n 2, 1) := by decide +kernel
theorem dX6_who_96 : decode cX6_who 96 = .ok (.ifCond .ne 7, 3) := by decide +kernel
theorem dX6_who_99 : decode cX6_who 99 = .ok (.iconst 5, 1) := by decide +kernel
theorem dX6_who_100 : decode cX6_who 100 = .ok (.goto 22, 3) := by decide +kernel
theorem dX6_who_103 : decode cX6_who 103 = .ok (.iload_n 2, 1) := by decide +kernel
theorem dX6_who_104 : decode cX6_who 104 = .ok (.iconst 1, 1) := by decide +kernel
theorem dX6_who_105 : decode cX6_who 105 = .ok (.if_icmp .ne 15, 3) := by decide +kernel
theorem dX6_who_108 : decode cX6_who 108 = .ok (.aload_n 0, 1) := by decide +kernel
theorem dX6_who_109 : decode cX6_who 109 = .ok (.getfield 7, 3) := by decide +kernel
theorem dX6_who_112 : decode cX6_who 112 = .ok (.bipush 24, 2) := by decide +kernel
theorem dX6_who_114 : decode cX6_who 114 = .ok (.iaload, 1) := by decide +kernel
theorem dX6_who_115 : decode cX6_who 115 = .ok (.iconst 1, 1) := by decide +kernel
theorem dX6_who_116 : decode cX6_who 116 = .ok (.isub, 1) := by decide +kernel
theorem dX6_who_117 : decode cX6_who 117 = .ok (.goto 5, 3) := by decide +kernel
theorem dX6_who_120 : decode cX6_who 120 = .ok (.bipush 9, 2) := by decide +kernel
theorem dX6_who_122 : decode cX6_who 122 = .ok (.istore 9, 2) := by decide +kernel
theorem dX6_who_124 : decode cX6_who 124 = .ok (.iconst 0, 1) := by decide +kernel
theorem dX6_who_125 : decode cX6_who 125 = .ok (.istore 10, 2) := by decide +kernel
theorem dX6_who_127 : decode cX6_who 127 = .ok (.iload_n 2, 1) := by decide +kernel
theorem dX6_who_128 : decode cX6_who 128 = .ok (.iconst 1, 1) := by decide +kernel
theorem dX6_who_129 : decode cX6_who 129 = .ok (.if_icmp .ne 7, 3) := by decide +kernel
theorem dX6_who_132 : decode cX6_who 132 = .ok (.iconst 0, 1) := by decide +kernel
theorem dX6_who_133 : decode cX6_who 133 = .ok (.goto 4, 3) := by decide +kernel
theorem dX6_who_136 : decode cX6_who 136 = .ok (.iconst 1, 1) := by decide +kernel
theorem dX6_who_137 : decode cX6_who 137 = .ok (.istore 11, 2) := by decide +kernel
theorem dX6_who_139 : decode cX6_who 139 = .ok (.iload 11, 2) := by decide +kernel
theorem dX6_who_141 : decode cX6_who 141 = .ok (.iload 9, 2) := by decide +kernel
theorem dX6_who_143 : decode cX6_who 143 = .ok (.if_icmp .gt 58, 3) := by decide +kernel
theorem dX6_who_146 : decode cX6_who 146 = .ok (.aload_n 0, 1) := by decide +kernel
theorem dX6_who_147 : decode cX6_who 147 = .ok (.invokevirtual 185, 3) := by decide +kernel
theorem dX6_who_150 : decode cX6_who 150 = .ok (.aload_n 0, 1) := by decide +kernel
theorem dX6_who_151 : decode cX6_who 151 = .ok (.getfield 7, 3) := by decide +kernel
theorem dX6_who_154 : decode cX6_who 154 = .ok (.bipush 114, 2) := by decide +kernel
theorem dX6_who_156 : decode cX6_who 156 = .ok (.iload 8, 2) := by decide +kernel
theorem dX6_who_158 : decode cX6_who 158 = .ok (.iadd, 1) := by decide +kernel
theorem dX6_who_159 : decode cX6_who 159 = .ok (.iload_n 1, 1) := by decide +kernel
theorem dX6_who_160 : decode cX6_who 160 = .ok (.iadd, 1) := by decide +kernel
theorem dX6_who_161 : decode cX6_who 161 = .ok (.iload 11, 2) := by decide +kernel
theorem dX6_who_163 : decode cX6_who 163 = .ok (.iastore, 1) := by decide +kernel
theorem dX6_who_164 : decode cX6_who 164 = .ok (.iload 10, 2) := by decide +kernel
theorem dX6_who_166 : decode cX6_who 166 = .ok (.aload_n 0, 1) := by decide +kernel
theorem dX6_who_167 : decode cX6_who 167 = .ok (.iload_n 3, 1) := by decide +kernel
theorem dX6_who_168 : decode cX6_who 168 = .ok (.bipush 40, 2) := by decide +kernel
theorem dX6_who_170 : decode cX6_who 170 = .ok (.iload 4, 2) := by decide +kernel
theorem dX6_who_172 : decode cX6_who 172 = .ok (.imul, 1) := by decide +kernel
theorem dX6_who_173 : decode cX6_who 173 = .ok (.iload 5, 2) := by decide +kernel
theorem dX6_who_175 : decode cX6_who 175 = .ok (.iadd, 1) := by decide +kernel
theorem dX6_who_176 : decode cX6_who 176 = .ok (.iload 6, 2) := by decide +kernel
theorem dX6_who_178 : decode cX6_who 178 = .ok (.invokevirtual 213, 3) := by decide +kernel
theorem dX6_who_181 : decode cX6_who 181 = .ok (.ifCond .eq 10, 3) := by decide +kernel
theorem dX6_who_184 : decode cX6_who 184 = .ok (.iconst 1, 1) := by decide +kernel
theorem dX6_who_185 : decode cX6_who 185 = .ok (.iload 11, 2) := by decide +kernel
theorem dX6_who_187 : decode cX6_who 187 = .ok (.ishl, 1) := by decide +kernel
theorem dX6_who_188 : decode cX6_who 188 = .ok (.goto 4, 3) := by decide +kernel
theorem dX6_who_191 : decode cX6_who 191 = .ok (.iconst 0, 1) := by decide +kernel
theorem dX6_who_192 : decode cX6_who 192 = .ok (.ior, 1) := by decide +kernel
theorem dX6_who_193 : decode cX6_who 193 = .ok (.istore 10, 2) := by decide +kernel
theorem dX6_who_195 : decode cX6_who 195 = .ok (.iinc 11 1, 3) := by decide +kernel
theorem dX6_who_198 : decode cX6_who 198 = .ok (.goto (-59), 3) := by decide +kernel
theorem dX6_who_201 : decode cX6_who 201 = .ok (.aload_n 0, 1) := by decide +kernel
theorem dX6_who_202 : decode cX6_who 202 = .ok (.iload 10, 2) := by decide +kernel
theorem dX6_who_204 : decode cX6_who 204 = .ok (.invokevirtual 60, 3) := by decide +kernel
theorem dX6_who_207 : decode cX6_who 207 = .ok (.ireturn, 1) := by decide +kernel
set_option maxRecDepth 20000 in
theorem ggX6_which_X6_isRiver : GoodIn wsX6_which wsX6_isRiver := goodIn_r _ [9, 4, 77, 78, 79, 80, 81, 82, 83, 84, 85, 86, 87, 88, 89, 90, 91, 92, 93, 94, 95] (by decide +kernel) (by decide +kernel)
set_option maxRecDepth 20000 in
theorem gX6_which_X6_isRiver : GoodIn wsX6_which (wsV RX6 147 RX6 yX6_isRiver wsX6_isRiver) := goodIn_app (goodIn_of _ (by decide +kernel)) ggX6_which_X6_isRiver
set_option maxRecDepth 20000 in
theorem ggX6_which_X6_isRow : GoodIn wsX6_which wsX6_isRow := goodIn_r _ [12, 13, 14, 15, 8, 16] (by decide +kernel) (by decide +kernel)
set_option maxRecDepth 20000 in
theorem gX6_which_X6_isRow : GoodIn wsX6_which (va_wsS RX6 49 yX6_isRow wsX6_isRow) := goodIn_app (goodIn_of _ (by decide +kernel)) ggX6_which_X6_isRow
set_option maxRecDepth 20000 in
theorem ggX6_which_X6_in : GoodIn wsX6_which wsX6_in := goodIn_r _ [16] (by decide +kernel) (by decide +kernel)
set_option maxRecDepth 20000 in
theorem gX6_which_X6_in : GoodIn wsX6_which (va_wsS RX6 45 yX6_in wsX6_in) := goodIn_app (goodIn_of _ (by decide +kernel)) ggX6_which_X6_in
set_option maxRecDepth 20000 in
theorem ggX6_which_X6_against : GoodIn wsX6_which wsX6_against := goodIn_r _ [20, 21, 22, 23, 24, 8, 25, 26, 27, 28, 29, 30, 77, 78, 79, 80, 81, 82, 83, 84, 85, 86, 87, 88, 89, 90, 91, 92, 93, 94, 95] (by decide +kernel) (by decide +kernel)
set_option maxRecDepth 20000 in
theorem gX6_which_X6_against : GoodIn wsX6_which (wsV RX6 210 RX6 yX6_against wsX6_against) := goodIn_app (goodIn_of _ (by decide +kernel)) ggX6_which_X6_against
set_option maxRecDepth 20000 in
theorem ggX6_which_X6_tries : GoodIn wsX6_which wsX6_tries := goodIn_r _ [34, 35, 36, 37, 8, 38, 4, 77, 78, 79, 80, 81, 82, 83, 84, 85, 86, 87, 88, 89, 90, 91, 92, 93, 94, 95] (by decide +kernel) (by decide +kernel)
set_option maxRecDepth 20000 in
theorem gX6_which_X6_tries : GoodIn wsX6_which (wsV RX6 185 RX6 yX6_tries wsX6_tries) := goodIn_app (goodIn_of _ (by decide +kernel)) ggX6_which_X6_tries
set_option maxRecDepth 20000 in
theorem ggX6_which_X6_isSo : GoodIn wsX6_which wsX6_isSo := goodIn_r _ [42, 4, 43, 44, 45, 46, 8, 47, 48, 49, 50, 51, 52, 53, 54, 55, 56, 57, 58, 59, 60, 61, 62, 63, 64, 65, 14, 15, 16, 66, 67, 68, 69, 70, 71, 72, 77, 78, 79, 80, 81, 82, 83, 84, 85, 86, 87, 88, 89, 90, 91, 92, 93, 94, 95] (by decide +kernel) (by decide +kernel)
set_option maxRecDepth 20000 in
theorem gX6_which_X6_isSo : GoodIn wsX6_which (wsV RX6 213 RX6 yX6_isSo wsX6_isSo) := goodIn_app (goodIn_of _ (by decide +kernel)) ggX6_which_X6_isSo
set_option maxRecDepth 20000 in
theorem ggX6_which_X6_good : GoodIn wsX6_which wsX6_good := goodIn_r _ [76, 26, 77, 78, 79, 80, 81, 82, 83, 84, 85, 86, 87, 88, 89, 90, 91, 92, 93, 94, 95] (by decide +kernel) (by decide +kernel)
set_option maxRecDepth 20000 in
theorem gX6_which_X6_good : GoodIn wsX6_which (wsV RX6 60 RX6 yX6_good wsX6_good) := goodIn_app (goodIn_of _ (by decide +kernel)) ggX6_which_X6_good
theorem dX6_which_0 : decode cX6_which 0 = .ok (.aload_n 0, 1) := by decide +kernel
theorem dX6_which_1 : decode cX6_which 1 = .ok (.invokevirtual 147, 3) := by decide +kernel
theorem dX6_which_4 : decode cX6_which 4 = .ok (.ifCond .ne 6, 3) := by decide +kernel
theorem dX6_which_7 : decode cX6_which 7 = .ok (.ldc 146, 2) := by decide +kernel
theorem dX6_which_9 : decode cX6_which 9 = .ok (.ireturn, 1) := by decide +kernel
theorem dX6_which_10 : decode cX6_which 10 = .ok (.iload_n 1, 1) := by decide +kernel
theorem dX6_which_11 : decode cX6_which 11 = .ok (.invokestatic 49, 3) := by decide +kernel
theorem dX6_which_14 : decode cX6_which 14 = .ok (.ifCond .eq 15, 3) := by decide +kernel
theorem dX6_which_17 : decode cX6_which 17 = .ok (.iload_n 3, 1) := by decide +kernel
theorem dX6_which_18 : decode cX6_which 18 = .ok (.i2l, 1) := by decide +kernel
theorem dX6_which_19 : decode cX6_which 19 = .ok (.lconst 1, 1) := by decide +kernel
theorem dX6_which_20 : decode cX6_which 20 = .ok (.ldc2_w 208, 3) := by decide +kernel
theorem dX6_which_23 : decode cX6_which 23 = .ok (.invokestatic 45, 3) := by decide +kernel
theorem dX6_which_26 : decode cX6_which 26 = .ok (.ifCond .ne 6, 3) := by decide +kernel
theorem dX6_which_29 : decode cX6_which 29 = .ok (.ldc 55, 2) := by decide +kernel
theorem dX6_which_31 : decode cX6_which 31 = .ok (.ireturn, 1) := by decide +kernel
theorem dX6_which_32 : decode cX6_which 32 = .ok (.aload_n 0, 1) := by decide +kernel
theorem dX6_which_33 : decode cX6_which 33 = .ok (.iload_n 1, 1) := by decide +kernel
theorem dX6_which_34 : decode cX6_which 34 = .ok (.iload_n 2, 1) := by decide +kernel
theorem dX6_which_35 : decode cX6_which 35 = .ok (.iload_n 3, 1) := by decide +kernel
theorem dX6_which_36 : decode cX6_which 36 = .ok (.invokevirtual 210, 3) := by decide +kernel
theorem dX6_which_39 : decode cX6_which 39 = .ok (.istore 4, 2) := by decide +kernel
theorem dX6_which_41 : decode cX6_which 41 = .ok (.iload 4, 2) := by decide +kernel
theorem dX6_which_43 : decode cX6_which 43 = .ok (.ifCond .ge 6, 3) := by decide +kernel
theorem dX6_which_46 : decode cX6_which 46 = .ok (.iload 4, 2) := by decide +kernel
theorem dX6_which_48 : decode cX6_which 48 = .ok (.ireturn, 1) := by decide +kernel
theorem dX6_which_49 : decode cX6_which 49 = .ok (.iconst 0, 1) := by decide +kernel
theorem dX6_which_50 : decode cX6_which 50 = .ok (.istore 5, 2) := by decide +kernel
theorem dX6_which_52 : decode cX6_which 52 = .ok (.iconst 0, 1) := by decide +kernel
theorem dX6_which_53 : decode cX6_which 53 = .ok (.istore 6, 2) := by decide +kernel
theorem dX6_which_55 : decode cX6_which 55 = .ok (.iload 6, 2) := by decide +kernel
theorem dX6_which_57 : decode cX6_which 57 = .ok (.aload_n 0, 1) := by decide +kernel
theorem dX6_which_58 : decode cX6_which 58 = .ok (.getfield 7, 3) := by decide +kernel
theorem dX6_which_61 : decode cX6_which 61 = .ok (.bipush 25, 2) := by decide +kernel
theorem dX6_which_63 : decode cX6_which 63 = .ok (.iaload, 1) := by decide +kernel
theorem dX6_which_64 : decode cX6_which 64 = .ok (.if_icmp .ge 42, 3) := by decide +kernel
theorem dX6_which_67 : decode cX6_which 67 = .ok (.aload_n 0, 1) := by decide +kernel
theorem dX6_which_68 : decode cX6_which 68 = .ok (.invokevirtual 185, 3) := by decide +kernel
theorem dX6_which_71 : decode cX6_which 71 = .ok (.iload 5, 2) := by decide +kernel
theorem dX6_which_73 : decode cX6_which 73 = .ok (.aload_n 0, 1) := by decide +kernel
theorem dX6_which_74 : decode cX6_which 74 = .ok (.iload 6, 2) := by decide +kernel
theorem dX6_which_76 : decode cX6_which 76 = .ok (.bipush 40, 2) := by decide +kernel
theorem dX6_which_78 : decode cX6_which 78 = .ok (.iload_n 1, 1) := by decide +kernel
theorem dX6_which_79 : decode cX6_which 79 = .ok (.imul, 1) := by decide +kernel
theorem dX6_which_80 : decode cX6_which 80 = .ok (.iload_n 2, 1) := by decide +kernel
theorem dX6_which_81 : decode cX6_which 81 = .ok (.iadd, 1) := by decide +kernel
theorem dX6_which_82 : decode cX6_which 82 = .ok (.iload_n 3, 1) := by decide +kernel
theorem dX6_which_83 : decode cX6_which 83 = .ok (.invokevirtual 213, 3) := by decide +kernel
theorem dX6_which_86 : decode cX6_which 86 = .ok (.ifCond .eq 10, 3) := by decide +kernel
theorem dX6_which_89 : decode cX6_which 89 = .ok (.iconst 1, 1) := by decide +kernel
theorem dX6_which_90 : decode cX6_which 90 = .ok (.iload 6, 2) := by decide +kernel
theorem dX6_which_92 : decode cX6_which 92 = .ok (.ishl, 1) := by decide +kernel
theorem dX6_which_93 : decode cX6_which 93 = .ok (.goto 4, 3) := by decide +kernel
theorem dX6_which_96 : decode cX6_which 96 = .ok (.iconst 0, 1) := by decide +kernel
theorem dX6_which_97 : decode cX6_which 97 = .ok (.ior, 1) := by decide +kernel
theorem dX6_which_98 : decode cX6_which 98 = .ok (.istore 5, 2) := by decide +kernel
theorem dX6_which_100 : decode cX6_which 100 = .ok (.iinc 6 1, 3) := by decide +kernel
theorem dX6_which_103 : decode cX6_which 103 = .ok (.goto (-48), 3) := by decide +kernel
theorem dX6_which_106 : decode cX6_which 106 = .ok (.aload_n 0, 1) := by decide +kernel
theorem dX6_which_107 : decode cX6_which 107 = .ok (.iload 5, 2) := by decide +kernel
theorem dX6_which_109 : decode cX6_which 109 = .ok (.invokevirtual 60, 3) := by decide +kernel
theorem dX6_which_112 : decode cX6_which 112 = .ok (.ireturn, 1) := by decide +kernel
set_option maxRecDepth 20000 in
theorem ggX6_hungry_X6_isRiver : GoodIn wsX6_hungry wsX6_isRiver := goodIn_r _ [9, 4, 53, 54, 55, 56, 57, 58, 59, 60, 61, 62, 63, 64, 65, 66, 67, 68, 69, 70, 71] (by decide +kernel) (by decide +kernel)
set_option maxRecDepth 20000 in
theorem gX6_hungry_X6_isRiver : GoodIn wsX6_hungry (wsV RX6 147 RX6 yX6_isRiver wsX6_isRiver) := goodIn_app (goodIn_of _ (by decide +kernel)) ggX6_hungry_X6_isRiver
set_option maxRecDepth 20000 in
theorem ggX6_hungry_X6_isSpan : GoodIn wsX6_hungry wsX6_isSpan := goodIn_r _ [12, 13, 14, 15, 8, 16] (by decide +kernel) (by decide +kernel)
set_option maxRecDepth 20000 in
theorem gX6_hungry_X6_isSpan : GoodIn wsX6_hungry (va_wsS RX6 188 yX6_isSpan wsX6_isSpan) := goodIn_app (goodIn_of _ (by decide +kernel)) ggX6_hungry_X6_isSpan
set_option maxRecDepth 20000 in
theorem ggX6_hungry_X6_tries : GoodIn wsX6_hungry wsX6_tries := goodIn_r _ [20, 21, 22, 23, 8, 24, 4, 53, 54, 55, 56, 57, 58, 59, 60, 61, 62, 63, 64, 65, 66, 67, 68, 69, 70, 71] (by decide +kernel) (by decide +kernel)
set_option maxRecDepth 20000 in
theorem gX6_hungry_X6_tries : GoodIn wsX6_hungry (wsV RX6 185 RX6 yX6_tries wsX6_tries) := goodIn_app (goodIn_of _ (by decide +kernel)) ggX6_hungry_X6_tries
set_option maxRecDepth 20000 in
theorem ggX6_hungry_X6_passes : GoodIn wsX6_hungry wsX6_passes := goodIn_r _ [28, 3, 29, 4, 30, 31, 32, 8, 33, 34, 35, 36, 37, 38, 39, 40, 41, 42, 43, 44, 45, 14, 15, 16, 46, 47, 48, 49, 50, 51, 52, 53, 54, 55, 56, 57, 58, 59, 60, 61, 62, 63, 64, 65, 66, 67, 68, 69, 70, 71] (by decide +kernel) (by decide +kernel)
set_option maxRecDepth 20000 in
theorem gX6_hungry_X6_passes : GoodIn wsX6_hungry (wsV RX6 155 RX6 yX6_passes wsX6_passes) := goodIn_app (goodIn_of _ (by decide +kernel)) ggX6_hungry_X6_passes
theorem dX6_hungry_0 : decode cX6_hungry 0 = .ok (.aload_n 0, 1) := by decide +kernel
theorem dX6_hungry_1 : decode cX6_hungry 1 = .ok (.invokevirtual 147, 3) := by decide +kernel
theorem dX6_hungry_4 : decode cX6_hungry 4 = .ok (.ifCond .ne 6, 3) := by decide +kernel
theorem dX6_hungry_7 : decode cX6_hungry 7 = .ok (.ldc 146, 2) := by decide +kernel
theorem dX6_hungry_9 : decode cX6_hungry 9 = .ok (.ireturn, 1) := by decide +kernel
theorem dX6_hungry_10 : decode cX6_hungry 10 = .ok (.iload_n 1, 1) := by decide +kernel
theorem dX6_hungry_11 : decode cX6_hungry 11 = .ok (.iconst 1, 1) := by decide +kernel
theorem dX6_hungry_12 : decode cX6_hungry 12 = .ok (.invokestatic 188, 3) := by decide +kernel
theorem dX6_hungry_15 : decode cX6_hungry 15 = .ok (.ifCond .ne 6, 3) := by decide +kernel
theorem dX6_hungry_18 : decode cX6_hungry 18 = .ok (.ldc 55, 2) := by decide +kernel
theorem dX6_hungry_20 : decode cX6_hungry 20 = .ok (.ireturn, 1) := by decide +kernel
theorem dX6_hungry_21 : decode cX6_hungry 21 = .ok (.aload_n 0, 1) := by decide +kernel
theorem dX6_hungry_22 : decode cX6_hungry 22 = .ok (.invokevirtual 185, 3) := by decide +kernel
theorem dX6_hungry_25 : decode cX6_hungry 25 = .ok (.iconst 0, 1) := by decide +kernel
theorem dX6_hungry_26 : decode cX6_hungry 26 = .ok (.istore_n 2, 1) := by decide +kernel
theorem dX6_hungry_27 : decode cX6_hungry 27 = .ok (.iconst 0, 1) := by decide +kernel
theorem dX6_hungry_28 : decode cX6_hungry 28 = .ok (.istore_n 3, 1) := by decide +kernel
theorem dX6_hungry_29 : decode cX6_hungry 29 = .ok (.iload_n 3, 1) := by decide +kernel
theorem dX6_hungry_30 : decode cX6_hungry 30 = .ok (.iload_n 1, 1) := by decide +kernel
theorem dX6_hungry_31 : decode cX6_hungry 31 = .ok (.if_icmp .ge 22, 3) := by decide +kernel
theorem dX6_hungry_34 : decode cX6_hungry 34 = .ok (.aload_n 0, 1) := by decide +kernel
theorem dX6_hungry_35 : decode cX6_hungry 35 = .ok (.bipush 114, 2) := by decide +kernel
theorem dX6_hungry_37 : decode cX6_hungry 37 = .ok (.invokevirtual 155, 3) := by decide +kernel
theorem dX6_hungry_40 : decode cX6_hungry 40 = .ok (.iload_n 2, 1) := by decide +kernel
theorem dX6_hungry_41 : decode cX6_hungry 41 = .ok (.aload_n 0, 1) := by decide +kernel
theorem dX6_hungry_42 : decode cX6_hungry 42 = .ok (.getfield 136, 3) := by decide +kernel
theorem dX6_hungry_45 : decode cX6_hungry 45 = .ok (.ior, 1) := by decide +kernel
theorem dX6_hungry_46 : decode cX6_hungry 46 = .ok (.istore_n 2, 1) := by decide +kernel
theorem dX6_hungry_47 : decode cX6_hungry 47 = .ok (.iinc 3 1, 3) := by decide +kernel
theorem dX6_hungry_50 : decode cX6_hungry 50 = .ok (.goto (-21), 3) := by decide +kernel
theorem dX6_hungry_53 : decode cX6_hungry 53 = .ok (.iconst 1, 1) := by decide +kernel
theorem dX6_hungry_54 : decode cX6_hungry 54 = .ok (.aload_n 0, 1) := by decide +kernel
theorem dX6_hungry_55 : decode cX6_hungry 55 = .ok (.getfield 7, 3) := by decide +kernel
theorem dX6_hungry_58 : decode cX6_hungry 58 = .ok (.bipush 25, 2) := by decide +kernel
theorem dX6_hungry_60 : decode cX6_hungry 60 = .ok (.iaload, 1) := by decide +kernel
theorem dX6_hungry_61 : decode cX6_hungry 61 = .ok (.ishl, 1) := by decide +kernel
theorem dX6_hungry_62 : decode cX6_hungry 62 = .ok (.iconst 1, 1) := by decide +kernel
theorem dX6_hungry_63 : decode cX6_hungry 63 = .ok (.isub, 1) := by decide +kernel
theorem dX6_hungry_64 : decode cX6_hungry 64 = .ok (.iload_n 2, 1) := by decide +kernel
theorem dX6_hungry_65 : decode cX6_hungry 65 = .ok (.iconst (-1), 1) := by decide +kernel
theorem dX6_hungry_66 : decode cX6_hungry 66 = .ok (.ixor, 1) := by decide +kernel
theorem dX6_hungry_67 : decode cX6_hungry 67 = .ok (.iand, 1) := by decide +kernel
theorem dX6_hungry_68 : decode cX6_hungry 68 = .ok (.ireturn, 1) := by decide +kernel
set_option maxRecDepth 20000 in
theorem ggX6_sink_X6_isSwan : GoodIn wsX6_sink wsX6_isSwan := goodIn_r _ [8, 3, 9, 10, 7, 11, 53, 54, 55, 56, 57, 58, 59, 60, 61, 62, 63, 64, 65, 66, 67, 68, 69, 70, 71] (by decide +kernel) (by decide +kernel)
set_option maxRecDepth 20000 in
theorem gX6_sink_X6_isSwan : GoodIn wsX6_sink (wsV RX6 174 RX6 yX6_isSwan wsX6_isSwan) := goodIn_app (goodIn_of _ (by decide +kernel)) ggX6_sink_X6_isSwan
set_option maxRecDepth 20000 in
theorem ggX6_sink_X6_isLawn : GoodIn wsX6_sink wsX6_isLawn := goodIn_r _ [15, 3, 9, 10, 7, 11, 53, 54, 55, 56, 57, 58, 59, 60, 61, 62, 63, 64, 65, 66, 67, 68, 69, 70, 71] (by decide +kernel) (by decide +kernel)
set_option maxRecDepth 20000 in
theorem gX6_sink_X6_isLawn : GoodIn wsX6_sink (wsV RX6 165 RX6 yX6_isLawn wsX6_isLawn) := goodIn_app (goodIn_of _ (by decide +kernel)) ggX6_sink_X6_isLawn
set_option maxRecDepth 20000 in
theorem ggX6_sink_X6_in : GoodIn wsX6_sink wsX6_in := goodIn_r _ [11] (by decide +kernel) (by decide +kernel)
set_option maxRecDepth 20000 in
theorem gX6_sink_X6_in : GoodIn wsX6_sink (va_wsS RX6 45 yX6_in wsX6_in) := goodIn_app (goodIn_of _ (by decide +kernel)) ggX6_sink_X6_in
set_option maxRecDepth 20000 in
theorem ggX6_sink_X6_tries : GoodIn wsX6_sink wsX6_tries := goodIn_r _ [19, 20, 21, 22, 7, 23, 3, 53, 54, 55, 56, 57, 58, 59, 60, 61, 62, 63, 64, 65, 66, 67, 68, 69, 70, 71] (by decide +kernel) (by decide +kernel)
set_option maxRecDepth 20000 in
theorem gX6_sink_X6_tries : GoodIn wsX6_sink (wsV RX6 185 RX6 yX6_tries wsX6_tries) := goodIn_app (goodIn_of _ (by decide +kernel)) ggX6_sink_X6_tries
set_option maxRecDepth 20000 in
theorem ggX6_sink_X6_has : GoodIn wsX6_sink wsX6_has := goodIn_r _ [26] (by decide +kernel) (by decide +kernel)
set_option maxRecDepth 20000 in
theorem gX6_sink_X6_has : GoodIn wsX6_sink (va_wsS RX6 120 yX6_has wsX6_has) := goodIn_app (goodIn_of _ (by decide +kernel)) ggX6_sink_X6_has
set_option maxRecDepth 20000 in
theorem ggX6_sink_X6_passes : GoodIn wsX6_sink wsX6_passes := goodIn_r _ [30, 31, 32, 3, 33, 34, 35, 7, 36, 37, 38, 39, 40, 41, 42, 43, 44, 45, 46, 47, 48, 9, 10, 11, 24, 25, 26, 49, 50, 51, 52, 53, 54, 55, 56, 57, 58, 59, 60, 61, 62, 63, 64, 65, 66, 67, 68, 69, 70, 71] (by decide +kernel) (by decide +kernel)
set_option maxRecDepth 20000 in
theorem gX6_sink_X6_passes : GoodIn wsX6_sink (wsV RX6 155 RX6 yX6_passes wsX6_passes) := goodIn_app (goodIn_of _ (by decide +kernel)) ggX6_sink_X6_passes
theorem dX6_sink_0 : decode cX6_sink 0 = .ok (.aload_n 0, 1) := by decide +kernel
theorem dX6_sink_1 : decode cX6_sink 1 = .ok (.iload_n 1, 1) := by decide +kernel
theorem dX6_sink_2 : decode cX6_sink 2 = .ok (.invokevirtual 174, 3) := by decide +kernel
theorem dX6_sink_5 : decode cX6_sink 5 = .ok (.ifCond .eq 34, 3) := by decide +kernel
theorem dX6_sink_8 : decode cX6_sink 8 = .ok (.aload_n 0, 1) := by decide +kernel
theorem dX6_sink_9 : decode cX6_sink 9 = .ok (.iload_n 2, 1) := by decide +kernel
theorem dX6_sink_10 : decode cX6_sink 10 = .ok (.invokevirtual 165, 3) := by decide +kernel
theorem dX6_sink_13 : decode cX6_sink 13 = .ok (.ifCond .eq 26, 3) := by decide +kernel
theorem dX6_sink_16 : decode cX6_sink 16 = .ok (.iload_n 3, 1) := by decide +kernel
theorem dX6_sink_17 : decode cX6_sink 17 = .ok (.i2l, 1) := by decide +kernel
theorem dX6_sink_18 : decode cX6_sink 18 = .ok (.lconst 0, 1) := by decide +kernel
theorem dX6_sink_19 : decode cX6_sink 19 = .ok (.ldc2_w 216, 3) := by decide +kernel
theorem dX6_sink_22 : decode cX6_sink 22 = .ok (.invokestatic 45, 3) := by decide +kernel
theorem dX6_sink_25 : decode cX6_sink 25 = .ok (.ifCond .eq 14, 3) := by decide +kernel
theorem dX6_sink_28 : decode cX6_sink 28 = .ok (.iload 4, 2) := by decide +kernel
theorem dX6_sink_30 : decode cX6_sink 30 = .ok (.i2l, 1) := by decide +kernel
theorem dX6_sink_31 : decode cX6_sink 31 = .ok (.lconst 0, 1) := by decide +kernel
theorem dX6_sink_32 : decode cX6_sink 32 = .ok (.lconst 1, 1) := by decide +kernel
theorem dX6_sink_33 : decode cX6_sink 33 = .ok (.invokestatic 45, 3) := by decide +kernel
theorem dX6_sink_36 : decode cX6_sink 36 = .ok (.ifCond .ne 7, 3) := by decide +kernel
theorem dX6_sink_39 : decode cX6_sink 39 = .ok (.ldc2_w 218, 3) := by decide +kernel
theorem dX6_sink_42 : decode cX6_sink 42 = .ok (.lreturn, 1) := by decide +kernel
theorem dX6_sink_43 : decode cX6_sink 43 = .ok (.lconst 0, 1) := by decide +kernel
theorem dX6_sink_44 : decode cX6_sink 44 = .ok (.lstore 5, 2) := by decide +kernel
theorem dX6_sink_46 : decode cX6_sink 46 = .ok (.lconst 1, 1) := by decide +kernel
theorem dX6_sink_47 : decode cX6_sink 47 = .ok (.lstore 7, 2) := by decide +kernel
theorem dX6_sink_49 : decode cX6_sink 49 = .ok (.iconst 0, 1) := by decide +kernel
theorem dX6_sink_50 : decode cX6_sink 50 = .ok (.istore 9, 2) := by decide +kernel
theorem dX6_sink_52 : decode cX6_sink 52 = .ok (.iload 9, 2) := by decide +kernel
theorem dX6_sink_54 : decode cX6_sink 54 = .ok (.aload_n 0, 1) := by decide +kernel
theorem dX6_sink_55 : decode cX6_sink 55 = .ok (.getfield 7, 3) := by decide +kernel
theorem dX6_sink_58 : decode cX6_sink 58 = .ok (.bipush 24, 2) := by decide +kernel
theorem dX6_sink_60 : decode cX6_sink 60 = .ok (.iaload, 1) := by decide +kernel
theorem dX6_sink_61 : decode cX6_sink 61 = .ok (.if_icmp .ge 33, 3) := by decide +kernel
theorem dX6_sink_64 : decode cX6_sink 64 = .ok (.lload 7, 2) := by decide +kernel
theorem dX6_sink_66 : decode cX6_sink 66 = .ok (.aload_n 0, 1) := by decide +kernel
theorem dX6_sink_67 : decode cX6_sink 67 = .ok (.getfield 7, 3) := by decide +kernel
theorem dX6_sink_70 : decode cX6_sink 70 = .ok (.iconst 1, 1) := by decide +kernel
theorem dX6_sink_71 : decode cX6_sink 71 = .ok (.iload 9, 2) := by decide +kernel
theorem dX6_sink_73 : decode cX6_sink 73 = .ok (.iadd, 1) := by decide +kernel
theorem dX6_sink_74 : decode cX6_sink 74 = .ok (.iaload, 1) := by decide +kernel
theorem dX6_sink_75 : decode cX6_sink 75 = .ok (.ifCond .le 9, 3) := by decide +kernel
theorem dX6_sink_78 : decode cX6_sink 78 = .ok (.ldc2_w 216, 3) := by decide +kernel
theorem dX6_sink_81 : decode cX6_sink 81 = .ok (.goto 4, 3) := by decide +kernel
theorem dX6_sink_84 : decode cX6_sink 84 = .ok (.lconst 1, 1) := by decide +kernel
theorem dX6_sink_85 : decode cX6_sink 85 = .ok (.lmul, 1) := by decide +kernel
theorem dX6_sink_86 : decode cX6_sink 86 = .ok (.lstore 7, 2) := by decide +kernel
theorem dX6_sink_88 : decode cX6_sink 88 = .ok (.iinc 9 1, 3) := by decide +kernel
theorem dX6_sink_91 : decode cX6_sink 91 = .ok (.goto (-39), 3) := by decide +kernel
theorem dX6_sink_94 : decode cX6_sink 94 = .ok (.iconst 0, 1) := by decide +kernel
theorem dX6_sink_95 : decode cX6_sink 95 = .ok (.istore 9, 2) := by decide +kernel
theorem dX6_sink_97 : decode cX6_sink 97 = .ok (.iload 9, 2) := by decide +kernel
theorem dX6_sink_99 : decode cX6_sink 99 = .ok (.iconst 1, 1) := by decide +kernel
theorem dX6_sink_100 : decode cX6_sink 100 = .ok (.aload_n 0, 1) := by decide +kernel
theorem dX6_sink_101 : decode cX6_sink 101 = .ok (.getfield 7, 3) := by decide +kernel
theorem dX6_sink_104 : decode cX6_sink 104 = .ok (.bipush 24, 2) := by decide +kernel
theorem dX6_sink_106 : decode cX6_sink 106 = .ok (.iaload, 1) := by decide +kernel
theorem dX6_sink_107 : decode cX6_sink 107 = .ok (.ishl, 1) := by decide +kernel
theorem dX6_sink_108 : decode cX6_sink 108 = .ok (.if_icmp .ge 174, 3) := by decide +kernel
theorem dX6_sink_111 : decode cX6_sink 111 = .ok (.lconst 1, 1) := by decide +kernel
theorem dX6_sink_112 : decode cX6_sink 112 = .ok (.lstore 10, 2) := by decide +kernel
theorem dX6_sink_114 : decode cX6_sink 114 = .ok (.aload_n 0, 1) := by decide +kernel
theorem dX6_sink_115 : decode cX6_sink 115 = .ok (.invokevirtual 185, 3) := by decide +kernel
theorem dX6_sink_118 : decode cX6_sink 118 = .ok (.iconst 0, 1) := by decide +kernel
theorem dX6_sink_119 : decode cX6_sink 119 = .ok (.istore 12, 2) := by decide +kernel
theorem dX6_sink_121 : decode cX6_sink 121 = .ok (.iload 12, 2) := by decide +kernel
theorem dX6_sink_123 : decode cX6_sink 123 = .ok (.aload_n 0, 1) := by decide +kernel
theorem dX6_sink_124 : decode cX6_sink 124 = .ok (.getfield 7, 3) := by decide +kernel
theorem dX6_sink_127 : decode cX6_sink 127 = .ok (.bipush 24, 2) := by decide +kernel
theorem dX6_sink_129 : decode cX6_sink 129 = .ok (.iaload, 1) := by decide +kernel
theorem dX6_sink_130 : decode cX6_sink 130 = .ok (.if_icmp .ge 109, 3) := by decide +kernel
theorem dX6_sink_133 : decode cX6_sink 133 = .ok (.aload_n 0, 1) := by decide +kernel
theorem dX6_sink_134 : decode cX6_sink 134 = .ok (.getfield 7, 3) := by decide +kernel
theorem dX6_sink_137 : decode cX6_sink 137 = .ok (.iconst 1, 1) := by decide +kernel
theorem dX6_sink_138 : decode cX6_sink 138 = .ok (.iload 12, 2) := by decide +kernel
theorem dX6_sink_140 : decode cX6_sink 140 = .ok (.iadd, 1) := by decide +kernel
theorem dX6_sink_141 : decode cX6_sink 141 = .ok (.iaload, 1) := by decide +kernel
theorem dX6_sink_142 : decode cX6_sink 142 = .ok (.ifCond .le 7, 3) := by decide +kernel
theorem dX6_sink_145 : decode cX6_sink 145 = .ok (.iconst 1, 1) := by decide +kernel
theorem dX6_sink_146 : decode cX6_sink 146 = .ok (.goto 4, 3) := by decide +kernel
theorem dX6_sink_149 : decode cX6_sink 149 = .ok (.iconst 0, 1) := by decide +kernel
theorem dX6_sink_150 : decode cX6_sink 150 = .ok (.istore 13, 2) := by decide +kernel
theorem dX6_sink_152 : decode cX6_sink 152 = .ok (.lload 10, 2) := by decide +kernel
theorem dX6_sink_154 : decode cX6_sink 154 = .ok (.iload 13, 2) := by decide +kernel
theorem dX6_sink_156 : decode cX6_sink 156 = .ok (.ifCond .eq 26, 3) := by decide +kernel
theorem dX6_sink_159 : decode cX6_sink 159 = .ok (.iload 9, 2) := by decide +kernel
theorem dX6_sink_161 : decode cX6_sink 161 = .ok (.iload 12, 2) := by decide +kernel
theorem dX6_sink_163 : decode cX6_sink 163 = .ok (.invokestatic 120, 3) := by decide +kernel
theorem dX6_sink_166 : decode cX6_sink 166 = .ok (.ifCond .eq 8, 3) := by decide +kernel
theorem dX6_sink_169 : decode cX6_sink 169 = .ok (.iload_n 3, 1) := by decide +kernel
theorem dX6_sink_170 : decode cX6_sink 170 = .ok (.i2l, 1) := by decide +kernel
theorem dX6_sink_171 : decode cX6_sink 171 = .ok (.goto 26, 3) := by decide +kernel
theorem dX6_sink_174 : decode cX6_sink 174 = .ok (.bipush 10, 2) := by decide +kernel
theorem dX6_sink_176 : decode cX6_sink 176 = .ok (.iload_n 3, 1) := by decide +kernel
theorem dX6_sink_177 : decode cX6_sink 177 = .ok (.isub, 1) := by decide +kernel
theorem dX6_sink_178 : decode cX6_sink 178 = .ok (.i2l, 1) := by decide +kernel
theorem dX6_sink_179 : decode cX6_sink 179 = .ok (.goto 18, 3) := by decide +kernel
theorem dX6_sink_182 : decode cX6_sink 182 = .ok (.iload 9, 2) := by decide +kernel
theorem dX6_sink_184 : decode cX6_sink 184 = .ok (.iload 12, 2) := by decide +kernel
theorem dX6_sink_186 : decode cX6_sink 186 = .ok (.invokestatic 120, 3) := by decide +kernel
theorem dX6_sink_189 : decode cX6_sink 189 = .ok (.ifCond .eq 7, 3) := by decide +kernel
theorem dX6_sink_192 : decode cX6_sink 192 = .ok (.lconst 0, 1) := by decide +kernel
theorem dX6_sink_193 : decode cX6_sink 193 = .ok (.goto 4, 3) := by decide +kernel
theorem dX6_sink_196 : decode cX6_sink 196 = .ok (.lconst 1, 1) := by decide +kernel
theorem dX6_sink_197 : decode cX6_sink 197 = .ok (.lmul, 1) := by decide +kernel
theorem dX6_sink_198 : decode cX6_sink 198 = .ok (.lstore 10, 2) := by decide +kernel
theorem dX6_sink_200 : decode cX6_sink 200 = .ok (.aload_n 0, 1) := by decide +kernel
theorem dX6_sink_201 : decode cX6_sink 201 = .ok (.getfield 7, 3) := by decide +kernel
theorem dX6_sink_204 : decode cX6_sink 204 = .ok (.bipush 115, 2) := by decide +kernel
theorem dX6_sink_206 : decode cX6_sink 206 = .ok (.iload 12, 2) := by decide +kernel
theorem dX6_sink_208 : decode cX6_sink 208 = .ok (.iadd, 1) := by decide +kernel
theorem dX6_sink_209 : decode cX6_sink 209 = .ok (.iload 9, 2) := by decide +kernel
theorem dX6_sink_211 : decode cX6_sink 211 = .ok (.iload 12, 2) := by decide +kernel
theorem dX6_sink_213 : decode cX6_sink 213 = .ok (.invokestatic 120, 3) := by decide +kernel
theorem dX6_sink_216 : decode cX6_sink 216 = .ok (.ifCond .eq 7, 3) := by decide +kernel
theorem dX6_sink_219 : decode cX6_sink 219 = .ok (.iconst 0, 1) := by decide +kernel
theorem dX6_sink_220 : decode cX6_sink 220 = .ok (.goto 12, 3) := by decide +kernel
theorem dX6_sink_223 : decode cX6_sink 223 = .ok (.aload_n 0, 1) := by decide +kernel
theorem dX6_sink_224 : decode cX6_sink 224 = .ok (.getfield 7, 3) := by decide +kernel
theorem dX6_sink_227 : decode cX6_sink 227 = .ok (.iconst 1, 1) := by decide +kernel
theorem dX6_sink_228 : decode cX6_sink 228 = .ok (.iload 12, 2) := by decide +kernel
theorem dX6_sink_230 : decode cX6_sink 230 = .ok (.iadd, 1) := by decide +kernel
theorem dX6_sink_231 : decode cX6_sink 231 = .ok (.iaload, 1) := by decide +kernel
theorem dX6_sink_232 : decode cX6_sink 232 = .ok (.iastore, 1) := by decide +kernel
theorem dX6_sink_233 : decode cX6_sink 233 = .ok (.iinc 12 1, 3) := by decide +kernel
theorem dX6_sink_236 : decode cX6_sink 236 = .ok (.goto (-115), 3) := by decide +kernel
theorem dX6_sink_239 : decode cX6_sink 239 = .ok (.lload 10, 2) := by decide +kernel
theorem dX6_sink_241 : decode cX6_sink 241 = .ok (.lconst 0, 1) := by decide +kernel
theorem dX6_sink_242 : decode cX6_sink 242 = .ok (.lcmp, 1) := by decide +kernel
theorem dX6_sink_243 : decode cX6_sink 243 = .ok (.ifCond .le 33, 3) := by decide +kernel
theorem dX6_sink_246 : decode cX6_sink 246 = .ok (.aload_n 0, 1) := by decide +kernel
theorem dX6_sink_247 : decode cX6_sink 247 = .ok (.bipush 114, 2) := by decide +kernel
theorem dX6_sink_249 : decode cX6_sink 249 = .ok (.invokevirtual 155, 3) := by decide +kernel
theorem dX6_sink_252 : decode cX6_sink 252 = .ok (.lload 5, 2) := by decide +kernel
theorem dX6_sink_254 : decode cX6_sink 254 = .ok (.aload_n 0, 1) := by decide +kernel
theorem dX6_sink_255 : decode cX6_sink 255 = .ok (.getfield 7, 3) := by decide +kernel
theorem dX6_sink_258 : decode cX6_sink 258 = .ok (.bipush 125, 2) := by decide +kernel
theorem dX6_sink_260 : decode cX6_sink 260 = .ok (.iload_n 1, 1) := by decide +kernel
theorem dX6_sink_261 : decode cX6_sink 261 = .ok (.iadd, 1) := by decide +kernel
theorem dX6_sink_262 : decode cX6_sink 262 = .ok (.iaload, 1) := by decide +kernel
theorem dX6_sink_263 : decode cX6_sink 263 = .ok (.iload_n 2, 1) := by decide +kernel
theorem dX6_sink_264 : decode cX6_sink 264 = .ok (.if_icmp .ne 8, 3) := by decide +kernel
theorem dX6_sink_267 : decode cX6_sink 267 = .ok (.lload 10, 2) := by decide +kernel
theorem dX6_sink_269 : decode cX6_sink 269 = .ok (.goto 4, 3) := by decide +kernel
theorem dX6_sink_272 : decode cX6_sink 272 = .ok (.lconst 0, 1) := by decide +kernel
theorem dX6_sink_273 : decode cX6_sink 273 = .ok (.ladd, 1) := by decide +kernel
theorem dX6_sink_274 : decode cX6_sink 274 = .ok (.lstore 5, 2) := by decide +kernel
theorem dX6_sink_276 : decode cX6_sink 276 = .ok (.iinc 9 1, 3) := by decide +kernel
theorem dX6_sink_279 : decode cX6_sink 279 = .ok (.goto (-182), 3) := by decide +kernel
theorem dX6_sink_282 : decode cX6_sink 282 = .ok (.lload 5, 2) := by decide +kernel
theorem dX6_sink_284 : decode cX6_sink 284 = .ok (.lstore 9, 2) := by decide +kernel
theorem dX6_sink_286 : decode cX6_sink 286 = .ok (.lload 7, 2) := by decide +kernel
theorem dX6_sink_288 : decode cX6_sink 288 = .ok (.lstore 11, 2) := by decide +kernel
theorem dX6_sink_290 : decode cX6_sink 290 = .ok (.lload 11, 2) := by decide +kernel
theorem dX6_sink_292 : decode cX6_sink 292 = .ok (.lconst 0, 1) := by decide +kernel
theorem dX6_sink_293 : decode cX6_sink 293 = .ok (.lcmp, 1) := by decide +kernel
theorem dX6_sink_294 : decode cX6_sink 294 = .ok (.ifCond .eq 21, 3) := by decide +kernel
theorem dX6_sink_297 : decode cX6_sink 297 = .ok (.lload 9, 2) := by decide +kernel
theorem dX6_sink_299 : decode cX6_sink 299 = .ok (.lload 11, 2) := by decide +kernel
theorem dX6_sink_301 : decode cX6_sink 301 = .ok (.lrem, 1) := by decide +kernel
theorem dX6_sink_302 : decode cX6_sink 302 = .ok (.lstore 13, 2) := by decide +kernel
theorem dX6_sink_304 : decode cX6_sink 304 = .ok (.lload 11, 2) := by decide +kernel
theorem dX6_sink_306 : decode cX6_sink 306 = .ok (.lstore 9, 2) := by decide +kernel
theorem dX6_sink_308 : decode cX6_sink 308 = .ok (.lload 13, 2) := by decide +kernel
theorem dX6_sink_310 : decode cX6_sink 310 = .ok (.lstore 11, 2) := by decide +kernel
theorem dX6_sink_312 : decode cX6_sink 312 = .ok (.goto (-22), 3) := by decide +kernel
theorem dX6_sink_315 : decode cX6_sink 315 = .ok (.iload 4, 2) := by decide +kernel
theorem dX6_sink_317 : decode cX6_sink 317 = .ok (.ifCond .ne 11, 3) := by decide +kernel
theorem dX6_sink_320 : decode cX6_sink 320 = .ok (.lload 5, 2) := by decide +kernel
theorem dX6_sink_322 : decode cX6_sink 322 = .ok (.lload 9, 2) := by decide +kernel
theorem dX6_sink_324 : decode cX6_sink 324 = .ok (.ldiv, 1) := by decide +kernel
theorem dX6_sink_325 : decode cX6_sink 325 = .ok (.goto 8, 3) := by decide +kernel
theorem dX6_sink_328 : decode cX6_sink 328 = .ok (.lload 7, 2) := by decide +kernel
theorem dX6_sink_330 : decode cX6_sink 330 = .ok (.lload 9, 2) := by decide +kernel
theorem dX6_sink_332 : decode cX6_sink 332 = .ok (.ldiv, 1) := by decide +kernel
theorem dX6_sink_333 : decode cX6_sink 333 = .ok (.lreturn, 1) := by decide +kernel
set_option maxRecDepth 20000 in
theorem ggX6_drawn_X6_isRiver : GoodIn wsX6_drawn wsX6_isRiver := goodIn_r _ [13, 6, 69, 70, 71, 72, 73, 74, 75, 76, 77, 78, 79, 80, 81, 82, 83, 84, 85, 86, 87] (by decide +kernel) (by decide +kernel)
set_option maxRecDepth 20000 in
theorem gX6_drawn_X6_isRiver : GoodIn wsX6_drawn (wsV RX6 147 RX6 yX6_isRiver wsX6_isRiver) := goodIn_app (goodIn_of _ (by decide +kernel)) ggX6_drawn_X6_isRiver
set_option maxRecDepth 20000 in
theorem ggX6_drawn_X6_isSpan : GoodIn wsX6_drawn wsX6_isSpan := goodIn_r _ [16, 17, 18, 19, 12, 20] (by decide +kernel) (by decide +kernel)
set_option maxRecDepth 20000 in
theorem gX6_drawn_X6_isSpan : GoodIn wsX6_drawn (va_wsS RX6 188 yX6_isSpan wsX6_isSpan) := goodIn_app (goodIn_of _ (by decide +kernel)) ggX6_drawn_X6_isSpan
set_option maxRecDepth 20000 in
theorem ggX6_drawn_X6_in : GoodIn wsX6_drawn wsX6_in := goodIn_r _ [20] (by decide +kernel) (by decide +kernel)
set_option maxRecDepth 20000 in
theorem gX6_drawn_X6_in : GoodIn wsX6_drawn (va_wsS RX6 45 yX6_in wsX6_in) := goodIn_app (goodIn_of _ (by decide +kernel)) ggX6_drawn_X6_in
set_option maxRecDepth 20000 in
theorem ggX6_drawn_X6_tries : GoodIn wsX6_drawn wsX6_tries := goodIn_r _ [24, 25, 26, 27, 12, 28, 6, 69, 70, 71, 72, 73, 74, 75, 76, 77, 78, 79, 80, 81, 82, 83, 84, 85, 86, 87] (by decide +kernel) (by decide +kernel)
set_option maxRecDepth 20000 in
theorem gX6_drawn_X6_tries : GoodIn wsX6_drawn (wsV RX6 185 RX6 yX6_tries wsX6_tries) := goodIn_app (goodIn_of _ (by decide +kernel)) ggX6_drawn_X6_tries
set_option maxRecDepth 20000 in
theorem ggX6_drawn_X6_throwsOn : GoodIn wsX6_drawn wsX6_throwsOn := goodIn_r _ [32, 6, 69, 70, 71, 72, 73, 74, 75, 76, 77, 78, 79, 80, 81, 82, 83, 84, 85, 86, 87] (by decide +kernel) (by decide +kernel)
set_option maxRecDepth 20000 in
theorem gX6_drawn_X6_throwsOn : GoodIn wsX6_drawn (wsV RX6 170 RX6 yX6_throwsOn wsX6_throwsOn) := goodIn_app (goodIn_of _ (by decide +kernel)) ggX6_drawn_X6_throwsOn
set_option maxRecDepth 20000 in
theorem ggX6_drawn_X6_passes : GoodIn wsX6_drawn wsX6_passes := goodIn_r _ [36, 37, 38, 6, 39, 40, 41, 12, 42, 43, 44, 45, 46, 47, 48, 49, 50, 51, 52, 53, 54, 18, 19, 20, 55, 56, 57, 58, 59, 60, 61, 69, 70, 71, 72, 73, 74, 75, 76, 77, 78, 79, 80, 81, 82, 83, 84, 85, 86, 87] (by decide +kernel) (by decide +kernel)
set_option maxRecDepth 20000 in
theorem gX6_drawn_X6_passes : GoodIn wsX6_drawn (wsV RX6 155 RX6 yX6_passes wsX6_passes) := goodIn_app (goodIn_of _ (by decide +kernel)) ggX6_drawn_X6_passes
set_option maxRecDepth 20000 in
theorem ggX6_drawn_X6_ownersIn : GoodIn wsX6_drawn wsX6_ownersIn := goodIn_r _ [65, 6, 69, 70, 71, 72, 73, 74, 75, 76, 77, 78, 79, 80, 81, 82, 83, 84, 85, 86, 87] (by decide +kernel) (by decide +kernel)
set_option maxRecDepth 20000 in
theorem gX6_drawn_X6_ownersIn : GoodIn wsX6_drawn (wsV RX6 159 RX6 yX6_ownersIn wsX6_ownersIn) := goodIn_app (goodIn_of _ (by decide +kernel)) ggX6_drawn_X6_ownersIn
set_option maxRecDepth 20000 in
theorem ggX6_drawn_X6_ones : GoodIn wsX6_drawn wsX6_ones := goodIn_r _ [68] (by decide +kernel) (by decide +kernel)
set_option maxRecDepth 20000 in
theorem gX6_drawn_X6_ones : GoodIn wsX6_drawn (va_wsS RX6 162 yX6_ones wsX6_ones) := goodIn_app (goodIn_of _ (by decide +kernel)) ggX6_drawn_X6_ones
theorem dX6_drawn_0 : decode cX6_drawn 0 = .ok (.aload_n 0, 1) := by decide +kernel
theorem dX6_drawn_1 : decode cX6_drawn 1 = .ok (.invokevirtual 147, 3) := by decide +kernel
theorem dX6_drawn_4 : decode cX6_drawn 4 = .ok (.ifCond .ne 6, 3) := by decide +kernel
theorem dX6_drawn_7 : decode cX6_drawn 7 = .ok (.ldc 146, 2) := by decide +kernel
theorem dX6_drawn_9 : decode cX6_drawn 9 = .ok (.ireturn, 1) := by decide +kernel
theorem dX6_drawn_10 : decode cX6_drawn 10 = .ok (.iload_n 1, 1) := by decide +kernel
theorem dX6_drawn_11 : decode cX6_drawn 11 = .ok (.iconst 0, 1) := by decide +kernel
theorem dX6_drawn_12 : decode cX6_drawn 12 = .ok (.invokestatic 188, 3) := by decide +kernel
theorem dX6_drawn_15 : decode cX6_drawn 15 = .ok (.ifCond .eq 25, 3) := by decide +kernel
theorem dX6_drawn_18 : decode cX6_drawn 18 = .ok (.iload_n 2, 1) := by decide +kernel
theorem dX6_drawn_19 : decode cX6_drawn 19 = .ok (.i2l, 1) := by decide +kernel
theorem dX6_drawn_20 : decode cX6_drawn 20 = .ok (.lconst 1, 1) := by decide +kernel
theorem dX6_drawn_21 : decode cX6_drawn 21 = .ok (.ldc2_w 220, 3) := by decide +kernel
theorem dX6_drawn_24 : decode cX6_drawn 24 = .ok (.invokestatic 45, 3) := by decide +kernel
theorem dX6_drawn_27 : decode cX6_drawn 27 = .ok (.ifCond .eq 13, 3) := by decide +kernel
theorem dX6_drawn_30 : decode cX6_drawn 30 = .ok (.iload_n 3, 1) := by decide +kernel
theorem dX6_drawn_31 : decode cX6_drawn 31 = .ok (.i2l, 1) := by decide +kernel
theorem dX6_drawn_32 : decode cX6_drawn 32 = .ok (.lconst 0, 1) := by decide +kernel
theorem dX6_drawn_33 : decode cX6_drawn 33 = .ok (.lconst 1, 1) := by decide +kernel
theorem dX6_drawn_34 : decode cX6_drawn 34 = .ok (.invokestatic 45, 3) := by decide +kernel
theorem dX6_drawn_37 : decode cX6_drawn 37 = .ok (.ifCond .ne 6, 3) := by decide +kernel
theorem dX6_drawn_40 : decode cX6_drawn 40 = .ok (.ldc 55, 2) := by decide +kernel
theorem dX6_drawn_42 : decode cX6_drawn 42 = .ok (.ireturn, 1) := by decide +kernel
theorem dX6_drawn_43 : decode cX6_drawn 43 = .ok (.aload_n 0, 1) := by decide +kernel
theorem dX6_drawn_44 : decode cX6_drawn 44 = .ok (.invokevirtual 185, 3) := by decide +kernel
theorem dX6_drawn_47 : decode cX6_drawn 47 = .ok (.iload_n 2, 1) := by decide +kernel
theorem dX6_drawn_48 : decode cX6_drawn 48 = .ok (.i2l, 1) := by decide +kernel
theorem dX6_drawn_49 : decode cX6_drawn 49 = .ok (.lstore 4, 2) := by decide +kernel
theorem dX6_drawn_51 : decode cX6_drawn 51 = .ok (.iconst 0, 1) := by decide +kernel
theorem dX6_drawn_52 : decode cX6_drawn 52 = .ok (.istore 6, 2) := by decide +kernel
theorem dX6_drawn_54 : decode cX6_drawn 54 = .ok (.iconst 0, 1) := by decide +kernel
theorem dX6_drawn_55 : decode cX6_drawn 55 = .ok (.istore 7, 2) := by decide +kernel
theorem dX6_drawn_57 : decode cX6_drawn 57 = .ok (.iload 7, 2) := by decide +kernel
theorem dX6_drawn_59 : decode cX6_drawn 59 = .ok (.iload_n 1, 1) := by decide +kernel
theorem dX6_drawn_60 : decode cX6_drawn 60 = .ok (.if_icmp .ge 141, 3) := by decide +kernel
theorem dX6_drawn_63 : decode cX6_drawn 63 = .ok (.lload 4, 2) := by decide +kernel
theorem dX6_drawn_65 : decode cX6_drawn 65 = .ok (.ldc2_w 222, 3) := by decide +kernel
theorem dX6_drawn_68 : decode cX6_drawn 68 = .ok (.lmul, 1) := by decide +kernel
theorem dX6_drawn_69 : decode cX6_drawn 69 = .ok (.ldc2_w 224, 3) := by decide +kernel
theorem dX6_drawn_72 : decode cX6_drawn 72 = .ok (.lrem, 1) := by decide +kernel
theorem dX6_drawn_73 : decode cX6_drawn 73 = .ok (.lstore 4, 2) := by decide +kernel
theorem dX6_drawn_75 : decode cX6_drawn 75 = .ok (.aload_n 0, 1) := by decide +kernel
theorem dX6_drawn_76 : decode cX6_drawn 76 = .ok (.bipush 114, 2) := by decide +kernel
theorem dX6_drawn_78 : decode cX6_drawn 78 = .ok (.lload 4, 2) := by decide +kernel
theorem dX6_drawn_80 : decode cX6_drawn 80 = .ok (.aload_n 0, 1) := by decide +kernel
theorem dX6_drawn_81 : decode cX6_drawn 81 = .ok (.getfield 7, 3) := by decide +kernel
theorem dX6_drawn_84 : decode cX6_drawn 84 = .ok (.bipush 24, 2) := by decide +kernel
theorem dX6_drawn_86 : decode cX6_drawn 86 = .ok (.iaload, 1) := by decide +kernel
theorem dX6_drawn_87 : decode cX6_drawn 87 = .ok (.i2l, 1) := by decide +kernel
theorem dX6_drawn_88 : decode cX6_drawn 88 = .ok (.lrem, 1) := by decide +kernel
theorem dX6_drawn_89 : decode cX6_drawn 89 = .ok (.l2i, 1) := by decide +kernel
theorem dX6_drawn_90 : decode cX6_drawn 90 = .ok (.lload 4, 2) := by decide +kernel
theorem dX6_drawn_92 : decode cX6_drawn 92 = .ok (.ldc2_w 226, 3) := by decide +kernel
theorem dX6_drawn_95 : decode cX6_drawn 95 = .ok (.lrem, 1) := by decide +kernel
theorem dX6_drawn_96 : decode cX6_drawn 96 = .ok (.l2i, 1) := by decide +kernel
theorem dX6_drawn_97 : decode cX6_drawn 97 = .ok (.invokevirtual 170, 3) := by decide +kernel
theorem dX6_drawn_100 : decode cX6_drawn 100 = .ok (.iconst 0, 1) := by decide +kernel
theorem dX6_drawn_101 : decode cX6_drawn 101 = .ok (.istore 8, 2) := by decide +kernel
theorem dX6_drawn_103 : decode cX6_drawn 103 = .ok (.iload 8, 2) := by decide +kernel
theorem dX6_drawn_105 : decode cX6_drawn 105 = .ok (.aload_n 0, 1) := by decide +kernel
theorem dX6_drawn_106 : decode cX6_drawn 106 = .ok (.getfield 7, 3) := by decide +kernel
theorem dX6_drawn_109 : decode cX6_drawn 109 = .ok (.bipush 25, 2) := by decide +kernel
theorem dX6_drawn_111 : decode cX6_drawn 111 = .ok (.iaload, 1) := by decide +kernel
theorem dX6_drawn_112 : decode cX6_drawn 112 = .ok (.if_icmp .ge 26, 3) := by decide +kernel
theorem dX6_drawn_115 : decode cX6_drawn 115 = .ok (.aload_n 0, 1) := by decide +kernel
theorem dX6_drawn_116 : decode cX6_drawn 116 = .ok (.getfield 35, 3) := by decide +kernel
theorem dX6_drawn_119 : decode cX6_drawn 119 = .ok (.iload 8, 2) := by decide +kernel
theorem dX6_drawn_121 : decode cX6_drawn 121 = .ok (.aload_n 0, 1) := by decide +kernel
theorem dX6_drawn_122 : decode cX6_drawn 122 = .ok (.getfield 7, 3) := by decide +kernel
theorem dX6_drawn_125 : decode cX6_drawn 125 = .ok (.bipush 125, 2) := by decide +kernel
theorem dX6_drawn_127 : decode cX6_drawn 127 = .ok (.iload 8, 2) := by decide +kernel
theorem dX6_drawn_129 : decode cX6_drawn 129 = .ok (.iadd, 1) := by decide +kernel
theorem dX6_drawn_130 : decode cX6_drawn 130 = .ok (.iaload, 1) := by decide +kernel
theorem dX6_drawn_131 : decode cX6_drawn 131 = .ok (.iastore, 1) := by decide +kernel
theorem dX6_drawn_132 : decode cX6_drawn 132 = .ok (.iinc 8 1, 3) := by decide +kernel
theorem dX6_drawn_135 : decode cX6_drawn 135 = .ok (.goto (-32), 3) := by decide +kernel
theorem dX6_drawn_138 : decode cX6_drawn 138 = .ok (.aload_n 0, 1) := by decide +kernel
theorem dX6_drawn_139 : decode cX6_drawn 139 = .ok (.bipush 114, 2) := by decide +kernel
theorem dX6_drawn_141 : decode cX6_drawn 141 = .ok (.invokevirtual 155, 3) := by decide +kernel
theorem dX6_drawn_144 : decode cX6_drawn 144 = .ok (.iconst 0, 1) := by decide +kernel
theorem dX6_drawn_145 : decode cX6_drawn 145 = .ok (.istore 8, 2) := by decide +kernel
theorem dX6_drawn_147 : decode cX6_drawn 147 = .ok (.iload 8, 2) := by decide +kernel
theorem dX6_drawn_149 : decode cX6_drawn 149 = .ok (.aload_n 0, 1) := by decide +kernel
theorem dX6_drawn_150 : decode cX6_drawn 150 = .ok (.getfield 7, 3) := by decide +kernel
theorem dX6_drawn_153 : decode cX6_drawn 153 = .ok (.bipush 25, 2) := by decide +kernel
theorem dX6_drawn_155 : decode cX6_drawn 155 = .ok (.iaload, 1) := by decide +kernel
theorem dX6_drawn_156 : decode cX6_drawn 156 = .ok (.if_icmp .ge 39, 3) := by decide +kernel
theorem dX6_drawn_159 : decode cX6_drawn 159 = .ok (.iload 6, 2) := by decide +kernel
theorem dX6_drawn_161 : decode cX6_drawn 161 = .ok (.aload_n 0, 1) := by decide +kernel
theorem dX6_drawn_162 : decode cX6_drawn 162 = .ok (.getfield 35, 3) := by decide +kernel
theorem dX6_drawn_165 : decode cX6_drawn 165 = .ok (.iload 8, 2) := by decide +kernel
theorem dX6_drawn_167 : decode cX6_drawn 167 = .ok (.iaload, 1) := by decide +kernel
theorem dX6_drawn_168 : decode cX6_drawn 168 = .ok (.aload_n 0, 1) := by decide +kernel
theorem dX6_drawn_169 : decode cX6_drawn 169 = .ok (.getfield 7, 3) := by decide +kernel
theorem dX6_drawn_172 : decode cX6_drawn 172 = .ok (.bipush 125, 2) := by decide +kernel
theorem dX6_drawn_174 : decode cX6_drawn 174 = .ok (.iload 8, 2) := by decide +kernel
theorem dX6_drawn_176 : decode cX6_drawn 176 = .ok (.iadd, 1) := by decide +kernel
theorem dX6_drawn_177 : decode cX6_drawn 177 = .ok (.iaload, 1) := by decide +kernel
theorem dX6_drawn_178 : decode cX6_drawn 178 = .ok (.if_icmp .ne 7, 3) := by decide +kernel
theorem dX6_drawn_181 : decode cX6_drawn 181 = .ok (.iconst 0, 1) := by decide +kernel
theorem dX6_drawn_182 : decode cX6_drawn 182 = .ok (.goto 4, 3) := by decide +kernel
theorem dX6_drawn_185 : decode cX6_drawn 185 = .ok (.iconst 1, 1) := by decide +kernel
theorem dX6_drawn_186 : decode cX6_drawn 186 = .ok (.iadd, 1) := by decide +kernel
theorem dX6_drawn_187 : decode cX6_drawn 187 = .ok (.istore 6, 2) := by decide +kernel
theorem dX6_drawn_189 : decode cX6_drawn 189 = .ok (.iinc 8 1, 3) := by decide +kernel
theorem dX6_drawn_192 : decode cX6_drawn 192 = .ok (.goto (-45), 3) := by decide +kernel
theorem dX6_drawn_195 : decode cX6_drawn 195 = .ok (.iinc 7 1, 3) := by decide +kernel
theorem dX6_drawn_198 : decode cX6_drawn 198 = .ok (.goto (-141), 3) := by decide +kernel
theorem dX6_drawn_201 : decode cX6_drawn 201 = .ok (.iload_n 3, 1) := by decide +kernel
theorem dX6_drawn_202 : decode cX6_drawn 202 = .ok (.ifCond .ne 15, 3) := by decide +kernel
theorem dX6_drawn_205 : decode cX6_drawn 205 = .ok (.aload_n 0, 1) := by decide +kernel
theorem dX6_drawn_206 : decode cX6_drawn 206 = .ok (.bipush 114, 2) := by decide +kernel
theorem dX6_drawn_208 : decode cX6_drawn 208 = .ok (.invokevirtual 159, 3) := by decide +kernel
theorem dX6_drawn_211 : decode cX6_drawn 211 = .ok (.invokestatic 162, 3) := by decide +kernel
theorem dX6_drawn_214 : decode cX6_drawn 214 = .ok (.goto 5, 3) := by decide +kernel
theorem dX6_drawn_217 : decode cX6_drawn 217 = .ok (.iload 6, 2) := by decide +kernel
theorem dX6_drawn_219 : decode cX6_drawn 219 = .ok (.ireturn, 1) := by decide +kernel
set_option maxRecDepth 20000 in
theorem ggX6_image_X6_in : GoodIn wsX6_image wsX6_in := goodIn_r _ [7] (by decide +kernel) (by decide +kernel)
set_option maxRecDepth 20000 in
theorem gX6_image_X6_in : GoodIn wsX6_image (va_wsS RX6 45 yX6_in wsX6_in) := goodIn_app (goodIn_of _ (by decide +kernel)) ggX6_image_X6_in
set_option maxRecDepth 20000 in
theorem ggX6_image_X6_isRiver : GoodIn wsX6_image wsX6_isRiver := goodIn_r _ [11, 12, 17, 18, 19, 20, 21, 22, 23, 24, 25, 26, 27, 28, 29, 30, 31, 32, 33, 34, 35] (by decide +kernel) (by decide +kernel)
set_option maxRecDepth 20000 in
theorem gX6_image_X6_isRiver : GoodIn wsX6_image (wsV RX6 147 RX6 yX6_isRiver wsX6_isRiver) := goodIn_app (goodIn_of _ (by decide +kernel)) ggX6_image_X6_isRiver
set_option maxRecDepth 20000 in
theorem ggX6_image_X6_copyAll : GoodIn wsX6_image wsX6_copyAll := goodIn_r _ [16, 12, 17, 18, 19, 20, 21, 22, 23, 24, 25, 26, 27, 28, 29, 30, 31, 32, 33, 34, 35] (by decide +kernel) (by decide +kernel)
set_option maxRecDepth 20000 in
theorem gX6_image_X6_copyAll : GoodIn wsX6_image (wsV RX6 113 RX6 yX6_copyAll wsX6_copyAll) := goodIn_app (goodIn_of _ (by decide +kernel)) ggX6_image_X6_copyAll
theorem dX6_image_0 : decode cX6_image 0 = .ok (.iload_n 1, 1) := by decide +kernel
theorem dX6_image_1 : decode cX6_image 1 = .ok (.i2l, 1) := by decide +kernel
theorem dX6_image_2 : decode cX6_image 2 = .ok (.lconst 0, 1) := by decide +kernel
theorem dX6_image_3 : decode cX6_image 3 = .ok (.lconst 1, 1) := by decide +kernel
theorem dX6_image_4 : decode cX6_image 4 = .ok (.invokestatic 45, 3) := by decide +kernel
theorem dX6_image_7 : decode cX6_image 7 = .ok (.ifCond .ne 6, 3) := by decide +kernel
theorem dX6_image_10 : decode cX6_image 10 = .ok (.ldc 55, 2) := by decide +kernel
theorem dX6_image_12 : decode cX6_image 12 = .ok (.ireturn, 1) := by decide +kernel
theorem dX6_image_13 : decode cX6_image 13 = .ok (.aload_n 0, 1) := by decide +kernel
theorem dX6_image_14 : decode cX6_image 14 = .ok (.invokevirtual 147, 3) := by decide +kernel
theorem dX6_image_17 : decode cX6_image 17 = .ok (.ifCond .ne 6, 3) := by decide +kernel
theorem dX6_image_20 : decode cX6_image 20 = .ok (.ldc 146, 2) := by decide +kernel
theorem dX6_image_22 : decode cX6_image 22 = .ok (.ireturn, 1) := by decide +kernel
theorem dX6_image_23 : decode cX6_image 23 = .ok (.aload_n 0, 1) := by decide +kernel
theorem dX6_image_24 : decode cX6_image 24 = .ok (.iconst 0, 1) := by decide +kernel
theorem dX6_image_25 : decode cX6_image 25 = .ok (.bipush 38, 2) := by decide +kernel
theorem dX6_image_27 : decode cX6_image 27 = .ok (.iconst 1, 1) := by decide +kernel
theorem dX6_image_28 : decode cX6_image 28 = .ok (.iload_n 1, 1) := by decide +kernel
theorem dX6_image_29 : decode cX6_image 29 = .ok (.iadd, 1) := by decide +kernel
theorem dX6_image_30 : decode cX6_image 30 = .ok (.imul, 1) := by decide +kernel
theorem dX6_image_31 : decode cX6_image 31 = .ok (.invokevirtual 113, 3) := by decide +kernel
theorem dX6_image_34 : decode cX6_image 34 = .ok (.aload_n 0, 1) := by decide +kernel
theorem dX6_image_35 : decode cX6_image 35 = .ok (.getfield 13, 3) := by decide +kernel
theorem dX6_image_38 : decode cX6_image 38 = .ok (.iload_n 1, 1) := by decide +kernel
theorem dX6_image_39 : decode cX6_image 39 = .ok (.iconst 1, 1) := by decide +kernel
theorem dX6_image_40 : decode cX6_image 40 = .ok (.bastore, 1) := by decide +kernel
theorem dX6_image_41 : decode cX6_image 41 = .ok (.iconst 1, 1) := by decide +kernel
theorem dX6_image_42 : decode cX6_image 42 = .ok (.ireturn, 1) := by decide +kernel
set_option maxRecDepth 20000 in
theorem ggX6_restore_X6_in : GoodIn wsX6_restore wsX6_in := goodIn_r _ [8] (by decide +kernel) (by decide +kernel)
set_option maxRecDepth 20000 in
theorem gX6_restore_X6_in : GoodIn wsX6_restore (va_wsS RX6 45 yX6_in wsX6_in) := goodIn_app (goodIn_of _ (by decide +kernel)) ggX6_restore_X6_in
set_option maxRecDepth 20000 in
theorem ggX6_restore_X6_copyAll : GoodIn wsX6_restore wsX6_copyAll := goodIn_r _ [12, 13, 14, 15, 16, 17, 18, 19, 20, 21, 22, 23, 24, 25, 26, 27, 28, 29, 30, 31, 32] (by decide +kernel) (by decide +kernel)
set_option maxRecDepth 20000 in
theorem gX6_restore_X6_copyAll : GoodIn wsX6_restore (wsV RX6 113 RX6 yX6_copyAll wsX6_copyAll) := goodIn_app (goodIn_of _ (by decide +kernel)) ggX6_restore_X6_copyAll
theorem dX6_restore_0 : decode cX6_restore 0 = .ok (.iload_n 1, 1) := by decide +kernel
theorem dX6_restore_1 : decode cX6_restore 1 = .ok (.i2l, 1) := by decide +kernel
theorem dX6_restore_2 : decode cX6_restore 2 = .ok (.lconst 0, 1) := by decide +kernel
theorem dX6_restore_3 : decode cX6_restore 3 = .ok (.lconst 1, 1) := by decide +kernel
theorem dX6_restore_4 : decode cX6_restore 4 = .ok (.invokestatic 45, 3) := by decide +kernel
theorem dX6_restore_7 : decode cX6_restore 7 = .ok (.ifCond .ne 6, 3) := by decide +kernel
theorem dX6_restore_10 : decode cX6_restore 10 = .ok (.ldc 55, 2) := by decide +kernel
theorem dX6_restore_12 : decode cX6_restore 12 = .ok (.ireturn, 1) := by decide +kernel
theorem dX6_restore_13 : decode cX6_restore 13 = .ok (.aload_n 0, 1) := by decide +kernel
theorem dX6_restore_14 : decode cX6_restore 14 = .ok (.getfield 13, 3) := by decide +kernel
theorem dX6_restore_17 : decode cX6_restore 17 = .ok (.iload_n 1, 1) := by decide +kernel
theorem dX6_restore_18 : decode cX6_restore 18 = .ok (.baload, 1) := by decide +kernel
theorem dX6_restore_19 : decode cX6_restore 19 = .ok (.ifCond .ne 6, 3) := by decide +kernel
theorem dX6_restore_22 : decode cX6_restore 22 = .ok (.ldc 146, 2) := by decide +kernel
theorem dX6_restore_24 : decode cX6_restore 24 = .ok (.ireturn, 1) := by decide +kernel
theorem dX6_restore_25 : decode cX6_restore 25 = .ok (.aload_n 0, 1) := by decide +kernel
theorem dX6_restore_26 : decode cX6_restore 26 = .ok (.bipush 38, 2) := by decide +kernel
theorem dX6_restore_28 : decode cX6_restore 28 = .ok (.iconst 1, 1) := by decide +kernel
theorem dX6_restore_29 : decode cX6_restore 29 = .ok (.iload_n 1, 1) := by decide +kernel
theorem dX6_restore_30 : decode cX6_restore 30 = .ok (.iadd, 1) := by decide +kernel
theorem dX6_restore_31 : decode cX6_restore 31 = .ok (.imul, 1) := by decide +kernel
theorem dX6_restore_32 : decode cX6_restore 32 = .ok (.iconst 0, 1) := by decide +kernel
theorem dX6_restore_33 : decode cX6_restore 33 = .ok (.invokevirtual 113, 3) := by decide +kernel
theorem dX6_restore_36 : decode cX6_restore 36 = .ok (.aload_n 0, 1) := by decide +kernel
theorem dX6_restore_37 : decode cX6_restore 37 = .ok (.iconst 0, 1) := by decide +kernel
theorem dX6_restore_38 : decode cX6_restore 38 = .ok (.putfield 117, 3) := by decide +kernel
theorem dX6_restore_41 : decode cX6_restore 41 = .ok (.iconst 1, 1) := by decide +kernel
theorem dX6_restore_42 : decode cX6_restore 42 = .ok (.ireturn, 1) := by decide +kernel
set_option maxRecDepth 20000 in
theorem ggX6_kind_X6_isSwan : GoodIn wsX6_kind wsX6_isSwan := goodIn_r _ [7, 1, 8, 9, 6, 10, 11, 12, 13, 14, 15, 16, 17, 18, 19, 20, 21, 22, 23, 24, 25, 26, 27, 28, 29] (by decide +kernel) (by decide +kernel)
set_option maxRecDepth 20000 in
theorem gX6_kind_X6_isSwan : GoodIn wsX6_kind (wsV RX6 174 RX6 yX6_isSwan wsX6_isSwan) := goodIn_app (goodIn_of _ (by decide +kernel)) ggX6_kind_X6_isSwan
theorem dX6_kind_0 : decode cX6_kind 0 = .ok (.aload_n 0, 1) := by decide +kernel
theorem dX6_kind_1 : decode cX6_kind 1 = .ok (.iload_n 1, 1) := by decide +kernel
theorem dX6_kind_2 : decode cX6_kind 2 = .ok (.invokevirtual 174, 3) := by decide +kernel
theorem dX6_kind_5 : decode cX6_kind 5 = .ok (.ifCond .eq 15, 3) := by decide +kernel
theorem dX6_kind_8 : decode cX6_kind 8 = .ok (.aload_n 0, 1) := by decide +kernel
theorem dX6_kind_9 : decode cX6_kind 9 = .ok (.getfield 7, 3) := by decide +kernel
theorem dX6_kind_12 : decode cX6_kind 12 = .ok (.bipush 26, 2) := by decide +kernel
theorem dX6_kind_14 : decode cX6_kind 14 = .ok (.iload_n 1, 1) := by decide +kernel
theorem dX6_kind_15 : decode cX6_kind 15 = .ok (.iadd, 1) := by decide +kernel
theorem dX6_kind_16 : decode cX6_kind 16 = .ok (.iaload, 1) := by decide +kernel
theorem dX6_kind_17 : decode cX6_kind 17 = .ok (.goto 5, 3) := by decide +kernel
theorem dX6_kind_20 : decode cX6_kind 20 = .ok (.ldc 55, 2) := by decide +kernel
theorem dX6_kind_22 : decode cX6_kind 22 = .ok (.ireturn, 1) := by decide +kernel
set_option maxRecDepth 20000 in
theorem ggX6_as_X6_isSwan : GoodIn wsX6_as wsX6_isSwan := goodIn_r _ [8, 3, 9, 10, 7, 11, 22, 23, 24, 25, 26, 27, 28, 29, 30, 31, 32, 33, 34, 35, 36, 37, 38, 39, 40] (by decide +kernel) (by decide +kernel)
set_option maxRecDepth 20000 in
theorem gX6_as_X6_isSwan : GoodIn wsX6_as (wsV RX6 174 RX6 yX6_isSwan wsX6_isSwan) := goodIn_app (goodIn_of _ (by decide +kernel)) ggX6_as_X6_isSwan
set_option maxRecDepth 20000 in
theorem ggX6_as_X6_in : GoodIn wsX6_as wsX6_in := goodIn_r _ [11] (by decide +kernel) (by decide +kernel)
set_option maxRecDepth 20000 in
theorem gX6_as_X6_in : GoodIn wsX6_as (va_wsS RX6 45 yX6_in wsX6_in) := goodIn_app (goodIn_of _ (by decide +kernel)) ggX6_as_X6_in
set_option maxRecDepth 20000 in
theorem ggX6_as_X6_good : GoodIn wsX6_as wsX6_good := goodIn_r _ [15, 16, 22, 23, 24, 25, 26, 27, 28, 29, 30, 31, 32, 33, 34, 35, 36, 37, 38, 39, 40] (by decide +kernel) (by decide +kernel)
set_option maxRecDepth 20000 in
theorem gX6_as_X6_good : GoodIn wsX6_as (wsV RX6 60 RX6 yX6_good wsX6_good) := goodIn_app (goodIn_of _ (by decide +kernel)) ggX6_as_X6_good
set_option maxRecDepth 20000 in
theorem ggX6_as_X6_found : GoodIn wsX6_as wsX6_found := goodIn_r _ [20, 16, 21, 22, 23, 24, 25, 26, 27, 28, 29, 30, 31, 32, 33, 34, 35, 36, 37, 38, 39, 40] (by decide +kernel) (by decide +kernel)
set_option maxRecDepth 20000 in
theorem gX6_as_X6_found : GoodIn wsX6_as (wsV RX6 56 RX6 yX6_found wsX6_found) := goodIn_app (goodIn_of _ (by decide +kernel)) ggX6_as_X6_found
theorem dX6_as_0 : decode cX6_as 0 = .ok (.aload_n 0, 1) := by decide +kernel
theorem dX6_as_1 : decode cX6_as 1 = .ok (.iload_n 1, 1) := by decide +kernel
theorem dX6_as_2 : decode cX6_as 2 = .ok (.invokevirtual 174, 3) := by decide +kernel
theorem dX6_as_5 : decode cX6_as 5 = .ok (.ifCond .eq 15, 3) := by decide +kernel
theorem dX6_as_8 : decode cX6_as 8 = .ok (.iload_n 2, 1) := by decide +kernel
theorem dX6_as_9 : decode cX6_as 9 = .ok (.i2l, 1) := by decide +kernel
theorem dX6_as_10 : decode cX6_as 10 = .ok (.lconst 0, 1) := by decide +kernel
theorem dX6_as_11 : decode cX6_as 11 = .ok (.ldc2_w 228, 3) := by decide +kernel
theorem dX6_as_14 : decode cX6_as 14 = .ok (.invokestatic 45, 3) := by decide +kernel
theorem dX6_as_17 : decode cX6_as 17 = .ok (.ifCond .ne 6, 3) := by decide +kernel
theorem dX6_as_20 : decode cX6_as 20 = .ok (.ldc 55, 2) := by decide +kernel
theorem dX6_as_22 : decode cX6_as 22 = .ok (.ireturn, 1) := by decide +kernel
theorem dX6_as_23 : decode cX6_as 23 = .ok (.aload_n 0, 1) := by decide +kernel
theorem dX6_as_24 : decode cX6_as 24 = .ok (.getfield 7, 3) := by decide +kernel
theorem dX6_as_27 : decode cX6_as 27 = .ok (.bipush 26, 2) := by decide +kernel
theorem dX6_as_29 : decode cX6_as 29 = .ok (.iload_n 1, 1) := by decide +kernel
theorem dX6_as_30 : decode cX6_as 30 = .ok (.iadd, 1) := by decide +kernel
theorem dX6_as_31 : decode cX6_as 31 = .ok (.iaload, 1) := by decide +kernel
theorem dX6_as_32 : decode cX6_as 32 = .ok (.istore_n 3, 1) := by decide +kernel
theorem dX6_as_33 : decode cX6_as 33 = .ok (.iload_n 2, 1) := by decide +kernel
theorem dX6_as_34 : decode cX6_as 34 = .ok (.ifCond .eq 28, 3) := by decide +kernel
theorem dX6_as_37 : decode cX6_as 37 = .ok (.iload_n 2, 1) := by decide +kernel
theorem dX6_as_38 : decode cX6_as 38 = .ok (.iload_n 3, 1) := by decide +kernel
theorem dX6_as_39 : decode cX6_as 39 = .ok (.if_icmp .eq 23, 3) := by decide +kernel
theorem dX6_as_42 : decode cX6_as 42 = .ok (.iload_n 2, 1) := by decide +kernel
theorem dX6_as_43 : decode cX6_as 43 = .ok (.iconst 1, 1) := by decide +kernel
theorem dX6_as_44 : decode cX6_as 44 = .ok (.if_icmp .ne 8, 3) := by decide +kernel
theorem dX6_as_47 : decode cX6_as 47 = .ok (.iload_n 3, 1) := by decide +kernel
theorem dX6_as_48 : decode cX6_as 48 = .ok (.iconst 4, 1) := by decide +kernel
theorem dX6_as_49 : decode cX6_as 49 = .ok (.if_icmp .lt 13, 3) := by decide +kernel
theorem dX6_as_52 : decode cX6_as 52 = .ok (.iload_n 2, 1) := by decide +kernel
theorem dX6_as_53 : decode cX6_as 53 = .ok (.iconst 4, 1) := by decide +kernel
theorem dX6_as_54 : decode cX6_as 54 = .ok (.if_icmp .ne 12, 3) := by decide +kernel
theorem dX6_as_57 : decode cX6_as 57 = .ok (.iload_n 3, 1) := by decide +kernel
theorem dX6_as_58 : decode cX6_as 58 = .ok (.iconst 5, 1) := by decide +kernel
theorem dX6_as_59 : decode cX6_as 59 = .ok (.if_icmp .ne 7, 3) := by decide +kernel
theorem dX6_as_62 : decode cX6_as 62 = .ok (.iconst 1, 1) := by decide +kernel
theorem dX6_as_63 : decode cX6_as 63 = .ok (.goto 4, 3) := by decide +kernel
theorem dX6_as_66 : decode cX6_as 66 = .ok (.iconst 0, 1) := by decide +kernel
theorem dX6_as_67 : decode cX6_as 67 = .ok (.istore 4, 2) := by decide +kernel
theorem dX6_as_69 : decode cX6_as 69 = .ok (.iload 4, 2) := by decide +kernel
theorem dX6_as_71 : decode cX6_as 71 = .ok (.ifCond .eq 11, 3) := by decide +kernel
theorem dX6_as_74 : decode cX6_as 74 = .ok (.aload_n 0, 1) := by decide +kernel
theorem dX6_as_75 : decode cX6_as 75 = .ok (.iload_n 1, 1) := by decide +kernel
theorem dX6_as_76 : decode cX6_as 76 = .ok (.invokevirtual 60, 3) := by decide +kernel
theorem dX6_as_79 : decode cX6_as 79 = .ok (.goto 8, 3) := by decide +kernel
theorem dX6_as_82 : decode cX6_as 82 = .ok (.aload_n 0, 1) := by decide +kernel
theorem dX6_as_83 : decode cX6_as 83 = .ok (.iconst 3, 1) := by decide +kernel
theorem dX6_as_84 : decode cX6_as 84 = .ok (.invokevirtual 56, 3) := by decide +kernel
theorem dX6_as_87 : decode cX6_as 87 = .ok (.ireturn, 1) := by decide +kernel
theorem dX6_begins_0 : decode cX6_begins 0 = .ok (.aload_n 0, 1) := by decide +kernel
theorem dX6_begins_1 : decode cX6_begins 1 = .ok (.getfield 230, 3) := by decide +kernel
theorem dX6_begins_4 : decode cX6_begins 4 = .ok (.bipush 16, 2) := by decide +kernel
theorem dX6_begins_6 : decode cX6_begins 6 = .ok (.if_icmp .ge 23, 3) := by decide +kernel
theorem dX6_begins_9 : decode cX6_begins 9 = .ok (.aload_n 0, 1) := by decide +kernel
theorem dX6_begins_10 : decode cX6_begins 10 = .ok (.getfield 32, 3) := by decide +kernel
theorem dX6_begins_13 : decode cX6_begins 13 = .ok (.aload_n 0, 1) := by decide +kernel
theorem dX6_begins_14 : decode cX6_begins 14 = .ok (.getfield 230, 3) := by decide +kernel
theorem dX6_begins_17 : decode cX6_begins 17 = .ok (.iload_n 1, 1) := by decide +kernel
theorem dX6_begins_18 : decode cX6_begins 18 = .ok (.iastore, 1) := by decide +kernel
theorem dX6_begins_19 : decode cX6_begins 19 = .ok (.aload_n 0, 1) := by decide +kernel
theorem dX6_begins_20 : decode cX6_begins 20 = .ok (.dup, 1) := by decide +kernel
theorem dX6_begins_21 : decode cX6_begins 21 = .ok (.getfield 230, 3) := by decide +kernel
theorem dX6_begins_24 : decode cX6_begins 24 = .ok (.iconst 1, 1) := by decide +kernel
theorem dX6_begins_25 : decode cX6_begins 25 = .ok (.iadd, 1) := by decide +kernel
theorem dX6_begins_26 : decode cX6_begins 26 = .ok (.putfield 230, 3) := by decide +kernel
theorem dX6_begins_29 : decode cX6_begins 29 = .ok (.return_, 1) := by decide +kernel
set_option maxRecDepth 20000 in
theorem ggX6_markLent_X6_begins : GoodIn wsX6_markLent wsX6_begins := goodIn_r _ [5, 6, 7, 8, 9, 10, 11, 12, 13, 14, 15, 16, 17, 18, 19, 20, 21, 22, 23, 24, 25, 26] (by decide +kernel) (by decide +kernel)
set_option maxRecDepth 20000 in
theorem gX6_markLent_X6_begins : GoodIn wsX6_markLent (wsV RX6 233 RX6 yX6_begins wsX6_begins) := goodIn_app (goodIn_of _ (by decide +kernel)) ggX6_markLent_X6_begins
theorem dX6_markLent_0 : decode cX6_markLent 0 = .ok (.aload_n 0, 1) := by decide +kernel
theorem dX6_markLent_1 : decode cX6_markLent 1 = .ok (.bipush 20, 2) := by decide +kernel
theorem dX6_markLent_3 : decode cX6_markLent 3 = .ok (.invokevirtual 233, 3) := by decide +kernel
theorem dX6_markLent_6 : decode cX6_markLent 6 = .ok (.iload_n 1, 1) := by decide +kernel
theorem dX6_markLent_7 : decode cX6_markLent 7 = .ok (.ireturn, 1) := by decide +kernel
set_option maxRecDepth 20000 in
theorem ggX6_markPen_X6_begins : GoodIn wsX6_markPen wsX6_begins := goodIn_r _ [6, 7, 8, 13, 14, 15, 16, 17, 18, 19, 20, 21, 22, 23, 24, 25, 26, 27, 28, 29, 30, 31] (by decide +kernel) (by decide +kernel)
set_option maxRecDepth 20000 in
theorem gX6_markPen_X6_begins : GoodIn wsX6_markPen (wsV RX6 233 RX6 yX6_begins wsX6_begins) := goodIn_app (goodIn_of _ (by decide +kernel)) ggX6_markPen_X6_begins
set_option maxRecDepth 20000 in
theorem ggX6_markPen_X6_markLent : GoodIn wsX6_markPen wsX6_markLent := goodIn_r _ [12, 2, 3, 4, 5, 6, 7, 8, 13, 14, 15, 16, 17, 18, 19, 20, 21, 22, 23, 24, 25, 26, 27, 28, 29, 30, 31] (by decide +kernel) (by decide +kernel)
set_option maxRecDepth 20000 in
theorem gX6_markPen_X6_markLent : GoodIn wsX6_markPen (wsV RX6 236 RX6 yX6_markLent wsX6_markLent) := goodIn_app (goodIn_of _ (by decide +kernel)) ggX6_markPen_X6_markLent
theorem dX6_markPen_0 : decode cX6_markPen 0 = .ok (.aload_n 0, 1) := by decide +kernel
theorem dX6_markPen_1 : decode cX6_markPen 1 = .ok (.bipush 21, 2) := by decide +kernel
theorem dX6_markPen_3 : decode cX6_markPen 3 = .ok (.invokevirtual 233, 3) := by decide +kernel
theorem dX6_markPen_6 : decode cX6_markPen 6 = .ok (.aload_n 0, 1) := by decide +kernel
theorem dX6_markPen_7 : decode cX6_markPen 7 = .ok (.iload_n 1, 1) := by decide +kernel
theorem dX6_markPen_8 : decode cX6_markPen 8 = .ok (.invokevirtual 236, 3) := by decide +kernel
theorem dX6_markPen_11 : decode cX6_markPen 11 = .ok (.aload_n 0, 1) := by decide +kernel
theorem dX6_markPen_12 : decode cX6_markPen 12 = .ok (.getfield 7, 3) := by decide +kernel
theorem dX6_markPen_15 : decode cX6_markPen 15 = .ok (.bipush 11, 2) := by decide +kernel
theorem dX6_markPen_17 : decode cX6_markPen 17 = .ok (.iload_n 1, 1) := by decide +kernel
theorem dX6_markPen_18 : decode cX6_markPen 18 = .ok (.iadd, 1) := by decide +kernel
theorem dX6_markPen_19 : decode cX6_markPen 19 = .ok (.iaload, 1) := by decide +kernel
theorem dX6_markPen_20 : decode cX6_markPen 20 = .ok (.iadd, 1) := by decide +kernel
theorem dX6_markPen_21 : decode cX6_markPen 21 = .ok (.ireturn, 1) := by decide +kernel
set_option maxRecDepth 20000 in
theorem ggX6_sizeOld_X6_begins : GoodIn wsX6_sizeOld wsX6_begins := goodIn_r _ [6, 7, 8, 9, 10, 11, 12, 13, 14, 15, 16, 17, 18, 19, 20, 21, 22, 23, 24, 25, 26, 27] (by decide +kernel) (by decide +kernel)
set_option maxRecDepth 20000 in
theorem gX6_sizeOld_X6_begins : GoodIn wsX6_sizeOld (wsV RX6 233 RX6 yX6_begins wsX6_begins) := goodIn_app (goodIn_of _ (by decide +kernel)) ggX6_sizeOld_X6_begins
