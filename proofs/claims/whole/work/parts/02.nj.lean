theorem dX6_seesOn_109 : decode cX6_seesOn 109 = .ok (.iaload, 1) := by decide +kernel
theorem dX6_seesOn_110 : decode cX6_seesOn 110 = .ok (.ireturn, 1) := by decide +kernel
set_option maxRecDepth 20000 in
theorem ggX6_towards_X6_seesOn : GoodIn wsX6_towards wsX6_seesOn := goodIn_r _ [6, 1, 17, 18, 19, 20, 21, 22, 23, 24, 25, 26, 27, 28, 29, 30, 31, 32, 33, 34, 35] (by decide +kernel) (by decide +kernel)
set_option maxRecDepth 20000 in
theorem gX6_towards_X6_seesOn : GoodIn wsX6_towards (wsV RX6 123 RX6 yX6_seesOn wsX6_seesOn) := goodIn_app (goodIn_of _ (by decide +kernel)) ggX6_towards_X6_seesOn
set_option maxRecDepth 20000 in
theorem ggX6_towards_X6_isOpen : GoodIn wsX6_towards wsX6_isOpen := goodIn_r _ [10, 1, 11, 12, 5, 13, 14, 15, 16, 17, 18, 19, 20, 21, 22, 23, 24, 25, 26, 27, 28, 29, 30, 31, 32, 33, 34, 35] (by decide +kernel) (by decide +kernel)
set_option maxRecDepth 20000 in
theorem gX6_towards_X6_isOpen : GoodIn wsX6_towards (wsV RX6 127 RX6 yX6_isOpen wsX6_isOpen) := goodIn_app (goodIn_of _ (by decide +kernel)) ggX6_towards_X6_isOpen
theorem dX6_towards_0 : decode cX6_towards 0 = .ok (.aload_n 0, 1) := by decide +kernel
theorem dX6_towards_1 : decode cX6_towards 1 = .ok (.getfield 7, 3) := by decide +kernel
theorem dX6_towards_4 : decode cX6_towards 4 = .ok (.iload_n 1, 1) := by decide +kernel
theorem dX6_towards_5 : decode cX6_towards 5 = .ok (.bipush 11, 2) := by decide +kernel
theorem dX6_towards_7 : decode cX6_towards 7 = .ok (.iadd, 1) := by decide +kernel
theorem dX6_towards_8 : decode cX6_towards 8 = .ok (.iload_n 2, 1) := by decide +kernel
theorem dX6_towards_9 : decode cX6_towards 9 = .ok (.iadd, 1) := by decide +kernel
theorem dX6_towards_10 : decode cX6_towards 10 = .ok (.iaload, 1) := by decide +kernel
theorem dX6_towards_11 : decode cX6_towards 11 = .ok (.istore 4, 2) := by decide +kernel
theorem dX6_towards_13 : decode cX6_towards 13 = .ok (.aload_n 0, 1) := by decide +kernel
theorem dX6_towards_14 : decode cX6_towards 14 = .ok (.iload_n 1, 1) := by decide +kernel
theorem dX6_towards_15 : decode cX6_towards 15 = .ok (.iload_n 2, 1) := by decide +kernel
theorem dX6_towards_16 : decode cX6_towards 16 = .ok (.iload 4, 2) := by decide +kernel
theorem dX6_towards_18 : decode cX6_towards 18 = .ok (.invokevirtual 123, 3) := by decide +kernel
theorem dX6_towards_21 : decode cX6_towards 21 = .ok (.istore 5, 2) := by decide +kernel
theorem dX6_towards_23 : decode cX6_towards 23 = .ok (.iload 4, 2) := by decide +kernel
theorem dX6_towards_25 : decode cX6_towards 25 = .ok (.istore 6, 2) := by decide +kernel
theorem dX6_towards_27 : decode cX6_towards 27 = .ok (.iconst 1, 1) := by decide +kernel
theorem dX6_towards_28 : decode cX6_towards 28 = .ok (.istore 7, 2) := by decide +kernel
theorem dX6_towards_30 : decode cX6_towards 30 = .ok (.iconst 1, 1) := by decide +kernel
theorem dX6_towards_31 : decode cX6_towards 31 = .ok (.istore 8, 2) := by decide +kernel
theorem dX6_towards_33 : decode cX6_towards 33 = .ok (.iconst 1, 1) := by decide +kernel
theorem dX6_towards_34 : decode cX6_towards 34 = .ok (.istore 9, 2) := by decide +kernel
theorem dX6_towards_36 : decode cX6_towards 36 = .ok (.iload 9, 2) := by decide +kernel
theorem dX6_towards_38 : decode cX6_towards 38 = .ok (.iload_n 3, 1) := by decide +kernel
theorem dX6_towards_39 : decode cX6_towards 39 = .ok (.if_icmp .gt 145, 3) := by decide +kernel
theorem dX6_towards_42 : decode cX6_towards 42 = .ok (.iload 7, 2) := by decide +kernel
theorem dX6_towards_44 : decode cX6_towards 44 = .ok (.ifCond .eq 23, 3) := by decide +kernel
theorem dX6_towards_47 : decode cX6_towards 47 = .ok (.aload_n 0, 1) := by decide +kernel
theorem dX6_towards_48 : decode cX6_towards 48 = .ok (.iload_n 1, 1) := by decide +kernel
theorem dX6_towards_49 : decode cX6_towards 49 = .ok (.iload 4, 2) := by decide +kernel
theorem dX6_towards_51 : decode cX6_towards 51 = .ok (.iload 9, 2) := by decide +kernel
theorem dX6_towards_53 : decode cX6_towards 53 = .ok (.isub, 1) := by decide +kernel
theorem dX6_towards_54 : decode cX6_towards 54 = .ok (.iconst 1, 1) := by decide +kernel
theorem dX6_towards_55 : decode cX6_towards 55 = .ok (.iadd, 1) := by decide +kernel
theorem dX6_towards_56 : decode cX6_towards 56 = .ok (.iconst (-1), 1) := by decide +kernel
theorem dX6_towards_57 : decode cX6_towards 57 = .ok (.invokevirtual 127, 3) := by decide +kernel
theorem dX6_towards_60 : decode cX6_towards 60 = .ok (.ifCond .eq 7, 3) := by decide +kernel
theorem dX6_towards_63 : decode cX6_towards 63 = .ok (.iconst 1, 1) := by decide +kernel
theorem dX6_towards_64 : decode cX6_towards 64 = .ok (.goto 4, 3) := by decide +kernel
theorem dX6_towards_67 : decode cX6_towards 67 = .ok (.iconst 0, 1) := by decide +kernel
theorem dX6_towards_68 : decode cX6_towards 68 = .ok (.istore 7, 2) := by decide +kernel
theorem dX6_towards_70 : decode cX6_towards 70 = .ok (.iload 8, 2) := by decide +kernel
theorem dX6_towards_72 : decode cX6_towards 72 = .ok (.ifCond .eq 23, 3) := by decide +kernel
theorem dX6_towards_75 : decode cX6_towards 75 = .ok (.aload_n 0, 1) := by decide +kernel
theorem dX6_towards_76 : decode cX6_towards 76 = .ok (.iload_n 1, 1) := by decide +kernel
theorem dX6_towards_77 : decode cX6_towards 77 = .ok (.iload 4, 2) := by decide +kernel
theorem dX6_towards_79 : decode cX6_towards 79 = .ok (.iload 9, 2) := by decide +kernel
theorem dX6_towards_81 : decode cX6_towards 81 = .ok (.iadd, 1) := by decide +kernel
theorem dX6_towards_82 : decode cX6_towards 82 = .ok (.iconst 1, 1) := by decide +kernel
theorem dX6_towards_83 : decode cX6_towards 83 = .ok (.isub, 1) := by decide +kernel
theorem dX6_towards_84 : decode cX6_towards 84 = .ok (.iconst 1, 1) := by decide +kernel
theorem dX6_towards_85 : decode cX6_towards 85 = .ok (.invokevirtual 127, 3) := by decide +kernel
theorem dX6_towards_88 : decode cX6_towards 88 = .ok (.ifCond .eq 7, 3) := by decide +kernel
theorem dX6_towards_91 : decode cX6_towards 91 = .ok (.iconst 1, 1) := by decide +kernel
theorem dX6_towards_92 : decode cX6_towards 92 = .ok (.goto 4, 3) := by decide +kernel
theorem dX6_towards_95 : decode cX6_towards 95 = .ok (.iconst 0, 1) := by decide +kernel
theorem dX6_towards_96 : decode cX6_towards 96 = .ok (.istore 8, 2) := by decide +kernel
theorem dX6_towards_98 : decode cX6_towards 98 = .ok (.iload 7, 2) := by decide +kernel
theorem dX6_towards_100 : decode cX6_towards 100 = .ok (.ifCond .eq 38, 3) := by decide +kernel
theorem dX6_towards_103 : decode cX6_towards 103 = .ok (.aload_n 0, 1) := by decide +kernel
theorem dX6_towards_104 : decode cX6_towards 104 = .ok (.iload_n 1, 1) := by decide +kernel
theorem dX6_towards_105 : decode cX6_towards 105 = .ok (.iload_n 2, 1) := by decide +kernel
theorem dX6_towards_106 : decode cX6_towards 106 = .ok (.iload 4, 2) := by decide +kernel
theorem dX6_towards_108 : decode cX6_towards 108 = .ok (.iload 9, 2) := by decide +kernel
theorem dX6_towards_110 : decode cX6_towards 110 = .ok (.isub, 1) := by decide +kernel
theorem dX6_towards_111 : decode cX6_towards 111 = .ok (.invokevirtual 123, 3) := by decide +kernel
theorem dX6_towards_114 : decode cX6_towards 114 = .ok (.iload 5, 2) := by decide +kernel
theorem dX6_towards_116 : decode cX6_towards 116 = .ok (.if_icmp .le 22, 3) := by decide +kernel
theorem dX6_towards_119 : decode cX6_towards 119 = .ok (.aload_n 0, 1) := by decide +kernel
theorem dX6_towards_120 : decode cX6_towards 120 = .ok (.iload_n 1, 1) := by decide +kernel
theorem dX6_towards_121 : decode cX6_towards 121 = .ok (.iload_n 2, 1) := by decide +kernel
theorem dX6_towards_122 : decode cX6_towards 122 = .ok (.iload 4, 2) := by decide +kernel
theorem dX6_towards_124 : decode cX6_towards 124 = .ok (.iload 9, 2) := by decide +kernel
theorem dX6_towards_126 : decode cX6_towards 126 = .ok (.isub, 1) := by decide +kernel
theorem dX6_towards_127 : decode cX6_towards 127 = .ok (.invokevirtual 123, 3) := by decide +kernel
theorem dX6_towards_130 : decode cX6_towards 130 = .ok (.istore 5, 2) := by decide +kernel
theorem dX6_towards_132 : decode cX6_towards 132 = .ok (.iload 4, 2) := by decide +kernel
theorem dX6_towards_134 : decode cX6_towards 134 = .ok (.iconst 1, 1) := by decide +kernel
theorem dX6_towards_135 : decode cX6_towards 135 = .ok (.isub, 1) := by decide +kernel
theorem dX6_towards_136 : decode cX6_towards 136 = .ok (.istore 6, 2) := by decide +kernel
theorem dX6_towards_138 : decode cX6_towards 138 = .ok (.iload 8, 2) := by decide +kernel
theorem dX6_towards_140 : decode cX6_towards 140 = .ok (.ifCond .eq 38, 3) := by decide +kernel
theorem dX6_towards_143 : decode cX6_towards 143 = .ok (.aload_n 0, 1) := by decide +kernel
theorem dX6_towards_144 : decode cX6_towards 144 = .ok (.iload_n 1, 1) := by decide +kernel
theorem dX6_towards_145 : decode cX6_towards 145 = .ok (.iload_n 2, 1) := by decide +kernel
theorem dX6_towards_146 : decode cX6_towards 146 = .ok (.iload 4, 2) := by decide +kernel
theorem dX6_towards_148 : decode cX6_towards 148 = .ok (.iload 9, 2) := by decide +kernel
theorem dX6_towards_150 : decode cX6_towards 150 = .ok (.iadd, 1) := by decide +kernel
theorem dX6_towards_151 : decode cX6_towards 151 = .ok (.invokevirtual 123, 3) := by decide +kernel
theorem dX6_towards_154 : decode cX6_towards 154 = .ok (.iload 5, 2) := by decide +kernel
theorem dX6_towards_156 : decode cX6_towards 156 = .ok (.if_icmp .le 22, 3) := by decide +kernel
theorem dX6_towards_159 : decode cX6_towards 159 = .ok (.aload_n 0, 1) := by decide +kernel
theorem dX6_towards_160 : decode cX6_towards 160 = .ok (.iload_n 1, 1) := by decide +kernel
theorem dX6_towards_161 : decode cX6_towards 161 = .ok (.iload_n 2, 1) := by decide +kernel
theorem dX6_towards_162 : decode cX6_towards 162 = .ok (.iload 4, 2) := by decide +kernel
theorem dX6_towards_164 : decode cX6_towards 164 = .ok (.iload 9, 2) := by decide +kernel
theorem dX6_towards_166 : decode cX6_towards 166 = .ok (.iadd, 1) := by decide +kernel
theorem dX6_towards_167 : decode cX6_towards 167 = .ok (.invokevirtual 123, 3) := by decide +kernel
theorem dX6_towards_170 : decode cX6_towards 170 = .ok (.istore 5, 2) := by decide +kernel
theorem dX6_towards_172 : decode cX6_towards 172 = .ok (.iload 4, 2) := by decide +kernel
theorem dX6_towards_174 : decode cX6_towards 174 = .ok (.iconst 1, 1) := by decide +kernel
theorem dX6_towards_175 : decode cX6_towards 175 = .ok (.iadd, 1) := by decide +kernel
theorem dX6_towards_176 : decode cX6_towards 176 = .ok (.istore 6, 2) := by decide +kernel
theorem dX6_towards_178 : decode cX6_towards 178 = .ok (.iinc 9 1, 3) := by decide +kernel
theorem dX6_towards_181 : decode cX6_towards 181 = .ok (.goto (-145), 3) := by decide +kernel
theorem dX6_towards_184 : decode cX6_towards 184 = .ok (.iload 6, 2) := by decide +kernel
theorem dX6_towards_186 : decode cX6_towards 186 = .ok (.ireturn, 1) := by decide +kernel
set_option maxRecDepth 20000 in
theorem ggX6_swimsTo_X6_towards : GoodIn wsX6_swimsTo wsX6_towards := goodIn_r _ [6, 1, 7, 8, 9, 5, 10, 11, 12, 13, 14, 15, 16, 17, 18, 19, 20, 21, 22, 23, 24, 25, 26, 27, 28, 29, 30, 31, 32, 33, 34, 35, 36, 37, 38, 39] (by decide +kernel) (by decide +kernel)
set_option maxRecDepth 20000 in
theorem gX6_swimsTo_X6_towards : GoodIn wsX6_swimsTo (wsV RX6 130 RX6 yX6_towards wsX6_towards) := goodIn_app (goodIn_of _ (by decide +kernel)) ggX6_swimsTo_X6_towards
set_option maxRecDepth 20000 in
theorem ggX6_swimsTo_X6_isOpen : GoodIn wsX6_swimsTo wsX6_isOpen := goodIn_r _ [14, 1, 15, 16, 5, 17, 18, 19, 20, 21, 22, 23, 24, 25, 26, 27, 28, 29, 30, 31, 32, 33, 34, 35, 36, 37, 38, 39] (by decide +kernel) (by decide +kernel)
set_option maxRecDepth 20000 in
theorem gX6_swimsTo_X6_isOpen : GoodIn wsX6_swimsTo (wsV RX6 127 RX6 yX6_isOpen wsX6_isOpen) := goodIn_app (goodIn_of _ (by decide +kernel)) ggX6_swimsTo_X6_isOpen
theorem dX6_swimsTo_0 : decode cX6_swimsTo 0 = .ok (.aload_n 0, 1) := by decide +kernel
theorem dX6_swimsTo_1 : decode cX6_swimsTo 1 = .ok (.getfield 7, 3) := by decide +kernel
theorem dX6_swimsTo_4 : decode cX6_swimsTo 4 = .ok (.iload_n 1, 1) := by decide +kernel
theorem dX6_swimsTo_5 : decode cX6_swimsTo 5 = .ok (.bipush 11, 2) := by decide +kernel
theorem dX6_swimsTo_7 : decode cX6_swimsTo 7 = .ok (.iadd, 1) := by decide +kernel
theorem dX6_swimsTo_8 : decode cX6_swimsTo 8 = .ok (.iload_n 2, 1) := by decide +kernel
theorem dX6_swimsTo_9 : decode cX6_swimsTo 9 = .ok (.iadd, 1) := by decide +kernel
theorem dX6_swimsTo_10 : decode cX6_swimsTo 10 = .ok (.iaload, 1) := by decide +kernel
theorem dX6_swimsTo_11 : decode cX6_swimsTo 11 = .ok (.istore_n 3, 1) := by decide +kernel
theorem dX6_swimsTo_12 : decode cX6_swimsTo 12 = .ok (.aload_n 0, 1) := by decide +kernel
theorem dX6_swimsTo_13 : decode cX6_swimsTo 13 = .ok (.getfield 7, 3) := by decide +kernel
theorem dX6_swimsTo_16 : decode cX6_swimsTo 16 = .ok (.iload_n 1, 1) := by decide +kernel
theorem dX6_swimsTo_17 : decode cX6_swimsTo 17 = .ok (.bipush 26, 2) := by decide +kernel
theorem dX6_swimsTo_19 : decode cX6_swimsTo 19 = .ok (.iadd, 1) := by decide +kernel
theorem dX6_swimsTo_20 : decode cX6_swimsTo 20 = .ok (.iload_n 2, 1) := by decide +kernel
theorem dX6_swimsTo_21 : decode cX6_swimsTo 21 = .ok (.iadd, 1) := by decide +kernel
theorem dX6_swimsTo_22 : decode cX6_swimsTo 22 = .ok (.iaload, 1) := by decide +kernel
theorem dX6_swimsTo_23 : decode cX6_swimsTo 23 = .ok (.tableswitch 95 3 5 #[25, 33, 64], 25) := by decide +kernel
theorem dX6_swimsTo_48 : decode cX6_swimsTo 48 = .ok (.aload_n 0, 1) := by decide +kernel
theorem dX6_swimsTo_49 : decode cX6_swimsTo 49 = .ok (.iload_n 1, 1) := by decide +kernel
theorem dX6_swimsTo_50 : decode cX6_swimsTo 50 = .ok (.iload_n 2, 1) := by decide +kernel
theorem dX6_swimsTo_51 : decode cX6_swimsTo 51 = .ok (.iconst 1, 1) := by decide +kernel
theorem dX6_swimsTo_52 : decode cX6_swimsTo 52 = .ok (.invokevirtual 130, 3) := by decide +kernel
theorem dX6_swimsTo_55 : decode cX6_swimsTo 55 = .ok (.ireturn, 1) := by decide +kernel
theorem dX6_swimsTo_56 : decode cX6_swimsTo 56 = .ok (.aload_n 0, 1) := by decide +kernel
theorem dX6_swimsTo_57 : decode cX6_swimsTo 57 = .ok (.getfield 7, 3) := by decide +kernel
theorem dX6_swimsTo_60 : decode cX6_swimsTo 60 = .ok (.iload_n 1, 1) := by decide +kernel
theorem dX6_swimsTo_61 : decode cX6_swimsTo 61 = .ok (.iconst 1, 1) := by decide +kernel
theorem dX6_swimsTo_62 : decode cX6_swimsTo 62 = .ok (.iadd, 1) := by decide +kernel
theorem dX6_swimsTo_63 : decode cX6_swimsTo 63 = .ok (.iload_n 3, 1) := by decide +kernel
theorem dX6_swimsTo_64 : decode cX6_swimsTo 64 = .ok (.iadd, 1) := by decide +kernel
theorem dX6_swimsTo_65 : decode cX6_swimsTo 65 = .ok (.iaload, 1) := by decide +kernel
theorem dX6_swimsTo_66 : decode cX6_swimsTo 66 = .ok (.ifCond .ne 19, 3) := by decide +kernel
theorem dX6_swimsTo_69 : decode cX6_swimsTo 69 = .ok (.aload_n 0, 1) := by decide +kernel
theorem dX6_swimsTo_70 : decode cX6_swimsTo 70 = .ok (.iload_n 1, 1) := by decide +kernel
theorem dX6_swimsTo_71 : decode cX6_swimsTo 71 = .ok (.iload_n 3, 1) := by decide +kernel
theorem dX6_swimsTo_72 : decode cX6_swimsTo 72 = .ok (.iconst (-1), 1) := by decide +kernel
theorem dX6_swimsTo_73 : decode cX6_swimsTo 73 = .ok (.invokevirtual 127, 3) := by decide +kernel
theorem dX6_swimsTo_76 : decode cX6_swimsTo 76 = .ok (.ifCond .eq 9, 3) := by decide +kernel
theorem dX6_swimsTo_79 : decode cX6_swimsTo 79 = .ok (.iload_n 3, 1) := by decide +kernel
theorem dX6_swimsTo_80 : decode cX6_swimsTo 80 = .ok (.iconst 1, 1) := by decide +kernel
theorem dX6_swimsTo_81 : decode cX6_swimsTo 81 = .ok (.isub, 1) := by decide +kernel
theorem dX6_swimsTo_82 : decode cX6_swimsTo 82 = .ok (.goto 4, 3) := by decide +kernel
theorem dX6_swimsTo_85 : decode cX6_swimsTo 85 = .ok (.iload_n 3, 1) := by decide +kernel
theorem dX6_swimsTo_86 : decode cX6_swimsTo 86 = .ok (.ireturn, 1) := by decide +kernel
theorem dX6_swimsTo_87 : decode cX6_swimsTo 87 = .ok (.aload_n 0, 1) := by decide +kernel
theorem dX6_swimsTo_88 : decode cX6_swimsTo 88 = .ok (.getfield 7, 3) := by decide +kernel
theorem dX6_swimsTo_91 : decode cX6_swimsTo 91 = .ok (.iload_n 1, 1) := by decide +kernel
theorem dX6_swimsTo_92 : decode cX6_swimsTo 92 = .ok (.iconst 1, 1) := by decide +kernel
theorem dX6_swimsTo_93 : decode cX6_swimsTo 93 = .ok (.iadd, 1) := by decide +kernel
theorem dX6_swimsTo_94 : decode cX6_swimsTo 94 = .ok (.iload_n 3, 1) := by decide +kernel
theorem dX6_swimsTo_95 : decode cX6_swimsTo 95 = .ok (.iadd, 1) := by decide +kernel
theorem dX6_swimsTo_96 : decode cX6_swimsTo 96 = .ok (.iaload, 1) := by decide +kernel
theorem dX6_swimsTo_97 : decode cX6_swimsTo 97 = .ok (.ifCond .ne 19, 3) := by decide +kernel
theorem dX6_swimsTo_100 : decode cX6_swimsTo 100 = .ok (.aload_n 0, 1) := by decide +kernel
theorem dX6_swimsTo_101 : decode cX6_swimsTo 101 = .ok (.iload_n 1, 1) := by decide +kernel
theorem dX6_swimsTo_102 : decode cX6_swimsTo 102 = .ok (.iload_n 3, 1) := by decide +kernel
theorem dX6_swimsTo_103 : decode cX6_swimsTo 103 = .ok (.iconst 1, 1) := by decide +kernel
theorem dX6_swimsTo_104 : decode cX6_swimsTo 104 = .ok (.invokevirtual 127, 3) := by decide +kernel
theorem dX6_swimsTo_107 : decode cX6_swimsTo 107 = .ok (.ifCond .eq 9, 3) := by decide +kernel
theorem dX6_swimsTo_110 : decode cX6_swimsTo 110 = .ok (.iload_n 3, 1) := by decide +kernel
theorem dX6_swimsTo_111 : decode cX6_swimsTo 111 = .ok (.iconst 1, 1) := by decide +kernel
theorem dX6_swimsTo_112 : decode cX6_swimsTo 112 = .ok (.iadd, 1) := by decide +kernel
theorem dX6_swimsTo_113 : decode cX6_swimsTo 113 = .ok (.goto 4, 3) := by decide +kernel
theorem dX6_swimsTo_116 : decode cX6_swimsTo 116 = .ok (.iload_n 3, 1) := by decide +kernel
theorem dX6_swimsTo_117 : decode cX6_swimsTo 117 = .ok (.ireturn, 1) := by decide +kernel
theorem dX6_swimsTo_118 : decode cX6_swimsTo 118 = .ok (.aload_n 0, 1) := by decide +kernel
theorem dX6_swimsTo_119 : decode cX6_swimsTo 119 = .ok (.iload_n 1, 1) := by decide +kernel
theorem dX6_swimsTo_120 : decode cX6_swimsTo 120 = .ok (.iload_n 2, 1) := by decide +kernel
theorem dX6_swimsTo_121 : decode cX6_swimsTo 121 = .ok (.iconst 2, 1) := by decide +kernel
theorem dX6_swimsTo_122 : decode cX6_swimsTo 122 = .ok (.invokevirtual 130, 3) := by decide +kernel
theorem dX6_swimsTo_125 : decode cX6_swimsTo 125 = .ok (.ireturn, 1) := by decide +kernel
set_option maxRecDepth 20000 in
theorem ggX6_fightsOn_X6_isOpen : GoodIn wsX6_fightsOn wsX6_isOpen := goodIn_r _ [7, 1, 8, 9, 6, 10, 11, 12, 13, 14, 15, 16, 17, 18, 19, 20, 21, 22, 23, 24, 25, 26, 27, 28, 29, 30, 31, 32] (by decide +kernel) (by decide +kernel)
set_option maxRecDepth 20000 in
theorem gX6_fightsOn_X6_isOpen : GoodIn wsX6_fightsOn (wsV RX6 127 RX6 yX6_isOpen wsX6_isOpen) := goodIn_app (goodIn_of _ (by decide +kernel)) ggX6_fightsOn_X6_isOpen
theorem dX6_fightsOn_0 : decode cX6_fightsOn 0 = .ok (.iconst (-1), 1) := by decide +kernel
theorem dX6_fightsOn_1 : decode cX6_fightsOn 1 = .ok (.istore_n 3, 1) := by decide +kernel
theorem dX6_fightsOn_2 : decode cX6_fightsOn 2 = .ok (.iconst 0, 1) := by decide +kernel
theorem dX6_fightsOn_3 : decode cX6_fightsOn 3 = .ok (.istore 4, 2) := by decide +kernel
theorem dX6_fightsOn_5 : decode cX6_fightsOn 5 = .ok (.iload 4, 2) := by decide +kernel
theorem dX6_fightsOn_7 : decode cX6_fightsOn 7 = .ok (.aload_n 0, 1) := by decide +kernel
theorem dX6_fightsOn_8 : decode cX6_fightsOn 8 = .ok (.getfield 7, 3) := by decide +kernel
theorem dX6_fightsOn_11 : decode cX6_fightsOn 11 = .ok (.iload_n 1, 1) := by decide +kernel
theorem dX6_fightsOn_12 : decode cX6_fightsOn 12 = .ok (.bipush 25, 2) := by decide +kernel
theorem dX6_fightsOn_14 : decode cX6_fightsOn 14 = .ok (.iadd, 1) := by decide +kernel
theorem dX6_fightsOn_15 : decode cX6_fightsOn 15 = .ok (.iaload, 1) := by decide +kernel
theorem dX6_fightsOn_16 : decode cX6_fightsOn 16 = .ok (.if_icmp .ge 90, 3) := by decide +kernel
theorem dX6_fightsOn_19 : decode cX6_fightsOn 19 = .ok (.aload_n 0, 1) := by decide +kernel
theorem dX6_fightsOn_20 : decode cX6_fightsOn 20 = .ok (.getfield 7, 3) := by decide +kernel
theorem dX6_fightsOn_23 : decode cX6_fightsOn 23 = .ok (.iload_n 1, 1) := by decide +kernel
theorem dX6_fightsOn_24 : decode cX6_fightsOn 24 = .ok (.bipush 26, 2) := by decide +kernel
theorem dX6_fightsOn_26 : decode cX6_fightsOn 26 = .ok (.iadd, 1) := by decide +kernel
theorem dX6_fightsOn_27 : decode cX6_fightsOn 27 = .ok (.iload 4, 2) := by decide +kernel
theorem dX6_fightsOn_29 : decode cX6_fightsOn 29 = .ok (.iadd, 1) := by decide +kernel
theorem dX6_fightsOn_30 : decode cX6_fightsOn 30 = .ok (.iaload, 1) := by decide +kernel
theorem dX6_fightsOn_31 : decode cX6_fightsOn 31 = .ok (.iconst 2, 1) := by decide +kernel
theorem dX6_fightsOn_32 : decode cX6_fightsOn 32 = .ok (.if_icmp .ne 23, 3) := by decide +kernel
theorem dX6_fightsOn_35 : decode cX6_fightsOn 35 = .ok (.aload_n 0, 1) := by decide +kernel
theorem dX6_fightsOn_36 : decode cX6_fightsOn 36 = .ok (.getfield 7, 3) := by decide +kernel
theorem dX6_fightsOn_39 : decode cX6_fightsOn 39 = .ok (.iload_n 1, 1) := by decide +kernel
theorem dX6_fightsOn_40 : decode cX6_fightsOn 40 = .ok (.bipush 11, 2) := by decide +kernel
theorem dX6_fightsOn_42 : decode cX6_fightsOn 42 = .ok (.iadd, 1) := by decide +kernel
theorem dX6_fightsOn_43 : decode cX6_fightsOn 43 = .ok (.iload 4, 2) := by decide +kernel
theorem dX6_fightsOn_45 : decode cX6_fightsOn 45 = .ok (.iadd, 1) := by decide +kernel
theorem dX6_fightsOn_46 : decode cX6_fightsOn 46 = .ok (.iaload, 1) := by decide +kernel
theorem dX6_fightsOn_47 : decode cX6_fightsOn 47 = .ok (.iload_n 2, 1) := by decide +kernel
theorem dX6_fightsOn_48 : decode cX6_fightsOn 48 = .ok (.if_icmp .ne 7, 3) := by decide +kernel
theorem dX6_fightsOn_51 : decode cX6_fightsOn 51 = .ok (.iconst 1, 1) := by decide +kernel
theorem dX6_fightsOn_52 : decode cX6_fightsOn 52 = .ok (.goto 4, 3) := by decide +kernel
theorem dX6_fightsOn_55 : decode cX6_fightsOn 55 = .ok (.iconst 0, 1) := by decide +kernel
theorem dX6_fightsOn_56 : decode cX6_fightsOn 56 = .ok (.istore 5, 2) := by decide +kernel
theorem dX6_fightsOn_58 : decode cX6_fightsOn 58 = .ok (.iload 5, 2) := by decide +kernel
theorem dX6_fightsOn_60 : decode cX6_fightsOn 60 = .ok (.ifCond .eq 38, 3) := by decide +kernel
theorem dX6_fightsOn_63 : decode cX6_fightsOn 63 = .ok (.iload_n 3, 1) := by decide +kernel
theorem dX6_fightsOn_64 : decode cX6_fightsOn 64 = .ok (.ifCond .lt 29, 3) := by decide +kernel
theorem dX6_fightsOn_67 : decode cX6_fightsOn 67 = .ok (.aload_n 0, 1) := by decide +kernel
theorem dX6_fightsOn_68 : decode cX6_fightsOn 68 = .ok (.getfield 7, 3) := by decide +kernel
theorem dX6_fightsOn_71 : decode cX6_fightsOn 71 = .ok (.iload_n 1, 1) := by decide +kernel
theorem dX6_fightsOn_72 : decode cX6_fightsOn 72 = .ok (.bipush 17, 2) := by decide +kernel
theorem dX6_fightsOn_74 : decode cX6_fightsOn 74 = .ok (.iadd, 1) := by decide +kernel
theorem dX6_fightsOn_75 : decode cX6_fightsOn 75 = .ok (.iload 4, 2) := by decide +kernel
theorem dX6_fightsOn_77 : decode cX6_fightsOn 77 = .ok (.iadd, 1) := by decide +kernel
theorem dX6_fightsOn_78 : decode cX6_fightsOn 78 = .ok (.iaload, 1) := by decide +kernel
theorem dX6_fightsOn_79 : decode cX6_fightsOn 79 = .ok (.aload_n 0, 1) := by decide +kernel
theorem dX6_fightsOn_80 : decode cX6_fightsOn 80 = .ok (.getfield 7, 3) := by decide +kernel
theorem dX6_fightsOn_83 : decode cX6_fightsOn 83 = .ok (.iload_n 1, 1) := by decide +kernel
theorem dX6_fightsOn_84 : decode cX6_fightsOn 84 = .ok (.bipush 17, 2) := by decide +kernel
theorem dX6_fightsOn_86 : decode cX6_fightsOn 86 = .ok (.iadd, 1) := by decide +kernel
theorem dX6_fightsOn_87 : decode cX6_fightsOn 87 = .ok (.iload_n 3, 1) := by decide +kernel
theorem dX6_fightsOn_88 : decode cX6_fightsOn 88 = .ok (.iadd, 1) := by decide +kernel
theorem dX6_fightsOn_89 : decode cX6_fightsOn 89 = .ok (.iaload, 1) := by decide +kernel
theorem dX6_fightsOn_90 : decode cX6_fightsOn 90 = .ok (.if_icmp .le 8, 3) := by decide +kernel
theorem dX6_fightsOn_93 : decode cX6_fightsOn 93 = .ok (.iload 4, 2) := by decide +kernel
theorem dX6_fightsOn_95 : decode cX6_fightsOn 95 = .ok (.goto 4, 3) := by decide +kernel
theorem dX6_fightsOn_98 : decode cX6_fightsOn 98 = .ok (.iload_n 3, 1) := by decide +kernel
theorem dX6_fightsOn_99 : decode cX6_fightsOn 99 = .ok (.istore_n 3, 1) := by decide +kernel
theorem dX6_fightsOn_100 : decode cX6_fightsOn 100 = .ok (.iinc 4 1, 3) := by decide +kernel
theorem dX6_fightsOn_103 : decode cX6_fightsOn 103 = .ok (.goto (-98), 3) := by decide +kernel
theorem dX6_fightsOn_106 : decode cX6_fightsOn 106 = .ok (.iconst 0, 1) := by decide +kernel
theorem dX6_fightsOn_107 : decode cX6_fightsOn 107 = .ok (.istore 4, 2) := by decide +kernel
theorem dX6_fightsOn_109 : decode cX6_fightsOn 109 = .ok (.iload 4, 2) := by decide +kernel
theorem dX6_fightsOn_111 : decode cX6_fightsOn 111 = .ok (.aload_n 0, 1) := by decide +kernel
theorem dX6_fightsOn_112 : decode cX6_fightsOn 112 = .ok (.getfield 7, 3) := by decide +kernel
theorem dX6_fightsOn_115 : decode cX6_fightsOn 115 = .ok (.iload_n 1, 1) := by decide +kernel
theorem dX6_fightsOn_116 : decode cX6_fightsOn 116 = .ok (.bipush 25, 2) := by decide +kernel
theorem dX6_fightsOn_118 : decode cX6_fightsOn 118 = .ok (.iadd, 1) := by decide +kernel
theorem dX6_fightsOn_119 : decode cX6_fightsOn 119 = .ok (.iaload, 1) := by decide +kernel
theorem dX6_fightsOn_120 : decode cX6_fightsOn 120 = .ok (.if_icmp .ge 87, 3) := by decide +kernel
theorem dX6_fightsOn_123 : decode cX6_fightsOn 123 = .ok (.iload 4, 2) := by decide +kernel
theorem dX6_fightsOn_125 : decode cX6_fightsOn 125 = .ok (.iload_n 3, 1) := by decide +kernel
theorem dX6_fightsOn_126 : decode cX6_fightsOn 126 = .ok (.if_icmp .eq 75, 3) := by decide +kernel
theorem dX6_fightsOn_129 : decode cX6_fightsOn 129 = .ok (.aload_n 0, 1) := by decide +kernel
theorem dX6_fightsOn_130 : decode cX6_fightsOn 130 = .ok (.getfield 7, 3) := by decide +kernel
theorem dX6_fightsOn_133 : decode cX6_fightsOn 133 = .ok (.iload_n 1, 1) := by decide +kernel
theorem dX6_fightsOn_134 : decode cX6_fightsOn 134 = .ok (.bipush 26, 2) := by decide +kernel
theorem dX6_fightsOn_136 : decode cX6_fightsOn 136 = .ok (.iadd, 1) := by decide +kernel
theorem dX6_fightsOn_137 : decode cX6_fightsOn 137 = .ok (.iload 4, 2) := by decide +kernel
theorem dX6_fightsOn_139 : decode cX6_fightsOn 139 = .ok (.iadd, 1) := by decide +kernel
theorem dX6_fightsOn_140 : decode cX6_fightsOn 140 = .ok (.iaload, 1) := by decide +kernel
theorem dX6_fightsOn_141 : decode cX6_fightsOn 141 = .ok (.iconst 2, 1) := by decide +kernel
theorem dX6_fightsOn_142 : decode cX6_fightsOn 142 = .ok (.if_icmp .ne 59, 3) := by decide +kernel
theorem dX6_fightsOn_145 : decode cX6_fightsOn 145 = .ok (.aload_n 0, 1) := by decide +kernel
theorem dX6_fightsOn_146 : decode cX6_fightsOn 146 = .ok (.getfield 7, 3) := by decide +kernel
theorem dX6_fightsOn_149 : decode cX6_fightsOn 149 = .ok (.iload_n 1, 1) := by decide +kernel
theorem dX6_fightsOn_150 : decode cX6_fightsOn 150 = .ok (.bipush 11, 2) := by decide +kernel
theorem dX6_fightsOn_152 : decode cX6_fightsOn 152 = .ok (.iadd, 1) := by decide +kernel
theorem dX6_fightsOn_153 : decode cX6_fightsOn 153 = .ok (.iload 4, 2) := by decide +kernel
theorem dX6_fightsOn_155 : decode cX6_fightsOn 155 = .ok (.iadd, 1) := by decide +kernel
theorem dX6_fightsOn_156 : decode cX6_fightsOn 156 = .ok (.iaload, 1) := by decide +kernel
theorem dX6_fightsOn_157 : decode cX6_fightsOn 157 = .ok (.iload_n 2, 1) := by decide +kernel
theorem dX6_fightsOn_158 : decode cX6_fightsOn 158 = .ok (.if_icmp .ne 43, 3) := by decide +kernel
theorem dX6_fightsOn_161 : decode cX6_fightsOn 161 = .ok (.aload_n 0, 1) := by decide +kernel
theorem dX6_fightsOn_162 : decode cX6_fightsOn 162 = .ok (.dup, 1) := by decide +kernel
theorem dX6_fightsOn_163 : decode cX6_fightsOn 163 = .ok (.getfield 133, 3) := by decide +kernel
theorem dX6_fightsOn_166 : decode cX6_fightsOn 166 = .ok (.iconst 1, 1) := by decide +kernel
theorem dX6_fightsOn_167 : decode cX6_fightsOn 167 = .ok (.iadd, 1) := by decide +kernel
theorem dX6_fightsOn_168 : decode cX6_fightsOn 168 = .ok (.putfield 133, 3) := by decide +kernel
theorem dX6_fightsOn_171 : decode cX6_fightsOn 171 = .ok (.aload_n 0, 1) := by decide +kernel
theorem dX6_fightsOn_172 : decode cX6_fightsOn 172 = .ok (.getfield 7, 3) := by decide +kernel
theorem dX6_fightsOn_175 : decode cX6_fightsOn 175 = .ok (.iload_n 1, 1) := by decide +kernel
theorem dX6_fightsOn_176 : decode cX6_fightsOn 176 = .ok (.bipush 11, 2) := by decide +kernel
theorem dX6_fightsOn_178 : decode cX6_fightsOn 178 = .ok (.iadd, 1) := by decide +kernel
theorem dX6_fightsOn_179 : decode cX6_fightsOn 179 = .ok (.iload 4, 2) := by decide +kernel
theorem dX6_fightsOn_181 : decode cX6_fightsOn 181 = .ok (.iadd, 1) := by decide +kernel
theorem dX6_fightsOn_182 : decode cX6_fightsOn 182 = .ok (.dup2, 1) := by decide +kernel
theorem dX6_fightsOn_183 : decode cX6_fightsOn 183 = .ok (.iaload, 1) := by decide +kernel
theorem dX6_fightsOn_184 : decode cX6_fightsOn 184 = .ok (.aload_n 0, 1) := by decide +kernel
theorem dX6_fightsOn_185 : decode cX6_fightsOn 185 = .ok (.iload_n 1, 1) := by decide +kernel
theorem dX6_fightsOn_186 : decode cX6_fightsOn 186 = .ok (.iload_n 2, 1) := by decide +kernel
theorem dX6_fightsOn_187 : decode cX6_fightsOn 187 = .ok (.iconst (-1), 1) := by decide +kernel
theorem dX6_fightsOn_188 : decode cX6_fightsOn 188 = .ok (.invokevirtual 127, 3) := by decide +kernel
theorem dX6_fightsOn_191 : decode cX6_fightsOn 191 = .ok (.ifCond .eq 7, 3) := by decide +kernel
theorem dX6_fightsOn_194 : decode cX6_fightsOn 194 = .ok (.iconst 1, 1) := by decide +kernel
theorem dX6_fightsOn_195 : decode cX6_fightsOn 195 = .ok (.goto 4, 3) := by decide +kernel
theorem dX6_fightsOn_198 : decode cX6_fightsOn 198 = .ok (.iconst 0, 1) := by decide +kernel
theorem dX6_fightsOn_199 : decode cX6_fightsOn 199 = .ok (.isub, 1) := by decide +kernel
theorem dX6_fightsOn_200 : decode cX6_fightsOn 200 = .ok (.iastore, 1) := by decide +kernel
theorem dX6_fightsOn_201 : decode cX6_fightsOn 201 = .ok (.iinc 4 1, 3) := by decide +kernel
theorem dX6_fightsOn_204 : decode cX6_fightsOn 204 = .ok (.goto (-95), 3) := by decide +kernel
theorem dX6_fightsOn_207 : decode cX6_fightsOn 207 = .ok (.return_, 1) := by decide +kernel
set_option maxRecDepth 20000 in
theorem ggX6_passes_X6_swimsTo : GoodIn wsX6_passes wsX6_swimsTo := goodIn_r _ [8, 3, 9, 10, 11, 7, 12, 13, 14, 15, 16, 17, 18, 19, 20, 21, 22, 23, 24, 25, 26, 31, 32, 33, 34, 35, 36, 37, 38, 39, 40, 41, 42, 43, 44, 45, 46, 47, 48, 49] (by decide +kernel) (by decide +kernel)
set_option maxRecDepth 20000 in
theorem gX6_passes_X6_swimsTo : GoodIn wsX6_passes (wsV RX6 139 RX6 yX6_swimsTo wsX6_swimsTo) := goodIn_app (goodIn_of _ (by decide +kernel)) ggX6_passes_X6_swimsTo
set_option maxRecDepth 20000 in
theorem ggX6_passes_X6_fightsOn : GoodIn wsX6_passes wsX6_fightsOn := goodIn_r _ [30, 3, 2, 17, 18, 19, 7, 20, 21, 22, 23, 24, 25, 26, 31, 32, 33, 34, 35, 36, 37, 38, 39, 40, 41, 42, 43, 44, 45, 46, 47, 48, 49] (by decide +kernel) (by decide +kernel)
set_option maxRecDepth 20000 in
theorem gX6_passes_X6_fightsOn : GoodIn wsX6_passes (wsV RX6 143 RX6 yX6_fightsOn wsX6_fightsOn) := goodIn_app (goodIn_of _ (by decide +kernel)) ggX6_passes_X6_fightsOn
theorem dX6_passes_0 : decode cX6_passes 0 = .ok (.aload_n 0, 1) := by decide +kernel
theorem dX6_passes_1 : decode cX6_passes 1 = .ok (.iconst 0, 1) := by decide +kernel
theorem dX6_passes_2 : decode cX6_passes 2 = .ok (.putfield 136, 3) := by decide +kernel
theorem dX6_passes_5 : decode cX6_passes 5 = .ok (.aload_n 0, 1) := by decide +kernel
theorem dX6_passes_6 : decode cX6_passes 6 = .ok (.iconst 0, 1) := by decide +kernel
theorem dX6_passes_7 : decode cX6_passes 7 = .ok (.putfield 133, 3) := by decide +kernel
theorem dX6_passes_10 : decode cX6_passes 10 = .ok (.iconst 0, 1) := by decide +kernel
theorem dX6_passes_11 : decode cX6_passes 11 = .ok (.istore_n 2, 1) := by decide +kernel
theorem dX6_passes_12 : decode cX6_passes 12 = .ok (.iload_n 2, 1) := by decide +kernel
theorem dX6_passes_13 : decode cX6_passes 13 = .ok (.aload_n 0, 1) := by decide +kernel
theorem dX6_passes_14 : decode cX6_passes 14 = .ok (.getfield 7, 3) := by decide +kernel
theorem dX6_passes_17 : decode cX6_passes 17 = .ok (.iload_n 1, 1) := by decide +kernel
theorem dX6_passes_18 : decode cX6_passes 18 = .ok (.bipush 25, 2) := by decide +kernel
theorem dX6_passes_20 : decode cX6_passes 20 = .ok (.iadd, 1) := by decide +kernel
theorem dX6_passes_21 : decode cX6_passes 21 = .ok (.iaload, 1) := by decide +kernel
theorem dX6_passes_22 : decode cX6_passes 22 = .ok (.if_icmp .ge 77, 3) := by decide +kernel
theorem dX6_passes_25 : decode cX6_passes 25 = .ok (.aload_n 0, 1) := by decide +kernel
theorem dX6_passes_26 : decode cX6_passes 26 = .ok (.getfield 7, 3) := by decide +kernel
theorem dX6_passes_29 : decode cX6_passes 29 = .ok (.iload_n 1, 1) := by decide +kernel
theorem dX6_passes_30 : decode cX6_passes 30 = .ok (.bipush 11, 2) := by decide +kernel
theorem dX6_passes_32 : decode cX6_passes 32 = .ok (.iadd, 1) := by decide +kernel
theorem dX6_passes_33 : decode cX6_passes 33 = .ok (.iload_n 2, 1) := by decide +kernel
theorem dX6_passes_34 : decode cX6_passes 34 = .ok (.iadd, 1) := by decide +kernel
theorem dX6_passes_35 : decode cX6_passes 35 = .ok (.aload_n 0, 1) := by decide +kernel
theorem dX6_passes_36 : decode cX6_passes 36 = .ok (.iload_n 1, 1) := by decide +kernel
theorem dX6_passes_37 : decode cX6_passes 37 = .ok (.iload_n 2, 1) := by decide +kernel
theorem dX6_passes_38 : decode cX6_passes 38 = .ok (.invokevirtual 139, 3) := by decide +kernel
theorem dX6_passes_41 : decode cX6_passes 41 = .ok (.iastore, 1) := by decide +kernel
theorem dX6_passes_42 : decode cX6_passes 42 = .ok (.aload_n 0, 1) := by decide +kernel
theorem dX6_passes_43 : decode cX6_passes 43 = .ok (.getfield 7, 3) := by decide +kernel
theorem dX6_passes_46 : decode cX6_passes 46 = .ok (.iload_n 1, 1) := by decide +kernel
theorem dX6_passes_47 : decode cX6_passes 47 = .ok (.bipush 11, 2) := by decide +kernel
theorem dX6_passes_49 : decode cX6_passes 49 = .ok (.iadd, 1) := by decide +kernel
theorem dX6_passes_50 : decode cX6_passes 50 = .ok (.iload_n 2, 1) := by decide +kernel
theorem dX6_passes_51 : decode cX6_passes 51 = .ok (.iadd, 1) := by decide +kernel
theorem dX6_passes_52 : decode cX6_passes 52 = .ok (.iaload, 1) := by decide +kernel
theorem dX6_passes_53 : decode cX6_passes 53 = .ok (.istore_n 3, 1) := by decide +kernel
theorem dX6_passes_54 : decode cX6_passes 54 = .ok (.aload_n 0, 1) := by decide +kernel
theorem dX6_passes_55 : decode cX6_passes 55 = .ok (.getfield 7, 3) := by decide +kernel
theorem dX6_passes_58 : decode cX6_passes 58 = .ok (.iload_n 1, 1) := by decide +kernel
theorem dX6_passes_59 : decode cX6_passes 59 = .ok (.iconst 1, 1) := by decide +kernel
theorem dX6_passes_60 : decode cX6_passes 60 = .ok (.iadd, 1) := by decide +kernel
theorem dX6_passes_61 : decode cX6_passes 61 = .ok (.iload_n 3, 1) := by decide +kernel
theorem dX6_passes_62 : decode cX6_passes 62 = .ok (.iadd, 1) := by decide +kernel
theorem dX6_passes_63 : decode cX6_passes 63 = .ok (.iaload, 1) := by decide +kernel
theorem dX6_passes_64 : decode cX6_passes 64 = .ok (.ifCond .le 29, 3) := by decide +kernel
theorem dX6_passes_67 : decode cX6_passes 67 = .ok (.aload_n 0, 1) := by decide +kernel
theorem dX6_passes_68 : decode cX6_passes 68 = .ok (.getfield 7, 3) := by decide +kernel
theorem dX6_passes_71 : decode cX6_passes 71 = .ok (.iload_n 1, 1) := by decide +kernel
theorem dX6_passes_72 : decode cX6_passes 72 = .ok (.iconst 1, 1) := by decide +kernel
theorem dX6_passes_73 : decode cX6_passes 73 = .ok (.iadd, 1) := by decide +kernel
theorem dX6_passes_74 : decode cX6_passes 74 = .ok (.iload_n 3, 1) := by decide +kernel
theorem dX6_passes_75 : decode cX6_passes 75 = .ok (.iadd, 1) := by decide +kernel
theorem dX6_passes_76 : decode cX6_passes 76 = .ok (.dup2, 1) := by decide +kernel
theorem dX6_passes_77 : decode cX6_passes 77 = .ok (.iaload, 1) := by decide +kernel
theorem dX6_passes_78 : decode cX6_passes 78 = .ok (.iconst 1, 1) := by decide +kernel
theorem dX6_passes_79 : decode cX6_passes 79 = .ok (.isub, 1) := by decide +kernel
theorem dX6_passes_80 : decode cX6_passes 80 = .ok (.iastore, 1) := by decide +kernel
theorem dX6_passes_81 : decode cX6_passes 81 = .ok (.aload_n 0, 1) := by decide +kernel
theorem dX6_passes_82 : decode cX6_passes 82 = .ok (.dup, 1) := by decide +kernel
theorem dX6_passes_83 : decode cX6_passes 83 = .ok (.getfield 136, 3) := by decide +kernel
theorem dX6_passes_86 : decode cX6_passes 86 = .ok (.iconst 1, 1) := by decide +kernel
theorem dX6_passes_87 : decode cX6_passes 87 = .ok (.iload_n 2, 1) := by decide +kernel
theorem dX6_passes_88 : decode cX6_passes 88 = .ok (.ishl, 1) := by decide +kernel
theorem dX6_passes_89 : decode cX6_passes 89 = .ok (.ior, 1) := by decide +kernel
theorem dX6_passes_90 : decode cX6_passes 90 = .ok (.putfield 136, 3) := by decide +kernel
theorem dX6_passes_93 : decode cX6_passes 93 = .ok (.iinc 2 1, 3) := by decide +kernel
theorem dX6_passes_96 : decode cX6_passes 96 = .ok (.goto (-84), 3) := by decide +kernel
theorem dX6_passes_99 : decode cX6_passes 99 = .ok (.iconst 0, 1) := by decide +kernel
theorem dX6_passes_100 : decode cX6_passes 100 = .ok (.istore_n 2, 1) := by decide +kernel
theorem dX6_passes_101 : decode cX6_passes 101 = .ok (.iload_n 2, 1) := by decide +kernel
theorem dX6_passes_102 : decode cX6_passes 102 = .ok (.aload_n 0, 1) := by decide +kernel
theorem dX6_passes_103 : decode cX6_passes 103 = .ok (.getfield 7, 3) := by decide +kernel
theorem dX6_passes_106 : decode cX6_passes 106 = .ok (.iload_n 1, 1) := by decide +kernel
theorem dX6_passes_107 : decode cX6_passes 107 = .ok (.bipush 24, 2) := by decide +kernel
theorem dX6_passes_109 : decode cX6_passes 109 = .ok (.iadd, 1) := by decide +kernel
theorem dX6_passes_110 : decode cX6_passes 110 = .ok (.iaload, 1) := by decide +kernel
theorem dX6_passes_111 : decode cX6_passes 111 = .ok (.if_icmp .ge 15, 3) := by decide +kernel
theorem dX6_passes_114 : decode cX6_passes 114 = .ok (.aload_n 0, 1) := by decide +kernel
theorem dX6_passes_115 : decode cX6_passes 115 = .ok (.iload_n 1, 1) := by decide +kernel
theorem dX6_passes_116 : decode cX6_passes 116 = .ok (.iload_n 2, 1) := by decide +kernel
theorem dX6_passes_117 : decode cX6_passes 117 = .ok (.invokevirtual 143, 3) := by decide +kernel
theorem dX6_passes_120 : decode cX6_passes 120 = .ok (.iinc 2 1, 3) := by decide +kernel
theorem dX6_passes_123 : decode cX6_passes 123 = .ok (.goto (-22), 3) := by decide +kernel
theorem dX6_passes_126 : decode cX6_passes 126 = .ok (.aload_n 0, 1) := by decide +kernel
theorem dX6_passes_127 : decode cX6_passes 127 = .ok (.getfield 7, 3) := by decide +kernel
theorem dX6_passes_130 : decode cX6_passes 130 = .ok (.iload_n 1, 1) := by decide +kernel
theorem dX6_passes_131 : decode cX6_passes 131 = .ok (.iconst 0, 1) := by decide +kernel
theorem dX6_passes_132 : decode cX6_passes 132 = .ok (.iadd, 1) := by decide +kernel
theorem dX6_passes_133 : decode cX6_passes 133 = .ok (.dup2, 1) := by decide +kernel
theorem dX6_passes_134 : decode cX6_passes 134 = .ok (.iaload, 1) := by decide +kernel
theorem dX6_passes_135 : decode cX6_passes 135 = .ok (.iconst 1, 1) := by decide +kernel
theorem dX6_passes_136 : decode cX6_passes 136 = .ok (.iadd, 1) := by decide +kernel
theorem dX6_passes_137 : decode cX6_passes 137 = .ok (.iastore, 1) := by decide +kernel
theorem dX6_passes_138 : decode cX6_passes 138 = .ok (.return_, 1) := by decide +kernel
theorem dX6_swansOn_0 : decode cX6_swansOn 0 = .ok (.iconst 0, 1) := by decide +kernel
theorem dX6_swansOn_1 : decode cX6_swansOn 1 = .ok (.istore_n 3, 1) := by decide +kernel
theorem dX6_swansOn_2 : decode cX6_swansOn 2 = .ok (.iconst 0, 1) := by decide +kernel
theorem dX6_swansOn_3 : decode cX6_swansOn 3 = .ok (.istore 4, 2) := by decide +kernel
theorem dX6_swansOn_5 : decode cX6_swansOn 5 = .ok (.iload 4, 2) := by decide +kernel
theorem dX6_swansOn_7 : decode cX6_swansOn 7 = .ok (.aload_n 0, 1) := by decide +kernel
theorem dX6_swansOn_8 : decode cX6_swansOn 8 = .ok (.getfield 7, 3) := by decide +kernel
theorem dX6_swansOn_11 : decode cX6_swansOn 11 = .ok (.iload_n 1, 1) := by decide +kernel
theorem dX6_swansOn_12 : decode cX6_swansOn 12 = .ok (.bipush 25, 2) := by decide +kernel
theorem dX6_swansOn_14 : decode cX6_swansOn 14 = .ok (.iadd, 1) := by decide +kernel
theorem dX6_swansOn_15 : decode cX6_swansOn 15 = .ok (.iaload, 1) := by decide +kernel
theorem dX6_swansOn_16 : decode cX6_swansOn 16 = .ok (.if_icmp .ge 36, 3) := by decide +kernel
theorem dX6_swansOn_19 : decode cX6_swansOn 19 = .ok (.iload_n 3, 1) := by decide +kernel
theorem dX6_swansOn_20 : decode cX6_swansOn 20 = .ok (.aload_n 0, 1) := by decide +kernel
theorem dX6_swansOn_21 : decode cX6_swansOn 21 = .ok (.getfield 7, 3) := by decide +kernel
theorem dX6_swansOn_24 : decode cX6_swansOn 24 = .ok (.iload_n 1, 1) := by decide +kernel
theorem dX6_swansOn_25 : decode cX6_swansOn 25 = .ok (.bipush 11, 2) := by decide +kernel
theorem dX6_swansOn_27 : decode cX6_swansOn 27 = .ok (.iadd, 1) := by decide +kernel
theorem dX6_swansOn_28 : decode cX6_swansOn 28 = .ok (.iload 4, 2) := by decide +kernel
theorem dX6_swansOn_30 : decode cX6_swansOn 30 = .ok (.iadd, 1) := by decide +kernel
theorem dX6_swansOn_31 : decode cX6_swansOn 31 = .ok (.iaload, 1) := by decide +kernel
theorem dX6_swansOn_32 : decode cX6_swansOn 32 = .ok (.iload_n 2, 1) := by decide +kernel
theorem dX6_swansOn_33 : decode cX6_swansOn 33 = .ok (.if_icmp .ne 10, 3) := by decide +kernel
theorem dX6_swansOn_36 : decode cX6_swansOn 36 = .ok (.iconst 1, 1) := by decide +kernel
theorem dX6_swansOn_37 : decode cX6_swansOn 37 = .ok (.iload 4, 2) := by decide +kernel
theorem dX6_swansOn_39 : decode cX6_swansOn 39 = .ok (.ishl, 1) := by decide +kernel
theorem dX6_swansOn_40 : decode cX6_swansOn 40 = .ok (.goto 4, 3) := by decide +kernel
theorem dX6_swansOn_43 : decode cX6_swansOn 43 = .ok (.iconst 0, 1) := by decide +kernel
theorem dX6_swansOn_44 : decode cX6_swansOn 44 = .ok (.ior, 1) := by decide +kernel
theorem dX6_swansOn_45 : decode cX6_swansOn 45 = .ok (.istore_n 3, 1) := by decide +kernel
theorem dX6_swansOn_46 : decode cX6_swansOn 46 = .ok (.iinc 4 1, 3) := by decide +kernel
theorem dX6_swansOn_49 : decode cX6_swansOn 49 = .ok (.goto (-44), 3) := by decide +kernel
theorem dX6_swansOn_52 : decode cX6_swansOn 52 = .ok (.iload_n 3, 1) := by decide +kernel
theorem dX6_swansOn_53 : decode cX6_swansOn 53 = .ok (.ireturn, 1) := by decide +kernel
theorem dX6_plotsOf_0 : decode cX6_plotsOf 0 = .ok (.iconst 0, 1) := by decide +kernel
theorem dX6_plotsOf_1 : decode cX6_plotsOf 1 = .ok (.istore_n 3, 1) := by decide +kernel
theorem dX6_plotsOf_2 : decode cX6_plotsOf 2 = .ok (.iconst 0, 1) := by decide +kernel
theorem dX6_plotsOf_3 : decode cX6_plotsOf 3 = .ok (.istore 4, 2) := by decide +kernel
theorem dX6_plotsOf_5 : decode cX6_plotsOf 5 = .ok (.iload 4, 2) := by decide +kernel
theorem dX6_plotsOf_7 : decode cX6_plotsOf 7 = .ok (.aload_n 0, 1) := by decide +kernel
theorem dX6_plotsOf_8 : decode cX6_plotsOf 8 = .ok (.getfield 7, 3) := by decide +kernel
theorem dX6_plotsOf_11 : decode cX6_plotsOf 11 = .ok (.iload_n 1, 1) := by decide +kernel
theorem dX6_plotsOf_12 : decode cX6_plotsOf 12 = .ok (.bipush 25, 2) := by decide +kernel
theorem dX6_plotsOf_14 : decode cX6_plotsOf 14 = .ok (.iadd, 1) := by decide +kernel
theorem dX6_plotsOf_15 : decode cX6_plotsOf 15 = .ok (.iaload, 1) := by decide +kernel
theorem dX6_plotsOf_16 : decode cX6_plotsOf 16 = .ok (.if_icmp .ge 46, 3) := by decide +kernel
theorem dX6_plotsOf_19 : decode cX6_plotsOf 19 = .ok (.iload_n 3, 1) := by decide +kernel
theorem dX6_plotsOf_20 : decode cX6_plotsOf 20 = .ok (.aload_n 0, 1) := by decide +kernel
theorem dX6_plotsOf_21 : decode cX6_plotsOf 21 = .ok (.getfield 7, 3) := by decide +kernel
theorem dX6_plotsOf_24 : decode cX6_plotsOf 24 = .ok (.iload_n 1, 1) := by decide +kernel
theorem dX6_plotsOf_25 : decode cX6_plotsOf 25 = .ok (.bipush 11, 2) := by decide +kernel
theorem dX6_plotsOf_27 : decode cX6_plotsOf 27 = .ok (.iadd, 1) := by decide +kernel
theorem dX6_plotsOf_28 : decode cX6_plotsOf 28 = .ok (.iload 4, 2) := by decide +kernel
theorem dX6_plotsOf_30 : decode cX6_plotsOf 30 = .ok (.iadd, 1) := by decide +kernel
theorem dX6_plotsOf_31 : decode cX6_plotsOf 31 = .ok (.iaload, 1) := by decide +kernel
theorem dX6_plotsOf_32 : decode cX6_plotsOf 32 = .ok (.iload_n 2, 1) := by decide +kernel
theorem dX6_plotsOf_33 : decode cX6_plotsOf 33 = .ok (.if_icmp .ne 20, 3) := by decide +kernel
theorem dX6_plotsOf_36 : decode cX6_plotsOf 36 = .ok (.iconst 1, 1) := by decide +kernel
theorem dX6_plotsOf_37 : decode cX6_plotsOf 37 = .ok (.aload_n 0, 1) := by decide +kernel
theorem dX6_plotsOf_38 : decode cX6_plotsOf 38 = .ok (.getfield 7, 3) := by decide +kernel
theorem dX6_plotsOf_41 : decode cX6_plotsOf 41 = .ok (.iload_n 1, 1) := by decide +kernel
theorem dX6_plotsOf_42 : decode cX6_plotsOf 42 = .ok (.bipush 32, 2) := by decide +kernel
theorem dX6_plotsOf_44 : decode cX6_plotsOf 44 = .ok (.iadd, 1) := by decide +kernel
theorem dX6_plotsOf_45 : decode cX6_plotsOf 45 = .ok (.iload 4, 2) := by decide +kernel
theorem dX6_plotsOf_47 : decode cX6_plotsOf 47 = .ok (.iadd, 1) := by decide +kernel
theorem dX6_plotsOf_48 : decode cX6_plotsOf 48 = .ok (.iaload, 1) := by decide +kernel
theorem dX6_plotsOf_49 : decode cX6_plotsOf 49 = .ok (.ishl, 1) := by decide +kernel
theorem dX6_plotsOf_50 : decode cX6_plotsOf 50 = .ok (.goto 4, 3) := by decide +kernel
theorem dX6_plotsOf_53 : decode cX6_plotsOf 53 = .ok (.iconst 0, 1) := by decide +kernel
theorem dX6_plotsOf_54 : decode cX6_plotsOf 54 = .ok (.ior, 1) := by decide +kernel
theorem dX6_plotsOf_55 : decode cX6_plotsOf 55 = .ok (.istore_n 3, 1) := by decide +kernel
theorem dX6_plotsOf_56 : decode cX6_plotsOf 56 = .ok (.iinc 4 1, 3) := by decide +kernel
theorem dX6_plotsOf_59 : decode cX6_plotsOf 59 = .ok (.goto (-54), 3) := by decide +kernel
theorem dX6_plotsOf_62 : decode cX6_plotsOf 62 = .ok (.iload_n 3, 1) := by decide +kernel
theorem dX6_plotsOf_63 : decode cX6_plotsOf 63 = .ok (.ireturn, 1) := by decide +kernel
theorem dX6_ownersIn_0 : decode cX6_ownersIn 0 = .ok (.iconst 0, 1) := by decide +kernel
theorem dX6_ownersIn_1 : decode cX6_ownersIn 1 = .ok (.istore_n 2, 1) := by decide +kernel
theorem dX6_ownersIn_2 : decode cX6_ownersIn 2 = .ok (.iconst 0, 1) := by decide +kernel
theorem dX6_ownersIn_3 : decode cX6_ownersIn 3 = .ok (.istore_n 3, 1) := by decide +kernel
theorem dX6_ownersIn_4 : decode cX6_ownersIn 4 = .ok (.iload_n 3, 1) := by decide +kernel
theorem dX6_ownersIn_5 : decode cX6_ownersIn 5 = .ok (.aload_n 0, 1) := by decide +kernel
theorem dX6_ownersIn_6 : decode cX6_ownersIn 6 = .ok (.getfield 7, 3) := by decide +kernel
theorem dX6_ownersIn_9 : decode cX6_ownersIn 9 = .ok (.iload_n 1, 1) := by decide +kernel
theorem dX6_ownersIn_10 : decode cX6_ownersIn 10 = .ok (.bipush 25, 2) := by decide +kernel
theorem dX6_ownersIn_12 : decode cX6_ownersIn 12 = .ok (.iadd, 1) := by decide +kernel
theorem dX6_ownersIn_13 : decode cX6_ownersIn 13 = .ok (.iaload, 1) := by decide +kernel
theorem dX6_ownersIn_14 : decode cX6_ownersIn 14 = .ok (.if_icmp .ge 25, 3) := by decide +kernel
theorem dX6_ownersIn_17 : decode cX6_ownersIn 17 = .ok (.iload_n 2, 1) := by decide +kernel
theorem dX6_ownersIn_18 : decode cX6_ownersIn 18 = .ok (.iconst 1, 1) := by decide +kernel
theorem dX6_ownersIn_19 : decode cX6_ownersIn 19 = .ok (.aload_n 0, 1) := by decide +kernel
theorem dX6_ownersIn_20 : decode cX6_ownersIn 20 = .ok (.getfield 7, 3) := by decide +kernel
theorem dX6_ownersIn_23 : decode cX6_ownersIn 23 = .ok (.iload_n 1, 1) := by decide +kernel
theorem dX6_ownersIn_24 : decode cX6_ownersIn 24 = .ok (.bipush 11, 2) := by decide +kernel
theorem dX6_ownersIn_26 : decode cX6_ownersIn 26 = .ok (.iadd, 1) := by decide +kernel
theorem dX6_ownersIn_27 : decode cX6_ownersIn 27 = .ok (.iload_n 3, 1) := by decide +kernel
theorem dX6_ownersIn_28 : decode cX6_ownersIn 28 = .ok (.iadd, 1) := by decide +kernel
theorem dX6_ownersIn_29 : decode cX6_ownersIn 29 = .ok (.iaload, 1) := by decide +kernel
theorem dX6_ownersIn_30 : decode cX6_ownersIn 30 = .ok (.ishl, 1) := by decide +kernel
theorem dX6_ownersIn_31 : decode cX6_ownersIn 31 = .ok (.ior, 1) := by decide +kernel
theorem dX6_ownersIn_32 : decode cX6_ownersIn 32 = .ok (.istore_n 2, 1) := by decide +kernel
theorem dX6_ownersIn_33 : decode cX6_ownersIn 33 = .ok (.iinc 3 1, 3) := by decide +kernel
theorem dX6_ownersIn_36 : decode cX6_ownersIn 36 = .ok (.goto (-32), 3) := by decide +kernel
theorem dX6_ownersIn_39 : decode cX6_ownersIn 39 = .ok (.iload_n 2, 1) := by decide +kernel
theorem dX6_ownersIn_40 : decode cX6_ownersIn 40 = .ok (.ireturn, 1) := by decide +kernel
theorem dX6_throwsOn_0 : decode cX6_throwsOn 0 = .ok (.aload_n 0, 1) := by decide +kernel
theorem dX6_throwsOn_1 : decode cX6_throwsOn 1 = .ok (.getfield 7, 3) := by decide +kernel
theorem dX6_throwsOn_4 : decode cX6_throwsOn 4 = .ok (.iload_n 1, 1) := by decide +kernel
theorem dX6_throwsOn_5 : decode cX6_throwsOn 5 = .ok (.iconst 1, 1) := by decide +kernel
theorem dX6_throwsOn_6 : decode cX6_throwsOn 6 = .ok (.iadd, 1) := by decide +kernel
theorem dX6_throwsOn_7 : decode cX6_throwsOn 7 = .ok (.iload_n 2, 1) := by decide +kernel
theorem dX6_throwsOn_8 : decode cX6_throwsOn 8 = .ok (.iadd, 1) := by decide +kernel
theorem dX6_throwsOn_9 : decode cX6_throwsOn 9 = .ok (.iaload, 1) := by decide +kernel
theorem dX6_throwsOn_10 : decode cX6_throwsOn 10 = .ok (.iload_n 3, 1) := by decide +kernel
theorem dX6_throwsOn_11 : decode cX6_throwsOn 11 = .ok (.iadd, 1) := by decide +kernel
theorem dX6_throwsOn_12 : decode cX6_throwsOn 12 = .ok (.istore 4, 2) := by decide +kernel
theorem dX6_throwsOn_14 : decode cX6_throwsOn 14 = .ok (.aload_n 0, 1) := by decide +kernel
theorem dX6_throwsOn_15 : decode cX6_throwsOn 15 = .ok (.getfield 7, 3) := by decide +kernel
theorem dX6_throwsOn_18 : decode cX6_throwsOn 18 = .ok (.iload_n 1, 1) := by decide +kernel
theorem dX6_throwsOn_19 : decode cX6_throwsOn 19 = .ok (.iconst 1, 1) := by decide +kernel
theorem dX6_throwsOn_20 : decode cX6_throwsOn 20 = .ok (.iadd, 1) := by decide +kernel
theorem dX6_throwsOn_21 : decode cX6_throwsOn 21 = .ok (.iload_n 2, 1) := by decide +kernel
theorem dX6_throwsOn_22 : decode cX6_throwsOn 22 = .ok (.iadd, 1) := by decide +kernel
theorem dX6_throwsOn_23 : decode cX6_throwsOn 23 = .ok (.iload 4, 2) := by decide +kernel
theorem dX6_throwsOn_25 : decode cX6_throwsOn 25 = .ok (.bipush 99, 2) := by decide +kernel
theorem dX6_throwsOn_27 : decode cX6_throwsOn 27 = .ok (.if_icmp .le 8, 3) := by decide +kernel
theorem dX6_throwsOn_30 : decode cX6_throwsOn 30 = .ok (.bipush 99, 2) := by decide +kernel
theorem dX6_throwsOn_32 : decode cX6_throwsOn 32 = .ok (.goto 5, 3) := by decide +kernel
theorem dX6_throwsOn_35 : decode cX6_throwsOn 35 = .ok (.iload 4, 2) := by decide +kernel
theorem dX6_throwsOn_37 : decode cX6_throwsOn 37 = .ok (.iastore, 1) := by decide +kernel
theorem dX6_throwsOn_38 : decode cX6_throwsOn 38 = .ok (.return_, 1) := by decide +kernel
theorem dX6_minds_0 : decode cX6_minds 0 = .ok (.aload_n 0, 1) := by decide +kernel
theorem dX6_minds_1 : decode cX6_minds 1 = .ok (.getfield 117, 3) := by decide +kernel
theorem dX6_minds_4 : decode cX6_minds 4 = .ok (.bipush 24, 2) := by decide +kernel
theorem dX6_minds_6 : decode cX6_minds 6 = .ok (.if_icmp .ne 43, 3) := by decide +kernel
theorem dX6_minds_9 : decode cX6_minds 9 = .ok (.iconst 0, 1) := by decide +kernel
theorem dX6_minds_10 : decode cX6_minds 10 = .ok (.istore_n 1, 1) := by decide +kernel
theorem dX6_minds_11 : decode cX6_minds 11 = .ok (.iload_n 1, 1) := by decide +kernel
theorem dX6_minds_12 : decode cX6_minds 12 = .ok (.sipush 529, 3) := by decide +kernel
theorem dX6_minds_15 : decode cX6_minds 15 = .ok (.if_icmp .ge 24, 3) := by decide +kernel
theorem dX6_minds_18 : decode cX6_minds 18 = .ok (.aload_n 0, 1) := by decide +kernel
theorem dX6_minds_19 : decode cX6_minds 19 = .ok (.getfield 17, 3) := by decide +kernel
theorem dX6_minds_22 : decode cX6_minds 22 = .ok (.iload_n 1, 1) := by decide +kernel
theorem dX6_minds_23 : decode cX6_minds 23 = .ok (.aload_n 0, 1) := by decide +kernel
theorem dX6_minds_24 : decode cX6_minds 24 = .ok (.getfield 17, 3) := by decide +kernel
theorem dX6_minds_27 : decode cX6_minds 27 = .ok (.iload_n 1, 1) := by decide +kernel
theorem dX6_minds_28 : decode cX6_minds 28 = .ok (.bipush 23, 2) := by decide +kernel
theorem dX6_minds_30 : decode cX6_minds 30 = .ok (.iadd, 1) := by decide +kernel
theorem dX6_minds_31 : decode cX6_minds 31 = .ok (.iaload, 1) := by decide +kernel
theorem dX6_minds_32 : decode cX6_minds 32 = .ok (.iastore, 1) := by decide +kernel
theorem dX6_minds_33 : decode cX6_minds 33 = .ok (.iinc 1 1, 3) := by decide +kernel
theorem dX6_minds_36 : decode cX6_minds 36 = .ok (.goto (-25), 3) := by decide +kernel
theorem dX6_minds_39 : decode cX6_minds 39 = .ok (.aload_n 0, 1) := by decide +kernel
theorem dX6_minds_40 : decode cX6_minds 40 = .ok (.dup, 1) := by decide +kernel
theorem dX6_minds_41 : decode cX6_minds 41 = .ok (.getfield 117, 3) := by decide +kernel
theorem dX6_minds_44 : decode cX6_minds 44 = .ok (.iconst 1, 1) := by decide +kernel
theorem dX6_minds_45 : decode cX6_minds 45 = .ok (.isub, 1) := by decide +kernel
theorem dX6_minds_46 : decode cX6_minds 46 = .ok (.putfield 117, 3) := by decide +kernel
theorem dX6_minds_49 : decode cX6_minds 49 = .ok (.iconst 0, 1) := by decide +kernel
theorem dX6_minds_50 : decode cX6_minds 50 = .ok (.istore_n 1, 1) := by decide +kernel
theorem dX6_minds_51 : decode cX6_minds 51 = .ok (.iload_n 1, 1) := by decide +kernel
theorem dX6_minds_52 : decode cX6_minds 52 = .ok (.bipush 23, 2) := by decide +kernel
theorem dX6_minds_54 : decode cX6_minds 54 = .ok (.if_icmp .ge 29, 3) := by decide +kernel
theorem dX6_minds_57 : decode cX6_minds 57 = .ok (.aload_n 0, 1) := by decide +kernel
theorem dX6_minds_58 : decode cX6_minds 58 = .ok (.getfield 17, 3) := by decide +kernel
theorem dX6_minds_61 : decode cX6_minds 61 = .ok (.bipush 23, 2) := by decide +kernel
theorem dX6_minds_63 : decode cX6_minds 63 = .ok (.aload_n 0, 1) := by decide +kernel
theorem dX6_minds_64 : decode cX6_minds 64 = .ok (.getfield 117, 3) := by decide +kernel
theorem dX6_minds_67 : decode cX6_minds 67 = .ok (.imul, 1) := by decide +kernel
theorem dX6_minds_68 : decode cX6_minds 68 = .ok (.iload_n 1, 1) := by decide +kernel
theorem dX6_minds_69 : decode cX6_minds 69 = .ok (.iadd, 1) := by decide +kernel
theorem dX6_minds_70 : decode cX6_minds 70 = .ok (.aload_n 0, 1) := by decide +kernel
theorem dX6_minds_71 : decode cX6_minds 71 = .ok (.getfield 7, 3) := by decide +kernel
theorem dX6_minds_74 : decode cX6_minds 74 = .ok (.iload_n 1, 1) := by decide +kernel
theorem dX6_minds_75 : decode cX6_minds 75 = .ok (.iaload, 1) := by decide +kernel
theorem dX6_minds_76 : decode cX6_minds 76 = .ok (.iastore, 1) := by decide +kernel
theorem dX6_minds_77 : decode cX6_minds 77 = .ok (.iinc 1 1, 3) := by decide +kernel
theorem dX6_minds_80 : decode cX6_minds 80 = .ok (.goto (-29), 3) := by decide +kernel
theorem dX6_minds_83 : decode cX6_minds 83 = .ok (.aload_n 0, 1) := by decide +kernel
theorem dX6_minds_84 : decode cX6_minds 84 = .ok (.dup, 1) := by decide +kernel
theorem dX6_minds_85 : decode cX6_minds 85 = .ok (.getfield 117, 3) := by decide +kernel
theorem dX6_minds_88 : decode cX6_minds 88 = .ok (.iconst 1, 1) := by decide +kernel
theorem dX6_minds_89 : decode cX6_minds 89 = .ok (.iadd, 1) := by decide +kernel
theorem dX6_minds_90 : decode cX6_minds 90 = .ok (.putfield 117, 3) := by decide +kernel
theorem dX6_minds_93 : decode cX6_minds 93 = .ok (.return_, 1) := by decide +kernel
theorem dX6_undo_0 : decode cX6_undo 0 = .ok (.aload_n 0, 1) := by decide +kernel
theorem dX6_undo_1 : decode cX6_undo 1 = .ok (.getfield 117, 3) := by decide +kernel
theorem dX6_undo_4 : decode cX6_undo 4 = .ok (.ifCond .ne 6, 3) := by decide +kernel
theorem dX6_undo_7 : decode cX6_undo 7 = .ok (.ldc 146, 2) := by decide +kernel
theorem dX6_undo_9 : decode cX6_undo 9 = .ok (.ireturn, 1) := by decide +kernel
theorem dX6_undo_10 : decode cX6_undo 10 = .ok (.aload_n 0, 1) := by decide +kernel
theorem dX6_undo_11 : decode cX6_undo 11 = .ok (.dup, 1) := by decide +kernel
theorem dX6_undo_12 : decode cX6_undo 12 = .ok (.getfield 117, 3) := by decide +kernel
theorem dX6_undo_15 : decode cX6_undo 15 = .ok (.iconst 1, 1) := by decide +kernel
theorem dX6_undo_16 : decode cX6_undo 16 = .ok (.isub, 1) := by decide +kernel
theorem dX6_undo_17 : decode cX6_undo 17 = .ok (.putfield 117, 3) := by decide +kernel
theorem dX6_undo_20 : decode cX6_undo 20 = .ok (.iconst 0, 1) := by decide +kernel
theorem dX6_undo_21 : decode cX6_undo 21 = .ok (.istore_n 1, 1) := by decide +kernel
theorem dX6_undo_22 : decode cX6_undo 22 = .ok (.iload_n 1, 1) := by decide +kernel
theorem dX6_undo_23 : decode cX6_undo 23 = .ok (.bipush 23, 2) := by decide +kernel
theorem dX6_undo_25 : decode cX6_undo 25 = .ok (.if_icmp .ge 29, 3) := by decide +kernel
theorem dX6_undo_28 : decode cX6_undo 28 = .ok (.aload_n 0, 1) := by decide +kernel
theorem dX6_undo_29 : decode cX6_undo 29 = .ok (.getfield 7, 3) := by decide +kernel
theorem dX6_undo_32 : decode cX6_undo 32 = .ok (.iload_n 1, 1) := by decide +kernel
theorem dX6_undo_33 : decode cX6_undo 33 = .ok (.aload_n 0, 1) := by decide +kernel
theorem dX6_undo_34 : decode cX6_undo 34 = .ok (.getfield 17, 3) := by decide +kernel
theorem dX6_undo_37 : decode cX6_undo 37 = .ok (.bipush 23, 2) := by decide +kernel
theorem dX6_undo_39 : decode cX6_undo 39 = .ok (.aload_n 0, 1) := by decide +kernel
theorem dX6_undo_40 : decode cX6_undo 40 = .ok (.getfield 117, 3) := by decide +kernel
theorem dX6_undo_43 : decode cX6_undo 43 = .ok (.imul, 1) := by decide +kernel
theorem dX6_undo_44 : decode cX6_undo 44 = .ok (.iload_n 1, 1) := by decide +kernel
theorem dX6_undo_45 : decode cX6_undo 45 = .ok (.iadd, 1) := by decide +kernel
theorem dX6_undo_46 : decode cX6_undo 46 = .ok (.iaload, 1) := by decide +kernel
theorem dX6_undo_47 : decode cX6_undo 47 = .ok (.iastore, 1) := by decide +kernel
theorem dX6_undo_48 : decode cX6_undo 48 = .ok (.iinc 1 1, 3) := by decide +kernel
theorem dX6_undo_51 : decode cX6_undo 51 = .ok (.goto (-29), 3) := by decide +kernel
theorem dX6_undo_54 : decode cX6_undo 54 = .ok (.aload_n 0, 1) := by decide +kernel
theorem dX6_undo_55 : decode cX6_undo 55 = .ok (.getfield 117, 3) := by decide +kernel
theorem dX6_undo_58 : decode cX6_undo 58 = .ok (.ireturn, 1) := by decide +kernel
set_option maxRecDepth 20000 in
theorem ggX6_days_X6_isRiver : GoodIn wsX6_days wsX6_isRiver := goodIn_r _ [10, 4, 56, 57, 58, 59, 60, 61, 62, 63, 64, 65, 66, 67, 68, 69, 70, 71, 72, 73, 74] (by decide +kernel) (by decide +kernel)
set_option maxRecDepth 20000 in
theorem gX6_days_X6_isRiver : GoodIn wsX6_days (wsV RX6 147 RX6 yX6_isRiver wsX6_isRiver) := goodIn_app (goodIn_of _ (by decide +kernel)) ggX6_days_X6_isRiver
set_option maxRecDepth 20000 in
theorem ggX6_days_X6_in : GoodIn wsX6_days wsX6_in := goodIn_r _ [13] (by decide +kernel) (by decide +kernel)
set_option maxRecDepth 20000 in
theorem gX6_days_X6_in : GoodIn wsX6_days (va_wsS RX6 45 yX6_in wsX6_in) := goodIn_app (goodIn_of _ (by decide +kernel)) ggX6_days_X6_in
set_option maxRecDepth 20000 in
theorem ggX6_days_X6_minds : GoodIn wsX6_days wsX6_minds := goodIn_r _ [17, 18, 19, 4, 56, 57, 58, 59, 60, 61, 62, 63, 64, 65, 66, 67, 68, 69, 70, 71, 72, 73, 74] (by decide +kernel) (by decide +kernel)
set_option maxRecDepth 20000 in
theorem gX6_days_X6_minds : GoodIn wsX6_days (wsV RX6 152 RX6 yX6_minds wsX6_minds) := goodIn_app (goodIn_of _ (by decide +kernel)) ggX6_days_X6_minds
set_option maxRecDepth 20000 in
theorem ggX6_days_X6_passes : GoodIn wsX6_days wsX6_passes := goodIn_r _ [23, 24, 25, 4, 26, 27, 28, 9, 29, 30, 31, 32, 33, 34, 35, 36, 37, 38, 39, 40, 41, 11, 12, 13, 42, 43, 44, 45, 46, 47, 48, 56, 57, 58, 59, 60, 61, 62, 63, 64, 65, 66, 67, 68, 69, 70, 71, 72, 73, 74] (by decide +kernel) (by decide +kernel)
set_option maxRecDepth 20000 in
theorem gX6_days_X6_passes : GoodIn wsX6_days (wsV RX6 155 RX6 yX6_passes wsX6_passes) := goodIn_app (goodIn_of _ (by decide +kernel)) ggX6_days_X6_passes
set_option maxRecDepth 20000 in
theorem ggX6_days_X6_ownersIn : GoodIn wsX6_days wsX6_ownersIn := goodIn_r _ [52, 4, 56, 57, 58, 59, 60, 61, 62, 63, 64, 65, 66, 67, 68, 69, 70, 71, 72, 73, 74] (by decide +kernel) (by decide +kernel)
set_option maxRecDepth 20000 in
theorem gX6_days_X6_ownersIn : GoodIn wsX6_days (wsV RX6 159 RX6 yX6_ownersIn wsX6_ownersIn) := goodIn_app (goodIn_of _ (by decide +kernel)) ggX6_days_X6_ownersIn
set_option maxRecDepth 20000 in
theorem ggX6_days_X6_ones : GoodIn wsX6_days wsX6_ones := goodIn_r _ [55] (by decide +kernel) (by decide +kernel)
set_option maxRecDepth 20000 in
theorem gX6_days_X6_ones : GoodIn wsX6_days (va_wsS RX6 162 yX6_ones wsX6_ones) := goodIn_app (goodIn_of _ (by decide +kernel)) ggX6_days_X6_ones
theorem dX6_days_0 : decode cX6_days 0 = .ok (.aload_n 0, 1) := by decide +kernel
theorem dX6_days_1 : decode cX6_days 1 = .ok (.invokevirtual 147, 3) := by decide +kernel
theorem dX6_days_4 : decode cX6_days 4 = .ok (.ifCond .ne 6, 3) := by decide +kernel
theorem dX6_days_7 : decode cX6_days 7 = .ok (.ldc 146, 2) := by decide +kernel
theorem dX6_days_9 : decode cX6_days 9 = .ok (.ireturn, 1) := by decide +kernel
theorem dX6_days_10 : decode cX6_days 10 = .ok (.iload_n 1, 1) := by decide +kernel
theorem dX6_days_11 : decode cX6_days 11 = .ok (.i2l, 1) := by decide +kernel
theorem dX6_days_12 : decode cX6_days 12 = .ok (.lconst 1, 1) := by decide +kernel
theorem dX6_days_13 : decode cX6_days 13 = .ok (.ldc2_w 150, 3) := by decide +kernel
theorem dX6_days_16 : decode cX6_days 16 = .ok (.invokestatic 45, 3) := by decide +kernel
theorem dX6_days_19 : decode cX6_days 19 = .ok (.ifCond .ne 6, 3) := by decide +kernel
theorem dX6_days_22 : decode cX6_days 22 = .ok (.ldc 55, 2) := by decide +kernel
theorem dX6_days_24 : decode cX6_days 24 = .ok (.ireturn, 1) := by decide +kernel
theorem dX6_days_25 : decode cX6_days 25 = .ok (.aload_n 0, 1) := by decide +kernel
theorem dX6_days_26 : decode cX6_days 26 = .ok (.getfield 7, 3) := by decide +kernel
theorem dX6_days_29 : decode cX6_days 29 = .ok (.iconst 0, 1) := by decide +kernel
theorem dX6_days_30 : decode cX6_days 30 = .ok (.iaload, 1) := by decide +kernel
theorem dX6_days_31 : decode cX6_days 31 = .ok (.iload_n 1, 1) := by decide +kernel
theorem dX6_days_32 : decode cX6_days 32 = .ok (.iadd, 1) := by decide +kernel
theorem dX6_days_33 : decode cX6_days 33 = .ok (.sipush 999, 3) := by decide +kernel
theorem dX6_days_36 : decode cX6_days 36 = .ok (.if_icmp .le 6, 3) := by decide +kernel
theorem dX6_days_39 : decode cX6_days 39 = .ok (.ldc 72, 2) := by decide +kernel
theorem dX6_days_41 : decode cX6_days 41 = .ok (.ireturn, 1) := by decide +kernel
theorem dX6_days_42 : decode cX6_days 42 = .ok (.iconst 0, 1) := by decide +kernel
theorem dX6_days_43 : decode cX6_days 43 = .ok (.istore_n 2, 1) := by decide +kernel
theorem dX6_days_44 : decode cX6_days 44 = .ok (.iload_n 2, 1) := by decide +kernel
theorem dX6_days_45 : decode cX6_days 45 = .ok (.iload_n 1, 1) := by decide +kernel
theorem dX6_days_46 : decode cX6_days 46 = .ok (.if_icmp .ge 18, 3) := by decide +kernel
theorem dX6_days_49 : decode cX6_days 49 = .ok (.aload_n 0, 1) := by decide +kernel
theorem dX6_days_50 : decode cX6_days 50 = .ok (.invokevirtual 152, 3) := by decide +kernel
theorem dX6_days_53 : decode cX6_days 53 = .ok (.aload_n 0, 1) := by decide +kernel
theorem dX6_days_54 : decode cX6_days 54 = .ok (.iconst 0, 1) := by decide +kernel
theorem dX6_days_55 : decode cX6_days 55 = .ok (.invokevirtual 155, 3) := by decide +kernel
theorem dX6_days_58 : decode cX6_days 58 = .ok (.iinc 2 1, 3) := by decide +kernel
theorem dX6_days_61 : decode cX6_days 61 = .ok (.goto (-17), 3) := by decide +kernel
theorem dX6_days_64 : decode cX6_days 64 = .ok (.aload_n 0, 1) := by decide +kernel
theorem dX6_days_65 : decode cX6_days 65 = .ok (.iconst 0, 1) := by decide +kernel
theorem dX6_days_66 : decode cX6_days 66 = .ok (.invokevirtual 159, 3) := by decide +kernel
theorem dX6_days_69 : decode cX6_days 69 = .ok (.invokestatic 162, 3) := by decide +kernel
theorem dX6_days_72 : decode cX6_days 72 = .ok (.ireturn, 1) := by decide +kernel
set_option maxRecDepth 20000 in
theorem ggX6_bread_X6_isLawn : GoodIn wsX6_bread wsX6_isLawn := goodIn_r _ [8, 3, 9, 10, 7, 11, 22, 23, 24, 25, 26, 27, 28, 29, 30, 31, 32, 33, 34, 35, 36, 37, 38, 39, 40] (by decide +kernel) (by decide +kernel)
set_option maxRecDepth 20000 in
theorem gX6_bread_X6_isLawn : GoodIn wsX6_bread (wsV RX6 165 RX6 yX6_isLawn wsX6_isLawn) := goodIn_app (goodIn_of _ (by decide +kernel)) ggX6_bread_X6_isLawn
set_option maxRecDepth 20000 in
theorem ggX6_bread_X6_in : GoodIn wsX6_bread wsX6_in := goodIn_r _ [11] (by decide +kernel) (by decide +kernel)
set_option maxRecDepth 20000 in
theorem gX6_bread_X6_in : GoodIn wsX6_bread (va_wsS RX6 45 yX6_in wsX6_in) := goodIn_app (goodIn_of _ (by decide +kernel)) ggX6_bread_X6_in
set_option maxRecDepth 20000 in
theorem ggX6_bread_X6_minds : GoodIn wsX6_bread wsX6_minds := goodIn_r _ [15, 16, 17, 3, 22, 23, 24, 25, 26, 27, 28, 29, 30, 31, 32, 33, 34, 35, 36, 37, 38, 39, 40] (by decide +kernel) (by decide +kernel)
set_option maxRecDepth 20000 in
theorem gX6_bread_X6_minds : GoodIn wsX6_bread (wsV RX6 152 RX6 yX6_minds wsX6_minds) := goodIn_app (goodIn_of _ (by decide +kernel)) ggX6_bread_X6_minds
set_option maxRecDepth 20000 in
theorem ggX6_bread_X6_throwsOn : GoodIn wsX6_bread wsX6_throwsOn := goodIn_r _ [21, 3, 22, 23, 24, 25, 26, 27, 28, 29, 30, 31, 32, 33, 34, 35, 36, 37, 38, 39, 40] (by decide +kernel) (by decide +kernel)
set_option maxRecDepth 20000 in
theorem gX6_bread_X6_throwsOn : GoodIn wsX6_bread (wsV RX6 170 RX6 yX6_throwsOn wsX6_throwsOn) := goodIn_app (goodIn_of _ (by decide +kernel)) ggX6_bread_X6_throwsOn
theorem dX6_bread_0 : decode cX6_bread 0 = .ok (.aload_n 0, 1) := by decide +kernel
theorem dX6_bread_1 : decode cX6_bread 1 = .ok (.iload_n 1, 1) := by decide +kernel
theorem dX6_bread_2 : decode cX6_bread 2 = .ok (.invokevirtual 165, 3) := by decide +kernel
theorem dX6_bread_5 : decode cX6_bread 5 = .ok (.ifCond .eq 15, 3) := by decide +kernel
theorem dX6_bread_8 : decode cX6_bread 8 = .ok (.iload_n 2, 1) := by decide +kernel
theorem dX6_bread_9 : decode cX6_bread 9 = .ok (.i2l, 1) := by decide +kernel
theorem dX6_bread_10 : decode cX6_bread 10 = .ok (.lconst 1, 1) := by decide +kernel
theorem dX6_bread_11 : decode cX6_bread 11 = .ok (.ldc2_w 168, 3) := by decide +kernel
theorem dX6_bread_14 : decode cX6_bread 14 = .ok (.invokestatic 45, 3) := by decide +kernel
theorem dX6_bread_17 : decode cX6_bread 17 = .ok (.ifCond .ne 6, 3) := by decide +kernel
theorem dX6_bread_20 : decode cX6_bread 20 = .ok (.ldc 55, 2) := by decide +kernel
theorem dX6_bread_22 : decode cX6_bread 22 = .ok (.ireturn, 1) := by decide +kernel
theorem dX6_bread_23 : decode cX6_bread 23 = .ok (.aload_n 0, 1) := by decide +kernel
theorem dX6_bread_24 : decode cX6_bread 24 = .ok (.invokevirtual 152, 3) := by decide +kernel
theorem dX6_bread_27 : decode cX6_bread 27 = .ok (.aload_n 0, 1) := by decide +kernel
theorem dX6_bread_28 : decode cX6_bread 28 = .ok (.iconst 0, 1) := by decide +kernel
theorem dX6_bread_29 : decode cX6_bread 29 = .ok (.iload_n 1, 1) := by decide +kernel
theorem dX6_bread_30 : decode cX6_bread 30 = .ok (.iload_n 2, 1) := by decide +kernel
theorem dX6_bread_31 : decode cX6_bread 31 = .ok (.invokevirtual 170, 3) := by decide +kernel
theorem dX6_bread_34 : decode cX6_bread 34 = .ok (.aload_n 0, 1) := by decide +kernel
theorem dX6_bread_35 : decode cX6_bread 35 = .ok (.getfield 7, 3) := by decide +kernel
theorem dX6_bread_38 : decode cX6_bread 38 = .ok (.iconst 1, 1) := by decide +kernel
theorem dX6_bread_39 : decode cX6_bread 39 = .ok (.iload_n 1, 1) := by decide +kernel
theorem dX6_bread_40 : decode cX6_bread 40 = .ok (.iadd, 1) := by decide +kernel
theorem dX6_bread_41 : decode cX6_bread 41 = .ok (.iaload, 1) := by decide +kernel
theorem dX6_bread_42 : decode cX6_bread 42 = .ok (.ireturn, 1) := by decide +kernel
set_option maxRecDepth 20000 in
theorem ggX6_weir_X6_in : GoodIn wsX6_weir wsX6_in := goodIn_r _ [7] (by decide +kernel) (by decide +kernel)
set_option maxRecDepth 20000 in
theorem gX6_weir_X6_in : GoodIn wsX6_weir (va_wsS RX6 45 yX6_in wsX6_in) := goodIn_app (goodIn_of _ (by decide +kernel)) ggX6_weir_X6_in
set_option maxRecDepth 20000 in
theorem ggX6_weir_X6_has : GoodIn wsX6_weir wsX6_has := goodIn_r _ [10] (by decide +kernel) (by decide +kernel)
set_option maxRecDepth 20000 in
theorem gX6_weir_X6_has : GoodIn wsX6_weir (va_wsS RX6 120 yX6_has wsX6_has) := goodIn_app (goodIn_of _ (by decide +kernel)) ggX6_weir_X6_has
set_option maxRecDepth 20000 in
theorem ggX6_weir_X6_minds : GoodIn wsX6_weir wsX6_minds := goodIn_r _ [14, 15, 16, 1, 17, 18, 19, 20, 21, 22, 23, 24, 25, 26, 27, 28, 29, 30, 31, 32, 33, 34, 35] (by decide +kernel) (by decide +kernel)
set_option maxRecDepth 20000 in
theorem gX6_weir_X6_minds : GoodIn wsX6_weir (wsV RX6 152 RX6 yX6_minds wsX6_minds) := goodIn_app (goodIn_of _ (by decide +kernel)) ggX6_weir_X6_minds
theorem dX6_weir_0 : decode cX6_weir 0 = .ok (.iload_n 1, 1) := by decide +kernel
theorem dX6_weir_1 : decode cX6_weir 1 = .ok (.i2l, 1) := by decide +kernel
theorem dX6_weir_2 : decode cX6_weir 2 = .ok (.lconst 0, 1) := by decide +kernel
theorem dX6_weir_3 : decode cX6_weir 3 = .ok (.aload_n 0, 1) := by decide +kernel
theorem dX6_weir_4 : decode cX6_weir 4 = .ok (.getfield 7, 3) := by decide +kernel
theorem dX6_weir_7 : decode cX6_weir 7 = .ok (.bipush 24, 2) := by decide +kernel
theorem dX6_weir_9 : decode cX6_weir 9 = .ok (.iaload, 1) := by decide +kernel
theorem dX6_weir_10 : decode cX6_weir 10 = .ok (.iconst 2, 1) := by decide +kernel
theorem dX6_weir_11 : decode cX6_weir 11 = .ok (.isub, 1) := by decide +kernel
theorem dX6_weir_12 : decode cX6_weir 12 = .ok (.i2l, 1) := by decide +kernel
theorem dX6_weir_13 : decode cX6_weir 13 = .ok (.invokestatic 45, 3) := by decide +kernel
theorem dX6_weir_16 : decode cX6_weir 16 = .ok (.ifCond .eq 13, 3) := by decide +kernel
theorem dX6_weir_19 : decode cX6_weir 19 = .ok (.iload_n 2, 1) := by decide +kernel
theorem dX6_weir_20 : decode cX6_weir 20 = .ok (.i2l, 1) := by decide +kernel
theorem dX6_weir_21 : decode cX6_weir 21 = .ok (.lconst 0, 1) := by decide +kernel
theorem dX6_weir_22 : decode cX6_weir 22 = .ok (.lconst 1, 1) := by decide +kernel
theorem dX6_weir_23 : decode cX6_weir 23 = .ok (.invokestatic 45, 3) := by decide +kernel
theorem dX6_weir_26 : decode cX6_weir 26 = .ok (.ifCond .ne 6, 3) := by decide +kernel
theorem dX6_weir_29 : decode cX6_weir 29 = .ok (.ldc 55, 2) := by decide +kernel
theorem dX6_weir_31 : decode cX6_weir 31 = .ok (.ireturn, 1) := by decide +kernel
theorem dX6_weir_32 : decode cX6_weir 32 = .ok (.aload_n 0, 1) := by decide +kernel
theorem dX6_weir_33 : decode cX6_weir 33 = .ok (.getfield 7, 3) := by decide +kernel
theorem dX6_weir_36 : decode cX6_weir 36 = .ok (.bipush 10, 2) := by decide +kernel
theorem dX6_weir_38 : decode cX6_weir 38 = .ok (.iaload, 1) := by decide +kernel
theorem dX6_weir_39 : decode cX6_weir 39 = .ok (.iload_n 1, 1) := by decide +kernel
theorem dX6_weir_40 : decode cX6_weir 40 = .ok (.invokestatic 120, 3) := by decide +kernel
theorem dX6_weir_43 : decode cX6_weir 43 = .ok (.iload_n 2, 1) := by decide +kernel
theorem dX6_weir_44 : decode cX6_weir 44 = .ok (.iconst 1, 1) := by decide +kernel
theorem dX6_weir_45 : decode cX6_weir 45 = .ok (.if_icmp .ne 7, 3) := by decide +kernel
theorem dX6_weir_48 : decode cX6_weir 48 = .ok (.iconst 1, 1) := by decide +kernel
theorem dX6_weir_49 : decode cX6_weir 49 = .ok (.goto 4, 3) := by decide +kernel
theorem dX6_weir_52 : decode cX6_weir 52 = .ok (.iconst 0, 1) := by decide +kernel
theorem dX6_weir_53 : decode cX6_weir 53 = .ok (.if_icmp .ne 6, 3) := by decide +kernel
theorem dX6_weir_56 : decode cX6_weir 56 = .ok (.ldc 146, 2) := by decide +kernel
theorem dX6_weir_58 : decode cX6_weir 58 = .ok (.ireturn, 1) := by decide +kernel
theorem dX6_weir_59 : decode cX6_weir 59 = .ok (.aload_n 0, 1) := by decide +kernel
theorem dX6_weir_60 : decode cX6_weir 60 = .ok (.invokevirtual 152, 3) := by decide +kernel
theorem dX6_weir_63 : decode cX6_weir 63 = .ok (.aload_n 0, 1) := by decide +kernel
theorem dX6_weir_64 : decode cX6_weir 64 = .ok (.getfield 7, 3) := by decide +kernel
theorem dX6_weir_67 : decode cX6_weir 67 = .ok (.bipush 10, 2) := by decide +kernel
theorem dX6_weir_69 : decode cX6_weir 69 = .ok (.dup2, 1) := by decide +kernel
theorem dX6_weir_70 : decode cX6_weir 70 = .ok (.iaload, 1) := by decide +kernel
theorem dX6_weir_71 : decode cX6_weir 71 = .ok (.iconst 1, 1) := by decide +kernel
theorem dX6_weir_72 : decode cX6_weir 72 = .ok (.iload_n 1, 1) := by decide +kernel
theorem dX6_weir_73 : decode cX6_weir 73 = .ok (.ishl, 1) := by decide +kernel
theorem dX6_weir_74 : decode cX6_weir 74 = .ok (.ixor, 1) := by decide +kernel
theorem dX6_weir_75 : decode cX6_weir 75 = .ok (.iastore, 1) := by decide +kernel
theorem dX6_weir_76 : decode cX6_weir 76 = .ok (.aload_n 0, 1) := by decide +kernel
theorem dX6_weir_77 : decode cX6_weir 77 = .ok (.getfield 7, 3) := by decide +kernel
theorem dX6_weir_80 : decode cX6_weir 80 = .ok (.bipush 10, 2) := by decide +kernel
theorem dX6_weir_82 : decode cX6_weir 82 = .ok (.iaload, 1) := by decide +kernel
theorem dX6_weir_83 : decode cX6_weir 83 = .ok (.ireturn, 1) := by decide +kernel
set_option maxRecDepth 20000 in
theorem ggX6_frighten_X6_isSwan : GoodIn wsX6_frighten wsX6_isSwan := goodIn_r _ [8, 2, 9, 10, 7, 11, 25, 26, 27, 28, 29, 30, 31, 32, 33, 34, 35, 36, 37, 38, 39, 40, 41, 42, 43] (by decide +kernel) (by decide +kernel)
set_option maxRecDepth 20000 in
theorem gX6_frighten_X6_isSwan : GoodIn wsX6_frighten (wsV RX6 174 RX6 yX6_isSwan wsX6_isSwan) := goodIn_app (goodIn_of _ (by decide +kernel)) ggX6_frighten_X6_isSwan
set_option maxRecDepth 20000 in
theorem ggX6_frighten_X6_in : GoodIn wsX6_frighten wsX6_in := goodIn_r _ [11] (by decide +kernel) (by decide +kernel)
set_option maxRecDepth 20000 in
theorem gX6_frighten_X6_in : GoodIn wsX6_frighten (va_wsS RX6 45 yX6_in wsX6_in) := goodIn_app (goodIn_of _ (by decide +kernel)) ggX6_frighten_X6_in
set_option maxRecDepth 20000 in
theorem ggX6_frighten_X6_isOpen : GoodIn wsX6_frighten wsX6_isOpen := goodIn_r _ [15, 2, 9, 10, 7, 11, 16, 17, 18, 25, 26, 27, 28, 29, 30, 31, 32, 33, 34, 35, 36, 37, 38, 39, 40, 41, 42, 43] (by decide +kernel) (by decide +kernel)
set_option maxRecDepth 20000 in
theorem gX6_frighten_X6_isOpen : GoodIn wsX6_frighten (wsV RX6 127 RX6 yX6_isOpen wsX6_isOpen) := goodIn_app (goodIn_of _ (by decide +kernel)) ggX6_frighten_X6_isOpen
set_option maxRecDepth 20000 in
theorem ggX6_frighten_X6_minds : GoodIn wsX6_frighten wsX6_minds := goodIn_r _ [22, 23, 24, 2, 25, 26, 27, 28, 29, 30, 31, 32, 33, 34, 35, 36, 37, 38, 39, 40, 41, 42, 43] (by decide +kernel) (by decide +kernel)
set_option maxRecDepth 20000 in
theorem gX6_frighten_X6_minds : GoodIn wsX6_frighten (wsV RX6 152 RX6 yX6_minds wsX6_minds) := goodIn_app (goodIn_of _ (by decide +kernel)) ggX6_frighten_X6_minds
theorem dX6_frighten_0 : decode cX6_frighten 0 = .ok (.aload_n 0, 1) := by decide +kernel
theorem dX6_frighten_1 : decode cX6_frighten 1 = .ok (.iload_n 1, 1) := by decide +kernel
theorem dX6_frighten_2 : decode cX6_frighten 2 = .ok (.invokevirtual 174, 3) := by decide +kernel
theorem dX6_frighten_5 : decode cX6_frighten 5 = .ok (.ifCond .eq 13, 3) := by decide +kernel
theorem dX6_frighten_8 : decode cX6_frighten 8 = .ok (.iload_n 2, 1) := by decide +kernel
theorem dX6_frighten_9 : decode cX6_frighten 9 = .ok (.i2l, 1) := by decide +kernel
theorem dX6_frighten_10 : decode cX6_frighten 10 = .ok (.lconst 0, 1) := by decide +kernel
theorem dX6_frighten_11 : decode cX6_frighten 11 = .ok (.lconst 1, 1) := by decide +kernel
theorem dX6_frighten_12 : decode cX6_frighten 12 = .ok (.invokestatic 45, 3) := by decide +kernel
theorem dX6_frighten_15 : decode cX6_frighten 15 = .ok (.ifCond .ne 6, 3) := by decide +kernel
theorem dX6_frighten_18 : decode cX6_frighten 18 = .ok (.ldc 55, 2) := by decide +kernel
theorem dX6_frighten_20 : decode cX6_frighten 20 = .ok (.ireturn, 1) := by decide +kernel
theorem dX6_frighten_21 : decode cX6_frighten 21 = .ok (.iload_n 2, 1) := by decide +kernel
theorem dX6_frighten_22 : decode cX6_frighten 22 = .ok (.iconst 1, 1) := by decide +kernel
theorem dX6_frighten_23 : decode cX6_frighten 23 = .ok (.if_icmp .ne 7, 3) := by decide +kernel
theorem dX6_frighten_26 : decode cX6_frighten 26 = .ok (.iconst 1, 1) := by decide +kernel
theorem dX6_frighten_27 : decode cX6_frighten 27 = .ok (.goto 4, 3) := by decide +kernel
theorem dX6_frighten_30 : decode cX6_frighten 30 = .ok (.iconst (-1), 1) := by decide +kernel
theorem dX6_frighten_31 : decode cX6_frighten 31 = .ok (.istore_n 3, 1) := by decide +kernel
theorem dX6_frighten_32 : decode cX6_frighten 32 = .ok (.aload_n 0, 1) := by decide +kernel
theorem dX6_frighten_33 : decode cX6_frighten 33 = .ok (.iconst 0, 1) := by decide +kernel
theorem dX6_frighten_34 : decode cX6_frighten 34 = .ok (.aload_n 0, 1) := by decide +kernel
theorem dX6_frighten_35 : decode cX6_frighten 35 = .ok (.getfield 7, 3) := by decide +kernel
theorem dX6_frighten_38 : decode cX6_frighten 38 = .ok (.bipush 11, 2) := by decide +kernel
theorem dX6_frighten_40 : decode cX6_frighten 40 = .ok (.iload_n 1, 1) := by decide +kernel
theorem dX6_frighten_41 : decode cX6_frighten 41 = .ok (.iadd, 1) := by decide +kernel
theorem dX6_frighten_42 : decode cX6_frighten 42 = .ok (.iaload, 1) := by decide +kernel
theorem dX6_frighten_43 : decode cX6_frighten 43 = .ok (.iload_n 3, 1) := by decide +kernel
theorem dX6_frighten_44 : decode cX6_frighten 44 = .ok (.invokevirtual 127, 3) := by decide +kernel
theorem dX6_frighten_47 : decode cX6_frighten 47 = .ok (.ifCond .ne 6, 3) := by decide +kernel
theorem dX6_frighten_50 : decode cX6_frighten 50 = .ok (.ldc 146, 2) := by decide +kernel
theorem dX6_frighten_52 : decode cX6_frighten 52 = .ok (.ireturn, 1) := by decide +kernel
theorem dX6_frighten_53 : decode cX6_frighten 53 = .ok (.aload_n 0, 1) := by decide +kernel
theorem dX6_frighten_54 : decode cX6_frighten 54 = .ok (.invokevirtual 152, 3) := by decide +kernel
theorem dX6_frighten_57 : decode cX6_frighten 57 = .ok (.aload_n 0, 1) := by decide +kernel
theorem dX6_frighten_58 : decode cX6_frighten 58 = .ok (.getfield 7, 3) := by decide +kernel
theorem dX6_frighten_61 : decode cX6_frighten 61 = .ok (.bipush 11, 2) := by decide +kernel
theorem dX6_frighten_63 : decode cX6_frighten 63 = .ok (.iload_n 1, 1) := by decide +kernel
theorem dX6_frighten_64 : decode cX6_frighten 64 = .ok (.iadd, 1) := by decide +kernel
theorem dX6_frighten_65 : decode cX6_frighten 65 = .ok (.dup2, 1) := by decide +kernel
theorem dX6_frighten_66 : decode cX6_frighten 66 = .ok (.iaload, 1) := by decide +kernel
theorem dX6_frighten_67 : decode cX6_frighten 67 = .ok (.iload_n 3, 1) := by decide +kernel
theorem dX6_frighten_68 : decode cX6_frighten 68 = .ok (.iadd, 1) := by decide +kernel
theorem dX6_frighten_69 : decode cX6_frighten 69 = .ok (.iastore, 1) := by decide +kernel
theorem dX6_frighten_70 : decode cX6_frighten 70 = .ok (.aload_n 0, 1) := by decide +kernel
theorem dX6_frighten_71 : decode cX6_frighten 71 = .ok (.getfield 7, 3) := by decide +kernel
theorem dX6_frighten_74 : decode cX6_frighten 74 = .ok (.bipush 11, 2) := by decide +kernel
theorem dX6_frighten_76 : decode cX6_frighten 76 = .ok (.iload_n 1, 1) := by decide +kernel
theorem dX6_frighten_77 : decode cX6_frighten 77 = .ok (.iadd, 1) := by decide +kernel
theorem dX6_frighten_78 : decode cX6_frighten 78 = .ok (.iaload, 1) := by decide +kernel
theorem dX6_frighten_79 : decode cX6_frighten 79 = .ok (.ireturn, 1) := by decide +kernel
set_option maxRecDepth 20000 in
theorem ggX6_weight_X6_isSwan : GoodIn wsX6_weight wsX6_isSwan := goodIn_r _ [8, 3, 9, 10, 7, 11, 18, 19, 20, 21, 22, 23, 24, 25, 26, 27, 28, 29, 30, 31, 32, 33, 34, 35, 36] (by decide +kernel) (by decide +kernel)
set_option maxRecDepth 20000 in
theorem gX6_weight_X6_isSwan : GoodIn wsX6_weight (wsV RX6 174 RX6 yX6_isSwan wsX6_isSwan) := goodIn_app (goodIn_of _ (by decide +kernel)) ggX6_weight_X6_isSwan
set_option maxRecDepth 20000 in
theorem ggX6_weight_X6_in : GoodIn wsX6_weight wsX6_in := goodIn_r _ [11] (by decide +kernel) (by decide +kernel)
set_option maxRecDepth 20000 in
theorem gX6_weight_X6_in : GoodIn wsX6_weight (va_wsS RX6 45 yX6_in wsX6_in) := goodIn_app (goodIn_of _ (by decide +kernel)) ggX6_weight_X6_in
set_option maxRecDepth 20000 in
theorem ggX6_weight_X6_minds : GoodIn wsX6_weight wsX6_minds := goodIn_r _ [15, 16, 17, 3, 18, 19, 20, 21, 22, 23, 24, 25, 26, 27, 28, 29, 30, 31, 32, 33, 34, 35, 36] (by decide +kernel) (by decide +kernel)
set_option maxRecDepth 20000 in
theorem gX6_weight_X6_minds : GoodIn wsX6_weight (wsV RX6 152 RX6 yX6_minds wsX6_minds) := goodIn_app (goodIn_of _ (by decide +kernel)) ggX6_weight_X6_minds
theorem dX6_weight_0 : decode cX6_weight 0 = .ok (.aload_n 0, 1) := by decide +kernel
theorem dX6_weight_1 : decode cX6_weight 1 = .ok (.iload_n 1, 1) := by decide +kernel
theorem dX6_weight_2 : decode cX6_weight 2 = .ok (.invokevirtual 174, 3) := by decide +kernel
