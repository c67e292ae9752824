theorem dX5_init_95 : decode cX5_init 95 = .ok (.aastore, 1) := by decide +kernel
theorem dX5_init_96 : decode cX5_init 96 = .ok (.dup, 1) := by decide +kernel
theorem dX5_init_97 : decode cX5_init 97 = .ok (.iconst 1, 1) := by decide +kernel
theorem dX5_init_98 : decode cX5_init 98 = .ok (.new 37, 3) := by decide +kernel
theorem dX5_init_101 : decode cX5_init 101 = .ok (.dup, 1) := by decide +kernel
theorem dX5_init_102 : decode cX5_init 102 = .ok (.invokespecial 39, 3) := by decide +kernel
theorem dX5_init_105 : decode cX5_init 105 = .ok (.aastore, 1) := by decide +kernel
theorem dX5_init_106 : decode cX5_init 106 = .ok (.putfield 50, 3) := by decide +kernel
theorem dX5_init_109 : decode cX5_init 109 = .ok (.return_, 1) := by decide +kernel
set_option maxRecDepth 20000 in
theorem ggX5_row_X5_within : GoodIn wsX5_row wsX5_within := goodIn_r _ [7] (by decide +kernel) (by decide +kernel)
set_option maxRecDepth 20000 in
theorem gX5_row_X5_within : GoodIn wsX5_row (va_wsS RX5 54 yX5_within wsX5_within) := goodIn_app (goodIn_of _ (by decide +kernel)) ggX5_row_X5_within
set_option maxRecDepth 20000 in
theorem ggX5_row_X5_found : GoodIn wsX5_row wsX5_found := goodIn_r _ [11, 2, 12, 21, 22, 23, 24, 25, 26, 27, 28, 29] (by decide +kernel) (by decide +kernel)
set_option maxRecDepth 20000 in
theorem gX5_row_X5_found : GoodIn wsX5_row (wsV RX5 59 RX5 yX5_found wsX5_found) := goodIn_app (goodIn_of _ (by decide +kernel)) ggX5_row_X5_found
set_option maxRecDepth 20000 in
theorem ggX5_row_X3_make : GoodIn wsX5_row wsX3_make := goodIn_r _ [17, 18, 19, 20, 30, 31, 32] (by decide +kernel) (by decide +kernel)
set_option maxRecDepth 20000 in
theorem gX5_row_X3_make : GoodIn wsX5_row (wsV RX5 67 RX3 yX3_make wsX3_make) := goodIn_app (goodIn_of _ (by decide +kernel)) ggX5_row_X3_make
theorem dX5_row_0 : decode cX5_row 0 = .ok (.iload_n 1, 1) := by decide +kernel
theorem dX5_row_1 : decode cX5_row 1 = .ok (.iconst 0, 1) := by decide +kernel
theorem dX5_row_2 : decode cX5_row 2 = .ok (.bipush 7, 2) := by decide +kernel
theorem dX5_row_4 : decode cX5_row 4 = .ok (.invokestatic 54, 3) := by decide +kernel
theorem dX5_row_7 : decode cX5_row 7 = .ok (.ifCond .eq 18, 3) := by decide +kernel
theorem dX5_row_10 : decode cX5_row 10 = .ok (.iload_n 2, 1) := by decide +kernel
theorem dX5_row_11 : decode cX5_row 11 = .ok (.iconst 0, 1) := by decide +kernel
theorem dX5_row_12 : decode cX5_row 12 = .ok (.iconst 2, 1) := by decide +kernel
theorem dX5_row_13 : decode cX5_row 13 = .ok (.invokestatic 54, 3) := by decide +kernel
theorem dX5_row_16 : decode cX5_row 16 = .ok (.ifCond .eq 9, 3) := by decide +kernel
theorem dX5_row_19 : decode cX5_row 19 = .ok (.iload_n 3, 1) := by decide +kernel
theorem dX5_row_20 : decode cX5_row 20 = .ok (.bipush 40, 2) := by decide +kernel
theorem dX5_row_22 : decode cX5_row 22 = .ok (.if_icmp .le 6, 3) := by decide +kernel
theorem dX5_row_25 : decode cX5_row 25 = .ok (.ldc 58, 2) := by decide +kernel
theorem dX5_row_27 : decode cX5_row 27 = .ok (.ireturn, 1) := by decide +kernel
theorem dX5_row_28 : decode cX5_row 28 = .ok (.iload_n 3, 1) := by decide +kernel
theorem dX5_row_29 : decode cX5_row 29 = .ok (.ifCond .ge 9, 3) := by decide +kernel
theorem dX5_row_32 : decode cX5_row 32 = .ok (.aload_n 0, 1) := by decide +kernel
theorem dX5_row_33 : decode cX5_row 33 = .ok (.iconst 4, 1) := by decide +kernel
theorem dX5_row_34 : decode cX5_row 34 = .ok (.invokevirtual 59, 3) := by decide +kernel
theorem dX5_row_37 : decode cX5_row 37 = .ok (.ireturn, 1) := by decide +kernel
theorem dX5_row_38 : decode cX5_row 38 = .ok (.aload_n 0, 1) := by decide +kernel
theorem dX5_row_39 : decode cX5_row 39 = .ok (.iconst 0, 1) := by decide +kernel
theorem dX5_row_40 : decode cX5_row 40 = .ok (.putfield 63, 3) := by decide +kernel
theorem dX5_row_43 : decode cX5_row 43 = .ok (.aload_n 0, 1) := by decide +kernel
theorem dX5_row_44 : decode cX5_row 44 = .ok (.getfield 10, 3) := by decide +kernel
theorem dX5_row_47 : decode cX5_row 47 = .ok (.iload_n 1, 1) := by decide +kernel
theorem dX5_row_48 : decode cX5_row 48 = .ok (.iload_n 2, 1) := by decide +kernel
theorem dX5_row_49 : decode cX5_row 49 = .ok (.iload_n 3, 1) := by decide +kernel
theorem dX5_row_50 : decode cX5_row 50 = .ok (.invokevirtual 67, 3) := by decide +kernel
theorem dX5_row_53 : decode cX5_row 53 = .ok (.iload_n 3, 1) := by decide +kernel
theorem dX5_row_54 : decode cX5_row 54 = .ok (.ireturn, 1) := by decide +kernel
set_option maxRecDepth 20000 in
theorem ggX5_set_X5_within : GoodIn wsX5_set wsX5_within := goodIn_r _ [7] (by decide +kernel) (by decide +kernel)
set_option maxRecDepth 20000 in
theorem gX5_set_X5_within : GoodIn wsX5_set (va_wsS RX5 54 yX5_within wsX5_within) := goodIn_app (goodIn_of _ (by decide +kernel)) ggX5_set_X5_within
set_option maxRecDepth 20000 in
theorem ggX5_set_X3_findingAt : GoodIn wsX5_set wsX3_findingAt := goodIn_r _ [12, 13, 14, 15, 11, 16, 17, 18, 19, 20, 21, 42, 43, 44] (by decide +kernel) (by decide +kernel)
set_option maxRecDepth 20000 in
theorem gX5_set_X3_findingAt : GoodIn wsX5_set (wsV RX5 71 RX3 yX3_findingAt wsX3_findingAt) := goodIn_app (goodIn_of _ (by decide +kernel)) ggX5_set_X3_findingAt
set_option maxRecDepth 20000 in
theorem ggX5_set_X5_found : GoodIn wsX5_set wsX5_found := goodIn_r _ [25, 3, 26, 33, 34, 35, 36, 37, 38, 39, 40, 41] (by decide +kernel) (by decide +kernel)
set_option maxRecDepth 20000 in
theorem gX5_set_X5_found : GoodIn wsX5_set (wsV RX5 59 RX5 yX5_found wsX5_found) := goodIn_app (goodIn_of _ (by decide +kernel)) ggX5_set_X5_found
set_option maxRecDepth 20000 in
theorem ggX5_set_X3_put : GoodIn wsX5_set wsX3_put := goodIn_r _ [30, 31, 32, 42, 43, 44] (by decide +kernel) (by decide +kernel)
set_option maxRecDepth 20000 in
theorem gX5_set_X3_put : GoodIn wsX5_set (wsV RX5 75 RX3 yX3_put wsX3_put) := goodIn_app (goodIn_of _ (by decide +kernel)) ggX5_set_X3_put
theorem dX5_set_0 : decode cX5_set 0 = .ok (.iload_n 1, 1) := by decide +kernel
theorem dX5_set_1 : decode cX5_set 1 = .ok (.iconst 0, 1) := by decide +kernel
theorem dX5_set_2 : decode cX5_set 2 = .ok (.bipush 7, 2) := by decide +kernel
theorem dX5_set_4 : decode cX5_set 4 = .ok (.invokestatic 54, 3) := by decide +kernel
theorem dX5_set_7 : decode cX5_set 7 = .ok (.ifCond .ne 6, 3) := by decide +kernel
theorem dX5_set_10 : decode cX5_set 10 = .ok (.ldc 58, 2) := by decide +kernel
theorem dX5_set_12 : decode cX5_set 12 = .ok (.ireturn, 1) := by decide +kernel
theorem dX5_set_13 : decode cX5_set 13 = .ok (.aload_n 0, 1) := by decide +kernel
theorem dX5_set_14 : decode cX5_set 14 = .ok (.getfield 10, 3) := by decide +kernel
theorem dX5_set_17 : decode cX5_set 17 = .ok (.iload_n 1, 1) := by decide +kernel
theorem dX5_set_18 : decode cX5_set 18 = .ok (.iload_n 2, 1) := by decide +kernel
theorem dX5_set_19 : decode cX5_set 19 = .ok (.iconst 1, 1) := by decide +kernel
theorem dX5_set_20 : decode cX5_set 20 = .ok (.invokevirtual 71, 3) := by decide +kernel
theorem dX5_set_23 : decode cX5_set 23 = .ok (.istore 4, 2) := by decide +kernel
theorem dX5_set_25 : decode cX5_set 25 = .ok (.iload 4, 2) := by decide +kernel
theorem dX5_set_27 : decode cX5_set 27 = .ok (.ifCond .eq 10, 3) := by decide +kernel
theorem dX5_set_30 : decode cX5_set 30 = .ok (.aload_n 0, 1) := by decide +kernel
theorem dX5_set_31 : decode cX5_set 31 = .ok (.iload 4, 2) := by decide +kernel
theorem dX5_set_33 : decode cX5_set 33 = .ok (.invokevirtual 59, 3) := by decide +kernel
theorem dX5_set_36 : decode cX5_set 36 = .ok (.ireturn, 1) := by decide +kernel
theorem dX5_set_37 : decode cX5_set 37 = .ok (.aload_n 0, 1) := by decide +kernel
theorem dX5_set_38 : decode cX5_set 38 = .ok (.iconst 0, 1) := by decide +kernel
theorem dX5_set_39 : decode cX5_set 39 = .ok (.putfield 63, 3) := by decide +kernel
theorem dX5_set_42 : decode cX5_set 42 = .ok (.aload_n 0, 1) := by decide +kernel
theorem dX5_set_43 : decode cX5_set 43 = .ok (.getfield 10, 3) := by decide +kernel
theorem dX5_set_46 : decode cX5_set 46 = .ok (.iload_n 1, 1) := by decide +kernel
theorem dX5_set_47 : decode cX5_set 47 = .ok (.iload_n 2, 1) := by decide +kernel
theorem dX5_set_48 : decode cX5_set 48 = .ok (.iload_n 3, 1) := by decide +kernel
theorem dX5_set_49 : decode cX5_set 49 = .ok (.invokevirtual 75, 3) := by decide +kernel
theorem dX5_set_52 : decode cX5_set 52 = .ok (.ireturn, 1) := by decide +kernel
set_option maxRecDepth 20000 in
theorem ggX5_copy_X5_within : GoodIn wsX5_copy wsX5_within := goodIn_r _ [7] (by decide +kernel) (by decide +kernel)
set_option maxRecDepth 20000 in
theorem gX5_copy_X5_within : GoodIn wsX5_copy (va_wsS RX5 54 yX5_within wsX5_within) := goodIn_app (goodIn_of _ (by decide +kernel)) ggX5_copy_X5_within
set_option maxRecDepth 20000 in
theorem ggX5_copy_X3_isMissing : GoodIn wsX5_copy wsX3_isMissing := goodIn_r _ [12, 13, 46, 47, 48] (by decide +kernel) (by decide +kernel)
set_option maxRecDepth 20000 in
theorem gX5_copy_X3_isMissing : GoodIn wsX5_copy (wsV RX5 78 RX3 yX3_isMissing wsX3_isMissing) := goodIn_app (goodIn_of _ (by decide +kernel)) ggX5_copy_X3_isMissing
set_option maxRecDepth 20000 in
theorem ggX5_copy_X5_found : GoodIn wsX5_copy wsX5_found := goodIn_r _ [17, 3, 18, 37, 38, 39, 40, 41, 42, 43, 44, 45] (by decide +kernel) (by decide +kernel)
set_option maxRecDepth 20000 in
theorem gX5_copy_X5_found : GoodIn wsX5_copy (wsV RX5 59 RX5 yX5_found wsX5_found) := goodIn_app (goodIn_of _ (by decide +kernel)) ggX5_copy_X5_found
set_option maxRecDepth 20000 in
theorem ggX5_copy_X3_laneOf : GoodIn wsX5_copy wsX3_laneOf := goodIn_r _ [22, 23, 46, 47, 48] (by decide +kernel) (by decide +kernel)
set_option maxRecDepth 20000 in
theorem gX5_copy_X3_laneOf : GoodIn wsX5_copy (wsV RX5 82 RX3 yX3_laneOf wsX3_laneOf) := goodIn_app (goodIn_of _ (by decide +kernel)) ggX5_copy_X3_laneOf
set_option maxRecDepth 20000 in
theorem ggX5_copy_X3_holds : GoodIn wsX5_copy wsX3_holds := goodIn_r _ [27, 13, 46, 47, 48] (by decide +kernel) (by decide +kernel)
set_option maxRecDepth 20000 in
theorem gX5_copy_X3_holds : GoodIn wsX5_copy (wsV RX5 85 RX3 yX3_holds wsX3_holds) := goodIn_app (goodIn_of _ (by decide +kernel)) ggX5_copy_X3_holds
set_option maxRecDepth 20000 in
theorem ggX5_copy_X3_carry : GoodIn wsX5_copy wsX3_carry := goodIn_r _ [31, 32, 33, 34, 35, 36, 46, 47, 48] (by decide +kernel) (by decide +kernel)
set_option maxRecDepth 20000 in
theorem gX5_copy_X3_carry : GoodIn wsX5_copy (wsV RX5 88 RX3 yX3_carry wsX3_carry) := goodIn_app (goodIn_of _ (by decide +kernel)) ggX5_copy_X3_carry
theorem dX5_copy_0 : decode cX5_copy 0 = .ok (.iload_n 1, 1) := by decide +kernel
theorem dX5_copy_1 : decode cX5_copy 1 = .ok (.iconst 0, 1) := by decide +kernel
theorem dX5_copy_2 : decode cX5_copy 2 = .ok (.bipush 7, 2) := by decide +kernel
theorem dX5_copy_4 : decode cX5_copy 4 = .ok (.invokestatic 54, 3) := by decide +kernel
theorem dX5_copy_7 : decode cX5_copy 7 = .ok (.ifCond .eq 13, 3) := by decide +kernel
theorem dX5_copy_10 : decode cX5_copy 10 = .ok (.iload_n 3, 1) := by decide +kernel
theorem dX5_copy_11 : decode cX5_copy 11 = .ok (.iconst 0, 1) := by decide +kernel
theorem dX5_copy_12 : decode cX5_copy 12 = .ok (.bipush 7, 2) := by decide +kernel
theorem dX5_copy_14 : decode cX5_copy 14 = .ok (.invokestatic 54, 3) := by decide +kernel
theorem dX5_copy_17 : decode cX5_copy 17 = .ok (.ifCond .ne 6, 3) := by decide +kernel
theorem dX5_copy_20 : decode cX5_copy 20 = .ok (.ldc 58, 2) := by decide +kernel
theorem dX5_copy_22 : decode cX5_copy 22 = .ok (.ireturn, 1) := by decide +kernel
theorem dX5_copy_23 : decode cX5_copy 23 = .ok (.aload_n 0, 1) := by decide +kernel
theorem dX5_copy_24 : decode cX5_copy 24 = .ok (.getfield 10, 3) := by decide +kernel
theorem dX5_copy_27 : decode cX5_copy 27 = .ok (.iload_n 1, 1) := by decide +kernel
theorem dX5_copy_28 : decode cX5_copy 28 = .ok (.invokevirtual 78, 3) := by decide +kernel
theorem dX5_copy_31 : decode cX5_copy 31 = .ok (.ifCond .ne 14, 3) := by decide +kernel
theorem dX5_copy_34 : decode cX5_copy 34 = .ok (.aload_n 0, 1) := by decide +kernel
theorem dX5_copy_35 : decode cX5_copy 35 = .ok (.getfield 10, 3) := by decide +kernel
theorem dX5_copy_38 : decode cX5_copy 38 = .ok (.iload_n 3, 1) := by decide +kernel
theorem dX5_copy_39 : decode cX5_copy 39 = .ok (.invokevirtual 78, 3) := by decide +kernel
theorem dX5_copy_42 : decode cX5_copy 42 = .ok (.ifCond .eq 9, 3) := by decide +kernel
theorem dX5_copy_45 : decode cX5_copy 45 = .ok (.aload_n 0, 1) := by decide +kernel
theorem dX5_copy_46 : decode cX5_copy 46 = .ok (.iconst 1, 1) := by decide +kernel
theorem dX5_copy_47 : decode cX5_copy 47 = .ok (.invokevirtual 59, 3) := by decide +kernel
theorem dX5_copy_50 : decode cX5_copy 50 = .ok (.ireturn, 1) := by decide +kernel
theorem dX5_copy_51 : decode cX5_copy 51 = .ok (.aload_n 0, 1) := by decide +kernel
theorem dX5_copy_52 : decode cX5_copy 52 = .ok (.getfield 10, 3) := by decide +kernel
theorem dX5_copy_55 : decode cX5_copy 55 = .ok (.iload_n 1, 1) := by decide +kernel
theorem dX5_copy_56 : decode cX5_copy 56 = .ok (.invokevirtual 82, 3) := by decide +kernel
theorem dX5_copy_59 : decode cX5_copy 59 = .ok (.aload_n 0, 1) := by decide +kernel
theorem dX5_copy_60 : decode cX5_copy 60 = .ok (.getfield 10, 3) := by decide +kernel
theorem dX5_copy_63 : decode cX5_copy 63 = .ok (.iload_n 3, 1) := by decide +kernel
theorem dX5_copy_64 : decode cX5_copy 64 = .ok (.invokevirtual 82, 3) := by decide +kernel
theorem dX5_copy_67 : decode cX5_copy 67 = .ok (.if_icmp .eq 9, 3) := by decide +kernel
theorem dX5_copy_70 : decode cX5_copy 70 = .ok (.aload_n 0, 1) := by decide +kernel
theorem dX5_copy_71 : decode cX5_copy 71 = .ok (.iconst 5, 1) := by decide +kernel
theorem dX5_copy_72 : decode cX5_copy 72 = .ok (.invokevirtual 59, 3) := by decide +kernel
theorem dX5_copy_75 : decode cX5_copy 75 = .ok (.ireturn, 1) := by decide +kernel
theorem dX5_copy_76 : decode cX5_copy 76 = .ok (.aload_n 0, 1) := by decide +kernel
theorem dX5_copy_77 : decode cX5_copy 77 = .ok (.getfield 10, 3) := by decide +kernel
theorem dX5_copy_80 : decode cX5_copy 80 = .ok (.iload_n 1, 1) := by decide +kernel
theorem dX5_copy_81 : decode cX5_copy 81 = .ok (.iload_n 2, 1) := by decide +kernel
theorem dX5_copy_82 : decode cX5_copy 82 = .ok (.iload 5, 2) := by decide +kernel
theorem dX5_copy_84 : decode cX5_copy 84 = .ok (.invokevirtual 85, 3) := by decide +kernel
theorem dX5_copy_87 : decode cX5_copy 87 = .ok (.ifCond .eq 18, 3) := by decide +kernel
theorem dX5_copy_90 : decode cX5_copy 90 = .ok (.aload_n 0, 1) := by decide +kernel
theorem dX5_copy_91 : decode cX5_copy 91 = .ok (.getfield 10, 3) := by decide +kernel
theorem dX5_copy_94 : decode cX5_copy 94 = .ok (.iload_n 3, 1) := by decide +kernel
theorem dX5_copy_95 : decode cX5_copy 95 = .ok (.iload 4, 2) := by decide +kernel
theorem dX5_copy_97 : decode cX5_copy 97 = .ok (.iload 5, 2) := by decide +kernel
theorem dX5_copy_99 : decode cX5_copy 99 = .ok (.invokevirtual 85, 3) := by decide +kernel
theorem dX5_copy_102 : decode cX5_copy 102 = .ok (.ifCond .ne 9, 3) := by decide +kernel
theorem dX5_copy_105 : decode cX5_copy 105 = .ok (.aload_n 0, 1) := by decide +kernel
theorem dX5_copy_106 : decode cX5_copy 106 = .ok (.iconst 2, 1) := by decide +kernel
theorem dX5_copy_107 : decode cX5_copy 107 = .ok (.invokevirtual 59, 3) := by decide +kernel
theorem dX5_copy_110 : decode cX5_copy 110 = .ok (.ireturn, 1) := by decide +kernel
theorem dX5_copy_111 : decode cX5_copy 111 = .ok (.aload_n 0, 1) := by decide +kernel
theorem dX5_copy_112 : decode cX5_copy 112 = .ok (.iconst 0, 1) := by decide +kernel
theorem dX5_copy_113 : decode cX5_copy 113 = .ok (.putfield 63, 3) := by decide +kernel
theorem dX5_copy_116 : decode cX5_copy 116 = .ok (.aload_n 0, 1) := by decide +kernel
theorem dX5_copy_117 : decode cX5_copy 117 = .ok (.getfield 10, 3) := by decide +kernel
theorem dX5_copy_120 : decode cX5_copy 120 = .ok (.iload_n 1, 1) := by decide +kernel
theorem dX5_copy_121 : decode cX5_copy 121 = .ok (.iload_n 2, 1) := by decide +kernel
theorem dX5_copy_122 : decode cX5_copy 122 = .ok (.iload_n 3, 1) := by decide +kernel
theorem dX5_copy_123 : decode cX5_copy 123 = .ok (.iload 4, 2) := by decide +kernel
theorem dX5_copy_125 : decode cX5_copy 125 = .ok (.iload 5, 2) := by decide +kernel
theorem dX5_copy_127 : decode cX5_copy 127 = .ok (.invokevirtual 88, 3) := by decide +kernel
theorem dX5_copy_130 : decode cX5_copy 130 = .ok (.iload 5, 2) := by decide +kernel
theorem dX5_copy_132 : decode cX5_copy 132 = .ok (.ireturn, 1) := by decide +kernel
set_option maxRecDepth 20000 in
theorem ggX5_drop_X5_within : GoodIn wsX5_drop wsX5_within := goodIn_r _ [7] (by decide +kernel) (by decide +kernel)
set_option maxRecDepth 20000 in
theorem gX5_drop_X5_within : GoodIn wsX5_drop (va_wsS RX5 54 yX5_within wsX5_within) := goodIn_app (goodIn_of _ (by decide +kernel)) ggX5_drop_X5_within
set_option maxRecDepth 20000 in
theorem ggX5_drop_X3_isMissing : GoodIn wsX5_drop wsX3_isMissing := goodIn_r _ [12, 13, 32, 33, 34] (by decide +kernel) (by decide +kernel)
set_option maxRecDepth 20000 in
theorem gX5_drop_X3_isMissing : GoodIn wsX5_drop (wsV RX5 78 RX3 yX3_isMissing wsX3_isMissing) := goodIn_app (goodIn_of _ (by decide +kernel)) ggX5_drop_X3_isMissing
set_option maxRecDepth 20000 in
theorem ggX5_drop_X5_found : GoodIn wsX5_drop wsX5_found := goodIn_r _ [17, 3, 18, 23, 24, 25, 26, 27, 28, 29, 30, 31] (by decide +kernel) (by decide +kernel)
set_option maxRecDepth 20000 in
theorem gX5_drop_X5_found : GoodIn wsX5_drop (wsV RX5 59 RX5 yX5_found wsX5_found) := goodIn_app (goodIn_of _ (by decide +kernel)) ggX5_drop_X5_found
set_option maxRecDepth 20000 in
theorem ggX5_drop_X3_remove : GoodIn wsX5_drop wsX3_remove := goodIn_r _ [22, 13, 32, 33, 34] (by decide +kernel) (by decide +kernel)
set_option maxRecDepth 20000 in
theorem gX5_drop_X3_remove : GoodIn wsX5_drop (wsV RX5 92 RX3 yX3_remove wsX3_remove) := goodIn_app (goodIn_of _ (by decide +kernel)) ggX5_drop_X3_remove
theorem dX5_drop_0 : decode cX5_drop 0 = .ok (.iload_n 1, 1) := by decide +kernel
theorem dX5_drop_1 : decode cX5_drop 1 = .ok (.iconst 0, 1) := by decide +kernel
theorem dX5_drop_2 : decode cX5_drop 2 = .ok (.bipush 7, 2) := by decide +kernel
theorem dX5_drop_4 : decode cX5_drop 4 = .ok (.invokestatic 54, 3) := by decide +kernel
theorem dX5_drop_7 : decode cX5_drop 7 = .ok (.ifCond .ne 6, 3) := by decide +kernel
theorem dX5_drop_10 : decode cX5_drop 10 = .ok (.ldc 58, 2) := by decide +kernel
theorem dX5_drop_12 : decode cX5_drop 12 = .ok (.ireturn, 1) := by decide +kernel
theorem dX5_drop_13 : decode cX5_drop 13 = .ok (.aload_n 0, 1) := by decide +kernel
theorem dX5_drop_14 : decode cX5_drop 14 = .ok (.getfield 10, 3) := by decide +kernel
theorem dX5_drop_17 : decode cX5_drop 17 = .ok (.iload_n 1, 1) := by decide +kernel
theorem dX5_drop_18 : decode cX5_drop 18 = .ok (.invokevirtual 78, 3) := by decide +kernel
theorem dX5_drop_21 : decode cX5_drop 21 = .ok (.ifCond .eq 9, 3) := by decide +kernel
theorem dX5_drop_24 : decode cX5_drop 24 = .ok (.aload_n 0, 1) := by decide +kernel
theorem dX5_drop_25 : decode cX5_drop 25 = .ok (.iconst 1, 1) := by decide +kernel
theorem dX5_drop_26 : decode cX5_drop 26 = .ok (.invokevirtual 59, 3) := by decide +kernel
theorem dX5_drop_29 : decode cX5_drop 29 = .ok (.ireturn, 1) := by decide +kernel
theorem dX5_drop_30 : decode cX5_drop 30 = .ok (.aload_n 0, 1) := by decide +kernel
theorem dX5_drop_31 : decode cX5_drop 31 = .ok (.iconst 0, 1) := by decide +kernel
theorem dX5_drop_32 : decode cX5_drop 32 = .ok (.putfield 63, 3) := by decide +kernel
theorem dX5_drop_35 : decode cX5_drop 35 = .ok (.aload_n 0, 1) := by decide +kernel
theorem dX5_drop_36 : decode cX5_drop 36 = .ok (.getfield 10, 3) := by decide +kernel
theorem dX5_drop_39 : decode cX5_drop 39 = .ok (.iload_n 1, 1) := by decide +kernel
theorem dX5_drop_40 : decode cX5_drop 40 = .ok (.invokevirtual 92, 3) := by decide +kernel
theorem dX5_drop_43 : decode cX5_drop 43 = .ok (.ireturn, 1) := by decide +kernel
set_option maxRecDepth 20000 in
theorem ggX5_feed_X5_within : GoodIn wsX5_feed wsX5_within := goodIn_r _ [8] (by decide +kernel) (by decide +kernel)
set_option maxRecDepth 20000 in
theorem gX5_feed_X5_within : GoodIn wsX5_feed (va_wsS RX5 54 yX5_within wsX5_within) := goodIn_app (goodIn_of _ (by decide +kernel)) ggX5_feed_X5_within
set_option maxRecDepth 20000 in
theorem ggX5_feed_X4_take : GoodIn wsX5_feed wsX4_take := goodIn_r _ [13, 14, 15, 25, 26, 27, 28, 29, 30, 31, 32] (by decide +kernel) (by decide +kernel)
set_option maxRecDepth 20000 in
theorem gX5_feed_X4_take : GoodIn wsX5_feed (wsV RX5 95 RX4 yX4_take wsX4_take) := goodIn_app (goodIn_of _ (by decide +kernel)) ggX5_feed_X4_take
theorem dX5_feed_0 : decode cX5_feed 0 = .ok (.iload_n 1, 1) := by decide +kernel
theorem dX5_feed_1 : decode cX5_feed 1 = .ok (.iconst 0, 1) := by decide +kernel
theorem dX5_feed_2 : decode cX5_feed 2 = .ok (.sipush 255, 3) := by decide +kernel
theorem dX5_feed_5 : decode cX5_feed 5 = .ok (.invokestatic 54, 3) := by decide +kernel
theorem dX5_feed_8 : decode cX5_feed 8 = .ok (.ifCond .ne 6, 3) := by decide +kernel
theorem dX5_feed_11 : decode cX5_feed 11 = .ok (.ldc 58, 2) := by decide +kernel
theorem dX5_feed_13 : decode cX5_feed 13 = .ok (.ireturn, 1) := by decide +kernel
theorem dX5_feed_14 : decode cX5_feed 14 = .ok (.aload_n 0, 1) := by decide +kernel
theorem dX5_feed_15 : decode cX5_feed 15 = .ok (.getfield 19, 3) := by decide +kernel
theorem dX5_feed_18 : decode cX5_feed 18 = .ok (.iload_n 1, 1) := by decide +kernel
theorem dX5_feed_19 : decode cX5_feed 19 = .ok (.invokevirtual 95, 3) := by decide +kernel
theorem dX5_feed_22 : decode cX5_feed 22 = .ok (.ifCond .eq 13, 3) := by decide +kernel
theorem dX5_feed_25 : decode cX5_feed 25 = .ok (.aload_n 0, 1) := by decide +kernel
theorem dX5_feed_26 : decode cX5_feed 26 = .ok (.getfield 19, 3) := by decide +kernel
theorem dX5_feed_29 : decode cX5_feed 29 = .ok (.getfield 98, 3) := by decide +kernel
theorem dX5_feed_32 : decode cX5_feed 32 = .ok (.goto 5, 3) := by decide +kernel
theorem dX5_feed_35 : decode cX5_feed 35 = .ok (.ldc 101, 2) := by decide +kernel
theorem dX5_feed_37 : decode cX5_feed 37 = .ok (.ireturn, 1) := by decide +kernel
set_option maxRecDepth 20000 in
theorem ggX5_river_X4_readInto : GoodIn wsX5_river wsX4_readInto := goodIn_r _ [13, 14, 15, 16, 17, 18, 12, 19, 20, 21, 22, 23, 24, 25, 26, 27, 28, 29, 30, 31, 32, 33, 34, 35, 36, 37, 38, 39, 40, 41, 42, 43, 44, 45, 46, 47, 48, 49, 50, 51, 52, 53, 54, 55, 56, 57, 58, 59, 60, 61, 62, 63, 64, 65, 66, 67, 68, 69, 70, 71, 72, 73, 74, 75, 76, 77, 78, 104, 105, 106, 107, 108, 109, 110, 111, 112, 113, 114, 115, 116, 117, 118, 119, 120, 121, 122] (by decide +kernel) (by decide +kernel)
set_option maxRecDepth 20000 in
theorem gX5_river_X4_readInto : GoodIn wsX5_river (wsV RX5 102 RX4 yX4_readInto wsX4_readInto) := goodIn_app (goodIn_of _ (by decide +kernel)) ggX5_river_X4_readInto
set_option maxRecDepth 20000 in
theorem ggX5_river_X2_become : GoodIn wsX5_river wsX2_become := goodIn_r _ [82, 57, 58, 59, 60, 61, 83, 84, 85, 86, 87, 88, 112, 113, 114, 115, 116, 117, 118, 119, 120, 121, 122] (by decide +kernel) (by decide +kernel)
set_option maxRecDepth 20000 in
theorem gX5_river_X2_become : GoodIn wsX5_river (wsV RX5 110 RX2 yX2_become wsX2_become) := goodIn_app (goodIn_of _ (by decide +kernel)) ggX5_river_X2_become
set_option maxRecDepth 20000 in
theorem ggX5_river_X0_forget : GoodIn wsX5_river wsX0_forget := goodIn_r _ [93, 94, 123, 124, 125] (by decide +kernel) (by decide +kernel)
set_option maxRecDepth 20000 in
theorem gX5_river_X0_forget : GoodIn wsX5_river (wsV RX5 114 RX0 yX0_forget wsX0_forget) := goodIn_app (goodIn_of _ (by decide +kernel)) ggX5_river_X0_forget
theorem dX5_river_0 : decode cX5_river 0 = .ok (.aload_n 0, 1) := by decide +kernel
theorem dX5_river_1 : decode cX5_river 1 = .ok (.getfield 19, 3) := by decide +kernel
theorem dX5_river_4 : decode cX5_river 4 = .ok (.aload_n 0, 1) := by decide +kernel
theorem dX5_river_5 : decode cX5_river 5 = .ok (.getfield 44, 3) := by decide +kernel
theorem dX5_river_8 : decode cX5_river 8 = .ok (.invokevirtual 102, 3) := by decide +kernel
theorem dX5_river_11 : decode cX5_river 11 = .ok (.istore_n 1, 1) := by decide +kernel
theorem dX5_river_12 : decode cX5_river 12 = .ok (.aload_n 0, 1) := by decide +kernel
theorem dX5_river_13 : decode cX5_river 13 = .ok (.getfield 19, 3) := by decide +kernel
theorem dX5_river_16 : decode cX5_river 16 = .ok (.iconst 0, 1) := by decide +kernel
theorem dX5_river_17 : decode cX5_river 17 = .ok (.putfield 98, 3) := by decide +kernel
theorem dX5_river_20 : decode cX5_river 20 = .ok (.iload_n 1, 1) := by decide +kernel
theorem dX5_river_21 : decode cX5_river 21 = .ok (.ifCond .ne 14, 3) := by decide +kernel
theorem dX5_river_24 : decode cX5_river 24 = .ok (.ldc 106, 2) := by decide +kernel
theorem dX5_river_26 : decode cX5_river 26 = .ok (.aload_n 0, 1) := by decide +kernel
theorem dX5_river_27 : decode cX5_river 27 = .ok (.getfield 19, 3) := by decide +kernel
theorem dX5_river_30 : decode cX5_river 30 = .ok (.getfield 107, 3) := by decide +kernel
theorem dX5_river_33 : decode cX5_river 33 = .ok (.isub, 1) := by decide +kernel
theorem dX5_river_34 : decode cX5_river 34 = .ok (.ireturn, 1) := by decide +kernel
theorem dX5_river_35 : decode cX5_river 35 = .ok (.aload_n 0, 1) := by decide +kernel
theorem dX5_river_36 : decode cX5_river 36 = .ok (.getfield 40, 3) := by decide +kernel
theorem dX5_river_39 : decode cX5_river 39 = .ok (.aload_n 0, 1) := by decide +kernel
theorem dX5_river_40 : decode cX5_river 40 = .ok (.getfield 44, 3) := by decide +kernel
theorem dX5_river_43 : decode cX5_river 43 = .ok (.invokevirtual 110, 3) := by decide +kernel
theorem dX5_river_46 : decode cX5_river 46 = .ok (.aload_n 0, 1) := by decide +kernel
theorem dX5_river_47 : decode cX5_river 47 = .ok (.getfield 26, 3) := by decide +kernel
theorem dX5_river_50 : decode cX5_river 50 = .ok (.invokevirtual 114, 3) := by decide +kernel
theorem dX5_river_53 : decode cX5_river 53 = .ok (.aload_n 0, 1) := by decide +kernel
theorem dX5_river_54 : decode cX5_river 54 = .ok (.getfield 40, 3) := by decide +kernel
theorem dX5_river_57 : decode cX5_river 57 = .ok (.getfield 117, 3) := by decide +kernel
theorem dX5_river_60 : decode cX5_river 60 = .ok (.ireturn, 1) := by decide +kernel
theorem dX5_fault_0 : decode cX5_fault 0 = .ok (.aload_n 0, 1) := by decide +kernel
theorem dX5_fault_1 : decode cX5_fault 1 = .ok (.getfield 19, 3) := by decide +kernel
theorem dX5_fault_4 : decode cX5_fault 4 = .ok (.getfield 120, 3) := by decide +kernel
theorem dX5_fault_7 : decode cX5_fault 7 = .ok (.ireturn, 1) := by decide +kernel
set_option maxRecDepth 20000 in
theorem ggX5_undo_X0_takeBack : GoodIn wsX5_undo wsX0_takeBack := goodIn_r _ [9, 10, 11, 12, 13, 14, 15, 16, 17, 18, 19, 20, 21, 22, 23, 24, 25, 26, 27, 28, 38, 39, 40, 41, 42, 43, 44, 45, 46, 47, 48, 49, 50, 51] (by decide +kernel) (by decide +kernel)
set_option maxRecDepth 20000 in
theorem gX5_undo_X0_takeBack : GoodIn wsX5_undo (wsV RX5 123 RX0 yX0_takeBack wsX0_takeBack) := goodIn_app (goodIn_of _ (by decide +kernel)) ggX5_undo_X0_takeBack
theorem dX5_undo_0 : decode cX5_undo 0 = .ok (.aload_n 0, 1) := by decide +kernel
theorem dX5_undo_1 : decode cX5_undo 1 = .ok (.getfield 26, 3) := by decide +kernel
theorem dX5_undo_4 : decode cX5_undo 4 = .ok (.aload_n 0, 1) := by decide +kernel
theorem dX5_undo_5 : decode cX5_undo 5 = .ok (.getfield 40, 3) := by decide +kernel
theorem dX5_undo_8 : decode cX5_undo 8 = .ok (.invokevirtual 123, 3) := by decide +kernel
theorem dX5_undo_11 : decode cX5_undo 11 = .ok (.ifCond .eq 13, 3) := by decide +kernel
theorem dX5_undo_14 : decode cX5_undo 14 = .ok (.aload_n 0, 1) := by decide +kernel
theorem dX5_undo_15 : decode cX5_undo 15 = .ok (.getfield 26, 3) := by decide +kernel
theorem dX5_undo_18 : decode cX5_undo 18 = .ok (.getfield 126, 3) := by decide +kernel
theorem dX5_undo_21 : decode cX5_undo 21 = .ok (.goto 5, 3) := by decide +kernel
theorem dX5_undo_24 : decode cX5_undo 24 = .ok (.ldc 129, 2) := by decide +kernel
theorem dX5_undo_26 : decode cX5_undo 26 = .ok (.ireturn, 1) := by decide +kernel
set_option maxRecDepth 20000 in
theorem ggX5_days_X5_hasRiver : GoodIn wsX5_days wsX5_hasRiver := goodIn_r _ [11, 3, 12, 94, 95, 96, 97, 98, 99, 100, 101, 102, 103, 104, 105, 106, 107, 108, 109, 110, 111, 112, 113] (by decide +kernel) (by decide +kernel)
set_option maxRecDepth 20000 in
theorem gX5_days_X5_hasRiver : GoodIn wsX5_days (wsV RX5 130 RX5 yX5_hasRiver wsX5_hasRiver) := goodIn_app (goodIn_of _ (by decide +kernel)) ggX5_days_X5_hasRiver
set_option maxRecDepth 20000 in
theorem ggX5_days_X5_within : GoodIn wsX5_days wsX5_within := goodIn_r _ [15] (by decide +kernel) (by decide +kernel)
set_option maxRecDepth 20000 in
theorem gX5_days_X5_within : GoodIn wsX5_days (va_wsS RX5 54 yX5_within wsX5_within) := goodIn_app (goodIn_of _ (by decide +kernel)) ggX5_days_X5_within
set_option maxRecDepth 20000 in
theorem ggX5_days_X0_keep : GoodIn wsX5_days wsX0_keep := goodIn_r _ [20, 21, 22, 23, 24, 25, 26, 27, 28, 29, 30, 31, 32, 33, 34, 35, 36, 37, 38, 39, 40, 41, 42, 43, 114, 115, 116, 103, 104, 105, 106, 107, 108, 109, 110, 111, 112, 113] (by decide +kernel) (by decide +kernel)
set_option maxRecDepth 20000 in
theorem gX5_days_X0_keep : GoodIn wsX5_days (wsV RX5 137 RX0 yX0_keep wsX0_keep) := goodIn_app (goodIn_of _ (by decide +kernel)) ggX5_days_X0_keep
set_option maxRecDepth 20000 in
theorem ggX5_days_X2_passDay : GoodIn wsX5_days wsX2_passDay := goodIn_r _ [47, 34, 40, 37, 43, 35, 48, 49, 50, 31, 51, 38, 52, 53, 54, 55, 33, 36, 56, 57, 58, 59, 60, 61, 62, 63, 64, 65, 66, 67, 68, 69, 70, 71, 72, 73, 74, 75, 42, 76, 77, 78, 79, 41, 103, 104, 105, 106, 107, 108, 109, 110, 111, 112, 113] (by decide +kernel) (by decide +kernel)
set_option maxRecDepth 20000 in
theorem gX5_days_X2_passDay : GoodIn wsX5_days (wsV RX5 140 RX2 yX2_passDay wsX2_passDay) := goodIn_app (goodIn_of _ (by decide +kernel)) ggX5_days_X2_passDay
set_option maxRecDepth 20000 in
theorem ggX5_days_X2_ownerCount : GoodIn wsX5_days wsX2_ownerCount := goodIn_r _ [83, 33, 84, 85, 86, 31, 87, 34, 40, 88, 89, 66, 90, 91, 92, 93, 103, 104, 105, 106, 107, 108, 109, 110, 111, 112, 113] (by decide +kernel) (by decide +kernel)
set_option maxRecDepth 20000 in
theorem gX5_days_X2_ownerCount : GoodIn wsX5_days (wsV RX5 143 RX2 yX2_ownerCount wsX2_ownerCount) := goodIn_app (goodIn_of _ (by decide +kernel)) ggX5_days_X2_ownerCount
theorem dX5_days_0 : decode cX5_days 0 = .ok (.aload_n 0, 1) := by decide +kernel
theorem dX5_days_1 : decode cX5_days 1 = .ok (.invokevirtual 130, 3) := by decide +kernel
theorem dX5_days_4 : decode cX5_days 4 = .ok (.ifCond .ne 6, 3) := by decide +kernel
theorem dX5_days_7 : decode cX5_days 7 = .ok (.ldc 129, 2) := by decide +kernel
theorem dX5_days_9 : decode cX5_days 9 = .ok (.ireturn, 1) := by decide +kernel
theorem dX5_days_10 : decode cX5_days 10 = .ok (.iload_n 1, 1) := by decide +kernel
theorem dX5_days_11 : decode cX5_days 11 = .ok (.iconst 1, 1) := by decide +kernel
theorem dX5_days_12 : decode cX5_days 12 = .ok (.bipush 24, 2) := by decide +kernel
theorem dX5_days_14 : decode cX5_days 14 = .ok (.invokestatic 54, 3) := by decide +kernel
theorem dX5_days_17 : decode cX5_days 17 = .ok (.ifCond .ne 6, 3) := by decide +kernel
theorem dX5_days_20 : decode cX5_days 20 = .ok (.ldc 58, 2) := by decide +kernel
theorem dX5_days_22 : decode cX5_days 22 = .ok (.ireturn, 1) := by decide +kernel
theorem dX5_days_23 : decode cX5_days 23 = .ok (.aload_n 0, 1) := by decide +kernel
theorem dX5_days_24 : decode cX5_days 24 = .ok (.getfield 40, 3) := by decide +kernel
theorem dX5_days_27 : decode cX5_days 27 = .ok (.getfield 134, 3) := by decide +kernel
theorem dX5_days_30 : decode cX5_days 30 = .ok (.iload_n 1, 1) := by decide +kernel
theorem dX5_days_31 : decode cX5_days 31 = .ok (.iadd, 1) := by decide +kernel
theorem dX5_days_32 : decode cX5_days 32 = .ok (.sipush 999, 3) := by decide +kernel
theorem dX5_days_35 : decode cX5_days 35 = .ok (.if_icmp .le 6, 3) := by decide +kernel
theorem dX5_days_38 : decode cX5_days 38 = .ok (.ldc 101, 2) := by decide +kernel
theorem dX5_days_40 : decode cX5_days 40 = .ok (.ireturn, 1) := by decide +kernel
theorem dX5_days_41 : decode cX5_days 41 = .ok (.iconst 0, 1) := by decide +kernel
theorem dX5_days_42 : decode cX5_days 42 = .ok (.istore_n 2, 1) := by decide +kernel
theorem dX5_days_43 : decode cX5_days 43 = .ok (.iload_n 2, 1) := by decide +kernel
theorem dX5_days_44 : decode cX5_days 44 = .ok (.iload_n 1, 1) := by decide +kernel
theorem dX5_days_45 : decode cX5_days 45 = .ok (.if_icmp .ge 27, 3) := by decide +kernel
theorem dX5_days_48 : decode cX5_days 48 = .ok (.aload_n 0, 1) := by decide +kernel
theorem dX5_days_49 : decode cX5_days 49 = .ok (.getfield 26, 3) := by decide +kernel
theorem dX5_days_52 : decode cX5_days 52 = .ok (.aload_n 0, 1) := by decide +kernel
theorem dX5_days_53 : decode cX5_days 53 = .ok (.getfield 40, 3) := by decide +kernel
theorem dX5_days_56 : decode cX5_days 56 = .ok (.invokevirtual 137, 3) := by decide +kernel
theorem dX5_days_59 : decode cX5_days 59 = .ok (.aload_n 0, 1) := by decide +kernel
theorem dX5_days_60 : decode cX5_days 60 = .ok (.getfield 40, 3) := by decide +kernel
theorem dX5_days_63 : decode cX5_days 63 = .ok (.invokevirtual 140, 3) := by decide +kernel
theorem dX5_days_66 : decode cX5_days 66 = .ok (.iinc 2 1, 3) := by decide +kernel
theorem dX5_days_69 : decode cX5_days 69 = .ok (.goto (-26), 3) := by decide +kernel
theorem dX5_days_72 : decode cX5_days 72 = .ok (.aload_n 0, 1) := by decide +kernel
theorem dX5_days_73 : decode cX5_days 73 = .ok (.getfield 40, 3) := by decide +kernel
theorem dX5_days_76 : decode cX5_days 76 = .ok (.invokevirtual 143, 3) := by decide +kernel
theorem dX5_days_79 : decode cX5_days 79 = .ok (.ireturn, 1) := by decide +kernel
set_option maxRecDepth 20000 in
theorem ggX5_bread_X5_isLawn : GoodIn wsX5_bread wsX5_isLawn := goodIn_r _ [9, 3, 10, 11, 12, 8, 13, 47, 48, 49, 50, 51, 52, 53, 54, 55, 56, 57, 58, 59, 60, 61, 62, 63, 64, 65, 66] (by decide +kernel) (by decide +kernel)
set_option maxRecDepth 20000 in
theorem gX5_bread_X5_isLawn : GoodIn wsX5_bread (wsV RX5 147 RX5 yX5_isLawn wsX5_isLawn) := goodIn_app (goodIn_of _ (by decide +kernel)) ggX5_bread_X5_isLawn
set_option maxRecDepth 20000 in
theorem ggX5_bread_X5_within : GoodIn wsX5_bread wsX5_within := goodIn_r _ [13] (by decide +kernel) (by decide +kernel)
set_option maxRecDepth 20000 in
theorem gX5_bread_X5_within : GoodIn wsX5_bread (va_wsS RX5 54 yX5_within wsX5_within) := goodIn_app (goodIn_of _ (by decide +kernel)) ggX5_bread_X5_within
set_option maxRecDepth 20000 in
theorem ggX5_bread_X0_keep : GoodIn wsX5_bread wsX0_keep := goodIn_r _ [18, 19, 20, 21, 22, 23, 24, 25, 26, 27, 28, 29, 30, 31, 32, 33, 34, 35, 36, 37, 38, 39, 40, 41, 67, 68, 69, 56, 57, 58, 59, 60, 61, 62, 63, 64, 65, 66] (by decide +kernel) (by decide +kernel)
set_option maxRecDepth 20000 in
theorem gX5_bread_X0_keep : GoodIn wsX5_bread (wsV RX5 137 RX0 yX0_keep wsX0_keep) := goodIn_app (goodIn_of _ (by decide +kernel)) ggX5_bread_X0_keep
set_option maxRecDepth 20000 in
theorem ggX5_bread_X2_scatter : GoodIn wsX5_bread wsX2_scatter := goodIn_r _ [45, 35, 46, 23, 24, 25, 56, 57, 58, 59, 60, 61, 62, 63, 64, 65, 66] (by decide +kernel) (by decide +kernel)
set_option maxRecDepth 20000 in
theorem gX5_bread_X2_scatter : GoodIn wsX5_bread (wsV RX5 150 RX2 yX2_scatter wsX2_scatter) := goodIn_app (goodIn_of _ (by decide +kernel)) ggX5_bread_X2_scatter
theorem dX5_bread_0 : decode cX5_bread 0 = .ok (.aload_n 0, 1) := by decide +kernel
theorem dX5_bread_1 : decode cX5_bread 1 = .ok (.iload_n 1, 1) := by decide +kernel
theorem dX5_bread_2 : decode cX5_bread 2 = .ok (.invokevirtual 147, 3) := by decide +kernel
theorem dX5_bread_5 : decode cX5_bread 5 = .ok (.ifCond .eq 13, 3) := by decide +kernel
theorem dX5_bread_8 : decode cX5_bread 8 = .ok (.iload_n 2, 1) := by decide +kernel
theorem dX5_bread_9 : decode cX5_bread 9 = .ok (.iconst 1, 1) := by decide +kernel
theorem dX5_bread_10 : decode cX5_bread 10 = .ok (.bipush 9, 2) := by decide +kernel
theorem dX5_bread_12 : decode cX5_bread 12 = .ok (.invokestatic 54, 3) := by decide +kernel
theorem dX5_bread_15 : decode cX5_bread 15 = .ok (.ifCond .ne 6, 3) := by decide +kernel
theorem dX5_bread_18 : decode cX5_bread 18 = .ok (.ldc 58, 2) := by decide +kernel
theorem dX5_bread_20 : decode cX5_bread 20 = .ok (.ireturn, 1) := by decide +kernel
theorem dX5_bread_21 : decode cX5_bread 21 = .ok (.aload_n 0, 1) := by decide +kernel
theorem dX5_bread_22 : decode cX5_bread 22 = .ok (.getfield 26, 3) := by decide +kernel
theorem dX5_bread_25 : decode cX5_bread 25 = .ok (.aload_n 0, 1) := by decide +kernel
theorem dX5_bread_26 : decode cX5_bread 26 = .ok (.getfield 40, 3) := by decide +kernel
theorem dX5_bread_29 : decode cX5_bread 29 = .ok (.invokevirtual 137, 3) := by decide +kernel
theorem dX5_bread_32 : decode cX5_bread 32 = .ok (.aload_n 0, 1) := by decide +kernel
theorem dX5_bread_33 : decode cX5_bread 33 = .ok (.getfield 40, 3) := by decide +kernel
theorem dX5_bread_36 : decode cX5_bread 36 = .ok (.iload_n 1, 1) := by decide +kernel
theorem dX5_bread_37 : decode cX5_bread 37 = .ok (.iload_n 2, 1) := by decide +kernel
theorem dX5_bread_38 : decode cX5_bread 38 = .ok (.invokevirtual 150, 3) := by decide +kernel
theorem dX5_bread_41 : decode cX5_bread 41 = .ok (.aload_n 0, 1) := by decide +kernel
theorem dX5_bread_42 : decode cX5_bread 42 = .ok (.getfield 40, 3) := by decide +kernel
theorem dX5_bread_45 : decode cX5_bread 45 = .ok (.getfield 154, 3) := by decide +kernel
theorem dX5_bread_48 : decode cX5_bread 48 = .ok (.iload_n 1, 1) := by decide +kernel
theorem dX5_bread_49 : decode cX5_bread 49 = .ok (.iaload, 1) := by decide +kernel
theorem dX5_bread_50 : decode cX5_bread 50 = .ok (.ireturn, 1) := by decide +kernel
set_option maxRecDepth 20000 in
theorem ggX5_weir_X5_isLawn : GoodIn wsX5_weir wsX5_isLawn := goodIn_r _ [10, 2, 11, 12, 13, 9, 14, 47, 48, 49, 50, 51, 52, 53, 54, 55, 56, 57, 58, 59, 60, 61, 62, 63, 64, 65, 66] (by decide +kernel) (by decide +kernel)
set_option maxRecDepth 20000 in
theorem gX5_weir_X5_isLawn : GoodIn wsX5_weir (wsV RX5 147 RX5 yX5_isLawn wsX5_isLawn) := goodIn_app (goodIn_of _ (by decide +kernel)) ggX5_weir_X5_isLawn
set_option maxRecDepth 20000 in
theorem ggX5_weir_X5_within : GoodIn wsX5_weir wsX5_within := goodIn_r _ [14] (by decide +kernel) (by decide +kernel)
set_option maxRecDepth 20000 in
theorem gX5_weir_X5_within : GoodIn wsX5_weir (va_wsS RX5 54 yX5_within wsX5_within) := goodIn_app (goodIn_of _ (by decide +kernel)) ggX5_weir_X5_within
set_option maxRecDepth 20000 in
theorem ggX5_weir_X2_weirBehind : GoodIn wsX5_weir wsX2_weirBehind := goodIn_r _ [19, 20, 56, 57, 58, 59, 60, 61, 62, 63, 64, 65, 66] (by decide +kernel) (by decide +kernel)
set_option maxRecDepth 20000 in
theorem gX5_weir_X2_weirBehind : GoodIn wsX5_weir (wsV RX5 158 RX2 yX2_weirBehind wsX2_weirBehind) := goodIn_app (goodIn_of _ (by decide +kernel)) ggX5_weir_X2_weirBehind
set_option maxRecDepth 20000 in
theorem ggX5_weir_X0_keep : GoodIn wsX5_weir wsX0_keep := goodIn_r _ [25, 26, 27, 28, 29, 30, 31, 32, 33, 34, 35, 18, 36, 37, 38, 39, 20, 40, 41, 42, 43, 44, 45, 46, 67, 68, 69, 56, 57, 58, 59, 60, 61, 62, 63, 64, 65, 66] (by decide +kernel) (by decide +kernel)
set_option maxRecDepth 20000 in
theorem gX5_weir_X0_keep : GoodIn wsX5_weir (wsV RX5 137 RX0 yX0_keep wsX0_keep) := goodIn_app (goodIn_of _ (by decide +kernel)) ggX5_weir_X0_keep
theorem dX5_weir_0 : decode cX5_weir 0 = .ok (.aload_n 0, 1) := by decide +kernel
theorem dX5_weir_1 : decode cX5_weir 1 = .ok (.iload_n 1, 1) := by decide +kernel
theorem dX5_weir_2 : decode cX5_weir 2 = .ok (.invokevirtual 147, 3) := by decide +kernel
theorem dX5_weir_5 : decode cX5_weir 5 = .ok (.ifCond .eq 22, 3) := by decide +kernel
theorem dX5_weir_8 : decode cX5_weir 8 = .ok (.aload_n 0, 1) := by decide +kernel
theorem dX5_weir_9 : decode cX5_weir 9 = .ok (.iload_n 1, 1) := by decide +kernel
theorem dX5_weir_10 : decode cX5_weir 10 = .ok (.iconst 1, 1) := by decide +kernel
theorem dX5_weir_11 : decode cX5_weir 11 = .ok (.iadd, 1) := by decide +kernel
theorem dX5_weir_12 : decode cX5_weir 12 = .ok (.invokevirtual 147, 3) := by decide +kernel
theorem dX5_weir_15 : decode cX5_weir 15 = .ok (.ifCond .eq 12, 3) := by decide +kernel
theorem dX5_weir_18 : decode cX5_weir 18 = .ok (.iload_n 2, 1) := by decide +kernel
theorem dX5_weir_19 : decode cX5_weir 19 = .ok (.iconst 0, 1) := by decide +kernel
theorem dX5_weir_20 : decode cX5_weir 20 = .ok (.iconst 1, 1) := by decide +kernel
theorem dX5_weir_21 : decode cX5_weir 21 = .ok (.invokestatic 54, 3) := by decide +kernel
theorem dX5_weir_24 : decode cX5_weir 24 = .ok (.ifCond .ne 6, 3) := by decide +kernel
theorem dX5_weir_27 : decode cX5_weir 27 = .ok (.ldc 58, 2) := by decide +kernel
theorem dX5_weir_29 : decode cX5_weir 29 = .ok (.ireturn, 1) := by decide +kernel
theorem dX5_weir_30 : decode cX5_weir 30 = .ok (.aload_n 0, 1) := by decide +kernel
theorem dX5_weir_31 : decode cX5_weir 31 = .ok (.getfield 40, 3) := by decide +kernel
theorem dX5_weir_34 : decode cX5_weir 34 = .ok (.iload_n 1, 1) := by decide +kernel
theorem dX5_weir_35 : decode cX5_weir 35 = .ok (.invokevirtual 158, 3) := by decide +kernel
theorem dX5_weir_38 : decode cX5_weir 38 = .ok (.iload_n 2, 1) := by decide +kernel
theorem dX5_weir_39 : decode cX5_weir 39 = .ok (.if_icmp .ne 6, 3) := by decide +kernel
theorem dX5_weir_42 : decode cX5_weir 42 = .ok (.ldc 129, 2) := by decide +kernel
theorem dX5_weir_44 : decode cX5_weir 44 = .ok (.ireturn, 1) := by decide +kernel
theorem dX5_weir_45 : decode cX5_weir 45 = .ok (.aload_n 0, 1) := by decide +kernel
theorem dX5_weir_46 : decode cX5_weir 46 = .ok (.getfield 26, 3) := by decide +kernel
theorem dX5_weir_49 : decode cX5_weir 49 = .ok (.aload_n 0, 1) := by decide +kernel
theorem dX5_weir_50 : decode cX5_weir 50 = .ok (.getfield 40, 3) := by decide +kernel
theorem dX5_weir_53 : decode cX5_weir 53 = .ok (.invokevirtual 137, 3) := by decide +kernel
theorem dX5_weir_56 : decode cX5_weir 56 = .ok (.aload_n 0, 1) := by decide +kernel
theorem dX5_weir_57 : decode cX5_weir 57 = .ok (.getfield 40, 3) := by decide +kernel
theorem dX5_weir_60 : decode cX5_weir 60 = .ok (.dup, 1) := by decide +kernel
theorem dX5_weir_61 : decode cX5_weir 61 = .ok (.getfield 161, 3) := by decide +kernel
theorem dX5_weir_64 : decode cX5_weir 64 = .ok (.iconst 1, 1) := by decide +kernel
theorem dX5_weir_65 : decode cX5_weir 65 = .ok (.iload_n 1, 1) := by decide +kernel
theorem dX5_weir_66 : decode cX5_weir 66 = .ok (.ishl, 1) := by decide +kernel
theorem dX5_weir_67 : decode cX5_weir 67 = .ok (.ixor, 1) := by decide +kernel
theorem dX5_weir_68 : decode cX5_weir 68 = .ok (.putfield 161, 3) := by decide +kernel
theorem dX5_weir_71 : decode cX5_weir 71 = .ok (.aload_n 0, 1) := by decide +kernel
theorem dX5_weir_72 : decode cX5_weir 72 = .ok (.getfield 40, 3) := by decide +kernel
theorem dX5_weir_75 : decode cX5_weir 75 = .ok (.getfield 161, 3) := by decide +kernel
theorem dX5_weir_78 : decode cX5_weir 78 = .ok (.ireturn, 1) := by decide +kernel
set_option maxRecDepth 20000 in
theorem ggX5_frighten_X5_isSwan : GoodIn wsX5_frighten wsX5_isSwan := goodIn_r _ [10, 2, 11, 12, 13, 9, 14, 47, 48, 49, 50, 51, 52, 53, 54, 55, 56, 57, 58, 59, 60, 61, 62, 63, 64, 65, 66] (by decide +kernel) (by decide +kernel)
set_option maxRecDepth 20000 in
theorem gX5_frighten_X5_isSwan : GoodIn wsX5_frighten (wsV RX5 164 RX5 yX5_isSwan wsX5_isSwan) := goodIn_app (goodIn_of _ (by decide +kernel)) ggX5_frighten_X5_isSwan
set_option maxRecDepth 20000 in
theorem ggX5_frighten_X5_within : GoodIn wsX5_frighten wsX5_within := goodIn_r _ [14] (by decide +kernel) (by decide +kernel)
set_option maxRecDepth 20000 in
theorem gX5_frighten_X5_within : GoodIn wsX5_frighten (va_wsS RX5 54 yX5_within wsX5_within) := goodIn_app (goodIn_of _ (by decide +kernel)) ggX5_frighten_X5_within
set_option maxRecDepth 20000 in
theorem ggX5_frighten_X2_beside : GoodIn wsX5_frighten wsX2_beside := goodIn_r _ [19, 20, 21, 56, 57, 58, 59, 60, 61, 62, 63, 64, 65, 66] (by decide +kernel) (by decide +kernel)
set_option maxRecDepth 20000 in
theorem gX5_frighten_X2_beside : GoodIn wsX5_frighten (wsV RX5 170 RX2 yX2_beside wsX2_beside) := goodIn_app (goodIn_of _ (by decide +kernel)) ggX5_frighten_X2_beside
set_option maxRecDepth 20000 in
theorem ggX5_frighten_X0_keep : GoodIn wsX5_frighten wsX0_keep := goodIn_r _ [26, 27, 28, 29, 30, 31, 32, 33, 34, 35, 36, 18, 37, 20, 38, 39, 21, 40, 41, 42, 43, 44, 45, 46, 67, 68, 69, 56, 57, 58, 59, 60, 61, 62, 63, 64, 65, 66] (by decide +kernel) (by decide +kernel)
set_option maxRecDepth 20000 in
theorem gX5_frighten_X0_keep : GoodIn wsX5_frighten (wsV RX5 137 RX0 yX0_keep wsX0_keep) := goodIn_app (goodIn_of _ (by decide +kernel)) ggX5_frighten_X0_keep
theorem dX5_frighten_0 : decode cX5_frighten 0 = .ok (.aload_n 0, 1) := by decide +kernel
theorem dX5_frighten_1 : decode cX5_frighten 1 = .ok (.iload_n 1, 1) := by decide +kernel
theorem dX5_frighten_2 : decode cX5_frighten 2 = .ok (.invokevirtual 164, 3) := by decide +kernel
theorem dX5_frighten_5 : decode cX5_frighten 5 = .ok (.ifCond .eq 12, 3) := by decide +kernel
theorem dX5_frighten_8 : decode cX5_frighten 8 = .ok (.iload_n 2, 1) := by decide +kernel
theorem dX5_frighten_9 : decode cX5_frighten 9 = .ok (.iconst 0, 1) := by decide +kernel
theorem dX5_frighten_10 : decode cX5_frighten 10 = .ok (.iconst 1, 1) := by decide +kernel
theorem dX5_frighten_11 : decode cX5_frighten 11 = .ok (.invokestatic 54, 3) := by decide +kernel
theorem dX5_frighten_14 : decode cX5_frighten 14 = .ok (.ifCond .ne 6, 3) := by decide +kernel
theorem dX5_frighten_17 : decode cX5_frighten 17 = .ok (.ldc 58, 2) := by decide +kernel
theorem dX5_frighten_19 : decode cX5_frighten 19 = .ok (.ireturn, 1) := by decide +kernel
theorem dX5_frighten_20 : decode cX5_frighten 20 = .ok (.aload_n 0, 1) := by decide +kernel
theorem dX5_frighten_21 : decode cX5_frighten 21 = .ok (.getfield 40, 3) := by decide +kernel
theorem dX5_frighten_24 : decode cX5_frighten 24 = .ok (.aload_n 0, 1) := by decide +kernel
theorem dX5_frighten_25 : decode cX5_frighten 25 = .ok (.getfield 40, 3) := by decide +kernel
theorem dX5_frighten_28 : decode cX5_frighten 28 = .ok (.getfield 167, 3) := by decide +kernel
theorem dX5_frighten_31 : decode cX5_frighten 31 = .ok (.iload_n 1, 1) := by decide +kernel
theorem dX5_frighten_32 : decode cX5_frighten 32 = .ok (.iaload, 1) := by decide +kernel
theorem dX5_frighten_33 : decode cX5_frighten 33 = .ok (.iload_n 2, 1) := by decide +kernel
theorem dX5_frighten_34 : decode cX5_frighten 34 = .ok (.iconst 1, 1) := by decide +kernel
theorem dX5_frighten_35 : decode cX5_frighten 35 = .ok (.if_icmp .ne 7, 3) := by decide +kernel
theorem dX5_frighten_38 : decode cX5_frighten 38 = .ok (.iconst 1, 1) := by decide +kernel
theorem dX5_frighten_39 : decode cX5_frighten 39 = .ok (.goto 4, 3) := by decide +kernel
theorem dX5_frighten_42 : decode cX5_frighten 42 = .ok (.iconst (-1), 1) := by decide +kernel
theorem dX5_frighten_43 : decode cX5_frighten 43 = .ok (.invokevirtual 170, 3) := by decide +kernel
theorem dX5_frighten_46 : decode cX5_frighten 46 = .ok (.istore_n 3, 1) := by decide +kernel
theorem dX5_frighten_47 : decode cX5_frighten 47 = .ok (.iload_n 3, 1) := by decide +kernel
theorem dX5_frighten_48 : decode cX5_frighten 48 = .ok (.aload_n 0, 1) := by decide +kernel
theorem dX5_frighten_49 : decode cX5_frighten 49 = .ok (.getfield 40, 3) := by decide +kernel
theorem dX5_frighten_52 : decode cX5_frighten 52 = .ok (.getfield 167, 3) := by decide +kernel
theorem dX5_frighten_55 : decode cX5_frighten 55 = .ok (.iload_n 1, 1) := by decide +kernel
theorem dX5_frighten_56 : decode cX5_frighten 56 = .ok (.iaload, 1) := by decide +kernel
theorem dX5_frighten_57 : decode cX5_frighten 57 = .ok (.if_icmp .ne 6, 3) := by decide +kernel
theorem dX5_frighten_60 : decode cX5_frighten 60 = .ok (.ldc 129, 2) := by decide +kernel
theorem dX5_frighten_62 : decode cX5_frighten 62 = .ok (.ireturn, 1) := by decide +kernel
theorem dX5_frighten_63 : decode cX5_frighten 63 = .ok (.aload_n 0, 1) := by decide +kernel
theorem dX5_frighten_64 : decode cX5_frighten 64 = .ok (.getfield 26, 3) := by decide +kernel
theorem dX5_frighten_67 : decode cX5_frighten 67 = .ok (.aload_n 0, 1) := by decide +kernel
theorem dX5_frighten_68 : decode cX5_frighten 68 = .ok (.getfield 40, 3) := by decide +kernel
theorem dX5_frighten_71 : decode cX5_frighten 71 = .ok (.invokevirtual 137, 3) := by decide +kernel
theorem dX5_frighten_74 : decode cX5_frighten 74 = .ok (.aload_n 0, 1) := by decide +kernel
theorem dX5_frighten_75 : decode cX5_frighten 75 = .ok (.getfield 40, 3) := by decide +kernel
theorem dX5_frighten_78 : decode cX5_frighten 78 = .ok (.getfield 167, 3) := by decide +kernel
theorem dX5_frighten_81 : decode cX5_frighten 81 = .ok (.iload_n 1, 1) := by decide +kernel
theorem dX5_frighten_82 : decode cX5_frighten 82 = .ok (.iload_n 3, 1) := by decide +kernel
theorem dX5_frighten_83 : decode cX5_frighten 83 = .ok (.iastore, 1) := by decide +kernel
theorem dX5_frighten_84 : decode cX5_frighten 84 = .ok (.iload_n 3, 1) := by decide +kernel
theorem dX5_frighten_85 : decode cX5_frighten 85 = .ok (.ireturn, 1) := by decide +kernel
set_option maxRecDepth 20000 in
theorem ggX5_weight_X5_isSwan : GoodIn wsX5_weight wsX5_isSwan := goodIn_r _ [9, 3, 10, 11, 12, 8, 13, 42, 43, 44, 45, 46, 47, 48, 49, 50, 51, 52, 53, 54, 55, 56, 57, 58, 59, 60, 61] (by decide +kernel) (by decide +kernel)
set_option maxRecDepth 20000 in
theorem gX5_weight_X5_isSwan : GoodIn wsX5_weight (wsV RX5 164 RX5 yX5_isSwan wsX5_isSwan) := goodIn_app (goodIn_of _ (by decide +kernel)) ggX5_weight_X5_isSwan
set_option maxRecDepth 20000 in
theorem ggX5_weight_X5_within : GoodIn wsX5_weight wsX5_within := goodIn_r _ [13] (by decide +kernel) (by decide +kernel)
set_option maxRecDepth 20000 in
theorem gX5_weight_X5_within : GoodIn wsX5_weight (va_wsS RX5 54 yX5_within wsX5_within) := goodIn_app (goodIn_of _ (by decide +kernel)) ggX5_weight_X5_within
set_option maxRecDepth 20000 in
theorem ggX5_weight_X0_keep : GoodIn wsX5_weight wsX0_keep := goodIn_r _ [18, 19, 20, 21, 22, 23, 24, 25, 26, 27, 28, 29, 30, 31, 32, 33, 34, 35, 36, 37, 38, 39, 40, 41, 62, 63, 64, 51, 52, 53, 54, 55, 56, 57, 58, 59, 60, 61] (by decide +kernel) (by decide +kernel)
set_option maxRecDepth 20000 in
theorem gX5_weight_X0_keep : GoodIn wsX5_weight (wsV RX5 137 RX0 yX0_keep wsX0_keep) := goodIn_app (goodIn_of _ (by decide +kernel)) ggX5_weight_X0_keep
theorem dX5_weight_0 : decode cX5_weight 0 = .ok (.aload_n 0, 1) := by decide +kernel
theorem dX5_weight_1 : decode cX5_weight 1 = .ok (.iload_n 1, 1) := by decide +kernel
theorem dX5_weight_2 : decode cX5_weight 2 = .ok (.invokevirtual 164, 3) := by decide +kernel
theorem dX5_weight_5 : decode cX5_weight 5 = .ok (.ifCond .eq 13, 3) := by decide +kernel
theorem dX5_weight_8 : decode cX5_weight 8 = .ok (.iload_n 2, 1) := by decide +kernel
theorem dX5_weight_9 : decode cX5_weight 9 = .ok (.iconst 1, 1) := by decide +kernel
theorem dX5_weight_10 : decode cX5_weight 10 = .ok (.bipush 9, 2) := by decide +kernel
theorem dX5_weight_12 : decode cX5_weight 12 = .ok (.invokestatic 54, 3) := by decide +kernel
theorem dX5_weight_15 : decode cX5_weight 15 = .ok (.ifCond .ne 6, 3) := by decide +kernel
theorem dX5_weight_18 : decode cX5_weight 18 = .ok (.ldc 58, 2) := by decide +kernel
theorem dX5_weight_20 : decode cX5_weight 20 = .ok (.ireturn, 1) := by decide +kernel
theorem dX5_weight_21 : decode cX5_weight 21 = .ok (.aload_n 0, 1) := by decide +kernel
theorem dX5_weight_22 : decode cX5_weight 22 = .ok (.getfield 26, 3) := by decide +kernel
theorem dX5_weight_25 : decode cX5_weight 25 = .ok (.aload_n 0, 1) := by decide +kernel
theorem dX5_weight_26 : decode cX5_weight 26 = .ok (.getfield 40, 3) := by decide +kernel
theorem dX5_weight_29 : decode cX5_weight 29 = .ok (.invokevirtual 137, 3) := by decide +kernel
theorem dX5_weight_32 : decode cX5_weight 32 = .ok (.aload_n 0, 1) := by decide +kernel
theorem dX5_weight_33 : decode cX5_weight 33 = .ok (.getfield 40, 3) := by decide +kernel
theorem dX5_weight_36 : decode cX5_weight 36 = .ok (.getfield 174, 3) := by decide +kernel
theorem dX5_weight_39 : decode cX5_weight 39 = .ok (.iload_n 1, 1) := by decide +kernel
theorem dX5_weight_40 : decode cX5_weight 40 = .ok (.iaload, 1) := by decide +kernel
theorem dX5_weight_41 : decode cX5_weight 41 = .ok (.istore_n 3, 1) := by decide +kernel
theorem dX5_weight_42 : decode cX5_weight 42 = .ok (.aload_n 0, 1) := by decide +kernel
theorem dX5_weight_43 : decode cX5_weight 43 = .ok (.getfield 40, 3) := by decide +kernel
theorem dX5_weight_46 : decode cX5_weight 46 = .ok (.getfield 174, 3) := by decide +kernel
theorem dX5_weight_49 : decode cX5_weight 49 = .ok (.iload_n 1, 1) := by decide +kernel
theorem dX5_weight_50 : decode cX5_weight 50 = .ok (.iload_n 2, 1) := by decide +kernel
theorem dX5_weight_51 : decode cX5_weight 51 = .ok (.iastore, 1) := by decide +kernel
theorem dX5_weight_52 : decode cX5_weight 52 = .ok (.iload_n 3, 1) := by decide +kernel
theorem dX5_weight_53 : decode cX5_weight 53 = .ok (.ireturn, 1) := by decide +kernel
set_option maxRecDepth 20000 in
theorem ggX5_swan_X5_isSwan : GoodIn wsX5_swan wsX5_isSwan := goodIn_r _ [10, 2, 11, 12, 13, 9, 14, 46, 47, 48, 49, 50, 51, 52, 53, 54, 55, 56, 57, 58, 59, 60, 61, 62, 63, 64, 65] (by decide +kernel) (by decide +kernel)
set_option maxRecDepth 20000 in
theorem gX5_swan_X5_isSwan : GoodIn wsX5_swan (wsV RX5 164 RX5 yX5_isSwan wsX5_isSwan) := goodIn_app (goodIn_of _ (by decide +kernel)) ggX5_swan_X5_isSwan
set_option maxRecDepth 20000 in
theorem ggX5_swan_X2_goalOf : GoodIn wsX5_swan wsX2_goalOf := goodIn_r _ [19, 20, 21, 22, 23, 24, 25, 18, 26, 27, 28, 29, 30, 31, 32, 33, 34, 35, 36, 37, 38, 39, 40, 41, 42, 43, 44, 45, 55, 56, 57, 58, 59, 60, 61, 62, 63, 64, 65] (by decide +kernel) (by decide +kernel)
set_option maxRecDepth 20000 in
theorem gX5_swan_X2_goalOf : GoodIn wsX5_swan (wsV RX5 180 RX2 yX2_goalOf wsX2_goalOf) := goodIn_app (goodIn_of _ (by decide +kernel)) ggX5_swan_X2_goalOf
theorem dX5_swan_0 : decode cX5_swan 0 = .ok (.aload_n 0, 1) := by decide +kernel
theorem dX5_swan_1 : decode cX5_swan 1 = .ok (.iload_n 1, 1) := by decide +kernel
theorem dX5_swan_2 : decode cX5_swan 2 = .ok (.invokevirtual 164, 3) := by decide +kernel
theorem dX5_swan_5 : decode cX5_swan 5 = .ok (.ifCond .ne 6, 3) := by decide +kernel
theorem dX5_swan_8 : decode cX5_swan 8 = .ok (.ldc 58, 2) := by decide +kernel
theorem dX5_swan_10 : decode cX5_swan 10 = .ok (.ireturn, 1) := by decide +kernel
theorem dX5_swan_11 : decode cX5_swan 11 = .ok (.iload_n 2, 1) := by decide +kernel
theorem dX5_swan_12 : decode cX5_swan 12 = .ok (.tableswitch 71 0 3 #[32, 42, 52, 62], 32) := by decide +kernel
theorem dX5_swan_44 : decode cX5_swan 44 = .ok (.aload_n 0, 1) := by decide +kernel
theorem dX5_swan_45 : decode cX5_swan 45 = .ok (.getfield 40, 3) := by decide +kernel
theorem dX5_swan_48 : decode cX5_swan 48 = .ok (.getfield 167, 3) := by decide +kernel
theorem dX5_swan_51 : decode cX5_swan 51 = .ok (.iload_n 1, 1) := by decide +kernel
theorem dX5_swan_52 : decode cX5_swan 52 = .ok (.iaload, 1) := by decide +kernel
theorem dX5_swan_53 : decode cX5_swan 53 = .ok (.ireturn, 1) := by decide +kernel
theorem dX5_swan_54 : decode cX5_swan 54 = .ok (.aload_n 0, 1) := by decide +kernel
theorem dX5_swan_55 : decode cX5_swan 55 = .ok (.getfield 40, 3) := by decide +kernel
theorem dX5_swan_58 : decode cX5_swan 58 = .ok (.getfield 177, 3) := by decide +kernel
theorem dX5_swan_61 : decode cX5_swan 61 = .ok (.iload_n 1, 1) := by decide +kernel
theorem dX5_swan_62 : decode cX5_swan 62 = .ok (.iaload, 1) := by decide +kernel
theorem dX5_swan_63 : decode cX5_swan 63 = .ok (.ireturn, 1) := by decide +kernel
theorem dX5_swan_64 : decode cX5_swan 64 = .ok (.aload_n 0, 1) := by decide +kernel
theorem dX5_swan_65 : decode cX5_swan 65 = .ok (.getfield 40, 3) := by decide +kernel
theorem dX5_swan_68 : decode cX5_swan 68 = .ok (.getfield 174, 3) := by decide +kernel
theorem dX5_swan_71 : decode cX5_swan 71 = .ok (.iload_n 1, 1) := by decide +kernel
theorem dX5_swan_72 : decode cX5_swan 72 = .ok (.iaload, 1) := by decide +kernel
theorem dX5_swan_73 : decode cX5_swan 73 = .ok (.ireturn, 1) := by decide +kernel
theorem dX5_swan_74 : decode cX5_swan 74 = .ok (.aload_n 0, 1) := by decide +kernel
theorem dX5_swan_75 : decode cX5_swan 75 = .ok (.getfield 40, 3) := by decide +kernel
theorem dX5_swan_78 : decode cX5_swan 78 = .ok (.iload_n 1, 1) := by decide +kernel
theorem dX5_swan_79 : decode cX5_swan 79 = .ok (.invokevirtual 180, 3) := by decide +kernel
theorem dX5_swan_82 : decode cX5_swan 82 = .ok (.ireturn, 1) := by decide +kernel
theorem dX5_swan_83 : decode cX5_swan 83 = .ok (.ldc 58, 2) := by decide +kernel
theorem dX5_swan_85 : decode cX5_swan 85 = .ok (.ireturn, 1) := by decide +kernel
set_option maxRecDepth 20000 in
theorem ggX5_lawn_X5_isLawn : GoodIn wsX5_lawn wsX5_isLawn := goodIn_r _ [8, 2, 9, 10, 11, 7, 12, 30, 31, 32, 33, 34, 35, 36, 37, 38, 39, 40, 41, 42, 43, 44, 45, 46, 47, 48, 49] (by decide +kernel) (by decide +kernel)
set_option maxRecDepth 20000 in
theorem gX5_lawn_X5_isLawn : GoodIn wsX5_lawn (wsV RX5 147 RX5 yX5_isLawn wsX5_isLawn) := goodIn_app (goodIn_of _ (by decide +kernel)) ggX5_lawn_X5_isLawn
set_option maxRecDepth 20000 in
theorem ggX5_lawn_X2_weirBehind : GoodIn wsX5_lawn wsX2_weirBehind := goodIn_r _ [17, 18, 39, 40, 41, 42, 43, 44, 45, 46, 47, 48, 49] (by decide +kernel) (by decide +kernel)
set_option maxRecDepth 20000 in
theorem gX5_lawn_X2_weirBehind : GoodIn wsX5_lawn (wsV RX5 158 RX2 yX2_weirBehind wsX2_weirBehind) := goodIn_app (goodIn_of _ (by decide +kernel)) ggX5_lawn_X2_weirBehind
set_option maxRecDepth 20000 in
theorem ggX5_lawn_X2_swansOn : GoodIn wsX5_lawn wsX2_swansOn := goodIn_r _ [22, 23, 24, 39, 40, 41, 42, 43, 44, 45, 46, 47, 48, 49] (by decide +kernel) (by decide +kernel)
set_option maxRecDepth 20000 in
theorem gX5_lawn_X2_swansOn : GoodIn wsX5_lawn (wsV RX5 183 RX2 yX2_swansOn wsX2_swansOn) := goodIn_app (goodIn_of _ (by decide +kernel)) ggX5_lawn_X2_swansOn
set_option maxRecDepth 20000 in
theorem ggX5_lawn_X2_plotsOwnedAt : GoodIn wsX5_lawn wsX2_plotsOwnedAt := goodIn_r _ [28, 23, 24, 29, 39, 40, 41, 42, 43, 44, 45, 46, 47, 48, 49] (by decide +kernel) (by decide +kernel)
set_option maxRecDepth 20000 in
theorem gX5_lawn_X2_plotsOwnedAt : GoodIn wsX5_lawn (wsV RX5 186 RX2 yX2_plotsOwnedAt wsX2_plotsOwnedAt) := goodIn_app (goodIn_of _ (by decide +kernel)) ggX5_lawn_X2_plotsOwnedAt
theorem dX5_lawn_0 : decode cX5_lawn 0 = .ok (.aload_n 0, 1) := by decide +kernel
theorem dX5_lawn_1 : decode cX5_lawn 1 = .ok (.iload_n 1, 1) := by decide +kernel
theorem dX5_lawn_2 : decode cX5_lawn 2 = .ok (.invokevirtual 147, 3) := by decide +kernel
theorem dX5_lawn_5 : decode cX5_lawn 5 = .ok (.ifCond .ne 6, 3) := by decide +kernel
theorem dX5_lawn_8 : decode cX5_lawn 8 = .ok (.ldc 58, 2) := by decide +kernel
theorem dX5_lawn_10 : decode cX5_lawn 10 = .ok (.ireturn, 1) := by decide +kernel
theorem dX5_lawn_11 : decode cX5_lawn 11 = .ok (.iload_n 2, 1) := by decide +kernel
theorem dX5_lawn_12 : decode cX5_lawn 12 = .ok (.tableswitch 69 0 3 #[32, 42, 51, 60], 32) := by decide +kernel
theorem dX5_lawn_44 : decode cX5_lawn 44 = .ok (.aload_n 0, 1) := by decide +kernel
theorem dX5_lawn_45 : decode cX5_lawn 45 = .ok (.getfield 40, 3) := by decide +kernel
theorem dX5_lawn_48 : decode cX5_lawn 48 = .ok (.getfield 154, 3) := by decide +kernel
theorem dX5_lawn_51 : decode cX5_lawn 51 = .ok (.iload_n 1, 1) := by decide +kernel
theorem dX5_lawn_52 : decode cX5_lawn 52 = .ok (.iaload, 1) := by decide +kernel
theorem dX5_lawn_53 : decode cX5_lawn 53 = .ok (.ireturn, 1) := by decide +kernel
theorem dX5_lawn_54 : decode cX5_lawn 54 = .ok (.aload_n 0, 1) := by decide +kernel
theorem dX5_lawn_55 : decode cX5_lawn 55 = .ok (.getfield 40, 3) := by decide +kernel
theorem dX5_lawn_58 : decode cX5_lawn 58 = .ok (.iload_n 1, 1) := by decide +kernel
theorem dX5_lawn_59 : decode cX5_lawn 59 = .ok (.invokevirtual 158, 3) := by decide +kernel
theorem dX5_lawn_62 : decode cX5_lawn 62 = .ok (.ireturn, 1) := by decide +kernel
theorem dX5_lawn_63 : decode cX5_lawn 63 = .ok (.aload_n 0, 1) := by decide +kernel
theorem dX5_lawn_64 : decode cX5_lawn 64 = .ok (.getfield 40, 3) := by decide +kernel
theorem dX5_lawn_67 : decode cX5_lawn 67 = .ok (.iload_n 1, 1) := by decide +kernel
theorem dX5_lawn_68 : decode cX5_lawn 68 = .ok (.invokevirtual 183, 3) := by decide +kernel
theorem dX5_lawn_71 : decode cX5_lawn 71 = .ok (.ireturn, 1) := by decide +kernel
theorem dX5_lawn_72 : decode cX5_lawn 72 = .ok (.aload_n 0, 1) := by decide +kernel
theorem dX5_lawn_73 : decode cX5_lawn 73 = .ok (.getfield 40, 3) := by decide +kernel
theorem dX5_lawn_76 : decode cX5_lawn 76 = .ok (.iload_n 1, 1) := by decide +kernel
theorem dX5_lawn_77 : decode cX5_lawn 77 = .ok (.invokevirtual 186, 3) := by decide +kernel
theorem dX5_lawn_80 : decode cX5_lawn 80 = .ok (.ireturn, 1) := by decide +kernel
theorem dX5_lawn_81 : decode cX5_lawn 81 = .ok (.ldc 58, 2) := by decide +kernel
theorem dX5_lawn_83 : decode cX5_lawn 83 = .ok (.ireturn, 1) := by decide +kernel
set_option maxRecDepth 20000 in
theorem ggX5_ahead_X5_isSwan : GoodIn wsX5_ahead wsX5_isSwan := goodIn_r _ [8, 9, 10, 11, 12, 7, 13, 74, 75, 76, 77, 78, 79, 80, 81, 82, 83, 84, 85, 86, 87, 88, 89, 90, 91, 92, 93] (by decide +kernel) (by decide +kernel)
set_option maxRecDepth 20000 in
theorem gX5_ahead_X5_isSwan : GoodIn wsX5_ahead (wsV RX5 164 RX5 yX5_isSwan wsX5_isSwan) := goodIn_app (goodIn_of _ (by decide +kernel)) ggX5_ahead_X5_isSwan
set_option maxRecDepth 20000 in
theorem ggX5_ahead_X5_within : GoodIn wsX5_ahead wsX5_within := goodIn_r _ [13] (by decide +kernel) (by decide +kernel)
set_option maxRecDepth 20000 in
theorem gX5_ahead_X5_within : GoodIn wsX5_ahead (va_wsS RX5 54 yX5_within wsX5_within) := goodIn_app (goodIn_of _ (by decide +kernel)) ggX5_ahead_X5_within
set_option maxRecDepth 20000 in
theorem ggX5_ahead_X5_foretell : GoodIn wsX5_ahead wsX5_foretell := goodIn_r _ [17, 2, 9, 18, 19, 20, 21, 22, 23, 24, 25, 26, 27, 28, 29, 30, 31, 32, 33, 34, 35, 36, 37, 38, 39, 40, 41, 42, 43, 44, 45, 46, 47, 48, 49, 50, 51, 52, 53, 54, 55, 56, 57, 58, 59, 60, 61, 62, 63, 64, 65, 66, 67, 68, 69, 70, 71, 72, 73, 74, 75, 76, 77, 78, 79, 80, 81, 82, 83, 84, 85, 86, 87, 88, 89, 90, 91, 92, 93] (by decide +kernel) (by decide +kernel)
set_option maxRecDepth 20000 in
theorem gX5_ahead_X5_foretell : GoodIn wsX5_ahead (wsV RX5 189 RX5 yX5_foretell wsX5_foretell) := goodIn_app (goodIn_of _ (by decide +kernel)) ggX5_ahead_X5_foretell
theorem dX5_ahead_0 : decode cX5_ahead 0 = .ok (.aload_n 0, 1) := by decide +kernel
theorem dX5_ahead_1 : decode cX5_ahead 1 = .ok (.iload_n 1, 1) := by decide +kernel
theorem dX5_ahead_2 : decode cX5_ahead 2 = .ok (.invokevirtual 164, 3) := by decide +kernel
theorem dX5_ahead_5 : decode cX5_ahead 5 = .ok (.ifCond .eq 13, 3) := by decide +kernel
theorem dX5_ahead_8 : decode cX5_ahead 8 = .ok (.iload_n 2, 1) := by decide +kernel
theorem dX5_ahead_9 : decode cX5_ahead 9 = .ok (.iconst 0, 1) := by decide +kernel
theorem dX5_ahead_10 : decode cX5_ahead 10 = .ok (.bipush 60, 2) := by decide +kernel
theorem dX5_ahead_12 : decode cX5_ahead 12 = .ok (.invokestatic 54, 3) := by decide +kernel
theorem dX5_ahead_15 : decode cX5_ahead 15 = .ok (.ifCond .ne 6, 3) := by decide +kernel
theorem dX5_ahead_18 : decode cX5_ahead 18 = .ok (.ldc 58, 2) := by decide +kernel
theorem dX5_ahead_20 : decode cX5_ahead 20 = .ok (.ireturn, 1) := by decide +kernel
theorem dX5_ahead_21 : decode cX5_ahead 21 = .ok (.aload_n 0, 1) := by decide +kernel
theorem dX5_ahead_22 : decode cX5_ahead 22 = .ok (.iload_n 2, 1) := by decide +kernel
theorem dX5_ahead_23 : decode cX5_ahead 23 = .ok (.invokevirtual 189, 3) := by decide +kernel
theorem dX5_ahead_26 : decode cX5_ahead 26 = .ok (.aload_n 0, 1) := by decide +kernel
theorem dX5_ahead_27 : decode cX5_ahead 27 = .ok (.getfield 44, 3) := by decide +kernel
theorem dX5_ahead_30 : decode cX5_ahead 30 = .ok (.getfield 167, 3) := by decide +kernel
theorem dX5_ahead_33 : decode cX5_ahead 33 = .ok (.iload_n 1, 1) := by decide +kernel
theorem dX5_ahead_34 : decode cX5_ahead 34 = .ok (.iaload, 1) := by decide +kernel
theorem dX5_ahead_35 : decode cX5_ahead 35 = .ok (.ireturn, 1) := by decide +kernel
set_option maxRecDepth 20000 in
theorem ggX5_owns_X5_isLawn : GoodIn wsX5_owns wsX5_isLawn := goodIn_r _ [7, 8, 9, 10, 11, 6, 12, 77, 78, 79, 80, 81, 82, 83, 84, 85, 86, 87, 88, 89, 90, 91, 92, 93, 94, 95, 96] (by decide +kernel) (by decide +kernel)
set_option maxRecDepth 20000 in
theorem gX5_owns_X5_isLawn : GoodIn wsX5_owns (wsV RX5 147 RX5 yX5_isLawn wsX5_isLawn) := goodIn_app (goodIn_of _ (by decide +kernel)) ggX5_owns_X5_isLawn
set_option maxRecDepth 20000 in
theorem ggX5_owns_X5_within : GoodIn wsX5_owns wsX5_within := goodIn_r _ [12] (by decide +kernel) (by decide +kernel)
set_option maxRecDepth 20000 in
theorem gX5_owns_X5_within : GoodIn wsX5_owns (va_wsS RX5 54 yX5_within wsX5_within) := goodIn_app (goodIn_of _ (by decide +kernel)) ggX5_owns_X5_within
set_option maxRecDepth 20000 in
theorem ggX5_owns_X5_foretell : GoodIn wsX5_owns wsX5_foretell := goodIn_r _ [16, 2, 8, 17, 18, 19, 20, 21, 22, 23, 24, 25, 26, 27, 28, 29, 30, 31, 32, 33, 34, 35, 36, 37, 38, 39, 40, 41, 42, 43, 44, 45, 46, 47, 48, 49, 50, 51, 52, 53, 54, 55, 56, 57, 58, 59, 60, 61, 62, 63, 64, 65, 66, 67, 68, 69, 70, 71, 72, 77, 78, 79, 80, 81, 82, 83, 84, 85, 86, 87, 88, 89, 90, 91, 92, 93, 94, 95, 96] (by decide +kernel) (by decide +kernel)
set_option maxRecDepth 20000 in
theorem gX5_owns_X5_foretell : GoodIn wsX5_owns (wsV RX5 189 RX5 yX5_foretell wsX5_foretell) := goodIn_app (goodIn_of _ (by decide +kernel)) ggX5_owns_X5_foretell
set_option maxRecDepth 20000 in
theorem ggX5_owns_X2_plotsOwnedAt : GoodIn wsX5_owns wsX2_plotsOwnedAt := goodIn_r _ [76, 23, 29, 28, 86, 87, 88, 89, 90, 91, 92, 93, 94, 95, 96] (by decide +kernel) (by decide +kernel)
set_option maxRecDepth 20000 in
theorem gX5_owns_X2_plotsOwnedAt : GoodIn wsX5_owns (wsV RX5 186 RX2 yX2_plotsOwnedAt wsX2_plotsOwnedAt) := goodIn_app (goodIn_of _ (by decide +kernel)) ggX5_owns_X2_plotsOwnedAt
theorem dX5_owns_0 : decode cX5_owns 0 = .ok (.aload_n 0, 1) := by decide +kernel
theorem dX5_owns_1 : decode cX5_owns 1 = .ok (.iload_n 1, 1) := by decide +kernel
theorem dX5_owns_2 : decode cX5_owns 2 = .ok (.invokevirtual 147, 3) := by decide +kernel
theorem dX5_owns_5 : decode cX5_owns 5 = .ok (.ifCond .eq 13, 3) := by decide +kernel
theorem dX5_owns_8 : decode cX5_owns 8 = .ok (.iload_n 2, 1) := by decide +kernel
theorem dX5_owns_9 : decode cX5_owns 9 = .ok (.iconst 0, 1) := by decide +kernel
theorem dX5_owns_10 : decode cX5_owns 10 = .ok (.bipush 60, 2) := by decide +kernel
theorem dX5_owns_12 : decode cX5_owns 12 = .ok (.invokestatic 54, 3) := by decide +kernel
theorem dX5_owns_15 : decode cX5_owns 15 = .ok (.ifCond .ne 6, 3) := by decide +kernel
theorem dX5_owns_18 : decode cX5_owns 18 = .ok (.ldc 58, 2) := by decide +kernel
theorem dX5_owns_20 : decode cX5_owns 20 = .ok (.ireturn, 1) := by decide +kernel
theorem dX5_owns_21 : decode cX5_owns 21 = .ok (.aload_n 0, 1) := by decide +kernel
theorem dX5_owns_22 : decode cX5_owns 22 = .ok (.iload_n 2, 1) := by decide +kernel
theorem dX5_owns_23 : decode cX5_owns 23 = .ok (.invokevirtual 189, 3) := by decide +kernel
theorem dX5_owns_26 : decode cX5_owns 26 = .ok (.aload_n 0, 1) := by decide +kernel
theorem dX5_owns_27 : decode cX5_owns 27 = .ok (.getfield 44, 3) := by decide +kernel
theorem dX5_owns_30 : decode cX5_owns 30 = .ok (.iload_n 1, 1) := by decide +kernel
theorem dX5_owns_31 : decode cX5_owns 31 = .ok (.invokevirtual 186, 3) := by decide +kernel
theorem dX5_owns_34 : decode cX5_owns 34 = .ok (.ireturn, 1) := by decide +kernel
set_option maxRecDepth 20000 in
theorem ggX5_nobody_X5_hasRiver : GoodIn wsX5_nobody wsX5_hasRiver := goodIn_r _ [8, 9, 10, 78, 79, 80, 81, 82, 83, 84, 85, 86, 87, 88, 89, 90, 91, 92, 93, 94, 95, 96, 97] (by decide +kernel) (by decide +kernel)
set_option maxRecDepth 20000 in
theorem gX5_nobody_X5_hasRiver : GoodIn wsX5_nobody (wsV RX5 130 RX5 yX5_hasRiver wsX5_hasRiver) := goodIn_app (goodIn_of _ (by decide +kernel)) ggX5_nobody_X5_hasRiver
set_option maxRecDepth 20000 in
theorem ggX5_nobody_X5_within : GoodIn wsX5_nobody wsX5_within := goodIn_r _ [13] (by decide +kernel) (by decide +kernel)
set_option maxRecDepth 20000 in
theorem gX5_nobody_X5_within : GoodIn wsX5_nobody (va_wsS RX5 54 yX5_within wsX5_within) := goodIn_app (goodIn_of _ (by decide +kernel)) ggX5_nobody_X5_within
set_option maxRecDepth 20000 in
theorem ggX5_nobody_X5_foretell : GoodIn wsX5_nobody wsX5_foretell := goodIn_r _ [17, 3, 9, 18, 19, 20, 21, 22, 23, 24, 25, 26, 27, 28, 29, 30, 31, 32, 33, 34, 35, 36, 37, 38, 39, 40, 41, 42, 43, 44, 45, 46, 47, 48, 49, 50, 51, 52, 53, 54, 55, 56, 57, 58, 59, 60, 61, 62, 63, 64, 65, 66, 67, 68, 69, 70, 71, 72, 73, 78, 79, 80, 81, 82, 83, 84, 85, 86, 87, 88, 89, 90, 91, 92, 93, 94, 95, 96, 97] (by decide +kernel) (by decide +kernel)
set_option maxRecDepth 20000 in
theorem gX5_nobody_X5_foretell : GoodIn wsX5_nobody (wsV RX5 189 RX5 yX5_foretell wsX5_foretell) := goodIn_app (goodIn_of _ (by decide +kernel)) ggX5_nobody_X5_foretell
set_option maxRecDepth 20000 in
theorem ggX5_nobody_X2_emptyLawns : GoodIn wsX5_nobody wsX2_emptyLawns := goodIn_r _ [77, 23, 24, 30, 87, 88, 89, 90, 91, 92, 93, 94, 95, 96, 97] (by decide +kernel) (by decide +kernel)
set_option maxRecDepth 20000 in
theorem gX5_nobody_X2_emptyLawns : GoodIn wsX5_nobody (wsV RX5 193 RX2 yX2_emptyLawns wsX2_emptyLawns) := goodIn_app (goodIn_of _ (by decide +kernel)) ggX5_nobody_X2_emptyLawns
theorem dX5_nobody_0 : decode cX5_nobody 0 = .ok (.aload_n 0, 1) := by decide +kernel
theorem dX5_nobody_1 : decode cX5_nobody 1 = .ok (.invokevirtual 130, 3) := by decide +kernel
theorem dX5_nobody_4 : decode cX5_nobody 4 = .ok (.ifCond .ne 6, 3) := by decide +kernel
theorem dX5_nobody_7 : decode cX5_nobody 7 = .ok (.ldc 129, 2) := by decide +kernel
theorem dX5_nobody_9 : decode cX5_nobody 9 = .ok (.ireturn, 1) := by decide +kernel
theorem dX5_nobody_10 : decode cX5_nobody 10 = .ok (.iload_n 1, 1) := by decide +kernel
theorem dX5_nobody_11 : decode cX5_nobody 11 = .ok (.iconst 0, 1) := by decide +kernel
theorem dX5_nobody_12 : decode cX5_nobody 12 = .ok (.bipush 60, 2) := by decide +kernel
theorem dX5_nobody_14 : decode cX5_nobody 14 = .ok (.invokestatic 54, 3) := by decide +kernel
theorem dX5_nobody_17 : decode cX5_nobody 17 = .ok (.ifCond .ne 6, 3) := by decide +kernel
theorem dX5_nobody_20 : decode cX5_nobody 20 = .ok (.ldc 58, 2) := by decide +kernel
theorem dX5_nobody_22 : decode cX5_nobody 22 = .ok (.ireturn, 1) := by decide +kernel
theorem dX5_nobody_23 : decode cX5_nobody 23 = .ok (.aload_n 0, 1) := by decide +kernel
theorem dX5_nobody_24 : decode cX5_nobody 24 = .ok (.iload_n 1, 1) := by decide +kernel
theorem dX5_nobody_25 : decode cX5_nobody 25 = .ok (.invokevirtual 189, 3) := by decide +kernel
theorem dX5_nobody_28 : decode cX5_nobody 28 = .ok (.aload_n 0, 1) := by decide +kernel
theorem dX5_nobody_29 : decode cX5_nobody 29 = .ok (.getfield 44, 3) := by decide +kernel
theorem dX5_nobody_32 : decode cX5_nobody 32 = .ok (.invokevirtual 193, 3) := by decide +kernel
theorem dX5_nobody_35 : decode cX5_nobody 35 = .ok (.ireturn, 1) := by decide +kernel
set_option maxRecDepth 20000 in
theorem ggX5_moves_X5_isSwan : GoodIn wsX5_moves wsX5_isSwan := goodIn_r _ [9, 3, 10, 11, 12, 8, 13, 70, 71, 72, 73, 74, 75, 76, 77, 78, 79, 80, 81, 82, 83, 84, 85, 86, 87, 88, 89] (by decide +kernel) (by decide +kernel)
set_option maxRecDepth 20000 in
theorem gX5_moves_X5_isSwan : GoodIn wsX5_moves (wsV RX5 164 RX5 yX5_isSwan wsX5_isSwan) := goodIn_app (goodIn_of _ (by decide +kernel)) ggX5_moves_X5_isSwan
set_option maxRecDepth 20000 in
theorem ggX5_moves_X2_become : GoodIn wsX5_moves wsX2_become := goodIn_r _ [18, 19, 20, 21, 22, 23, 24, 25, 26, 27, 28, 29, 79, 80, 81, 82, 83, 84, 85, 86, 87, 88, 89] (by decide +kernel) (by decide +kernel)
set_option maxRecDepth 20000 in
theorem gX5_moves_X2_become : GoodIn wsX5_moves (wsV RX5 110 RX2 yX2_become wsX2_become) := goodIn_app (goodIn_of _ (by decide +kernel)) ggX5_moves_X2_become
set_option maxRecDepth 20000 in
theorem ggX5_moves_X2_daysHeld : GoodIn wsX5_moves wsX2_daysHeld := goodIn_r _ [33, 26, 34, 35, 36, 17, 37, 20, 23, 29, 21, 38, 39, 40, 41, 24, 42, 43, 44, 45, 19, 22, 46, 47, 48, 49, 50, 51, 52, 53, 54, 55, 56, 57, 58, 59, 60, 61, 62, 63, 64, 65, 28, 66, 67, 68, 69, 27, 79, 80, 81, 82, 83, 84, 85, 86, 87, 88, 89] (by decide +kernel) (by decide +kernel)
set_option maxRecDepth 20000 in
theorem gX5_moves_X2_daysHeld : GoodIn wsX5_moves (wsV RX5 196 RX2 yX2_daysHeld wsX2_daysHeld) := goodIn_app (goodIn_of _ (by decide +kernel)) ggX5_moves_X2_daysHeld
theorem dX5_moves_0 : decode cX5_moves 0 = .ok (.aload_n 0, 1) := by decide +kernel
theorem dX5_moves_1 : decode cX5_moves 1 = .ok (.iload_n 1, 1) := by decide +kernel
theorem dX5_moves_2 : decode cX5_moves 2 = .ok (.invokevirtual 164, 3) := by decide +kernel
theorem dX5_moves_5 : decode cX5_moves 5 = .ok (.ifCond .ne 6, 3) := by decide +kernel
theorem dX5_moves_8 : decode cX5_moves 8 = .ok (.ldc 58, 2) := by decide +kernel
theorem dX5_moves_10 : decode cX5_moves 10 = .ok (.ireturn, 1) := by decide +kernel
theorem dX5_moves_11 : decode cX5_moves 11 = .ok (.aload_n 0, 1) := by decide +kernel
theorem dX5_moves_12 : decode cX5_moves 12 = .ok (.getfield 44, 3) := by decide +kernel
theorem dX5_moves_15 : decode cX5_moves 15 = .ok (.aload_n 0, 1) := by decide +kernel
theorem dX5_moves_16 : decode cX5_moves 16 = .ok (.getfield 40, 3) := by decide +kernel
theorem dX5_moves_19 : decode cX5_moves 19 = .ok (.invokevirtual 110, 3) := by decide +kernel
theorem dX5_moves_22 : decode cX5_moves 22 = .ok (.aload_n 0, 1) := by decide +kernel
theorem dX5_moves_23 : decode cX5_moves 23 = .ok (.getfield 44, 3) := by decide +kernel
theorem dX5_moves_26 : decode cX5_moves 26 = .ok (.iload_n 1, 1) := by decide +kernel
theorem dX5_moves_27 : decode cX5_moves 27 = .ok (.invokevirtual 196, 3) := by decide +kernel
theorem dX5_moves_30 : decode cX5_moves 30 = .ok (.istore_n 2, 1) := by decide +kernel
theorem dX5_moves_31 : decode cX5_moves 31 = .ok (.iload_n 2, 1) := by decide +kernel
theorem dX5_moves_32 : decode cX5_moves 32 = .ok (.bipush 60, 2) := by decide +kernel
theorem dX5_moves_34 : decode cX5_moves 34 = .ok (.if_icmp .ge 9, 3) := by decide +kernel
theorem dX5_moves_37 : decode cX5_moves 37 = .ok (.iload_n 2, 1) := by decide +kernel
theorem dX5_moves_38 : decode cX5_moves 38 = .ok (.iconst 1, 1) := by decide +kernel
theorem dX5_moves_39 : decode cX5_moves 39 = .ok (.iadd, 1) := by decide +kernel
theorem dX5_moves_40 : decode cX5_moves 40 = .ok (.goto 5, 3) := by decide +kernel
theorem dX5_moves_43 : decode cX5_moves 43 = .ok (.ldc 199, 2) := by decide +kernel
theorem dX5_moves_45 : decode cX5_moves 45 = .ok (.ireturn, 1) := by decide +kernel
set_option maxRecDepth 20000 in
theorem ggX5_evening_X5_hasRiver : GoodIn wsX5_evening wsX5_hasRiver := goodIn_r _ [9, 3, 10, 77, 78, 79, 80, 81, 82, 83, 84, 85, 86, 87, 88, 89, 90, 91, 92, 93, 94, 95, 96] (by decide +kernel) (by decide +kernel)
set_option maxRecDepth 20000 in
theorem gX5_evening_X5_hasRiver : GoodIn wsX5_evening (wsV RX5 130 RX5 yX5_hasRiver wsX5_hasRiver) := goodIn_app (goodIn_of _ (by decide +kernel)) ggX5_evening_X5_hasRiver
set_option maxRecDepth 20000 in
theorem ggX5_evening_X2_become : GoodIn wsX5_evening wsX2_become := goodIn_r _ [15, 16, 17, 18, 19, 20, 21, 22, 23, 24, 25, 26, 86, 87, 88, 89, 90, 91, 92, 93, 94, 95, 96] (by decide +kernel) (by decide +kernel)
set_option maxRecDepth 20000 in
theorem gX5_evening_X2_become : GoodIn wsX5_evening (wsV RX5 110 RX2 yX2_become wsX2_become) := goodIn_app (goodIn_of _ (by decide +kernel)) ggX5_evening_X2_become
set_option maxRecDepth 20000 in
theorem ggX5_evening_X2_ownerCount : GoodIn wsX5_evening wsX2_ownerCount := goodIn_r _ [30, 16, 31, 32, 33, 14, 34, 17, 23, 35, 36, 37, 38, 39, 40, 41, 86, 87, 88, 89, 90, 91, 92, 93, 94, 95, 96] (by decide +kernel) (by decide +kernel)
set_option maxRecDepth 20000 in
theorem gX5_evening_X2_ownerCount : GoodIn wsX5_evening (wsV RX5 143 RX2 yX2_ownerCount wsX2_ownerCount) := goodIn_app (goodIn_of _ (by decide +kernel)) ggX5_evening_X2_ownerCount
set_option maxRecDepth 20000 in
theorem ggX5_evening_X2_passDay : GoodIn wsX5_evening wsX2_passDay := goodIn_r _ [45, 17, 23, 20, 26, 18, 46, 47, 48, 14, 49, 21, 50, 51, 52, 53, 16, 19, 54, 55, 56, 57, 58, 59, 60, 61, 62, 63, 37, 64, 65, 66, 67, 68, 69, 70, 71, 72, 25, 73, 74, 75, 76, 24, 86, 87, 88, 89, 90, 91, 92, 93, 94, 95, 96] (by decide +kernel) (by decide +kernel)
set_option maxRecDepth 20000 in
theorem gX5_evening_X2_passDay : GoodIn wsX5_evening (wsV RX5 140 RX2 yX2_passDay wsX2_passDay) := goodIn_app (goodIn_of _ (by decide +kernel)) ggX5_evening_X2_passDay
theorem dX5_evening_0 : decode cX5_evening 0 = .ok (.aload_n 0, 1) := by decide +kernel
theorem dX5_evening_1 : decode cX5_evening 1 = .ok (.invokevirtual 130, 3) := by decide +kernel
theorem dX5_evening_4 : decode cX5_evening 4 = .ok (.ifCond .ne 6, 3) := by decide +kernel
theorem dX5_evening_7 : decode cX5_evening 7 = .ok (.ldc 129, 2) := by decide +kernel
theorem dX5_evening_9 : decode cX5_evening 9 = .ok (.ireturn, 1) := by decide +kernel
theorem dX5_evening_10 : decode cX5_evening 10 = .ok (.aload_n 0, 1) := by decide +kernel
theorem dX5_evening_11 : decode cX5_evening 11 = .ok (.getfield 44, 3) := by decide +kernel
theorem dX5_evening_14 : decode cX5_evening 14 = .ok (.aload_n 0, 1) := by decide +kernel
theorem dX5_evening_15 : decode cX5_evening 15 = .ok (.getfield 40, 3) := by decide +kernel
theorem dX5_evening_18 : decode cX5_evening 18 = .ok (.invokevirtual 110, 3) := by decide +kernel
theorem dX5_evening_21 : decode cX5_evening 21 = .ok (.iconst 0, 1) := by decide +kernel
theorem dX5_evening_22 : decode cX5_evening 22 = .ok (.istore_n 1, 1) := by decide +kernel
theorem dX5_evening_23 : decode cX5_evening 23 = .ok (.iload_n 1, 1) := by decide +kernel
theorem dX5_evening_24 : decode cX5_evening 24 = .ok (.bipush 60, 2) := by decide +kernel
theorem dX5_evening_26 : decode cX5_evening 26 = .ok (.if_icmp .gt 29, 3) := by decide +kernel
theorem dX5_evening_29 : decode cX5_evening 29 = .ok (.aload_n 0, 1) := by decide +kernel
theorem dX5_evening_30 : decode cX5_evening 30 = .ok (.getfield 44, 3) := by decide +kernel
theorem dX5_evening_33 : decode cX5_evening 33 = .ok (.invokevirtual 143, 3) := by decide +kernel
theorem dX5_evening_36 : decode cX5_evening 36 = .ok (.iconst 1, 1) := by decide +kernel
theorem dX5_evening_37 : decode cX5_evening 37 = .ok (.if_icmp .ne 5, 3) := by decide +kernel
theorem dX5_evening_40 : decode cX5_evening 40 = .ok (.iload_n 1, 1) := by decide +kernel
theorem dX5_evening_41 : decode cX5_evening 41 = .ok (.ireturn, 1) := by decide +kernel
theorem dX5_evening_42 : decode cX5_evening 42 = .ok (.aload_n 0, 1) := by decide +kernel
theorem dX5_evening_43 : decode cX5_evening 43 = .ok (.getfield 44, 3) := by decide +kernel
theorem dX5_evening_46 : decode cX5_evening 46 = .ok (.invokevirtual 140, 3) := by decide +kernel
theorem dX5_evening_49 : decode cX5_evening 49 = .ok (.iinc 1 1, 3) := by decide +kernel
theorem dX5_evening_52 : decode cX5_evening 52 = .ok (.goto (-29), 3) := by decide +kernel
theorem dX5_evening_55 : decode cX5_evening 55 = .ok (.ldc 199, 2) := by decide +kernel
theorem dX5_evening_57 : decode cX5_evening 57 = .ok (.ireturn, 1) := by decide +kernel
set_option maxRecDepth 20000 in
theorem ggX5_stays_X5_isSwan : GoodIn wsX5_stays wsX5_isSwan := goodIn_r _ [9, 3, 10, 11, 12, 8, 13, 71, 72, 73, 74, 75, 76, 77, 78, 79, 80, 81, 82, 83, 84, 85, 86, 87, 88, 89, 90] (by decide +kernel) (by decide +kernel)
set_option maxRecDepth 20000 in
theorem gX5_stays_X5_isSwan : GoodIn wsX5_stays (wsV RX5 164 RX5 yX5_isSwan wsX5_isSwan) := goodIn_app (goodIn_of _ (by decide +kernel)) ggX5_stays_X5_isSwan
set_option maxRecDepth 20000 in
theorem ggX5_stays_X5_isLawn : GoodIn wsX5_stays wsX5_isLawn := goodIn_r _ [17, 3, 18, 11, 12, 8, 13, 71, 72, 73, 74, 75, 76, 77, 78, 79, 80, 81, 82, 83, 84, 85, 86, 87, 88, 89, 90] (by decide +kernel) (by decide +kernel)
set_option maxRecDepth 20000 in
theorem gX5_stays_X5_isLawn : GoodIn wsX5_stays (wsV RX5 147 RX5 yX5_isLawn wsX5_isLawn) := goodIn_app (goodIn_of _ (by decide +kernel)) ggX5_stays_X5_isLawn
set_option maxRecDepth 20000 in
theorem ggX5_stays_X5_within : GoodIn wsX5_stays wsX5_within := goodIn_r _ [13] (by decide +kernel) (by decide +kernel)
set_option maxRecDepth 20000 in
theorem gX5_stays_X5_within : GoodIn wsX5_stays (va_wsS RX5 54 yX5_within wsX5_within) := goodIn_app (goodIn_of _ (by decide +kernel)) ggX5_stays_X5_within
set_option maxRecDepth 20000 in
theorem ggX5_stays_X2_become : GoodIn wsX5_stays wsX2_become := goodIn_r _ [23, 24, 25, 26, 27, 28, 29, 30, 31, 32, 33, 34, 80, 81, 82, 83, 84, 85, 86, 87, 88, 89, 90] (by decide +kernel) (by decide +kernel)
set_option maxRecDepth 20000 in
theorem gX5_stays_X2_become : GoodIn wsX5_stays (wsV RX5 110 RX2 yX2_become wsX2_become) := goodIn_app (goodIn_of _ (by decide +kernel)) ggX5_stays_X2_become
set_option maxRecDepth 20000 in
theorem ggX5_stays_X2_passDay : GoodIn wsX5_stays wsX2_passDay := goodIn_r _ [38, 25, 31, 28, 34, 26, 39, 40, 41, 22, 42, 29, 43, 44, 45, 46, 24, 27, 47, 48, 49, 50, 51, 52, 53, 54, 55, 56, 57, 58, 59, 60, 61, 62, 63, 64, 65, 66, 33, 67, 68, 69, 70, 32, 80, 81, 82, 83, 84, 85, 86, 87, 88, 89, 90] (by decide +kernel) (by decide +kernel)
set_option maxRecDepth 20000 in
theorem gX5_stays_X2_passDay : GoodIn wsX5_stays (wsV RX5 140 RX2 yX2_passDay wsX2_passDay) := goodIn_app (goodIn_of _ (by decide +kernel)) ggX5_stays_X2_passDay
theorem dX5_stays_0 : decode cX5_stays 0 = .ok (.aload_n 0, 1) := by decide +kernel
theorem dX5_stays_1 : decode cX5_stays 1 = .ok (.iload_n 1, 1) := by decide +kernel
theorem dX5_stays_2 : decode cX5_stays 2 = .ok (.invokevirtual 164, 3) := by decide +kernel
theorem dX5_stays_5 : decode cX5_stays 5 = .ok (.ifCond .eq 21, 3) := by decide +kernel
theorem dX5_stays_8 : decode cX5_stays 8 = .ok (.aload_n 0, 1) := by decide +kernel
theorem dX5_stays_9 : decode cX5_stays 9 = .ok (.iload_n 2, 1) := by decide +kernel
theorem dX5_stays_10 : decode cX5_stays 10 = .ok (.invokevirtual 147, 3) := by decide +kernel
theorem dX5_stays_13 : decode cX5_stays 13 = .ok (.ifCond .eq 13, 3) := by decide +kernel
theorem dX5_stays_16 : decode cX5_stays 16 = .ok (.iload_n 3, 1) := by decide +kernel
theorem dX5_stays_17 : decode cX5_stays 17 = .ok (.iconst 1, 1) := by decide +kernel
theorem dX5_stays_18 : decode cX5_stays 18 = .ok (.bipush 60, 2) := by decide +kernel
theorem dX5_stays_20 : decode cX5_stays 20 = .ok (.invokestatic 54, 3) := by decide +kernel
theorem dX5_stays_23 : decode cX5_stays 23 = .ok (.ifCond .ne 6, 3) := by decide +kernel
theorem dX5_stays_26 : decode cX5_stays 26 = .ok (.ldc 58, 2) := by decide +kernel
theorem dX5_stays_28 : decode cX5_stays 28 = .ok (.ireturn, 1) := by decide +kernel
theorem dX5_stays_29 : decode cX5_stays 29 = .ok (.aload_n 0, 1) := by decide +kernel
theorem dX5_stays_30 : decode cX5_stays 30 = .ok (.getfield 44, 3) := by decide +kernel
theorem dX5_stays_33 : decode cX5_stays 33 = .ok (.aload_n 0, 1) := by decide +kernel
theorem dX5_stays_34 : decode cX5_stays 34 = .ok (.getfield 40, 3) := by decide +kernel
