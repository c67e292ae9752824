theorem dX5_stays_37 : decode cX5_stays 37 = .ok (.invokevirtual 110, 3) := by decide +kernel
theorem dX5_stays_40 : decode cX5_stays 40 = .ok (.iconst 0, 1) := by decide +kernel
theorem dX5_stays_41 : decode cX5_stays 41 = .ok (.istore 4, 2) := by decide +kernel
theorem dX5_stays_43 : decode cX5_stays 43 = .ok (.iconst 0, 1) := by decide +kernel
theorem dX5_stays_44 : decode cX5_stays 44 = .ok (.istore 5, 2) := by decide +kernel
theorem dX5_stays_46 : decode cX5_stays 46 = .ok (.iload 5, 2) := by decide +kernel
theorem dX5_stays_48 : decode cX5_stays 48 = .ok (.iload_n 3, 1) := by decide +kernel
theorem dX5_stays_49 : decode cX5_stays 49 = .ok (.if_icmp .ge 32, 3) := by decide +kernel
theorem dX5_stays_52 : decode cX5_stays 52 = .ok (.aload_n 0, 1) := by decide +kernel
theorem dX5_stays_53 : decode cX5_stays 53 = .ok (.getfield 44, 3) := by decide +kernel
theorem dX5_stays_56 : decode cX5_stays 56 = .ok (.invokevirtual 140, 3) := by decide +kernel
theorem dX5_stays_59 : decode cX5_stays 59 = .ok (.aload_n 0, 1) := by decide +kernel
theorem dX5_stays_60 : decode cX5_stays 60 = .ok (.getfield 44, 3) := by decide +kernel
theorem dX5_stays_63 : decode cX5_stays 63 = .ok (.getfield 167, 3) := by decide +kernel
theorem dX5_stays_66 : decode cX5_stays 66 = .ok (.iload_n 1, 1) := by decide +kernel
theorem dX5_stays_67 : decode cX5_stays 67 = .ok (.iaload, 1) := by decide +kernel
theorem dX5_stays_68 : decode cX5_stays 68 = .ok (.iload_n 2, 1) := by decide +kernel
theorem dX5_stays_69 : decode cX5_stays 69 = .ok (.if_icmp .ne 6, 3) := by decide +kernel
theorem dX5_stays_72 : decode cX5_stays 72 = .ok (.iinc 4 1, 3) := by decide +kernel
theorem dX5_stays_75 : decode cX5_stays 75 = .ok (.iinc 5 1, 3) := by decide +kernel
theorem dX5_stays_78 : decode cX5_stays 78 = .ok (.goto (-32), 3) := by decide +kernel
theorem dX5_stays_81 : decode cX5_stays 81 = .ok (.iload 4, 2) := by decide +kernel
theorem dX5_stays_83 : decode cX5_stays 83 = .ok (.ireturn, 1) := by decide +kernel
set_option maxRecDepth 20000 in
theorem ggX5_crusts_X5_isSwan : GoodIn wsX5_crusts wsX5_isSwan := goodIn_r _ [6, 7, 8, 9, 10, 5, 11, 106, 107, 108, 109, 110, 111, 112, 113, 114, 115, 116, 117, 118, 119, 120, 121, 122, 123, 124, 125] (by decide +kernel) (by decide +kernel)
set_option maxRecDepth 20000 in
theorem gX5_crusts_X5_isSwan : GoodIn wsX5_crusts (wsV RX5 164 RX5 yX5_isSwan wsX5_isSwan) := goodIn_app (goodIn_of _ (by decide +kernel)) ggX5_crusts_X5_isSwan
set_option maxRecDepth 20000 in
theorem ggX5_crusts_X5_isLawn : GoodIn wsX5_crusts wsX5_isLawn := goodIn_r _ [15, 7, 16, 9, 10, 5, 11, 106, 107, 108, 109, 110, 111, 112, 113, 114, 115, 116, 117, 118, 119, 120, 121, 122, 123, 124, 125] (by decide +kernel) (by decide +kernel)
set_option maxRecDepth 20000 in
theorem gX5_crusts_X5_isLawn : GoodIn wsX5_crusts (wsV RX5 147 RX5 yX5_isLawn wsX5_isLawn) := goodIn_app (goodIn_of _ (by decide +kernel)) ggX5_crusts_X5_isLawn
set_option maxRecDepth 20000 in
theorem ggX5_crusts_X5_within : GoodIn wsX5_crusts wsX5_within := goodIn_r _ [11] (by decide +kernel) (by decide +kernel)
set_option maxRecDepth 20000 in
theorem gX5_crusts_X5_within : GoodIn wsX5_crusts (va_wsS RX5 54 yX5_within wsX5_within) := goodIn_app (goodIn_of _ (by decide +kernel)) ggX5_crusts_X5_within
set_option maxRecDepth 20000 in
theorem ggX5_crusts_X5_fewest : GoodIn wsX5_crusts wsX5_fewest := goodIn_r _ [20, 7, 16, 21, 22, 23, 24, 25, 26, 27, 28, 29, 30, 31, 5, 32, 33, 34, 35, 36, 37, 38, 39, 40, 41, 42, 43, 44, 45, 46, 47, 48, 49, 50, 51, 52, 53, 54, 55, 56, 57, 58, 59, 60, 61, 62, 63, 64, 65, 66, 67, 68, 69, 70, 71, 72, 73, 74, 75, 76, 77, 78, 79, 80, 81, 82, 83, 84, 85, 86, 87, 88, 89, 90, 91, 92, 93, 94, 95, 96, 97, 98, 99, 100, 101, 102, 106, 107, 108, 109, 110, 111, 112, 113, 114, 115, 116, 117, 118, 119, 120, 121, 122, 123, 124, 125] (by decide +kernel) (by decide +kernel)
set_option maxRecDepth 20000 in
theorem gX5_crusts_X5_fewest : GoodIn wsX5_crusts (wsV RX5 200 RX5 yX5_fewest wsX5_fewest) := goodIn_app (goodIn_of _ (by decide +kernel)) ggX5_crusts_X5_fewest
set_option maxRecDepth 20000 in
theorem ggX5_crusts_X5_sizeOrSet : GoodIn wsX5_crusts wsX5_sizeOrSet := goodIn_r _ [105, 21, 22, 23, 24, 25, 26, 27, 28] (by decide +kernel) (by decide +kernel)
set_option maxRecDepth 20000 in
theorem gX5_crusts_X5_sizeOrSet : GoodIn wsX5_crusts (va_wsS RX5 204 yX5_sizeOrSet wsX5_sizeOrSet) := goodIn_app (goodIn_of _ (by decide +kernel)) ggX5_crusts_X5_sizeOrSet
theorem dX5_crusts_0 : decode cX5_crusts 0 = .ok (.aload_n 0, 1) := by decide +kernel
theorem dX5_crusts_1 : decode cX5_crusts 1 = .ok (.iload_n 1, 1) := by decide +kernel
theorem dX5_crusts_2 : decode cX5_crusts 2 = .ok (.invokevirtual 164, 3) := by decide +kernel
theorem dX5_crusts_5 : decode cX5_crusts 5 = .ok (.ifCond .eq 31, 3) := by decide +kernel
theorem dX5_crusts_8 : decode cX5_crusts 8 = .ok (.aload_n 0, 1) := by decide +kernel
theorem dX5_crusts_9 : decode cX5_crusts 9 = .ok (.iload_n 2, 1) := by decide +kernel
theorem dX5_crusts_10 : decode cX5_crusts 10 = .ok (.invokevirtual 147, 3) := by decide +kernel
theorem dX5_crusts_13 : decode cX5_crusts 13 = .ok (.ifCond .eq 23, 3) := by decide +kernel
theorem dX5_crusts_16 : decode cX5_crusts 16 = .ok (.iload_n 3, 1) := by decide +kernel
theorem dX5_crusts_17 : decode cX5_crusts 17 = .ok (.iconst 1, 1) := by decide +kernel
theorem dX5_crusts_18 : decode cX5_crusts 18 = .ok (.bipush 20, 2) := by decide +kernel
theorem dX5_crusts_20 : decode cX5_crusts 20 = .ok (.invokestatic 54, 3) := by decide +kernel
theorem dX5_crusts_23 : decode cX5_crusts 23 = .ok (.ifCond .eq 13, 3) := by decide +kernel
theorem dX5_crusts_26 : decode cX5_crusts 26 = .ok (.iload 4, 2) := by decide +kernel
theorem dX5_crusts_28 : decode cX5_crusts 28 = .ok (.iconst 0, 1) := by decide +kernel
theorem dX5_crusts_29 : decode cX5_crusts 29 = .ok (.iconst 1, 1) := by decide +kernel
theorem dX5_crusts_30 : decode cX5_crusts 30 = .ok (.invokestatic 54, 3) := by decide +kernel
theorem dX5_crusts_33 : decode cX5_crusts 33 = .ok (.ifCond .ne 6, 3) := by decide +kernel
theorem dX5_crusts_36 : decode cX5_crusts 36 = .ok (.ldc 58, 2) := by decide +kernel
theorem dX5_crusts_38 : decode cX5_crusts 38 = .ok (.ireturn, 1) := by decide +kernel
theorem dX5_crusts_39 : decode cX5_crusts 39 = .ok (.aload_n 0, 1) := by decide +kernel
theorem dX5_crusts_40 : decode cX5_crusts 40 = .ok (.iconst 0, 1) := by decide +kernel
theorem dX5_crusts_41 : decode cX5_crusts 41 = .ok (.iload_n 1, 1) := by decide +kernel
theorem dX5_crusts_42 : decode cX5_crusts 42 = .ok (.iload_n 2, 1) := by decide +kernel
theorem dX5_crusts_43 : decode cX5_crusts 43 = .ok (.iload_n 3, 1) := by decide +kernel
theorem dX5_crusts_44 : decode cX5_crusts 44 = .ok (.invokevirtual 200, 3) := by decide +kernel
theorem dX5_crusts_47 : decode cX5_crusts 47 = .ok (.iload 4, 2) := by decide +kernel
theorem dX5_crusts_49 : decode cX5_crusts 49 = .ok (.invokestatic 204, 3) := by decide +kernel
theorem dX5_crusts_52 : decode cX5_crusts 52 = .ok (.ireturn, 1) := by decide +kernel
set_option maxRecDepth 20000 in
theorem ggX5_weirs_X5_isSwan : GoodIn wsX5_weirs wsX5_isSwan := goodIn_r _ [6, 7, 8, 9, 10, 5, 11, 106, 107, 108, 109, 110, 111, 112, 113, 114, 115, 116, 117, 118, 119, 120, 121, 122, 123, 124, 125] (by decide +kernel) (by decide +kernel)
set_option maxRecDepth 20000 in
theorem gX5_weirs_X5_isSwan : GoodIn wsX5_weirs (wsV RX5 164 RX5 yX5_isSwan wsX5_isSwan) := goodIn_app (goodIn_of _ (by decide +kernel)) ggX5_weirs_X5_isSwan
set_option maxRecDepth 20000 in
theorem ggX5_weirs_X5_isLawn : GoodIn wsX5_weirs wsX5_isLawn := goodIn_r _ [15, 7, 16, 9, 10, 5, 11, 106, 107, 108, 109, 110, 111, 112, 113, 114, 115, 116, 117, 118, 119, 120, 121, 122, 123, 124, 125] (by decide +kernel) (by decide +kernel)
set_option maxRecDepth 20000 in
theorem gX5_weirs_X5_isLawn : GoodIn wsX5_weirs (wsV RX5 147 RX5 yX5_isLawn wsX5_isLawn) := goodIn_app (goodIn_of _ (by decide +kernel)) ggX5_weirs_X5_isLawn
set_option maxRecDepth 20000 in
theorem ggX5_weirs_X5_within : GoodIn wsX5_weirs wsX5_within := goodIn_r _ [11] (by decide +kernel) (by decide +kernel)
set_option maxRecDepth 20000 in
theorem gX5_weirs_X5_within : GoodIn wsX5_weirs (va_wsS RX5 54 yX5_within wsX5_within) := goodIn_app (goodIn_of _ (by decide +kernel)) ggX5_weirs_X5_within
set_option maxRecDepth 20000 in
theorem ggX5_weirs_X5_fewest : GoodIn wsX5_weirs wsX5_fewest := goodIn_r _ [20, 7, 16, 21, 22, 23, 24, 25, 26, 27, 28, 29, 30, 31, 5, 32, 33, 34, 35, 36, 37, 38, 39, 40, 41, 42, 43, 44, 45, 46, 47, 48, 49, 50, 51, 52, 53, 54, 55, 56, 57, 58, 59, 60, 61, 62, 63, 64, 65, 66, 67, 68, 69, 70, 71, 72, 73, 74, 75, 76, 77, 78, 79, 80, 81, 82, 83, 84, 85, 86, 87, 88, 89, 90, 91, 92, 93, 94, 95, 96, 97, 98, 99, 100, 101, 102, 106, 107, 108, 109, 110, 111, 112, 113, 114, 115, 116, 117, 118, 119, 120, 121, 122, 123, 124, 125] (by decide +kernel) (by decide +kernel)
set_option maxRecDepth 20000 in
theorem gX5_weirs_X5_fewest : GoodIn wsX5_weirs (wsV RX5 200 RX5 yX5_fewest wsX5_fewest) := goodIn_app (goodIn_of _ (by decide +kernel)) ggX5_weirs_X5_fewest
set_option maxRecDepth 20000 in
theorem ggX5_weirs_X5_sizeOrSet : GoodIn wsX5_weirs wsX5_sizeOrSet := goodIn_r _ [105, 21, 22, 23, 24, 25, 26, 27, 28] (by decide +kernel) (by decide +kernel)
set_option maxRecDepth 20000 in
theorem gX5_weirs_X5_sizeOrSet : GoodIn wsX5_weirs (va_wsS RX5 204 yX5_sizeOrSet wsX5_sizeOrSet) := goodIn_app (goodIn_of _ (by decide +kernel)) ggX5_weirs_X5_sizeOrSet
theorem dX5_weirs_0 : decode cX5_weirs 0 = .ok (.aload_n 0, 1) := by decide +kernel
theorem dX5_weirs_1 : decode cX5_weirs 1 = .ok (.iload_n 1, 1) := by decide +kernel
theorem dX5_weirs_2 : decode cX5_weirs 2 = .ok (.invokevirtual 164, 3) := by decide +kernel
theorem dX5_weirs_5 : decode cX5_weirs 5 = .ok (.ifCond .eq 31, 3) := by decide +kernel
theorem dX5_weirs_8 : decode cX5_weirs 8 = .ok (.aload_n 0, 1) := by decide +kernel
theorem dX5_weirs_9 : decode cX5_weirs 9 = .ok (.iload_n 2, 1) := by decide +kernel
theorem dX5_weirs_10 : decode cX5_weirs 10 = .ok (.invokevirtual 147, 3) := by decide +kernel
theorem dX5_weirs_13 : decode cX5_weirs 13 = .ok (.ifCond .eq 23, 3) := by decide +kernel
theorem dX5_weirs_16 : decode cX5_weirs 16 = .ok (.iload_n 3, 1) := by decide +kernel
theorem dX5_weirs_17 : decode cX5_weirs 17 = .ok (.iconst 1, 1) := by decide +kernel
theorem dX5_weirs_18 : decode cX5_weirs 18 = .ok (.bipush 20, 2) := by decide +kernel
theorem dX5_weirs_20 : decode cX5_weirs 20 = .ok (.invokestatic 54, 3) := by decide +kernel
theorem dX5_weirs_23 : decode cX5_weirs 23 = .ok (.ifCond .eq 13, 3) := by decide +kernel
theorem dX5_weirs_26 : decode cX5_weirs 26 = .ok (.iload 4, 2) := by decide +kernel
theorem dX5_weirs_28 : decode cX5_weirs 28 = .ok (.iconst 0, 1) := by decide +kernel
theorem dX5_weirs_29 : decode cX5_weirs 29 = .ok (.iconst 1, 1) := by decide +kernel
theorem dX5_weirs_30 : decode cX5_weirs 30 = .ok (.invokestatic 54, 3) := by decide +kernel
theorem dX5_weirs_33 : decode cX5_weirs 33 = .ok (.ifCond .ne 6, 3) := by decide +kernel
theorem dX5_weirs_36 : decode cX5_weirs 36 = .ok (.ldc 58, 2) := by decide +kernel
theorem dX5_weirs_38 : decode cX5_weirs 38 = .ok (.ireturn, 1) := by decide +kernel
theorem dX5_weirs_39 : decode cX5_weirs 39 = .ok (.aload_n 0, 1) := by decide +kernel
theorem dX5_weirs_40 : decode cX5_weirs 40 = .ok (.iconst 1, 1) := by decide +kernel
theorem dX5_weirs_41 : decode cX5_weirs 41 = .ok (.iload_n 1, 1) := by decide +kernel
theorem dX5_weirs_42 : decode cX5_weirs 42 = .ok (.iload_n 2, 1) := by decide +kernel
theorem dX5_weirs_43 : decode cX5_weirs 43 = .ok (.iload_n 3, 1) := by decide +kernel
theorem dX5_weirs_44 : decode cX5_weirs 44 = .ok (.invokevirtual 200, 3) := by decide +kernel
theorem dX5_weirs_47 : decode cX5_weirs 47 = .ok (.iload 4, 2) := by decide +kernel
theorem dX5_weirs_49 : decode cX5_weirs 49 = .ok (.invokestatic 204, 3) := by decide +kernel
theorem dX5_weirs_52 : decode cX5_weirs 52 = .ok (.ireturn, 1) := by decide +kernel
set_option maxRecDepth 20000 in
theorem ggX5_hold_X5_isSwan : GoodIn wsX5_hold wsX5_isSwan := goodIn_r _ [9, 2, 10, 11, 12, 8, 13, 78, 79, 80, 81, 82, 83, 84, 85, 86, 87, 88, 89, 90, 91, 92, 93, 94, 95, 96, 97] (by decide +kernel) (by decide +kernel)
set_option maxRecDepth 20000 in
theorem gX5_hold_X5_isSwan : GoodIn wsX5_hold (wsV RX5 164 RX5 yX5_isSwan wsX5_isSwan) := goodIn_app (goodIn_of _ (by decide +kernel)) ggX5_hold_X5_isSwan
set_option maxRecDepth 20000 in
theorem ggX5_hold_X5_within : GoodIn wsX5_hold wsX5_within := goodIn_r _ [13] (by decide +kernel) (by decide +kernel)
set_option maxRecDepth 20000 in
theorem gX5_hold_X5_within : GoodIn wsX5_hold (va_wsS RX5 54 yX5_within wsX5_within) := goodIn_app (goodIn_of _ (by decide +kernel)) ggX5_hold_X5_within
set_option maxRecDepth 20000 in
theorem ggX5_hold_X2_become : GoodIn wsX5_hold wsX2_become := goodIn_r _ [18, 19, 20, 21, 22, 23, 24, 25, 26, 27, 28, 29, 87, 88, 89, 90, 91, 92, 93, 94, 95, 96, 97] (by decide +kernel) (by decide +kernel)
set_option maxRecDepth 20000 in
theorem gX5_hold_X2_become : GoodIn wsX5_hold (wsV RX5 110 RX2 yX2_become wsX2_become) := goodIn_app (goodIn_of _ (by decide +kernel)) ggX5_hold_X2_become
set_option maxRecDepth 20000 in
theorem ggX5_hold_X2_scatter : GoodIn wsX5_hold wsX2_scatter := goodIn_r _ [33, 23, 34, 35, 36, 37, 87, 88, 89, 90, 91, 92, 93, 94, 95, 96, 97] (by decide +kernel) (by decide +kernel)
set_option maxRecDepth 20000 in
theorem gX5_hold_X2_scatter : GoodIn wsX5_hold (wsV RX5 150 RX2 yX2_scatter wsX2_scatter) := goodIn_app (goodIn_of _ (by decide +kernel)) ggX5_hold_X2_scatter
set_option maxRecDepth 20000 in
theorem ggX5_hold_X2_daysHeld : GoodIn wsX5_hold wsX2_daysHeld := goodIn_r _ [41, 26, 42, 43, 44, 17, 45, 20, 23, 29, 21, 46, 47, 48, 49, 24, 50, 51, 52, 53, 19, 22, 54, 55, 56, 57, 58, 59, 60, 61, 62, 63, 64, 65, 66, 67, 68, 69, 70, 71, 72, 73, 28, 74, 75, 76, 77, 27, 87, 88, 89, 90, 91, 92, 93, 94, 95, 96, 97] (by decide +kernel) (by decide +kernel)
set_option maxRecDepth 20000 in
theorem gX5_hold_X2_daysHeld : GoodIn wsX5_hold (wsV RX5 196 RX2 yX2_daysHeld wsX2_daysHeld) := goodIn_app (goodIn_of _ (by decide +kernel)) ggX5_hold_X2_daysHeld
theorem dX5_hold_0 : decode cX5_hold 0 = .ok (.aload_n 0, 1) := by decide +kernel
theorem dX5_hold_1 : decode cX5_hold 1 = .ok (.iload_n 1, 1) := by decide +kernel
theorem dX5_hold_2 : decode cX5_hold 2 = .ok (.invokevirtual 164, 3) := by decide +kernel
theorem dX5_hold_5 : decode cX5_hold 5 = .ok (.ifCond .eq 12, 3) := by decide +kernel
theorem dX5_hold_8 : decode cX5_hold 8 = .ok (.iload_n 2, 1) := by decide +kernel
theorem dX5_hold_9 : decode cX5_hold 9 = .ok (.iconst 0, 1) := by decide +kernel
theorem dX5_hold_10 : decode cX5_hold 10 = .ok (.iconst 1, 1) := by decide +kernel
theorem dX5_hold_11 : decode cX5_hold 11 = .ok (.invokestatic 54, 3) := by decide +kernel
theorem dX5_hold_14 : decode cX5_hold 14 = .ok (.ifCond .ne 6, 3) := by decide +kernel
theorem dX5_hold_17 : decode cX5_hold 17 = .ok (.ldc 58, 2) := by decide +kernel
theorem dX5_hold_19 : decode cX5_hold 19 = .ok (.ireturn, 1) := by decide +kernel
theorem dX5_hold_20 : decode cX5_hold 20 = .ok (.iconst 0, 1) := by decide +kernel
theorem dX5_hold_21 : decode cX5_hold 21 = .ok (.istore_n 3, 1) := by decide +kernel
theorem dX5_hold_22 : decode cX5_hold 22 = .ok (.iconst (-1), 1) := by decide +kernel
theorem dX5_hold_23 : decode cX5_hold 23 = .ok (.istore 4, 2) := by decide +kernel
theorem dX5_hold_25 : decode cX5_hold 25 = .ok (.iconst 0, 1) := by decide +kernel
theorem dX5_hold_26 : decode cX5_hold 26 = .ok (.istore 5, 2) := by decide +kernel
theorem dX5_hold_28 : decode cX5_hold 28 = .ok (.iload 5, 2) := by decide +kernel
theorem dX5_hold_30 : decode cX5_hold 30 = .ok (.aload_n 0, 1) := by decide +kernel
theorem dX5_hold_31 : decode cX5_hold 31 = .ok (.getfield 40, 3) := by decide +kernel
theorem dX5_hold_34 : decode cX5_hold 34 = .ok (.getfield 207, 3) := by decide +kernel
theorem dX5_hold_37 : decode cX5_hold 37 = .ok (.if_icmp .ge 55, 3) := by decide +kernel
theorem dX5_hold_40 : decode cX5_hold 40 = .ok (.aload_n 0, 1) := by decide +kernel
theorem dX5_hold_41 : decode cX5_hold 41 = .ok (.getfield 44, 3) := by decide +kernel
theorem dX5_hold_44 : decode cX5_hold 44 = .ok (.aload_n 0, 1) := by decide +kernel
theorem dX5_hold_45 : decode cX5_hold 45 = .ok (.getfield 40, 3) := by decide +kernel
theorem dX5_hold_48 : decode cX5_hold 48 = .ok (.invokevirtual 110, 3) := by decide +kernel
theorem dX5_hold_51 : decode cX5_hold 51 = .ok (.aload_n 0, 1) := by decide +kernel
theorem dX5_hold_52 : decode cX5_hold 52 = .ok (.getfield 44, 3) := by decide +kernel
theorem dX5_hold_55 : decode cX5_hold 55 = .ok (.iload 5, 2) := by decide +kernel
theorem dX5_hold_57 : decode cX5_hold 57 = .ok (.bipush 9, 2) := by decide +kernel
theorem dX5_hold_59 : decode cX5_hold 59 = .ok (.invokevirtual 150, 3) := by decide +kernel
theorem dX5_hold_62 : decode cX5_hold 62 = .ok (.aload_n 0, 1) := by decide +kernel
theorem dX5_hold_63 : decode cX5_hold 63 = .ok (.getfield 44, 3) := by decide +kernel
theorem dX5_hold_66 : decode cX5_hold 66 = .ok (.iload_n 1, 1) := by decide +kernel
theorem dX5_hold_67 : decode cX5_hold 67 = .ok (.invokevirtual 196, 3) := by decide +kernel
theorem dX5_hold_70 : decode cX5_hold 70 = .ok (.istore 6, 2) := by decide +kernel
theorem dX5_hold_72 : decode cX5_hold 72 = .ok (.iload 6, 2) := by decide +kernel
theorem dX5_hold_74 : decode cX5_hold 74 = .ok (.iload 4, 2) := by decide +kernel
theorem dX5_hold_76 : decode cX5_hold 76 = .ok (.if_icmp .le 10, 3) := by decide +kernel
theorem dX5_hold_79 : decode cX5_hold 79 = .ok (.iload 6, 2) := by decide +kernel
theorem dX5_hold_81 : decode cX5_hold 81 = .ok (.istore 4, 2) := by decide +kernel
theorem dX5_hold_83 : decode cX5_hold 83 = .ok (.iload 5, 2) := by decide +kernel
theorem dX5_hold_85 : decode cX5_hold 85 = .ok (.istore_n 3, 1) := by decide +kernel
theorem dX5_hold_86 : decode cX5_hold 86 = .ok (.iinc 5 1, 3) := by decide +kernel
theorem dX5_hold_89 : decode cX5_hold 89 = .ok (.goto (-61), 3) := by decide +kernel
theorem dX5_hold_92 : decode cX5_hold 92 = .ok (.iload_n 2, 1) := by decide +kernel
theorem dX5_hold_93 : decode cX5_hold 93 = .ok (.ifCond .ne 7, 3) := by decide +kernel
theorem dX5_hold_96 : decode cX5_hold 96 = .ok (.iload_n 3, 1) := by decide +kernel
theorem dX5_hold_97 : decode cX5_hold 97 = .ok (.goto 5, 3) := by decide +kernel
theorem dX5_hold_100 : decode cX5_hold 100 = .ok (.iload 4, 2) := by decide +kernel
theorem dX5_hold_102 : decode cX5_hold 102 = .ok (.ireturn, 1) := by decide +kernel
set_option maxRecDepth 20000 in
theorem ggX5_meet_X5_isSwan : GoodIn wsX5_meet wsX5_isSwan := goodIn_r _ [10, 3, 11, 12, 13, 9, 14, 67, 68, 69, 70, 71, 72, 73, 74, 75, 76, 77, 78, 79, 80, 81, 82, 83, 84, 85, 86] (by decide +kernel) (by decide +kernel)
set_option maxRecDepth 20000 in
theorem gX5_meet_X5_isSwan : GoodIn wsX5_meet (wsV RX5 164 RX5 yX5_isSwan wsX5_isSwan) := goodIn_app (goodIn_of _ (by decide +kernel)) ggX5_meet_X5_isSwan
set_option maxRecDepth 20000 in
theorem ggX5_meet_X2_become : GoodIn wsX5_meet wsX2_become := goodIn_r _ [19, 20, 21, 22, 23, 24, 25, 26, 27, 28, 29, 30, 76, 77, 78, 79, 80, 81, 82, 83, 84, 85, 86] (by decide +kernel) (by decide +kernel)
set_option maxRecDepth 20000 in
theorem gX5_meet_X2_become : GoodIn wsX5_meet (wsV RX5 110 RX2 yX2_become wsX2_become) := goodIn_app (goodIn_of _ (by decide +kernel)) ggX5_meet_X2_become
set_option maxRecDepth 20000 in
theorem ggX5_meet_X2_passDay : GoodIn wsX5_meet wsX2_passDay := goodIn_r _ [34, 21, 27, 24, 30, 22, 35, 36, 37, 18, 38, 25, 39, 40, 41, 42, 20, 23, 43, 44, 45, 46, 47, 48, 49, 50, 51, 52, 53, 54, 55, 56, 57, 58, 59, 60, 61, 62, 29, 63, 64, 65, 66, 28, 76, 77, 78, 79, 80, 81, 82, 83, 84, 85, 86] (by decide +kernel) (by decide +kernel)
set_option maxRecDepth 20000 in
theorem gX5_meet_X2_passDay : GoodIn wsX5_meet (wsV RX5 140 RX2 yX2_passDay wsX2_passDay) := goodIn_app (goodIn_of _ (by decide +kernel)) ggX5_meet_X2_passDay
theorem dX5_meet_0 : decode cX5_meet 0 = .ok (.aload_n 0, 1) := by decide +kernel
theorem dX5_meet_1 : decode cX5_meet 1 = .ok (.iload_n 1, 1) := by decide +kernel
theorem dX5_meet_2 : decode cX5_meet 2 = .ok (.invokevirtual 164, 3) := by decide +kernel
theorem dX5_meet_5 : decode cX5_meet 5 = .ok (.ifCond .eq 16, 3) := by decide +kernel
theorem dX5_meet_8 : decode cX5_meet 8 = .ok (.aload_n 0, 1) := by decide +kernel
theorem dX5_meet_9 : decode cX5_meet 9 = .ok (.iload_n 2, 1) := by decide +kernel
theorem dX5_meet_10 : decode cX5_meet 10 = .ok (.invokevirtual 164, 3) := by decide +kernel
theorem dX5_meet_13 : decode cX5_meet 13 = .ok (.ifCond .eq 8, 3) := by decide +kernel
theorem dX5_meet_16 : decode cX5_meet 16 = .ok (.iload_n 1, 1) := by decide +kernel
theorem dX5_meet_17 : decode cX5_meet 17 = .ok (.iload_n 2, 1) := by decide +kernel
theorem dX5_meet_18 : decode cX5_meet 18 = .ok (.if_icmp .ne 6, 3) := by decide +kernel
theorem dX5_meet_21 : decode cX5_meet 21 = .ok (.ldc 58, 2) := by decide +kernel
theorem dX5_meet_23 : decode cX5_meet 23 = .ok (.ireturn, 1) := by decide +kernel
theorem dX5_meet_24 : decode cX5_meet 24 = .ok (.aload_n 0, 1) := by decide +kernel
theorem dX5_meet_25 : decode cX5_meet 25 = .ok (.getfield 44, 3) := by decide +kernel
theorem dX5_meet_28 : decode cX5_meet 28 = .ok (.aload_n 0, 1) := by decide +kernel
theorem dX5_meet_29 : decode cX5_meet 29 = .ok (.getfield 40, 3) := by decide +kernel
theorem dX5_meet_32 : decode cX5_meet 32 = .ok (.invokevirtual 110, 3) := by decide +kernel
theorem dX5_meet_35 : decode cX5_meet 35 = .ok (.iconst 0, 1) := by decide +kernel
theorem dX5_meet_36 : decode cX5_meet 36 = .ok (.istore_n 3, 1) := by decide +kernel
theorem dX5_meet_37 : decode cX5_meet 37 = .ok (.iload_n 3, 1) := by decide +kernel
theorem dX5_meet_38 : decode cX5_meet 38 = .ok (.bipush 60, 2) := by decide +kernel
theorem dX5_meet_40 : decode cX5_meet 40 = .ok (.if_icmp .gt 39, 3) := by decide +kernel
theorem dX5_meet_43 : decode cX5_meet 43 = .ok (.aload_n 0, 1) := by decide +kernel
theorem dX5_meet_44 : decode cX5_meet 44 = .ok (.getfield 44, 3) := by decide +kernel
theorem dX5_meet_47 : decode cX5_meet 47 = .ok (.getfield 167, 3) := by decide +kernel
theorem dX5_meet_50 : decode cX5_meet 50 = .ok (.iload_n 1, 1) := by decide +kernel
theorem dX5_meet_51 : decode cX5_meet 51 = .ok (.iaload, 1) := by decide +kernel
theorem dX5_meet_52 : decode cX5_meet 52 = .ok (.aload_n 0, 1) := by decide +kernel
theorem dX5_meet_53 : decode cX5_meet 53 = .ok (.getfield 44, 3) := by decide +kernel
theorem dX5_meet_56 : decode cX5_meet 56 = .ok (.getfield 167, 3) := by decide +kernel
theorem dX5_meet_59 : decode cX5_meet 59 = .ok (.iload_n 2, 1) := by decide +kernel
theorem dX5_meet_60 : decode cX5_meet 60 = .ok (.iaload, 1) := by decide +kernel
theorem dX5_meet_61 : decode cX5_meet 61 = .ok (.if_icmp .ne 5, 3) := by decide +kernel
theorem dX5_meet_64 : decode cX5_meet 64 = .ok (.iload_n 3, 1) := by decide +kernel
theorem dX5_meet_65 : decode cX5_meet 65 = .ok (.ireturn, 1) := by decide +kernel
theorem dX5_meet_66 : decode cX5_meet 66 = .ok (.aload_n 0, 1) := by decide +kernel
theorem dX5_meet_67 : decode cX5_meet 67 = .ok (.getfield 44, 3) := by decide +kernel
theorem dX5_meet_70 : decode cX5_meet 70 = .ok (.invokevirtual 140, 3) := by decide +kernel
theorem dX5_meet_73 : decode cX5_meet 73 = .ok (.iinc 3 1, 3) := by decide +kernel
theorem dX5_meet_76 : decode cX5_meet 76 = .ok (.goto (-39), 3) := by decide +kernel
theorem dX5_meet_79 : decode cX5_meet 79 = .ok (.ldc 199, 2) := by decide +kernel
theorem dX5_meet_81 : decode cX5_meet 81 = .ok (.ireturn, 1) := by decide +kernel
set_option maxRecDepth 20000 in
theorem ggX5_fights_X5_hasRiver : GoodIn wsX5_fights wsX5_hasRiver := goodIn_r _ [9, 10, 11, 75, 76, 77, 78, 79, 80, 81, 82, 83, 84, 85, 86, 87, 88, 89, 90, 91, 92, 93, 94] (by decide +kernel) (by decide +kernel)
set_option maxRecDepth 20000 in
theorem gX5_fights_X5_hasRiver : GoodIn wsX5_fights (wsV RX5 130 RX5 yX5_hasRiver wsX5_hasRiver) := goodIn_app (goodIn_of _ (by decide +kernel)) ggX5_fights_X5_hasRiver
set_option maxRecDepth 20000 in
theorem ggX5_fights_X5_within : GoodIn wsX5_fights wsX5_within := goodIn_r _ [14] (by decide +kernel) (by decide +kernel)
set_option maxRecDepth 20000 in
theorem gX5_fights_X5_within : GoodIn wsX5_fights (va_wsS RX5 54 yX5_within wsX5_within) := goodIn_app (goodIn_of _ (by decide +kernel)) ggX5_fights_X5_within
set_option maxRecDepth 20000 in
theorem ggX5_fights_X5_foretell : GoodIn wsX5_fights wsX5_foretell := goodIn_r _ [18, 3, 10, 19, 20, 21, 22, 23, 24, 25, 26, 27, 28, 29, 30, 31, 32, 33, 34, 35, 36, 37, 38, 39, 40, 41, 42, 43, 44, 45, 46, 47, 48, 49, 50, 51, 52, 53, 54, 55, 56, 57, 58, 59, 60, 61, 62, 63, 64, 65, 66, 67, 68, 69, 70, 71, 72, 73, 74, 75, 76, 77, 78, 79, 80, 81, 82, 83, 84, 85, 86, 87, 88, 89, 90, 91, 92, 93, 94] (by decide +kernel) (by decide +kernel)
set_option maxRecDepth 20000 in
theorem gX5_fights_X5_foretell : GoodIn wsX5_fights (wsV RX5 189 RX5 yX5_foretell wsX5_foretell) := goodIn_app (goodIn_of _ (by decide +kernel)) ggX5_fights_X5_foretell
theorem dX5_fights_0 : decode cX5_fights 0 = .ok (.aload_n 0, 1) := by decide +kernel
theorem dX5_fights_1 : decode cX5_fights 1 = .ok (.invokevirtual 130, 3) := by decide +kernel
theorem dX5_fights_4 : decode cX5_fights 4 = .ok (.ifCond .ne 6, 3) := by decide +kernel
theorem dX5_fights_7 : decode cX5_fights 7 = .ok (.ldc 129, 2) := by decide +kernel
theorem dX5_fights_9 : decode cX5_fights 9 = .ok (.ireturn, 1) := by decide +kernel
theorem dX5_fights_10 : decode cX5_fights 10 = .ok (.iload_n 1, 1) := by decide +kernel
theorem dX5_fights_11 : decode cX5_fights 11 = .ok (.iconst 1, 1) := by decide +kernel
theorem dX5_fights_12 : decode cX5_fights 12 = .ok (.bipush 60, 2) := by decide +kernel
theorem dX5_fights_14 : decode cX5_fights 14 = .ok (.invokestatic 54, 3) := by decide +kernel
theorem dX5_fights_17 : decode cX5_fights 17 = .ok (.ifCond .ne 6, 3) := by decide +kernel
theorem dX5_fights_20 : decode cX5_fights 20 = .ok (.ldc 58, 2) := by decide +kernel
theorem dX5_fights_22 : decode cX5_fights 22 = .ok (.ireturn, 1) := by decide +kernel
theorem dX5_fights_23 : decode cX5_fights 23 = .ok (.aload_n 0, 1) := by decide +kernel
theorem dX5_fights_24 : decode cX5_fights 24 = .ok (.iload_n 1, 1) := by decide +kernel
theorem dX5_fights_25 : decode cX5_fights 25 = .ok (.invokevirtual 189, 3) := by decide +kernel
theorem dX5_fights_28 : decode cX5_fights 28 = .ok (.aload_n 0, 1) := by decide +kernel
theorem dX5_fights_29 : decode cX5_fights 29 = .ok (.getfield 44, 3) := by decide +kernel
theorem dX5_fights_32 : decode cX5_fights 32 = .ok (.getfield 210, 3) := by decide +kernel
theorem dX5_fights_35 : decode cX5_fights 35 = .ok (.ireturn, 1) := by decide +kernel
set_option maxRecDepth 20000 in
theorem ggX5_doubles_X5_hasRiver : GoodIn wsX5_doubles wsX5_hasRiver := goodIn_r _ [11, 4, 12, 16, 17, 18, 19, 20, 21, 22, 23, 24, 25, 26, 27, 28, 29, 30, 31, 32, 33, 34, 35] (by decide +kernel) (by decide +kernel)
set_option maxRecDepth 20000 in
theorem gX5_doubles_X5_hasRiver : GoodIn wsX5_doubles (wsV RX5 130 RX5 yX5_hasRiver wsX5_hasRiver) := goodIn_app (goodIn_of _ (by decide +kernel)) ggX5_doubles_X5_hasRiver
set_option maxRecDepth 20000 in
theorem ggX5_doubles_X5_within : GoodIn wsX5_doubles wsX5_within := goodIn_r _ [15] (by decide +kernel) (by decide +kernel)
set_option maxRecDepth 20000 in
theorem gX5_doubles_X5_within : GoodIn wsX5_doubles (va_wsS RX5 54 yX5_within wsX5_within) := goodIn_app (goodIn_of _ (by decide +kernel)) ggX5_doubles_X5_within
theorem dX5_doubles_0 : decode cX5_doubles 0 = .ok (.aload_n 0, 1) := by decide +kernel
theorem dX5_doubles_1 : decode cX5_doubles 1 = .ok (.invokevirtual 130, 3) := by decide +kernel
theorem dX5_doubles_4 : decode cX5_doubles 4 = .ok (.ifCond .ne 6, 3) := by decide +kernel
theorem dX5_doubles_7 : decode cX5_doubles 7 = .ok (.ldc 129, 2) := by decide +kernel
theorem dX5_doubles_9 : decode cX5_doubles 9 = .ok (.ireturn, 1) := by decide +kernel
theorem dX5_doubles_10 : decode cX5_doubles 10 = .ok (.iload_n 1, 1) := by decide +kernel
theorem dX5_doubles_11 : decode cX5_doubles 11 = .ok (.iconst 0, 1) := by decide +kernel
theorem dX5_doubles_12 : decode cX5_doubles 12 = .ok (.iconst 1, 1) := by decide +kernel
theorem dX5_doubles_13 : decode cX5_doubles 13 = .ok (.invokestatic 54, 3) := by decide +kernel
theorem dX5_doubles_16 : decode cX5_doubles 16 = .ok (.ifCond .ne 6, 3) := by decide +kernel
theorem dX5_doubles_19 : decode cX5_doubles 19 = .ok (.ldc 58, 2) := by decide +kernel
theorem dX5_doubles_21 : decode cX5_doubles 21 = .ok (.ireturn, 1) := by decide +kernel
theorem dX5_doubles_22 : decode cX5_doubles 22 = .ok (.iconst 0, 1) := by decide +kernel
theorem dX5_doubles_23 : decode cX5_doubles 23 = .ok (.istore_n 2, 1) := by decide +kernel
theorem dX5_doubles_24 : decode cX5_doubles 24 = .ok (.ldc 199, 2) := by decide +kernel
theorem dX5_doubles_26 : decode cX5_doubles 26 = .ok (.istore_n 3, 1) := by decide +kernel
theorem dX5_doubles_27 : decode cX5_doubles 27 = .ok (.iconst 0, 1) := by decide +kernel
theorem dX5_doubles_28 : decode cX5_doubles 28 = .ok (.istore 4, 2) := by decide +kernel
theorem dX5_doubles_30 : decode cX5_doubles 30 = .ok (.iload 4, 2) := by decide +kernel
theorem dX5_doubles_32 : decode cX5_doubles 32 = .ok (.aload_n 0, 1) := by decide +kernel
theorem dX5_doubles_33 : decode cX5_doubles 33 = .ok (.getfield 40, 3) := by decide +kernel
theorem dX5_doubles_36 : decode cX5_doubles 36 = .ok (.getfield 117, 3) := by decide +kernel
theorem dX5_doubles_39 : decode cX5_doubles 39 = .ok (.if_icmp .ge 78, 3) := by decide +kernel
theorem dX5_doubles_42 : decode cX5_doubles 42 = .ok (.iload 4, 2) := by decide +kernel
theorem dX5_doubles_44 : decode cX5_doubles 44 = .ok (.iconst 1, 1) := by decide +kernel
theorem dX5_doubles_45 : decode cX5_doubles 45 = .ok (.iadd, 1) := by decide +kernel
theorem dX5_doubles_46 : decode cX5_doubles 46 = .ok (.istore 5, 2) := by decide +kernel
theorem dX5_doubles_48 : decode cX5_doubles 48 = .ok (.iload 5, 2) := by decide +kernel
theorem dX5_doubles_50 : decode cX5_doubles 50 = .ok (.aload_n 0, 1) := by decide +kernel
theorem dX5_doubles_51 : decode cX5_doubles 51 = .ok (.getfield 40, 3) := by decide +kernel
theorem dX5_doubles_54 : decode cX5_doubles 54 = .ok (.getfield 117, 3) := by decide +kernel
theorem dX5_doubles_57 : decode cX5_doubles 57 = .ok (.if_icmp .ge 54, 3) := by decide +kernel
theorem dX5_doubles_60 : decode cX5_doubles 60 = .ok (.aload_n 0, 1) := by decide +kernel
theorem dX5_doubles_61 : decode cX5_doubles 61 = .ok (.getfield 40, 3) := by decide +kernel
theorem dX5_doubles_64 : decode cX5_doubles 64 = .ok (.getfield 177, 3) := by decide +kernel
theorem dX5_doubles_67 : decode cX5_doubles 67 = .ok (.iload 4, 2) := by decide +kernel
theorem dX5_doubles_69 : decode cX5_doubles 69 = .ok (.iaload, 1) := by decide +kernel
theorem dX5_doubles_70 : decode cX5_doubles 70 = .ok (.aload_n 0, 1) := by decide +kernel
theorem dX5_doubles_71 : decode cX5_doubles 71 = .ok (.getfield 40, 3) := by decide +kernel
theorem dX5_doubles_74 : decode cX5_doubles 74 = .ok (.getfield 177, 3) := by decide +kernel
theorem dX5_doubles_77 : decode cX5_doubles 77 = .ok (.iload 5, 2) := by decide +kernel
theorem dX5_doubles_79 : decode cX5_doubles 79 = .ok (.iaload, 1) := by decide +kernel
theorem dX5_doubles_80 : decode cX5_doubles 80 = .ok (.if_icmp .ne 25, 3) := by decide +kernel
theorem dX5_doubles_83 : decode cX5_doubles 83 = .ok (.iinc 2 1, 3) := by decide +kernel
theorem dX5_doubles_86 : decode cX5_doubles 86 = .ok (.iload_n 3, 1) := by decide +kernel
theorem dX5_doubles_87 : decode cX5_doubles 87 = .ok (.ldc 199, 2) := by decide +kernel
theorem dX5_doubles_89 : decode cX5_doubles 89 = .ok (.if_icmp .ne 14, 3) := by decide +kernel
theorem dX5_doubles_92 : decode cX5_doubles 92 = .ok (.bipush 10, 2) := by decide +kernel
theorem dX5_doubles_94 : decode cX5_doubles 94 = .ok (.iload 4, 2) := by decide +kernel
theorem dX5_doubles_96 : decode cX5_doubles 96 = .ok (.imul, 1) := by decide +kernel
theorem dX5_doubles_97 : decode cX5_doubles 97 = .ok (.iload 5, 2) := by decide +kernel
theorem dX5_doubles_99 : decode cX5_doubles 99 = .ok (.iadd, 1) := by decide +kernel
theorem dX5_doubles_100 : decode cX5_doubles 100 = .ok (.goto 4, 3) := by decide +kernel
theorem dX5_doubles_103 : decode cX5_doubles 103 = .ok (.iload_n 3, 1) := by decide +kernel
theorem dX5_doubles_104 : decode cX5_doubles 104 = .ok (.istore_n 3, 1) := by decide +kernel
theorem dX5_doubles_105 : decode cX5_doubles 105 = .ok (.iinc 5 1, 3) := by decide +kernel
theorem dX5_doubles_108 : decode cX5_doubles 108 = .ok (.goto (-60), 3) := by decide +kernel
theorem dX5_doubles_111 : decode cX5_doubles 111 = .ok (.iinc 4 1, 3) := by decide +kernel
theorem dX5_doubles_114 : decode cX5_doubles 114 = .ok (.goto (-84), 3) := by decide +kernel
theorem dX5_doubles_117 : decode cX5_doubles 117 = .ok (.iload_n 1, 1) := by decide +kernel
theorem dX5_doubles_118 : decode cX5_doubles 118 = .ok (.ifCond .ne 7, 3) := by decide +kernel
theorem dX5_doubles_121 : decode cX5_doubles 121 = .ok (.iload_n 2, 1) := by decide +kernel
theorem dX5_doubles_122 : decode cX5_doubles 122 = .ok (.goto 4, 3) := by decide +kernel
theorem dX5_doubles_125 : decode cX5_doubles 125 = .ok (.iload_n 3, 1) := by decide +kernel
theorem dX5_doubles_126 : decode cX5_doubles 126 = .ok (.ireturn, 1) := by decide +kernel
set_option maxRecDepth 20000 in
theorem ggX5_who_X5_isSwan : GoodIn wsX5_who wsX5_isSwan := goodIn_r _ [10, 4, 11, 12, 13, 9, 14, 103, 104, 105, 106, 107, 108, 109, 110, 111, 112, 113, 114, 115, 116, 117, 118, 119, 120, 121, 122] (by decide +kernel) (by decide +kernel)
set_option maxRecDepth 20000 in
theorem gX5_who_X5_isSwan : GoodIn wsX5_who (wsV RX5 164 RX5 yX5_isSwan wsX5_isSwan) := goodIn_app (goodIn_of _ (by decide +kernel)) ggX5_who_X5_isSwan
set_option maxRecDepth 20000 in
theorem ggX5_who_X5_within : GoodIn wsX5_who wsX5_within := goodIn_r _ [14] (by decide +kernel) (by decide +kernel)
set_option maxRecDepth 20000 in
theorem gX5_who_X5_within : GoodIn wsX5_who (va_wsS RX5 54 yX5_within wsX5_within) := goodIn_app (goodIn_of _ (by decide +kernel)) ggX5_who_X5_within
set_option maxRecDepth 20000 in
theorem ggX5_who_X3_findingAt : GoodIn wsX5_who wsX3_findingAt := goodIn_r _ [19, 20, 21, 22, 18, 23, 24, 25, 26, 27, 28, 123, 124, 125] (by decide +kernel) (by decide +kernel)
set_option maxRecDepth 20000 in
theorem gX5_who_X3_findingAt : GoodIn wsX5_who (wsV RX5 71 RX3 yX3_findingAt wsX3_findingAt) := goodIn_app (goodIn_of _ (by decide +kernel)) ggX5_who_X3_findingAt
set_option maxRecDepth 20000 in
theorem ggX5_who_X5_found : GoodIn wsX5_who wsX5_found := goodIn_r _ [32, 3, 33, 103, 104, 105, 106, 107, 108, 109, 110, 111] (by decide +kernel) (by decide +kernel)
set_option maxRecDepth 20000 in
theorem gX5_who_X5_found : GoodIn wsX5_who (wsV RX5 59 RX5 yX5_found wsX5_found) := goodIn_app (goodIn_of _ (by decide +kernel)) ggX5_who_X5_found
set_option maxRecDepth 20000 in
theorem ggX5_who_X5_suppose : GoodIn wsX5_who wsX5_suppose := goodIn_r _ [37, 38, 4, 39, 40, 41, 42, 43, 44, 45, 46, 47, 48, 49, 50, 51, 52, 53, 54, 55, 56, 57, 103, 104, 105, 106, 107, 108, 109, 110, 111, 112, 113, 114, 115, 116, 117, 118, 119, 120, 121, 122] (by decide +kernel) (by decide +kernel)
set_option maxRecDepth 20000 in
theorem gX5_who_X5_suppose : GoodIn wsX5_who (wsV RX5 213 RX5 yX5_suppose wsX5_suppose) := goodIn_app (goodIn_of _ (by decide +kernel)) ggX5_who_X5_suppose
set_option maxRecDepth 20000 in
theorem ggX5_who_X5_trialFits : GoodIn wsX5_who wsX5_trialFits := goodIn_r _ [61, 38, 40, 2, 62, 63, 64, 45, 65, 48, 54, 51, 57, 49, 66, 67, 68, 69, 52, 70, 71, 72, 73, 47, 50, 74, 75, 76, 77, 78, 79, 80, 81, 82, 83, 84, 85, 86, 87, 88, 89, 90, 91, 92, 93, 56, 94, 95, 96, 97, 55, 98, 99, 100, 18, 101, 102, 103, 104, 105, 106, 107, 108, 109, 110, 111, 112, 113, 114, 115, 116, 117, 118, 119, 120, 121, 122, 123, 124, 125] (by decide +kernel) (by decide +kernel)
set_option maxRecDepth 20000 in
theorem gX5_who_X5_trialFits : GoodIn wsX5_who (wsV RX5 216 RX5 yX5_trialFits wsX5_trialFits) := goodIn_app (goodIn_of _ (by decide +kernel)) ggX5_who_X5_trialFits
theorem dX5_who_0 : decode cX5_who 0 = .ok (.aload_n 0, 1) := by decide +kernel
theorem dX5_who_1 : decode cX5_who 1 = .ok (.iload_n 1, 1) := by decide +kernel
theorem dX5_who_2 : decode cX5_who 2 = .ok (.invokevirtual 164, 3) := by decide +kernel
theorem dX5_who_5 : decode cX5_who 5 = .ok (.ifCond .eq 20, 3) := by decide +kernel
theorem dX5_who_8 : decode cX5_who 8 = .ok (.iload_n 2, 1) := by decide +kernel
theorem dX5_who_9 : decode cX5_who 9 = .ok (.iconst 0, 1) := by decide +kernel
theorem dX5_who_10 : decode cX5_who 10 = .ok (.iconst 2, 1) := by decide +kernel
theorem dX5_who_11 : decode cX5_who 11 = .ok (.invokestatic 54, 3) := by decide +kernel
theorem dX5_who_14 : decode cX5_who 14 = .ok (.ifCond .eq 11, 3) := by decide +kernel
theorem dX5_who_17 : decode cX5_who 17 = .ok (.aload_n 0, 1) := by decide +kernel
theorem dX5_who_18 : decode cX5_who 18 = .ok (.iload_n 3, 1) := by decide +kernel
theorem dX5_who_19 : decode cX5_who 19 = .ok (.invokevirtual 164, 3) := by decide +kernel
theorem dX5_who_22 : decode cX5_who 22 = .ok (.ifCond .ne 6, 3) := by decide +kernel
theorem dX5_who_25 : decode cX5_who 25 = .ok (.ldc 58, 2) := by decide +kernel
theorem dX5_who_27 : decode cX5_who 27 = .ok (.ireturn, 1) := by decide +kernel
theorem dX5_who_28 : decode cX5_who 28 = .ok (.iload 4, 2) := by decide +kernel
theorem dX5_who_30 : decode cX5_who 30 = .ok (.iconst 0, 1) := by decide +kernel
theorem dX5_who_31 : decode cX5_who 31 = .ok (.bipush 7, 2) := by decide +kernel
theorem dX5_who_33 : decode cX5_who 33 = .ok (.invokestatic 54, 3) := by decide +kernel
theorem dX5_who_36 : decode cX5_who 36 = .ok (.ifCond .eq 14, 3) := by decide +kernel
theorem dX5_who_39 : decode cX5_who 39 = .ok (.iload 6, 2) := by decide +kernel
theorem dX5_who_41 : decode cX5_who 41 = .ok (.iconst 1, 1) := by decide +kernel
theorem dX5_who_42 : decode cX5_who 42 = .ok (.bipush 12, 2) := by decide +kernel
theorem dX5_who_44 : decode cX5_who 44 = .ok (.invokestatic 54, 3) := by decide +kernel
theorem dX5_who_47 : decode cX5_who 47 = .ok (.ifCond .ne 6, 3) := by decide +kernel
theorem dX5_who_50 : decode cX5_who 50 = .ok (.ldc 58, 2) := by decide +kernel
theorem dX5_who_52 : decode cX5_who 52 = .ok (.ireturn, 1) := by decide +kernel
theorem dX5_who_53 : decode cX5_who 53 = .ok (.aload_n 0, 1) := by decide +kernel
theorem dX5_who_54 : decode cX5_who 54 = .ok (.getfield 10, 3) := by decide +kernel
theorem dX5_who_57 : decode cX5_who 57 = .ok (.iload 4, 2) := by decide +kernel
theorem dX5_who_59 : decode cX5_who 59 = .ok (.iload 5, 2) := by decide +kernel
theorem dX5_who_61 : decode cX5_who 61 = .ok (.iload 6, 2) := by decide +kernel
theorem dX5_who_63 : decode cX5_who 63 = .ok (.invokevirtual 71, 3) := by decide +kernel
theorem dX5_who_66 : decode cX5_who 66 = .ok (.istore 7, 2) := by decide +kernel
theorem dX5_who_68 : decode cX5_who 68 = .ok (.iload 7, 2) := by decide +kernel
theorem dX5_who_70 : decode cX5_who 70 = .ok (.ifCond .eq 10, 3) := by decide +kernel
theorem dX5_who_73 : decode cX5_who 73 = .ok (.aload_n 0, 1) := by decide +kernel
theorem dX5_who_74 : decode cX5_who 74 = .ok (.iload 7, 2) := by decide +kernel
theorem dX5_who_76 : decode cX5_who 76 = .ok (.invokevirtual 59, 3) := by decide +kernel
theorem dX5_who_79 : decode cX5_who 79 = .ok (.ireturn, 1) := by decide +kernel
theorem dX5_who_80 : decode cX5_who 80 = .ok (.aload_n 0, 1) := by decide +kernel
theorem dX5_who_81 : decode cX5_who 81 = .ok (.iconst 0, 1) := by decide +kernel
theorem dX5_who_82 : decode cX5_who 82 = .ok (.putfield 63, 3) := by decide +kernel
theorem dX5_who_85 : decode cX5_who 85 = .ok (.iload_n 2, 1) := by decide +kernel
theorem dX5_who_86 : decode cX5_who 86 = .ok (.iconst 1, 1) := by decide +kernel
theorem dX5_who_87 : decode cX5_who 87 = .ok (.if_icmp .ne 7, 3) := by decide +kernel
theorem dX5_who_90 : decode cX5_who 90 = .ok (.iconst 0, 1) := by decide +kernel
theorem dX5_who_91 : decode cX5_who 91 = .ok (.goto 4, 3) := by decide +kernel
theorem dX5_who_94 : decode cX5_who 94 = .ok (.iconst 1, 1) := by decide +kernel
theorem dX5_who_95 : decode cX5_who 95 = .ok (.istore 8, 2) := by decide +kernel
theorem dX5_who_97 : decode cX5_who 97 = .ok (.iload_n 2, 1) := by decide +kernel
theorem dX5_who_98 : decode cX5_who 98 = .ok (.ifCond .ne 7, 3) := by decide +kernel
theorem dX5_who_101 : decode cX5_who 101 = .ok (.iconst 5, 1) := by decide +kernel
theorem dX5_who_102 : decode cX5_who 102 = .ok (.goto 22, 3) := by decide +kernel
theorem dX5_who_105 : decode cX5_who 105 = .ok (.iload_n 2, 1) := by decide +kernel
theorem dX5_who_106 : decode cX5_who 106 = .ok (.iconst 1, 1) := by decide +kernel
theorem dX5_who_107 : decode cX5_who 107 = .ok (.if_icmp .ne 15, 3) := by decide +kernel
theorem dX5_who_110 : decode cX5_who 110 = .ok (.aload_n 0, 1) := by decide +kernel
theorem dX5_who_111 : decode cX5_who 111 = .ok (.getfield 40, 3) := by decide +kernel
theorem dX5_who_114 : decode cX5_who 114 = .ok (.getfield 207, 3) := by decide +kernel
theorem dX5_who_117 : decode cX5_who 117 = .ok (.iconst 1, 1) := by decide +kernel
theorem dX5_who_118 : decode cX5_who 118 = .ok (.isub, 1) := by decide +kernel
theorem dX5_who_119 : decode cX5_who 119 = .ok (.goto 5, 3) := by decide +kernel
theorem dX5_who_122 : decode cX5_who 122 = .ok (.bipush 9, 2) := by decide +kernel
theorem dX5_who_124 : decode cX5_who 124 = .ok (.istore 9, 2) := by decide +kernel
theorem dX5_who_126 : decode cX5_who 126 = .ok (.iconst 0, 1) := by decide +kernel
theorem dX5_who_127 : decode cX5_who 127 = .ok (.istore 10, 2) := by decide +kernel
theorem dX5_who_129 : decode cX5_who 129 = .ok (.iload 8, 2) := by decide +kernel
theorem dX5_who_131 : decode cX5_who 131 = .ok (.istore 11, 2) := by decide +kernel
theorem dX5_who_133 : decode cX5_who 133 = .ok (.iload 11, 2) := by decide +kernel
theorem dX5_who_135 : decode cX5_who 135 = .ok (.iload 9, 2) := by decide +kernel
theorem dX5_who_137 : decode cX5_who 137 = .ok (.if_icmp .gt 40, 3) := by decide +kernel
theorem dX5_who_140 : decode cX5_who 140 = .ok (.aload_n 0, 1) := by decide +kernel
theorem dX5_who_141 : decode cX5_who 141 = .ok (.iload_n 1, 1) := by decide +kernel
theorem dX5_who_142 : decode cX5_who 142 = .ok (.iload_n 2, 1) := by decide +kernel
theorem dX5_who_143 : decode cX5_who 143 = .ok (.iload 11, 2) := by decide +kernel
theorem dX5_who_145 : decode cX5_who 145 = .ok (.invokevirtual 213, 3) := by decide +kernel
theorem dX5_who_148 : decode cX5_who 148 = .ok (.aload_n 0, 1) := by decide +kernel
theorem dX5_who_149 : decode cX5_who 149 = .ok (.iload_n 3, 1) := by decide +kernel
theorem dX5_who_150 : decode cX5_who 150 = .ok (.iload 4, 2) := by decide +kernel
theorem dX5_who_152 : decode cX5_who 152 = .ok (.iload 5, 2) := by decide +kernel
theorem dX5_who_154 : decode cX5_who 154 = .ok (.iload 6, 2) := by decide +kernel
theorem dX5_who_156 : decode cX5_who 156 = .ok (.invokevirtual 216, 3) := by decide +kernel
theorem dX5_who_159 : decode cX5_who 159 = .ok (.ifCond .eq 12, 3) := by decide +kernel
theorem dX5_who_162 : decode cX5_who 162 = .ok (.iload 10, 2) := by decide +kernel
theorem dX5_who_164 : decode cX5_who 164 = .ok (.iconst 1, 1) := by decide +kernel
theorem dX5_who_165 : decode cX5_who 165 = .ok (.iload 11, 2) := by decide +kernel
theorem dX5_who_167 : decode cX5_who 167 = .ok (.ishl, 1) := by decide +kernel
theorem dX5_who_168 : decode cX5_who 168 = .ok (.ior, 1) := by decide +kernel
theorem dX5_who_169 : decode cX5_who 169 = .ok (.istore 10, 2) := by decide +kernel
theorem dX5_who_171 : decode cX5_who 171 = .ok (.iinc 11 1, 3) := by decide +kernel
theorem dX5_who_174 : decode cX5_who 174 = .ok (.goto (-41), 3) := by decide +kernel
theorem dX5_who_177 : decode cX5_who 177 = .ok (.iload 10, 2) := by decide +kernel
theorem dX5_who_179 : decode cX5_who 179 = .ok (.ireturn, 1) := by decide +kernel
set_option maxRecDepth 20000 in
theorem ggX5_which_X5_hasRiver : GoodIn wsX5_which wsX5_hasRiver := goodIn_r _ [12, 5, 13, 98, 99, 100, 101, 102, 103, 104, 105, 106, 107, 108, 109, 110, 111, 112, 113, 114, 115, 116, 117] (by decide +kernel) (by decide +kernel)
set_option maxRecDepth 20000 in
theorem gX5_which_X5_hasRiver : GoodIn wsX5_which (wsV RX5 130 RX5 yX5_hasRiver wsX5_hasRiver) := goodIn_app (goodIn_of _ (by decide +kernel)) ggX5_which_X5_hasRiver
set_option maxRecDepth 20000 in
theorem ggX5_which_X5_within : GoodIn wsX5_which wsX5_within := goodIn_r _ [16] (by decide +kernel) (by decide +kernel)
set_option maxRecDepth 20000 in
theorem gX5_which_X5_within : GoodIn wsX5_which (va_wsS RX5 54 yX5_within wsX5_within) := goodIn_app (goodIn_of _ (by decide +kernel)) ggX5_which_X5_within
set_option maxRecDepth 20000 in
theorem ggX5_which_X3_findingAt : GoodIn wsX5_which wsX3_findingAt := goodIn_r _ [21, 22, 23, 24, 20, 25, 26, 27, 28, 29, 30, 118, 119, 120] (by decide +kernel) (by decide +kernel)
set_option maxRecDepth 20000 in
theorem gX5_which_X3_findingAt : GoodIn wsX5_which (wsV RX5 71 RX3 yX3_findingAt wsX3_findingAt) := goodIn_app (goodIn_of _ (by decide +kernel)) ggX5_which_X3_findingAt
set_option maxRecDepth 20000 in
theorem ggX5_which_X5_found : GoodIn wsX5_which wsX5_found := goodIn_r _ [34, 4, 35, 98, 99, 100, 101, 102, 103, 104, 105, 106] (by decide +kernel) (by decide +kernel)
set_option maxRecDepth 20000 in
theorem gX5_which_X5_found : GoodIn wsX5_which (wsV RX5 59 RX5 yX5_found wsX5_found) := goodIn_app (goodIn_of _ (by decide +kernel)) ggX5_which_X5_found
set_option maxRecDepth 20000 in
theorem ggX5_which_X2_become : GoodIn wsX5_which wsX2_become := goodIn_r _ [40, 41, 42, 43, 44, 45, 46, 47, 48, 49, 50, 51, 107, 108, 109, 110, 111, 112, 113, 114, 115, 116, 117] (by decide +kernel) (by decide +kernel)
set_option maxRecDepth 20000 in
theorem gX5_which_X2_become : GoodIn wsX5_which (wsV RX5 110 RX2 yX2_become wsX2_become) := goodIn_app (goodIn_of _ (by decide +kernel)) ggX5_which_X2_become
set_option maxRecDepth 20000 in
theorem ggX5_which_X5_trialFits : GoodIn wsX5_which wsX5_trialFits := goodIn_r _ [55, 7, 56, 3, 57, 58, 59, 39, 60, 42, 48, 45, 51, 43, 61, 62, 63, 64, 46, 65, 66, 67, 68, 41, 44, 69, 70, 71, 72, 73, 74, 75, 76, 77, 78, 79, 80, 81, 82, 83, 84, 85, 86, 87, 88, 50, 89, 90, 91, 92, 49, 93, 94, 95, 20, 96, 97, 98, 99, 100, 101, 102, 103, 104, 105, 106, 107, 108, 109, 110, 111, 112, 113, 114, 115, 116, 117, 118, 119, 120] (by decide +kernel) (by decide +kernel)
set_option maxRecDepth 20000 in
theorem gX5_which_X5_trialFits : GoodIn wsX5_which (wsV RX5 216 RX5 yX5_trialFits wsX5_trialFits) := goodIn_app (goodIn_of _ (by decide +kernel)) ggX5_which_X5_trialFits
theorem dX5_which_0 : decode cX5_which 0 = .ok (.aload_n 0, 1) := by decide +kernel
theorem dX5_which_1 : decode cX5_which 1 = .ok (.invokevirtual 130, 3) := by decide +kernel
theorem dX5_which_4 : decode cX5_which 4 = .ok (.ifCond .ne 6, 3) := by decide +kernel
theorem dX5_which_7 : decode cX5_which 7 = .ok (.ldc 129, 2) := by decide +kernel
theorem dX5_which_9 : decode cX5_which 9 = .ok (.ireturn, 1) := by decide +kernel
theorem dX5_which_10 : decode cX5_which 10 = .ok (.iload_n 1, 1) := by decide +kernel
theorem dX5_which_11 : decode cX5_which 11 = .ok (.iconst 0, 1) := by decide +kernel
theorem dX5_which_12 : decode cX5_which 12 = .ok (.bipush 7, 2) := by decide +kernel
theorem dX5_which_14 : decode cX5_which 14 = .ok (.invokestatic 54, 3) := by decide +kernel
theorem dX5_which_17 : decode cX5_which 17 = .ok (.ifCond .eq 13, 3) := by decide +kernel
theorem dX5_which_20 : decode cX5_which 20 = .ok (.iload_n 3, 1) := by decide +kernel
theorem dX5_which_21 : decode cX5_which 21 = .ok (.iconst 1, 1) := by decide +kernel
theorem dX5_which_22 : decode cX5_which 22 = .ok (.bipush 12, 2) := by decide +kernel
theorem dX5_which_24 : decode cX5_which 24 = .ok (.invokestatic 54, 3) := by decide +kernel
theorem dX5_which_27 : decode cX5_which 27 = .ok (.ifCond .ne 6, 3) := by decide +kernel
theorem dX5_which_30 : decode cX5_which 30 = .ok (.ldc 58, 2) := by decide +kernel
theorem dX5_which_32 : decode cX5_which 32 = .ok (.ireturn, 1) := by decide +kernel
theorem dX5_which_33 : decode cX5_which 33 = .ok (.aload_n 0, 1) := by decide +kernel
theorem dX5_which_34 : decode cX5_which 34 = .ok (.getfield 10, 3) := by decide +kernel
theorem dX5_which_37 : decode cX5_which 37 = .ok (.iload_n 1, 1) := by decide +kernel
theorem dX5_which_38 : decode cX5_which 38 = .ok (.iload_n 2, 1) := by decide +kernel
theorem dX5_which_39 : decode cX5_which 39 = .ok (.iload_n 3, 1) := by decide +kernel
theorem dX5_which_40 : decode cX5_which 40 = .ok (.invokevirtual 71, 3) := by decide +kernel
theorem dX5_which_43 : decode cX5_which 43 = .ok (.istore 4, 2) := by decide +kernel
theorem dX5_which_45 : decode cX5_which 45 = .ok (.iload 4, 2) := by decide +kernel
theorem dX5_which_47 : decode cX5_which 47 = .ok (.ifCond .eq 10, 3) := by decide +kernel
theorem dX5_which_50 : decode cX5_which 50 = .ok (.aload_n 0, 1) := by decide +kernel
theorem dX5_which_51 : decode cX5_which 51 = .ok (.iload 4, 2) := by decide +kernel
theorem dX5_which_53 : decode cX5_which 53 = .ok (.invokevirtual 59, 3) := by decide +kernel
theorem dX5_which_56 : decode cX5_which 56 = .ok (.ireturn, 1) := by decide +kernel
theorem dX5_which_57 : decode cX5_which 57 = .ok (.aload_n 0, 1) := by decide +kernel
theorem dX5_which_58 : decode cX5_which 58 = .ok (.iconst 0, 1) := by decide +kernel
theorem dX5_which_59 : decode cX5_which 59 = .ok (.putfield 63, 3) := by decide +kernel
theorem dX5_which_62 : decode cX5_which 62 = .ok (.iconst 0, 1) := by decide +kernel
theorem dX5_which_63 : decode cX5_which 63 = .ok (.istore 5, 2) := by decide +kernel
theorem dX5_which_65 : decode cX5_which 65 = .ok (.iconst 0, 1) := by decide +kernel
theorem dX5_which_66 : decode cX5_which 66 = .ok (.istore 6, 2) := by decide +kernel
theorem dX5_which_68 : decode cX5_which 68 = .ok (.iload 6, 2) := by decide +kernel
theorem dX5_which_70 : decode cX5_which 70 = .ok (.aload_n 0, 1) := by decide +kernel
theorem dX5_which_71 : decode cX5_which 71 = .ok (.getfield 40, 3) := by decide +kernel
theorem dX5_which_74 : decode cX5_which 74 = .ok (.getfield 117, 3) := by decide +kernel
theorem dX5_which_77 : decode cX5_which 77 = .ok (.if_icmp .ge 41, 3) := by decide +kernel
theorem dX5_which_80 : decode cX5_which 80 = .ok (.aload_n 0, 1) := by decide +kernel
theorem dX5_which_81 : decode cX5_which 81 = .ok (.getfield 44, 3) := by decide +kernel
theorem dX5_which_84 : decode cX5_which 84 = .ok (.aload_n 0, 1) := by decide +kernel
theorem dX5_which_85 : decode cX5_which 85 = .ok (.getfield 40, 3) := by decide +kernel
theorem dX5_which_88 : decode cX5_which 88 = .ok (.invokevirtual 110, 3) := by decide +kernel
theorem dX5_which_91 : decode cX5_which 91 = .ok (.aload_n 0, 1) := by decide +kernel
theorem dX5_which_92 : decode cX5_which 92 = .ok (.iload 6, 2) := by decide +kernel
theorem dX5_which_94 : decode cX5_which 94 = .ok (.iload_n 1, 1) := by decide +kernel
theorem dX5_which_95 : decode cX5_which 95 = .ok (.iload_n 2, 1) := by decide +kernel
theorem dX5_which_96 : decode cX5_which 96 = .ok (.iload_n 3, 1) := by decide +kernel
theorem dX5_which_97 : decode cX5_which 97 = .ok (.invokevirtual 216, 3) := by decide +kernel
theorem dX5_which_100 : decode cX5_which 100 = .ok (.ifCond .eq 12, 3) := by decide +kernel
theorem dX5_which_103 : decode cX5_which 103 = .ok (.iload 5, 2) := by decide +kernel
theorem dX5_which_105 : decode cX5_which 105 = .ok (.iconst 1, 1) := by decide +kernel
theorem dX5_which_106 : decode cX5_which 106 = .ok (.iload 6, 2) := by decide +kernel
theorem dX5_which_108 : decode cX5_which 108 = .ok (.ishl, 1) := by decide +kernel
theorem dX5_which_109 : decode cX5_which 109 = .ok (.ior, 1) := by decide +kernel
theorem dX5_which_110 : decode cX5_which 110 = .ok (.istore 5, 2) := by decide +kernel
theorem dX5_which_112 : decode cX5_which 112 = .ok (.iinc 6 1, 3) := by decide +kernel
theorem dX5_which_115 : decode cX5_which 115 = .ok (.goto (-47), 3) := by decide +kernel
theorem dX5_which_118 : decode cX5_which 118 = .ok (.iload 5, 2) := by decide +kernel
theorem dX5_which_120 : decode cX5_which 120 = .ok (.ireturn, 1) := by decide +kernel
set_option maxRecDepth 20000 in
theorem ggX5_hungry_X5_hasRiver : GoodIn wsX5_hungry wsX5_hasRiver := goodIn_r _ [10, 11, 12, 76, 77, 78, 79, 80, 81, 82, 83, 84, 85, 86, 87, 88, 89, 90, 91, 92, 93, 94, 95] (by decide +kernel) (by decide +kernel)
set_option maxRecDepth 20000 in
theorem gX5_hungry_X5_hasRiver : GoodIn wsX5_hungry (wsV RX5 130 RX5 yX5_hasRiver wsX5_hasRiver) := goodIn_app (goodIn_of _ (by decide +kernel)) ggX5_hungry_X5_hasRiver
set_option maxRecDepth 20000 in
theorem ggX5_hungry_X5_within : GoodIn wsX5_hungry wsX5_within := goodIn_r _ [15] (by decide +kernel) (by decide +kernel)
set_option maxRecDepth 20000 in
theorem gX5_hungry_X5_within : GoodIn wsX5_hungry (va_wsS RX5 54 yX5_within wsX5_within) := goodIn_app (goodIn_of _ (by decide +kernel)) ggX5_hungry_X5_within
set_option maxRecDepth 20000 in
theorem ggX5_hungry_X5_foretell : GoodIn wsX5_hungry wsX5_foretell := goodIn_r _ [19, 3, 11, 20, 21, 22, 23, 24, 25, 26, 27, 28, 29, 30, 31, 32, 33, 34, 35, 36, 37, 38, 39, 40, 41, 42, 43, 44, 45, 46, 47, 48, 49, 50, 51, 52, 53, 54, 55, 56, 57, 58, 59, 60, 61, 62, 63, 64, 65, 66, 67, 68, 69, 70, 71, 72, 73, 74, 75, 76, 77, 78, 79, 80, 81, 82, 83, 84, 85, 86, 87, 88, 89, 90, 91, 92, 93, 94, 95] (by decide +kernel) (by decide +kernel)
set_option maxRecDepth 20000 in
theorem gX5_hungry_X5_foretell : GoodIn wsX5_hungry (wsV RX5 189 RX5 yX5_foretell wsX5_foretell) := goodIn_app (goodIn_of _ (by decide +kernel)) ggX5_hungry_X5_foretell
theorem dX5_hungry_0 : decode cX5_hungry 0 = .ok (.aload_n 0, 1) := by decide +kernel
theorem dX5_hungry_1 : decode cX5_hungry 1 = .ok (.invokevirtual 130, 3) := by decide +kernel
theorem dX5_hungry_4 : decode cX5_hungry 4 = .ok (.ifCond .ne 6, 3) := by decide +kernel
theorem dX5_hungry_7 : decode cX5_hungry 7 = .ok (.ldc 129, 2) := by decide +kernel
theorem dX5_hungry_9 : decode cX5_hungry 9 = .ok (.ireturn, 1) := by decide +kernel
theorem dX5_hungry_10 : decode cX5_hungry 10 = .ok (.iload_n 1, 1) := by decide +kernel
theorem dX5_hungry_11 : decode cX5_hungry 11 = .ok (.iconst 1, 1) := by decide +kernel
theorem dX5_hungry_12 : decode cX5_hungry 12 = .ok (.bipush 60, 2) := by decide +kernel
theorem dX5_hungry_14 : decode cX5_hungry 14 = .ok (.invokestatic 54, 3) := by decide +kernel
theorem dX5_hungry_17 : decode cX5_hungry 17 = .ok (.ifCond .ne 6, 3) := by decide +kernel
theorem dX5_hungry_20 : decode cX5_hungry 20 = .ok (.ldc 58, 2) := by decide +kernel
theorem dX5_hungry_22 : decode cX5_hungry 22 = .ok (.ireturn, 1) := by decide +kernel
theorem dX5_hungry_23 : decode cX5_hungry 23 = .ok (.aload_n 0, 1) := by decide +kernel
theorem dX5_hungry_24 : decode cX5_hungry 24 = .ok (.iload_n 1, 1) := by decide +kernel
theorem dX5_hungry_25 : decode cX5_hungry 25 = .ok (.invokevirtual 189, 3) := by decide +kernel
theorem dX5_hungry_28 : decode cX5_hungry 28 = .ok (.iconst 1, 1) := by decide +kernel
theorem dX5_hungry_29 : decode cX5_hungry 29 = .ok (.aload_n 0, 1) := by decide +kernel
theorem dX5_hungry_30 : decode cX5_hungry 30 = .ok (.getfield 44, 3) := by decide +kernel
theorem dX5_hungry_33 : decode cX5_hungry 33 = .ok (.getfield 117, 3) := by decide +kernel
theorem dX5_hungry_36 : decode cX5_hungry 36 = .ok (.ishl, 1) := by decide +kernel
theorem dX5_hungry_37 : decode cX5_hungry 37 = .ok (.iconst 1, 1) := by decide +kernel
theorem dX5_hungry_38 : decode cX5_hungry 38 = .ok (.isub, 1) := by decide +kernel
theorem dX5_hungry_39 : decode cX5_hungry 39 = .ok (.aload_n 0, 1) := by decide +kernel
theorem dX5_hungry_40 : decode cX5_hungry 40 = .ok (.getfield 44, 3) := by decide +kernel
theorem dX5_hungry_43 : decode cX5_hungry 43 = .ok (.getfield 220, 3) := by decide +kernel
theorem dX5_hungry_46 : decode cX5_hungry 46 = .ok (.iconst (-1), 1) := by decide +kernel
theorem dX5_hungry_47 : decode cX5_hungry 47 = .ok (.ixor, 1) := by decide +kernel
theorem dX5_hungry_48 : decode cX5_hungry 48 = .ok (.iand, 1) := by decide +kernel
theorem dX5_hungry_49 : decode cX5_hungry 49 = .ok (.ireturn, 1) := by decide +kernel
set_option maxRecDepth 20000 in
theorem ggX5_sink_X5_isSwan : GoodIn wsX5_sink wsX5_isSwan := goodIn_r _ [13, 2, 14, 15, 16, 12, 17, 101, 102, 103, 104, 105, 106, 107, 108, 109, 110, 111, 112, 113, 114, 115, 116, 117, 118, 119, 120] (by decide +kernel) (by decide +kernel)
set_option maxRecDepth 20000 in
theorem gX5_sink_X5_isSwan : GoodIn wsX5_sink (wsV RX5 164 RX5 yX5_isSwan wsX5_isSwan) := goodIn_app (goodIn_of _ (by decide +kernel)) ggX5_sink_X5_isSwan
set_option maxRecDepth 20000 in
theorem ggX5_sink_X5_isLawn : GoodIn wsX5_sink wsX5_isLawn := goodIn_r _ [21, 2, 3, 15, 16, 12, 17, 101, 102, 103, 104, 105, 106, 107, 108, 109, 110, 111, 112, 113, 114, 115, 116, 117, 118, 119, 120] (by decide +kernel) (by decide +kernel)
set_option maxRecDepth 20000 in
theorem gX5_sink_X5_isLawn : GoodIn wsX5_sink (wsV RX5 147 RX5 yX5_isLawn wsX5_isLawn) := goodIn_app (goodIn_of _ (by decide +kernel)) ggX5_sink_X5_isLawn
set_option maxRecDepth 20000 in
theorem ggX5_sink_X5_within : GoodIn wsX5_sink wsX5_within := goodIn_r _ [17] (by decide +kernel) (by decide +kernel)
set_option maxRecDepth 20000 in
theorem gX5_sink_X5_within : GoodIn wsX5_sink (va_wsS RX5 54 yX5_within wsX5_within) := goodIn_app (goodIn_of _ (by decide +kernel)) ggX5_sink_X5_within
set_option maxRecDepth 20000 in
theorem ggX5_sink_X5_comesBySinking : GoodIn wsX5_sink wsX5_comesBySinking := goodIn_r _ [25, 2, 26, 3, 27, 28, 29, 30, 31, 32, 33, 34, 35, 36, 37, 38, 39, 40, 41, 42, 43, 44, 45, 46, 47, 48, 49, 50, 51, 52, 53, 54, 55, 56, 57, 58, 59, 60, 61, 62, 63, 64, 65, 66, 67, 68, 69, 70, 71, 72, 73, 74, 75, 76, 77, 78, 79, 80, 81, 82, 83, 84, 101, 102, 103, 104, 105, 106, 107, 108, 109, 110, 111, 112, 113, 114, 115, 116, 117, 118, 119, 120] (by decide +kernel) (by decide +kernel)
set_option maxRecDepth 20000 in
theorem gX5_sink_X5_comesBySinking : GoodIn wsX5_sink (wsV RX5 225 RX5 yX5_comesBySinking wsX5_comesBySinking) := goodIn_app (goodIn_of _ (by decide +kernel)) ggX5_sink_X5_comesBySinking
set_option maxRecDepth 20000 in
theorem ggX5_sink_X5_casesOf : GoodIn wsX5_sink wsX5_casesOf := goodIn_r _ [88, 2, 89, 90, 71, 91, 92, 93, 94, 29, 30, 31, 32, 33, 34, 35, 95, 96, 12, 97, 101, 102, 103, 104, 105, 106, 107, 108, 109, 110, 111, 112, 113, 114, 115, 116, 117, 118, 119, 120] (by decide +kernel) (by decide +kernel)
set_option maxRecDepth 20000 in
theorem gX5_sink_X5_casesOf : GoodIn wsX5_sink (wsV RX5 228 RX5 yX5_casesOf wsX5_casesOf) := goodIn_app (goodIn_of _ (by decide +kernel)) ggX5_sink_X5_casesOf
set_option maxRecDepth 20000 in
theorem ggX5_sink_X2_breadLawns : GoodIn wsX5_sink wsX2_breadLawns := goodIn_r _ [33, 34, 35, 110, 111, 112, 113, 114, 115, 116, 117, 118, 119, 120] (by decide +kernel) (by decide +kernel)
set_option maxRecDepth 20000 in
theorem gX5_sink_X2_breadLawns : GoodIn wsX5_sink (wsV RX5 234 RX2 yX2_breadLawns wsX2_breadLawns) := goodIn_app (goodIn_of _ (by decide +kernel)) ggX5_sink_X2_breadLawns
set_option maxRecDepth 20000 in
theorem ggX5_sink_J6_bitCount_0f7a4 : GoodIn wsX5_sink wsJ6_bitCount_0f7a4 := goodIn_r _ [91, 92, 93, 94] (by decide +kernel) (by decide +kernel)
set_option maxRecDepth 20000 in
theorem gX5_sink_J6_bitCount_0f7a4 : GoodIn wsX5_sink (va_wsS RX5 237 yJ6_bitCount_0f7a4 wsJ6_bitCount_0f7a4) := goodIn_app (goodIn_of _ (by decide +kernel)) ggX5_sink_J6_bitCount_0f7a4
set_option maxRecDepth 20000 in
theorem ggX5_sink_X5_power : GoodIn wsX5_sink wsX5_power := goodIn_r _ [97] (by decide +kernel) (by decide +kernel)
set_option maxRecDepth 20000 in
theorem gX5_sink_X5_power : GoodIn wsX5_sink (va_wsS RX5 242 yX5_power wsX5_power) := goodIn_app (goodIn_of _ (by decide +kernel)) ggX5_sink_X5_power
set_option maxRecDepth 20000 in
theorem ggX5_sink_X5_sharedDivisor : GoodIn wsX5_sink wsX5_sharedDivisor := goodIn_r _ [100] (by decide +kernel) (by decide +kernel)
set_option maxRecDepth 20000 in
theorem gX5_sink_X5_sharedDivisor : GoodIn wsX5_sink (va_wsS RX5 246 yX5_sharedDivisor wsX5_sharedDivisor) := goodIn_app (goodIn_of _ (by decide +kernel)) ggX5_sink_X5_sharedDivisor
theorem dX5_sink_0 : decode cX5_sink 0 = .ok (.aload_n 0, 1) := by decide +kernel
theorem dX5_sink_1 : decode cX5_sink 1 = .ok (.iload_n 1, 1) := by decide +kernel
theorem dX5_sink_2 : decode cX5_sink 2 = .ok (.invokevirtual 164, 3) := by decide +kernel
theorem dX5_sink_5 : decode cX5_sink 5 = .ok (.ifCond .eq 31, 3) := by decide +kernel
theorem dX5_sink_8 : decode cX5_sink 8 = .ok (.aload_n 0, 1) := by decide +kernel
theorem dX5_sink_9 : decode cX5_sink 9 = .ok (.iload_n 2, 1) := by decide +kernel
theorem dX5_sink_10 : decode cX5_sink 10 = .ok (.invokevirtual 147, 3) := by decide +kernel
theorem dX5_sink_13 : decode cX5_sink 13 = .ok (.ifCond .eq 23, 3) := by decide +kernel
theorem dX5_sink_16 : decode cX5_sink 16 = .ok (.iload_n 3, 1) := by decide +kernel
theorem dX5_sink_17 : decode cX5_sink 17 = .ok (.iconst 0, 1) := by decide +kernel
theorem dX5_sink_18 : decode cX5_sink 18 = .ok (.bipush 10, 2) := by decide +kernel
theorem dX5_sink_20 : decode cX5_sink 20 = .ok (.invokestatic 54, 3) := by decide +kernel
theorem dX5_sink_23 : decode cX5_sink 23 = .ok (.ifCond .eq 13, 3) := by decide +kernel
theorem dX5_sink_26 : decode cX5_sink 26 = .ok (.iload 4, 2) := by decide +kernel
theorem dX5_sink_28 : decode cX5_sink 28 = .ok (.iconst 0, 1) := by decide +kernel
theorem dX5_sink_29 : decode cX5_sink 29 = .ok (.iconst 1, 1) := by decide +kernel
theorem dX5_sink_30 : decode cX5_sink 30 = .ok (.invokestatic 54, 3) := by decide +kernel
theorem dX5_sink_33 : decode cX5_sink 33 = .ok (.ifCond .ne 7, 3) := by decide +kernel
theorem dX5_sink_36 : decode cX5_sink 36 = .ok (.ldc2_w 223, 3) := by decide +kernel
theorem dX5_sink_39 : decode cX5_sink 39 = .ok (.lreturn, 1) := by decide +kernel
theorem dX5_sink_40 : decode cX5_sink 40 = .ok (.lconst 0, 1) := by decide +kernel
theorem dX5_sink_41 : decode cX5_sink 41 = .ok (.lstore 5, 2) := by decide +kernel
theorem dX5_sink_43 : decode cX5_sink 43 = .ok (.iconst 0, 1) := by decide +kernel
theorem dX5_sink_44 : decode cX5_sink 44 = .ok (.istore 7, 2) := by decide +kernel
theorem dX5_sink_46 : decode cX5_sink 46 = .ok (.iload 7, 2) := by decide +kernel
theorem dX5_sink_48 : decode cX5_sink 48 = .ok (.iconst 1, 1) := by decide +kernel
theorem dX5_sink_49 : decode cX5_sink 49 = .ok (.aload_n 0, 1) := by decide +kernel
theorem dX5_sink_50 : decode cX5_sink 50 = .ok (.getfield 40, 3) := by decide +kernel
theorem dX5_sink_53 : decode cX5_sink 53 = .ok (.getfield 207, 3) := by decide +kernel
theorem dX5_sink_56 : decode cX5_sink 56 = .ok (.ishl, 1) := by decide +kernel
theorem dX5_sink_57 : decode cX5_sink 57 = .ok (.if_icmp .ge 32, 3) := by decide +kernel
theorem dX5_sink_60 : decode cX5_sink 60 = .ok (.aload_n 0, 1) := by decide +kernel
theorem dX5_sink_61 : decode cX5_sink 61 = .ok (.iload 7, 2) := by decide +kernel
theorem dX5_sink_63 : decode cX5_sink 63 = .ok (.iload_n 1, 1) := by decide +kernel
theorem dX5_sink_64 : decode cX5_sink 64 = .ok (.iload_n 2, 1) := by decide +kernel
theorem dX5_sink_65 : decode cX5_sink 65 = .ok (.invokevirtual 225, 3) := by decide +kernel
theorem dX5_sink_68 : decode cX5_sink 68 = .ok (.ifCond .eq 15, 3) := by decide +kernel
theorem dX5_sink_71 : decode cX5_sink 71 = .ok (.lload 5, 2) := by decide +kernel
theorem dX5_sink_73 : decode cX5_sink 73 = .ok (.aload_n 0, 1) := by decide +kernel
theorem dX5_sink_74 : decode cX5_sink 74 = .ok (.iload 7, 2) := by decide +kernel
theorem dX5_sink_76 : decode cX5_sink 76 = .ok (.iload_n 3, 1) := by decide +kernel
theorem dX5_sink_77 : decode cX5_sink 77 = .ok (.invokevirtual 228, 3) := by decide +kernel
theorem dX5_sink_80 : decode cX5_sink 80 = .ok (.ladd, 1) := by decide +kernel
theorem dX5_sink_81 : decode cX5_sink 81 = .ok (.lstore 5, 2) := by decide +kernel
theorem dX5_sink_83 : decode cX5_sink 83 = .ok (.iinc 7 1, 3) := by decide +kernel
theorem dX5_sink_86 : decode cX5_sink 86 = .ok (.goto (-40), 3) := by decide +kernel
theorem dX5_sink_89 : decode cX5_sink 89 = .ok (.ldc2_w 232, 3) := by decide +kernel
theorem dX5_sink_92 : decode cX5_sink 92 = .ok (.aload_n 0, 1) := by decide +kernel
theorem dX5_sink_93 : decode cX5_sink 93 = .ok (.getfield 40, 3) := by decide +kernel
theorem dX5_sink_96 : decode cX5_sink 96 = .ok (.invokevirtual 234, 3) := by decide +kernel
theorem dX5_sink_99 : decode cX5_sink 99 = .ok (.invokestatic 237, 3) := by decide +kernel
theorem dX5_sink_102 : decode cX5_sink 102 = .ok (.invokestatic 242, 3) := by decide +kernel
theorem dX5_sink_105 : decode cX5_sink 105 = .ok (.lstore 7, 2) := by decide +kernel
theorem dX5_sink_107 : decode cX5_sink 107 = .ok (.lconst 1, 1) := by decide +kernel
theorem dX5_sink_108 : decode cX5_sink 108 = .ok (.lload 5, 2) := by decide +kernel
theorem dX5_sink_110 : decode cX5_sink 110 = .ok (.lload 7, 2) := by decide +kernel
theorem dX5_sink_112 : decode cX5_sink 112 = .ok (.invokestatic 246, 3) := by decide +kernel
theorem dX5_sink_115 : decode cX5_sink 115 = .ok (.invokestatic 250, 3) := by decide +kernel
theorem dX5_sink_118 : decode cX5_sink 118 = .ok (.lstore 9, 2) := by decide +kernel
theorem dX5_sink_120 : decode cX5_sink 120 = .ok (.iload 4, 2) := by decide +kernel
theorem dX5_sink_122 : decode cX5_sink 122 = .ok (.ifCond .ne 11, 3) := by decide +kernel
theorem dX5_sink_125 : decode cX5_sink 125 = .ok (.lload 5, 2) := by decide +kernel
theorem dX5_sink_127 : decode cX5_sink 127 = .ok (.lload 9, 2) := by decide +kernel
theorem dX5_sink_129 : decode cX5_sink 129 = .ok (.ldiv, 1) := by decide +kernel
theorem dX5_sink_130 : decode cX5_sink 130 = .ok (.goto 8, 3) := by decide +kernel
theorem dX5_sink_133 : decode cX5_sink 133 = .ok (.lload 7, 2) := by decide +kernel
theorem dX5_sink_135 : decode cX5_sink 135 = .ok (.lload 9, 2) := by decide +kernel
theorem dX5_sink_137 : decode cX5_sink 137 = .ok (.ldiv, 1) := by decide +kernel
theorem dX5_sink_138 : decode cX5_sink 138 = .ok (.lreturn, 1) := by decide +kernel
set_option maxRecDepth 20000 in
theorem ggX5_drawn_X5_hasRiver : GoodIn wsX5_drawn wsX5_hasRiver := goodIn_r _ [15, 5, 8, 97, 98, 99, 100, 101, 102, 103, 104, 105, 106, 107, 108, 109, 110, 111, 112, 113, 114, 115, 116] (by decide +kernel) (by decide +kernel)
set_option maxRecDepth 20000 in
theorem gX5_drawn_X5_hasRiver : GoodIn wsX5_drawn (wsV RX5 130 RX5 yX5_hasRiver wsX5_hasRiver) := goodIn_app (goodIn_of _ (by decide +kernel)) ggX5_drawn_X5_hasRiver
set_option maxRecDepth 20000 in
theorem ggX5_drawn_X5_within : GoodIn wsX5_drawn wsX5_within := goodIn_r _ [18] (by decide +kernel) (by decide +kernel)
set_option maxRecDepth 20000 in
theorem gX5_drawn_X5_within : GoodIn wsX5_drawn (va_wsS RX5 54 yX5_within wsX5_within) := goodIn_app (goodIn_of _ (by decide +kernel)) ggX5_drawn_X5_within
set_option maxRecDepth 20000 in
theorem ggX5_drawn_X2_become : GoodIn wsX5_drawn wsX2_become := goodIn_r _ [23, 24, 25, 26, 27, 28, 29, 30, 31, 32, 33, 34, 106, 107, 108, 109, 110, 111, 112, 113, 114, 115, 116] (by decide +kernel) (by decide +kernel)
set_option maxRecDepth 20000 in
theorem gX5_drawn_X2_become : GoodIn wsX5_drawn (wsV RX5 110 RX2 yX2_become wsX2_become) := goodIn_app (goodIn_of _ (by decide +kernel)) ggX5_drawn_X2_become
set_option maxRecDepth 20000 in
theorem ggX5_drawn_X2_scatter : GoodIn wsX5_drawn wsX2_scatter := goodIn_r _ [38, 28, 39, 40, 41, 42, 106, 107, 108, 109, 110, 111, 112, 113, 114, 115, 116] (by decide +kernel) (by decide +kernel)
set_option maxRecDepth 20000 in
theorem gX5_drawn_X2_scatter : GoodIn wsX5_drawn (wsV RX5 150 RX2 yX2_scatter wsX2_scatter) := goodIn_app (goodIn_of _ (by decide +kernel)) ggX5_drawn_X2_scatter
set_option maxRecDepth 20000 in
theorem ggX5_drawn_X2_passDay : GoodIn wsX5_drawn wsX2_passDay := goodIn_r _ [46, 25, 31, 28, 34, 26, 47, 48, 49, 22, 50, 29, 51, 52, 53, 54, 24, 27, 55, 56, 57, 58, 59, 60, 61, 62, 63, 64, 65, 66, 67, 68, 69, 70, 71, 72, 73, 74, 33, 75, 76, 77, 78, 32, 106, 107, 108, 109, 110, 111, 112, 113, 114, 115, 116] (by decide +kernel) (by decide +kernel)
set_option maxRecDepth 20000 in
theorem gX5_drawn_X2_passDay : GoodIn wsX5_drawn (wsV RX5 140 RX2 yX2_passDay wsX2_passDay) := goodIn_app (goodIn_of _ (by decide +kernel)) ggX5_drawn_X2_passDay
set_option maxRecDepth 20000 in
theorem ggX5_drawn_X2_countElsewhere : GoodIn wsX5_drawn wsX2_countElsewhere := goodIn_r _ [82, 25, 31, 106, 107, 108, 109, 110, 111, 112, 113, 114, 115, 116] (by decide +kernel) (by decide +kernel)
set_option maxRecDepth 20000 in
theorem gX5_drawn_X2_countElsewhere : GoodIn wsX5_drawn (wsV RX5 262 RX2 yX2_countElsewhere wsX2_countElsewhere) := goodIn_app (goodIn_of _ (by decide +kernel)) ggX5_drawn_X2_countElsewhere
set_option maxRecDepth 20000 in
theorem ggX5_drawn_X2_ownerCount : GoodIn wsX5_drawn wsX2_ownerCount := goodIn_r _ [86, 24, 87, 88, 89, 22, 90, 25, 31, 91, 92, 65, 93, 94, 95, 96, 106, 107, 108, 109, 110, 111, 112, 113, 114, 115, 116] (by decide +kernel) (by decide +kernel)
set_option maxRecDepth 20000 in
theorem gX5_drawn_X2_ownerCount : GoodIn wsX5_drawn (wsV RX5 143 RX2 yX2_ownerCount wsX2_ownerCount) := goodIn_app (goodIn_of _ (by decide +kernel)) ggX5_drawn_X2_ownerCount
theorem dX5_drawn_0 : decode cX5_drawn 0 = .ok (.aload_n 0, 1) := by decide +kernel
theorem dX5_drawn_1 : decode cX5_drawn 1 = .ok (.invokevirtual 130, 3) := by decide +kernel
theorem dX5_drawn_4 : decode cX5_drawn 4 = .ok (.ifCond .ne 6, 3) := by decide +kernel
theorem dX5_drawn_7 : decode cX5_drawn 7 = .ok (.ldc 129, 2) := by decide +kernel
theorem dX5_drawn_9 : decode cX5_drawn 9 = .ok (.ireturn, 1) := by decide +kernel
theorem dX5_drawn_10 : decode cX5_drawn 10 = .ok (.iload_n 1, 1) := by decide +kernel
theorem dX5_drawn_11 : decode cX5_drawn 11 = .ok (.iconst 0, 1) := by decide +kernel
theorem dX5_drawn_12 : decode cX5_drawn 12 = .ok (.bipush 60, 2) := by decide +kernel
theorem dX5_drawn_14 : decode cX5_drawn 14 = .ok (.invokestatic 54, 3) := by decide +kernel
theorem dX5_drawn_17 : decode cX5_drawn 17 = .ok (.ifCond .eq 22, 3) := by decide +kernel
theorem dX5_drawn_20 : decode cX5_drawn 20 = .ok (.iload_n 2, 1) := by decide +kernel
theorem dX5_drawn_21 : decode cX5_drawn 21 = .ok (.iconst 1, 1) := by decide +kernel
theorem dX5_drawn_22 : decode cX5_drawn 22 = .ok (.ldc 255, 2) := by decide +kernel
theorem dX5_drawn_24 : decode cX5_drawn 24 = .ok (.invokestatic 54, 3) := by decide +kernel
theorem dX5_drawn_27 : decode cX5_drawn 27 = .ok (.ifCond .eq 12, 3) := by decide +kernel
theorem dX5_drawn_30 : decode cX5_drawn 30 = .ok (.iload_n 3, 1) := by decide +kernel
theorem dX5_drawn_31 : decode cX5_drawn 31 = .ok (.iconst 0, 1) := by decide +kernel
theorem dX5_drawn_32 : decode cX5_drawn 32 = .ok (.iconst 1, 1) := by decide +kernel
theorem dX5_drawn_33 : decode cX5_drawn 33 = .ok (.invokestatic 54, 3) := by decide +kernel
theorem dX5_drawn_36 : decode cX5_drawn 36 = .ok (.ifCond .ne 6, 3) := by decide +kernel
theorem dX5_drawn_39 : decode cX5_drawn 39 = .ok (.ldc 58, 2) := by decide +kernel
theorem dX5_drawn_41 : decode cX5_drawn 41 = .ok (.ireturn, 1) := by decide +kernel
theorem dX5_drawn_42 : decode cX5_drawn 42 = .ok (.aload_n 0, 1) := by decide +kernel
theorem dX5_drawn_43 : decode cX5_drawn 43 = .ok (.getfield 44, 3) := by decide +kernel
theorem dX5_drawn_46 : decode cX5_drawn 46 = .ok (.aload_n 0, 1) := by decide +kernel
theorem dX5_drawn_47 : decode cX5_drawn 47 = .ok (.getfield 40, 3) := by decide +kernel
theorem dX5_drawn_50 : decode cX5_drawn 50 = .ok (.invokevirtual 110, 3) := by decide +kernel
theorem dX5_drawn_53 : decode cX5_drawn 53 = .ok (.iload_n 2, 1) := by decide +kernel
theorem dX5_drawn_54 : decode cX5_drawn 54 = .ok (.i2l, 1) := by decide +kernel
theorem dX5_drawn_55 : decode cX5_drawn 55 = .ok (.lstore 4, 2) := by decide +kernel
theorem dX5_drawn_57 : decode cX5_drawn 57 = .ok (.iconst 0, 1) := by decide +kernel
theorem dX5_drawn_58 : decode cX5_drawn 58 = .ok (.istore 6, 2) := by decide +kernel
theorem dX5_drawn_60 : decode cX5_drawn 60 = .ok (.iconst 0, 1) := by decide +kernel
theorem dX5_drawn_61 : decode cX5_drawn 61 = .ok (.istore 7, 2) := by decide +kernel
theorem dX5_drawn_63 : decode cX5_drawn 63 = .ok (.iload 7, 2) := by decide +kernel
theorem dX5_drawn_65 : decode cX5_drawn 65 = .ok (.iload_n 1, 1) := by decide +kernel
theorem dX5_drawn_66 : decode cX5_drawn 66 = .ok (.if_icmp .ge 81, 3) := by decide +kernel
theorem dX5_drawn_69 : decode cX5_drawn 69 = .ok (.lload 4, 2) := by decide +kernel
theorem dX5_drawn_71 : decode cX5_drawn 71 = .ok (.ldc2_w 256, 3) := by decide +kernel
theorem dX5_drawn_74 : decode cX5_drawn 74 = .ok (.lmul, 1) := by decide +kernel
theorem dX5_drawn_75 : decode cX5_drawn 75 = .ok (.ldc2_w 258, 3) := by decide +kernel
theorem dX5_drawn_78 : decode cX5_drawn 78 = .ok (.lrem, 1) := by decide +kernel
theorem dX5_drawn_79 : decode cX5_drawn 79 = .ok (.lstore 4, 2) := by decide +kernel
theorem dX5_drawn_81 : decode cX5_drawn 81 = .ok (.aload_n 0, 1) := by decide +kernel
theorem dX5_drawn_82 : decode cX5_drawn 82 = .ok (.getfield 44, 3) := by decide +kernel
theorem dX5_drawn_85 : decode cX5_drawn 85 = .ok (.lload 4, 2) := by decide +kernel
theorem dX5_drawn_87 : decode cX5_drawn 87 = .ok (.aload_n 0, 1) := by decide +kernel
theorem dX5_drawn_88 : decode cX5_drawn 88 = .ok (.getfield 40, 3) := by decide +kernel
theorem dX5_drawn_91 : decode cX5_drawn 91 = .ok (.getfield 207, 3) := by decide +kernel
theorem dX5_drawn_94 : decode cX5_drawn 94 = .ok (.i2l, 1) := by decide +kernel
theorem dX5_drawn_95 : decode cX5_drawn 95 = .ok (.lrem, 1) := by decide +kernel
theorem dX5_drawn_96 : decode cX5_drawn 96 = .ok (.l2i, 1) := by decide +kernel
theorem dX5_drawn_97 : decode cX5_drawn 97 = .ok (.lload 4, 2) := by decide +kernel
theorem dX5_drawn_99 : decode cX5_drawn 99 = .ok (.ldc2_w 260, 3) := by decide +kernel
theorem dX5_drawn_102 : decode cX5_drawn 102 = .ok (.lrem, 1) := by decide +kernel
theorem dX5_drawn_103 : decode cX5_drawn 103 = .ok (.l2i, 1) := by decide +kernel
theorem dX5_drawn_104 : decode cX5_drawn 104 = .ok (.invokevirtual 150, 3) := by decide +kernel
theorem dX5_drawn_107 : decode cX5_drawn 107 = .ok (.aload_n 0, 1) := by decide +kernel
theorem dX5_drawn_108 : decode cX5_drawn 108 = .ok (.getfield 47, 3) := by decide +kernel
theorem dX5_drawn_111 : decode cX5_drawn 111 = .ok (.aload_n 0, 1) := by decide +kernel
theorem dX5_drawn_112 : decode cX5_drawn 112 = .ok (.getfield 44, 3) := by decide +kernel
theorem dX5_drawn_115 : decode cX5_drawn 115 = .ok (.invokevirtual 110, 3) := by decide +kernel
theorem dX5_drawn_118 : decode cX5_drawn 118 = .ok (.aload_n 0, 1) := by decide +kernel
theorem dX5_drawn_119 : decode cX5_drawn 119 = .ok (.getfield 44, 3) := by decide +kernel
theorem dX5_drawn_122 : decode cX5_drawn 122 = .ok (.invokevirtual 140, 3) := by decide +kernel
theorem dX5_drawn_125 : decode cX5_drawn 125 = .ok (.iload 6, 2) := by decide +kernel
theorem dX5_drawn_127 : decode cX5_drawn 127 = .ok (.aload_n 0, 1) := by decide +kernel
theorem dX5_drawn_128 : decode cX5_drawn 128 = .ok (.getfield 44, 3) := by decide +kernel
theorem dX5_drawn_131 : decode cX5_drawn 131 = .ok (.aload_n 0, 1) := by decide +kernel
theorem dX5_drawn_132 : decode cX5_drawn 132 = .ok (.getfield 47, 3) := by decide +kernel
theorem dX5_drawn_135 : decode cX5_drawn 135 = .ok (.invokevirtual 262, 3) := by decide +kernel
theorem dX5_drawn_138 : decode cX5_drawn 138 = .ok (.iadd, 1) := by decide +kernel
theorem dX5_drawn_139 : decode cX5_drawn 139 = .ok (.istore 6, 2) := by decide +kernel
theorem dX5_drawn_141 : decode cX5_drawn 141 = .ok (.iinc 7 1, 3) := by decide +kernel
theorem dX5_drawn_144 : decode cX5_drawn 144 = .ok (.goto (-81), 3) := by decide +kernel
theorem dX5_drawn_147 : decode cX5_drawn 147 = .ok (.iload_n 3, 1) := by decide +kernel
theorem dX5_drawn_148 : decode cX5_drawn 148 = .ok (.ifCond .ne 13, 3) := by decide +kernel
theorem dX5_drawn_151 : decode cX5_drawn 151 = .ok (.aload_n 0, 1) := by decide +kernel
theorem dX5_drawn_152 : decode cX5_drawn 152 = .ok (.getfield 44, 3) := by decide +kernel
theorem dX5_drawn_155 : decode cX5_drawn 155 = .ok (.invokevirtual 143, 3) := by decide +kernel
theorem dX5_drawn_158 : decode cX5_drawn 158 = .ok (.goto 5, 3) := by decide +kernel
theorem dX5_drawn_161 : decode cX5_drawn 161 = .ok (.iload 6, 2) := by decide +kernel
theorem dX5_drawn_163 : decode cX5_drawn 163 = .ok (.ireturn, 1) := by decide +kernel
set_option maxRecDepth 20000 in
theorem ggX5_image_X5_within : GoodIn wsX5_image wsX5_within := goodIn_r _ [8] (by decide +kernel) (by decide +kernel)
set_option maxRecDepth 20000 in
theorem gX5_image_X5_within : GoodIn wsX5_image (va_wsS RX5 54 yX5_within wsX5_within) := goodIn_app (goodIn_of _ (by decide +kernel)) ggX5_image_X5_within
set_option maxRecDepth 20000 in
theorem ggX5_image_X5_hasRiver : GoodIn wsX5_image wsX5_hasRiver := goodIn_r _ [12, 4, 13, 30, 31, 32, 33, 34, 35, 36, 37, 38, 39, 40, 41, 42, 43, 44, 45, 46, 47, 48, 49] (by decide +kernel) (by decide +kernel)
set_option maxRecDepth 20000 in
theorem gX5_image_X5_hasRiver : GoodIn wsX5_image (wsV RX5 130 RX5 yX5_hasRiver wsX5_hasRiver) := goodIn_app (goodIn_of _ (by decide +kernel)) ggX5_image_X5_hasRiver
set_option maxRecDepth 20000 in
theorem ggX5_image_X2_become : GoodIn wsX5_image wsX2_become := goodIn_r _ [18, 19, 20, 21, 22, 23, 24, 25, 26, 27, 28, 29, 39, 40, 41, 42, 43, 44, 45, 46, 47, 48, 49] (by decide +kernel) (by decide +kernel)
set_option maxRecDepth 20000 in
theorem gX5_image_X2_become : GoodIn wsX5_image (wsV RX5 110 RX2 yX2_become wsX2_become) := goodIn_app (goodIn_of _ (by decide +kernel)) ggX5_image_X2_become
theorem dX5_image_0 : decode cX5_image 0 = .ok (.iload_n 1, 1) := by decide +kernel
theorem dX5_image_1 : decode cX5_image 1 = .ok (.iconst 0, 1) := by decide +kernel
theorem dX5_image_2 : decode cX5_image 2 = .ok (.iconst 1, 1) := by decide +kernel
theorem dX5_image_3 : decode cX5_image 3 = .ok (.invokestatic 54, 3) := by decide +kernel
theorem dX5_image_6 : decode cX5_image 6 = .ok (.ifCond .ne 6, 3) := by decide +kernel
theorem dX5_image_9 : decode cX5_image 9 = .ok (.ldc 58, 2) := by decide +kernel
theorem dX5_image_11 : decode cX5_image 11 = .ok (.ireturn, 1) := by decide +kernel
theorem dX5_image_12 : decode cX5_image 12 = .ok (.aload_n 0, 1) := by decide +kernel
theorem dX5_image_13 : decode cX5_image 13 = .ok (.invokevirtual 130, 3) := by decide +kernel
theorem dX5_image_16 : decode cX5_image 16 = .ok (.ifCond .ne 6, 3) := by decide +kernel
theorem dX5_image_19 : decode cX5_image 19 = .ok (.ldc 129, 2) := by decide +kernel
theorem dX5_image_21 : decode cX5_image 21 = .ok (.ireturn, 1) := by decide +kernel
theorem dX5_image_22 : decode cX5_image 22 = .ok (.aload_n 0, 1) := by decide +kernel
theorem dX5_image_23 : decode cX5_image 23 = .ok (.getfield 50, 3) := by decide +kernel
theorem dX5_image_26 : decode cX5_image 26 = .ok (.iload_n 1, 1) := by decide +kernel
theorem dX5_image_27 : decode cX5_image 27 = .ok (.aaload, 1) := by decide +kernel
theorem dX5_image_28 : decode cX5_image 28 = .ok (.aload_n 0, 1) := by decide +kernel
theorem dX5_image_29 : decode cX5_image 29 = .ok (.getfield 40, 3) := by decide +kernel
theorem dX5_image_32 : decode cX5_image 32 = .ok (.invokevirtual 110, 3) := by decide +kernel
theorem dX5_image_35 : decode cX5_image 35 = .ok (.iconst 1, 1) := by decide +kernel
theorem dX5_image_36 : decode cX5_image 36 = .ok (.ireturn, 1) := by decide +kernel
set_option maxRecDepth 20000 in
theorem ggX5_restore_X5_within : GoodIn wsX5_restore wsX5_within := goodIn_r _ [10] (by decide +kernel) (by decide +kernel)
set_option maxRecDepth 20000 in
theorem gX5_restore_X5_within : GoodIn wsX5_restore (va_wsS RX5 54 yX5_within wsX5_within) := goodIn_app (goodIn_of _ (by decide +kernel)) ggX5_restore_X5_within
set_option maxRecDepth 20000 in
theorem ggX5_restore_X2_become : GoodIn wsX5_restore wsX2_become := goodIn_r _ [15, 16, 17, 18, 19, 20, 21, 22, 23, 24, 25, 26, 42, 43, 44, 45, 46, 47, 48, 49, 50, 51, 52] (by decide +kernel) (by decide +kernel)
set_option maxRecDepth 20000 in
theorem gX5_restore_X2_become : GoodIn wsX5_restore (wsV RX5 110 RX2 yX2_become wsX2_become) := goodIn_app (goodIn_of _ (by decide +kernel)) ggX5_restore_X2_become
set_option maxRecDepth 20000 in
theorem ggX5_restore_X0_forget : GoodIn wsX5_restore wsX0_forget := goodIn_r _ [31, 32, 53, 54, 55] (by decide +kernel) (by decide +kernel)
set_option maxRecDepth 20000 in
theorem gX5_restore_X0_forget : GoodIn wsX5_restore (wsV RX5 114 RX0 yX0_forget wsX0_forget) := goodIn_app (goodIn_of _ (by decide +kernel)) ggX5_restore_X0_forget
theorem dX5_restore_0 : decode cX5_restore 0 = .ok (.iload_n 1, 1) := by decide +kernel
theorem dX5_restore_1 : decode cX5_restore 1 = .ok (.iconst 0, 1) := by decide +kernel
theorem dX5_restore_2 : decode cX5_restore 2 = .ok (.iconst 1, 1) := by decide +kernel
theorem dX5_restore_3 : decode cX5_restore 3 = .ok (.invokestatic 54, 3) := by decide +kernel
theorem dX5_restore_6 : decode cX5_restore 6 = .ok (.ifCond .ne 6, 3) := by decide +kernel
theorem dX5_restore_9 : decode cX5_restore 9 = .ok (.ldc 58, 2) := by decide +kernel
theorem dX5_restore_11 : decode cX5_restore 11 = .ok (.ireturn, 1) := by decide +kernel
theorem dX5_restore_12 : decode cX5_restore 12 = .ok (.aload_n 0, 1) := by decide +kernel
theorem dX5_restore_13 : decode cX5_restore 13 = .ok (.getfield 50, 3) := by decide +kernel
theorem dX5_restore_16 : decode cX5_restore 16 = .ok (.iload_n 1, 1) := by decide +kernel
theorem dX5_restore_17 : decode cX5_restore 17 = .ok (.aaload, 1) := by decide +kernel
theorem dX5_restore_18 : decode cX5_restore 18 = .ok (.getfield 207, 3) := by decide +kernel
theorem dX5_restore_21 : decode cX5_restore 21 = .ok (.ifCond .ne 6, 3) := by decide +kernel
theorem dX5_restore_24 : decode cX5_restore 24 = .ok (.ldc 129, 2) := by decide +kernel
theorem dX5_restore_26 : decode cX5_restore 26 = .ok (.ireturn, 1) := by decide +kernel
theorem dX5_restore_27 : decode cX5_restore 27 = .ok (.aload_n 0, 1) := by decide +kernel
theorem dX5_restore_28 : decode cX5_restore 28 = .ok (.getfield 40, 3) := by decide +kernel
theorem dX5_restore_31 : decode cX5_restore 31 = .ok (.aload_n 0, 1) := by decide +kernel
theorem dX5_restore_32 : decode cX5_restore 32 = .ok (.getfield 50, 3) := by decide +kernel
theorem dX5_restore_35 : decode cX5_restore 35 = .ok (.iload_n 1, 1) := by decide +kernel
theorem dX5_restore_36 : decode cX5_restore 36 = .ok (.aaload, 1) := by decide +kernel
theorem dX5_restore_37 : decode cX5_restore 37 = .ok (.invokevirtual 110, 3) := by decide +kernel
theorem dX5_restore_40 : decode cX5_restore 40 = .ok (.aload_n 0, 1) := by decide +kernel
theorem dX5_restore_41 : decode cX5_restore 41 = .ok (.getfield 26, 3) := by decide +kernel
theorem dX5_restore_44 : decode cX5_restore 44 = .ok (.invokevirtual 114, 3) := by decide +kernel
theorem dX5_restore_47 : decode cX5_restore 47 = .ok (.iconst 1, 1) := by decide +kernel
theorem dX5_restore_48 : decode cX5_restore 48 = .ok (.ireturn, 1) := by decide +kernel
set_option maxRecDepth 20000 in
theorem ggX5_kind_X5_isSwan : GoodIn wsX5_kind wsX5_isSwan := goodIn_r _ [8, 1, 9, 10, 11, 7, 12, 13, 14, 15, 16, 17, 18, 19, 20, 21, 22, 23, 24, 25, 26, 27, 28, 29, 30, 31, 32] (by decide +kernel) (by decide +kernel)
set_option maxRecDepth 20000 in
theorem gX5_kind_X5_isSwan : GoodIn wsX5_kind (wsV RX5 164 RX5 yX5_isSwan wsX5_isSwan) := goodIn_app (goodIn_of _ (by decide +kernel)) ggX5_kind_X5_isSwan
theorem dX5_kind_0 : decode cX5_kind 0 = .ok (.aload_n 0, 1) := by decide +kernel
theorem dX5_kind_1 : decode cX5_kind 1 = .ok (.iload_n 1, 1) := by decide +kernel
theorem dX5_kind_2 : decode cX5_kind 2 = .ok (.invokevirtual 164, 3) := by decide +kernel
theorem dX5_kind_5 : decode cX5_kind 5 = .ok (.ifCond .eq 15, 3) := by decide +kernel
theorem dX5_kind_8 : decode cX5_kind 8 = .ok (.aload_n 0, 1) := by decide +kernel
theorem dX5_kind_9 : decode cX5_kind 9 = .ok (.getfield 40, 3) := by decide +kernel
theorem dX5_kind_12 : decode cX5_kind 12 = .ok (.getfield 266, 3) := by decide +kernel
theorem dX5_kind_15 : decode cX5_kind 15 = .ok (.iload_n 1, 1) := by decide +kernel
theorem dX5_kind_16 : decode cX5_kind 16 = .ok (.iaload, 1) := by decide +kernel
