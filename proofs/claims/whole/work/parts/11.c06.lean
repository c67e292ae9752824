theorem hdX2_countElsewhere : yX2_countElsewhere.cls = RX2 ∧ yX2_countElsewhere.cls ≠ "java/lang/invoke/MethodHandle" ∧ yX2_countElsewhere.cls ≠ "java/lang/invoke/VarHandle" ∧ (parseMethodDescriptor yX2_countElsewhere.desc).map (fun d => d.parameters.length) = some 1 := by decide +kernel
set_option maxHeartbeats 4000000 in
set_option maxRecDepth 100000 in
theorem c_X2_countElsewhere {l : Launch} {D : va_G} {ad : Nat → Nat} {cI cII cR : ClassId} (μ : Mm) (r : Nat) (hr : r < 29) (q : Nat) (hq : q < 29) {v : Int} (hz : f_X2_countElsewhere μ r q = some v) : CT l D vwCl (tyC cI cII cR) 194 ad (EC ad cI cII cR) (ZC ad) yX2_countElsewhere wsX2_countElsewhere ({ frames := 0, cells := 0, slots := 0, locals := 0 } : Room) (some .int) [Vr (6 * r), Vr (6 * q)] μ (v, μ) := by
  refine CT_of [(0, Vr (6 * r)), (1, Vr (6 * q))] ZC_st (by decide) rfl rfl (Nat.le_of_ble_eq_true rfl) rfl (fun G C => ?_)
  have i_X2 : ∀ w ∈ u_ws RX2 TX2 11, w ∈ wsX2_countElsewhere := by decide +kernel
  have f_21 : Cond.fieldLink (yX2_countElsewhere).cls 21 "SwanDeeds$River" "places" "[I" ∈ wsX2_countElsewhere := by decide +kernel
  have f_31 : Cond.fieldLink (yX2_countElsewhere).cls 31 "SwanDeeds$River" "swanCount" "I" ∈ wsX2_countElsewhere := by decide +kernel
  have hz := sat_of hz
  unfold f_X2_countElsewhere at hz
  refine q_iconst C dX2_countElsewhere_0 ⟨by decide, by decide⟩ ?_
  refine q_istore_n C [(2, Vi 0), (0, Vr (6 * r)), (1, Vr (6 * q))] rfl (by decide) dX2_countElsewhere_1 rfl ?_
  refine q_iconst C dX2_countElsewhere_2 ⟨by decide, by decide⟩ ?_
  refine q_istore_n C [(3, Vi 0), (2, Vi 0), (0, Vr (6 * r)), (1, Vr (6 * q))] rfl (by decide) dX2_countElsewhere_3 rfl ?_
  refine q_sub C [2, 3, 1, 0] [(0, Vr (6 * r)), (1, Vr (6 * q)), (2, Vi 0), (3, Vi 0)] rfl ?_
  refine loop_go (fun x1 => G μ 4 [(0, Vr (6 * r)), (1, Vr (6 * q)), (2, Vi (x1.1)), (3, Vi (x1.2))] []) (sat_bind2 hz) (fun h => h) (fun x1 hz => ?_)
  refine q_iload_n C 3 rfl dX2_countElsewhere_4 rfl ?_
  refine q_aload_n C 0 rfl dX2_countElsewhere_5 rfl ?_
  refine q_get (tO_X2 hr) C (i := 1) i_X2 rfl rfl (by decide) rfl f_31 dX2_countElsewhere_6 ?_
  refine q_icmp_ge C dX2_countElsewhere_9 (tgt := 36) (by decide) (fun c2 => ?_) (fun c2 => ?_)
  · have hz := sat_t hz c2
    have hz := sat_some hz
    refine q_sub C [2] [(2, Vi (x1.1))] rfl ?_
    refine q_iload_n C 0 rfl dX2_countElsewhere_36 rfl ?_
    exact q_iret C dX2_countElsewhere_37 (congrArg (fun q => (q, μ)) (sat_eq hz))
  · have hz := sat_f hz c2
    refine q_aload_n C 0 rfl dX2_countElsewhere_12 rfl ?_
    refine q_getR (tO_X2 hr) C (i := 7) i_X2 rfl rfl (by decide) rfl f_21 dX2_countElsewhere_13 ?_
    refine q_iload_n C 3 rfl dX2_countElsewhere_16 rfl ?_
    obtain ⟨c3, hz⟩ := sat_chk hz
    refine q_iald (tA_places hr) C 0 rfl c3 dX2_countElsewhere_17 ?_
    refine q_aload_n C 1 rfl dX2_countElsewhere_18 rfl ?_
    refine q_getR (tO_X2 hq) C (i := 7) i_X2 rfl rfl (by decide) rfl f_21 dX2_countElsewhere_19 ?_
    refine q_iload_n C 3 rfl dX2_countElsewhere_22 rfl ?_
    obtain ⟨c4, hz⟩ := sat_chk hz
    refine q_iald (tA_places hq) C 0 rfl c4 dX2_countElsewhere_23 ?_
    refine q_icmp_eq C dX2_countElsewhere_24 (tgt := 30) (by decide) (fun c5 => ?_) (fun c5 => ?_)
    · have hz := sat_t hz c5
      refine q_iinc C 3 rfl [(3, Vi (w3 (x1.2 + 1))), (0, Vr (6 * r)), (1, Vr (6 * q)), (2, Vi (x1.1))] rfl (by decide) dX2_countElsewhere_30 ?_
      refine q_goto C dX2_countElsewhere_33 (tgt := 4) (by decide) ?_
      refine q_sub C [1, 2, 3, 0] [(0, Vr (6 * r)), (1, Vr (6 * q)), (2, Vi (x1.1)), (3, Vi (w3 (x1.2 + 1)))] rfl ?_
      have hz := sat_some hz
      exact hz
    · have hz := sat_f hz c5
      refine q_iinc C 2 rfl [(2, Vi (w3 (x1.1 + 1))), (0, Vr (6 * r)), (1, Vr (6 * q)), (3, Vi (x1.2))] rfl (by decide) dX2_countElsewhere_27 ?_
      refine q_iinc C 3 rfl [(3, Vi (w3 (x1.2 + 1))), (2, Vi (w3 (x1.1 + 1))), (0, Vr (6 * r)), (1, Vr (6 * q))] rfl (by decide) dX2_countElsewhere_30 ?_
      refine q_goto C dX2_countElsewhere_33 (tgt := 4) (by decide) ?_
      refine q_sub C [2, 3, 1, 0] [(0, Vr (6 * r)), (1, Vr (6 * q)), (2, Vi (w3 (x1.1 + 1))), (3, Vi (w3 (x1.2 + 1)))] rfl ?_
      have hz := sat_some hz
      exact hz
theorem hdX5_drawn : yX5_drawn.cls = RX5 ∧ yX5_drawn.cls ≠ "java/lang/invoke/MethodHandle" ∧ yX5_drawn.cls ≠ "java/lang/invoke/VarHandle" ∧ (parseMethodDescriptor yX5_drawn.desc).map (fun d => d.parameters.length) = some 3 := by decide +kernel
set_option maxHeartbeats 4000000 in
set_option maxRecDepth 100000 in
theorem c_X5_drawn {l : Launch} {D : va_G} {ad : Nat → Nat} {cI cII cR : ClassId} (μ : Mm) (p1 p2 p3 : Int) {v : Int × Mm} (hz : f_X5_drawn μ p1 p2 p3 = some v) : CT l D vwCl (tyC cI cII cR) 194 ad (EC ad cI cII cR) (ZC ad) yX5_drawn wsX5_drawn ({ frames := 4, cells := 0, slots := 0, locals := 96 } : Room) (some .int) [Vr 174, Vi p1, Vi p2, Vi p3] μ (v.1, v.2) := by
  refine CT_of [(0, Vr 174), (1, Vi p1), (2, Vi p2), (3, Vi p3)] ZC_st (by decide) rfl rfl (Nat.le_of_ble_eq_true rfl) rfl (fun G C => ?_)
  have i_X2 : ∀ w ∈ u_ws RX2 TX2 11, w ∈ wsX5_drawn := by decide +kernel
  have i_X5 : ∀ w ∈ u_ws RX5 TX5 9, w ∈ wsX5_drawn := by decide +kernel
  have f_40 : Cond.fieldLink (yX5_drawn).cls 40 "SwanDeeds" "now" "LSwanDeeds$River;" ∈ wsX5_drawn := by decide +kernel
  have f_44 : Cond.fieldLink (yX5_drawn).cls 44 "SwanDeeds" "trial" "LSwanDeeds$River;" ∈ wsX5_drawn := by decide +kernel
  have f_47 : Cond.fieldLink (yX5_drawn).cls 47 "SwanDeeds" "dawn" "LSwanDeeds$River;" ∈ wsX5_drawn := by decide +kernel
  have f_207 : Cond.fieldLink (yX5_drawn).cls 207 "SwanDeeds$River" "lawnCount" "I" ∈ wsX5_drawn := by decide +kernel
  have hz := sat_of hz
  unfold f_X5_drawn at hz
  refine q_aload_n C 0 rfl dX5_drawn_0 rfl ?_
  refine q_callVz ZC_st C [] [] (c_X5_hasRiver μ) tO_X5 rfl gX5_drawn_X5_hasRiver rfl ⟨rfl, rfl⟩ hdX5_hasRiver ⟨by decide, by decide⟩ rfl (Nat.le_of_ble_eq_true rfl) dX5_drawn_1 rfl (fun hb1 _ => ?_)
  refine q_if_ne C dX5_drawn_4 (tgt := 10) (by decide) (fun c2 => ?_) (fun c2 => ?_)
  · have hz := sat_f hz c2
    refine q_iload_n C 1 rfl dX5_drawn_10 rfl ?_
    refine q_iconst C dX5_drawn_11 ⟨by decide, by decide⟩ ?_
    refine q_bipush C dX5_drawn_12 ⟨rfl, by decide, by decide⟩ ?_
    refine q_callSz ZC_st C [Vi p1, Vi 0, Vi 60] [] (c_X5_within μ p1 0 60) gX5_drawn_X5_within rfl ⟨rfl, rfl⟩ hdX5_within ⟨by decide, by decide⟩ rfl (Nat.le_of_ble_eq_true rfl) dX5_drawn_14 rfl (fun hb3 _ => ?_)
    refine q_if_eq C dX5_drawn_17 (tgt := 39) (by decide) (fun c4 => ?_) (fun c4 => ?_)
    · have hz := sat_t hz c4
      refine q_ldc (v := (-1000001)) (x := (-1000001)) C (by decide +kernel) dX5_drawn_39 ⟨by decide +kernel, by decide, by decide⟩ ?_
      exact q_iret C dX5_drawn_41 (sat_eq hz)
    · have hz := sat_f hz c4
      refine q_iload_n C 2 rfl dX5_drawn_20 rfl ?_
      refine q_iconst C dX5_drawn_21 ⟨by decide, by decide⟩ ?_
      refine q_ldc (v := 999999) (x := 999999) C (by decide +kernel) dX5_drawn_22 ⟨by decide +kernel, by decide, by decide⟩ ?_
      refine q_callSz ZC_st C [Vi p2, Vi 1, Vi 999999] [] (c_X5_within μ p2 1 999999) gX5_drawn_X5_within rfl ⟨rfl, rfl⟩ hdX5_within ⟨by decide, by decide⟩ rfl (Nat.le_of_ble_eq_true rfl) dX5_drawn_24 rfl (fun hb5 _ => ?_)
      refine q_if_eq C dX5_drawn_27 (tgt := 39) (by decide) (fun c6 => ?_) (fun c6 => ?_)
      · have hz := sat_t hz c6
        refine q_ldc (v := (-1000001)) (x := (-1000001)) C (by decide +kernel) dX5_drawn_39 ⟨by decide +kernel, by decide, by decide⟩ ?_
        exact q_iret C dX5_drawn_41 (sat_eq hz)
      · have hz := sat_f hz c6
        refine q_iload_n C 3 rfl dX5_drawn_30 rfl ?_
        refine q_iconst C dX5_drawn_31 ⟨by decide, by decide⟩ ?_
        refine q_iconst C dX5_drawn_32 ⟨by decide, by decide⟩ ?_
        refine q_callSz ZC_st C [Vi p3, Vi 0, Vi 1] [] (c_X5_within μ p3 0 1) gX5_drawn_X5_within rfl ⟨rfl, rfl⟩ hdX5_within ⟨by decide, by decide⟩ rfl (Nat.le_of_ble_eq_true rfl) dX5_drawn_33 rfl (fun hb7 _ => ?_)
        refine q_if_ne C dX5_drawn_36 (tgt := 42) (by decide) (fun c8 => ?_) (fun c8 => ?_)
        · have hz := sat_f hz c8
          refine q_aload_n C 0 rfl dX5_drawn_42 rfl ?_
          refine q_getR tO_X5 C (i := 5) i_X5 rfl rfl (by decide) rfl f_44 dX5_drawn_43 ?_
          refine q_aload_n C 0 rfl dX5_drawn_46 rfl ?_
          refine q_getR tO_X5 C (i := 4) i_X5 rfl rfl (by decide) rfl f_40 dX5_drawn_47 ?_
          obtain ⟨z10, hz10, hz⟩ := sat_bind hz
          refine q_callVv ZC_st C [Vr (6 * 0)] [] (c_X2_become μ 3 (by decide) 0 (by decide) hz10) (tO_X2 (by decide)) rfl gX5_drawn_X2_become rfl ⟨rfl, rfl⟩ hdX2_become ⟨by decide, by decide⟩ rfl (Nat.le_of_ble_eq_true rfl) dX5_drawn_50 rfl (fun _ => ?_)
          refine q_iload_n C 2 rfl dX5_drawn_53 rfl ?_
          refine q_i2l C dX5_drawn_54 ?_
          refine q_lstore C [(4, Vl p2), (0, Vr 174), (1, Vi p1), (2, Vi p2), (3, Vi p3)] rfl (by decide) dX5_drawn_55 ?_
          refine q_iconst C dX5_drawn_57 ⟨by decide, by decide⟩ ?_
          refine q_istore C [(6, Vi 0), (4, Vl p2), (0, Vr 174), (1, Vi p1), (2, Vi p2), (3, Vi p3)] rfl (by decide) dX5_drawn_58 ?_
          refine q_iconst C dX5_drawn_60 ⟨by decide, by decide⟩ ?_
          refine q_istore C [(7, Vi 0), (6, Vi 0), (4, Vl p2), (0, Vr 174), (1, Vi p1), (2, Vi p2), (3, Vi p3)] rfl (by decide) dX5_drawn_61 ?_
          refine q_sub C [3, 4, 6, 2, 1, 0] [(0, Vr 174), (1, Vi p1), (3, Vi p3), (4, Vl p2), (6, Vi 0), (7, Vi 0)] rfl ?_
          refine loop_go (fun x11 => G x11.2.2.2 63 [(0, Vr 174), (1, Vi p1), (3, Vi p3), (4, Vl (x11.1)), (6, Vi (x11.2.1)), (7, Vi (x11.2.2.1))] []) (sat_bind2 hz) (fun h => h) (fun x11 hz => ?_)
          refine q_iload C 5 rfl dX5_drawn_63 ?_
          refine q_iload_n C 1 rfl dX5_drawn_65 rfl ?_
          refine q_icmp_ge C dX5_drawn_66 (tgt := 147) (by decide) (fun c12 => ?_) (fun c12 => ?_)
          · have hz := sat_t hz c12
            have hz := sat_some hz
            refine q_sub C [0, 2, 4] [(0, Vr 174), (3, Vi p3), (6, Vi (x11.2.1))] rfl ?_
            refine q_iload_n C 1 rfl dX5_drawn_147 rfl ?_
            refine q_if_ne C dX5_drawn_148 (tgt := 161) (by decide) (fun c13 => ?_) (fun c13 => ?_)
            · have hz := sat_f hz c13
              refine q_iload C 2 rfl dX5_drawn_161 ?_
              exact q_iret C dX5_drawn_163 (sat_eq hz)
            · have hz := sat_t hz c13
              refine q_aload_n C 0 rfl dX5_drawn_151 rfl ?_
              refine q_getR tO_X5 C (i := 5) i_X5 rfl rfl (by decide) rfl f_44 dX5_drawn_152 ?_
              obtain ⟨z15, hz15, hz⟩ := sat_bind hz
              refine q_callVi ZC_st C [] [] (c_X2_ownerCount x11.2.2.2 3 (by decide) hz15) (tO_X2 (by decide)) rfl gX5_drawn_X2_ownerCount rfl ⟨rfl, rfl⟩ hdX2_ownerCount ⟨by decide, by decide⟩ rfl (Nat.le_of_ble_eq_true rfl) dX5_drawn_155 rfl (fun _ _ => ?_)
              refine q_goto C dX5_drawn_158 (tgt := 163) (by decide) ?_
              exact q_iret C dX5_drawn_163 (sat_eq hz)
          · have hz := sat_f hz c12
            refine q_lload C 3 rfl dX5_drawn_69 ?_
            refine q_ldc2 (v := 16807) (x := 16807) C (by decide +kernel) dX5_drawn_71 ⟨by decide +kernel, by decide, by decide⟩ ?_
            refine q_lmul C dX5_drawn_74 ?_
            refine q_ldc2 (v := 2147483647) (x := 2147483647) C (by decide +kernel) dX5_drawn_75 ⟨by decide +kernel, by decide, by decide⟩ ?_
            obtain ⟨c16, hz⟩ := sat_chk hz
            refine q_lrem C c16 dX5_drawn_78 ?_
            obtain ⟨a17, ha17, hz⟩ := sat_bnd hz
            refine q_nml ha17 ?_
            refine q_lstore C [(4, Vl a17), (0, Vr 174), (1, Vi p1), (3, Vi p3), (6, Vi (x11.2.1)), (7, Vi (x11.2.2.1))] rfl (by decide) dX5_drawn_79 ?_
            refine q_aload_n C 1 rfl dX5_drawn_81 rfl ?_
            refine q_getR tO_X5 C (i := 5) i_X5 rfl rfl (by decide) rfl f_44 dX5_drawn_82 ?_
            refine q_lload C 0 rfl dX5_drawn_85 ?_
            refine q_aload_n C 1 rfl dX5_drawn_87 rfl ?_
            refine q_getR tO_X5 C (i := 4) i_X5 rfl rfl (by decide) rfl f_40 dX5_drawn_88 ?_
            refine q_get (tO_X2 (by decide)) C (i := 0) i_X2 rfl rfl (by decide) rfl f_207 dX5_drawn_91 ?_
            refine q_i2l C dX5_drawn_94 ?_
            obtain ⟨c18, hz⟩ := sat_chk hz
            refine q_lrem C c18 dX5_drawn_95 ?_
            refine q_l2i C dX5_drawn_96 ?_
            refine q_lload C 0 rfl dX5_drawn_97 ?_
            refine q_ldc2 (v := 4) (x := 4) C (by decide +kernel) dX5_drawn_99 ⟨by decide +kernel, by decide, by decide⟩ ?_
            obtain ⟨c19, hz⟩ := sat_chk hz
            refine q_lrem C c19 dX5_drawn_102 ?_
            refine q_l2i C dX5_drawn_103 ?_
            obtain ⟨z21, hz21, hz⟩ := sat_bind hz
            refine q_callVv ZC_st C [Vi (w3 (lRem a17 (x11.2.2.2 0 24))), Vi (w3 (lRem a17 4))] [] (c_X2_scatter x11.2.2.2 3 (by decide) (w3 (lRem a17 (x11.2.2.2 0 24))) (w3 (lRem a17 4)) hz21) (tO_X2 (by decide)) rfl gX5_drawn_X2_scatter rfl ⟨rfl, rfl⟩ hdX2_scatter ⟨by decide, by decide⟩ rfl (Nat.le_of_ble_eq_true rfl) dX5_drawn_104 rfl (fun _ => ?_)
            refine q_aload_n C 1 rfl dX5_drawn_107 rfl ?_
            refine q_getR tO_X5 C (i := 6) i_X5 rfl rfl (by decide) rfl f_47 dX5_drawn_108 ?_
            refine q_aload_n C 1 rfl dX5_drawn_111 rfl ?_
            refine q_getR tO_X5 C (i := 5) i_X5 rfl rfl (by decide) rfl f_44 dX5_drawn_112 ?_
            obtain ⟨z23, hz23, hz⟩ := sat_bind hz
            refine q_callVv ZC_st C [Vr (6 * 3)] [] (c_X2_become z21 4 (by decide) 3 (by decide) hz23) (tO_X2 (by decide)) rfl gX5_drawn_X2_become rfl ⟨rfl, rfl⟩ hdX2_become ⟨by decide, by decide⟩ rfl (Nat.le_of_ble_eq_true rfl) dX5_drawn_115 rfl (fun _ => ?_)
            refine q_aload_n C 1 rfl dX5_drawn_118 rfl ?_
            refine q_getR tO_X5 C (i := 5) i_X5 rfl rfl (by decide) rfl f_44 dX5_drawn_119 ?_
            obtain ⟨z25, hz25, hz⟩ := sat_bind hz
            refine q_callVv ZC_st C [] [] (c_X2_passDay z23 3 (by decide) hz25) (tO_X2 (by decide)) rfl gX5_drawn_X2_passDay rfl ⟨rfl, rfl⟩ hdX2_passDay ⟨by decide, by decide⟩ rfl (Nat.le_of_ble_eq_true rfl) dX5_drawn_122 rfl (fun _ => ?_)
            refine q_iload C 4 rfl dX5_drawn_125 ?_
            refine q_aload_n C 1 rfl dX5_drawn_127 rfl ?_
            refine q_getR tO_X5 C (i := 5) i_X5 rfl rfl (by decide) rfl f_44 dX5_drawn_128 ?_
            refine q_aload_n C 1 rfl dX5_drawn_131 rfl ?_
            refine q_getR tO_X5 C (i := 6) i_X5 rfl rfl (by decide) rfl f_47 dX5_drawn_132 ?_
            obtain ⟨z27, hz27, hz⟩ := sat_bind hz
            refine q_callVi ZC_st C [Vr (6 * 4)] [Vi (x11.2.1)] (c_X2_countElsewhere z25 3 (by decide) 4 (by decide) hz27) (tO_X2 (by decide)) rfl gX5_drawn_X2_countElsewhere rfl ⟨rfl, rfl⟩ hdX2_countElsewhere ⟨by decide, by decide⟩ rfl (Nat.le_of_ble_eq_true rfl) dX5_drawn_135 rfl (fun _ _ => ?_)
            refine q_iadd C dX5_drawn_138 ?_
            refine q_istore C [(6, Vi (w3 (x11.2.1 + z27))), (4, Vl a17), (0, Vr 174), (1, Vi p1), (3, Vi p3), (7, Vi (x11.2.2.1))] rfl (by decide) dX5_drawn_139 ?_
            refine q_iinc C 5 rfl [(7, Vi (w3 (x11.2.2.1 + 1))), (6, Vi (w3 (x11.2.1 + z27))), (4, Vl a17), (0, Vr 174), (1, Vi p1), (3, Vi p3)] rfl (by decide) dX5_drawn_141 ?_
            refine q_goto C dX5_drawn_144 (tgt := 63) (by decide) ?_
            refine q_sub C [3, 4, 5, 2, 1, 0] [(0, Vr 174), (1, Vi p1), (3, Vi p3), (4, Vl a17), (6, Vi (w3 (x11.2.1 + z27))), (7, Vi (w3 (x11.2.2.1 + 1)))] rfl ?_
            have hz := sat_some hz
            exact hz
        · have hz := sat_t hz c8
          refine q_ldc (v := (-1000001)) (x := (-1000001)) C (by decide +kernel) dX5_drawn_39 ⟨by decide +kernel, by decide, by decide⟩ ?_
          exact q_iret C dX5_drawn_41 (sat_eq hz)
  · have hz := sat_t hz c2
    refine q_ldc (v := (-1000002)) (x := (-1000002)) C (by decide +kernel) dX5_drawn_7 ⟨by decide +kernel, by decide, by decide⟩ ?_
    exact q_iret C dX5_drawn_9 (sat_eq hz)
theorem hdX5_image : yX5_image.cls = RX5 ∧ yX5_image.cls ≠ "java/lang/invoke/MethodHandle" ∧ yX5_image.cls ≠ "java/lang/invoke/VarHandle" ∧ (parseMethodDescriptor yX5_image.desc).map (fun d => d.parameters.length) = some 1 := by decide +kernel
set_option maxHeartbeats 4000000 in
set_option maxRecDepth 100000 in
theorem c_X5_image {l : Launch} {D : va_G} {ad : Nat → Nat} {cI cII cR : ClassId} (μ : Mm) (p1 : Int) {v : Int × Mm} (hz : f_X5_image μ p1 = some v) : CT l D vwCl (tyC cI cII cR) 194 ad (EC ad cI cII cR) (ZC ad) yX5_image wsX5_image ({ frames := 1, cells := 0, slots := 0, locals := 22 } : Room) (some .int) [Vr 174, Vi p1] μ (v.1, v.2) := by
  refine CT_of [(0, Vr 174), (1, Vi p1)] ZC_st (by decide) rfl rfl (Nat.le_of_ble_eq_true rfl) rfl (fun G C => ?_)
  have i_X5 : ∀ w ∈ u_ws RX5 TX5 9, w ∈ wsX5_image := by decide +kernel
  have f_40 : Cond.fieldLink (yX5_image).cls 40 "SwanDeeds" "now" "LSwanDeeds$River;" ∈ wsX5_image := by decide +kernel
  have f_50 : Cond.fieldLink (yX5_image).cls 50 "SwanDeeds" "images" "[LSwanDeeds$River;" ∈ wsX5_image := by decide +kernel
  have hz := sat_of hz
  unfold f_X5_image at hz
  refine q_iload_n C 1 rfl dX5_image_0 rfl ?_
  refine q_iconst C dX5_image_1 ⟨by decide, by decide⟩ ?_
  refine q_iconst C dX5_image_2 ⟨by decide, by decide⟩ ?_
  refine q_callSz ZC_st C [Vi p1, Vi 0, Vi 1] [] (c_X5_within μ p1 0 1) gX5_image_X5_within rfl ⟨rfl, rfl⟩ hdX5_within ⟨by decide, by decide⟩ rfl (Nat.le_of_ble_eq_true rfl) dX5_image_3 rfl (fun hb1 _ => ?_)
  refine q_if_ne C dX5_image_6 (tgt := 12) (by decide) (fun c2 => ?_) (fun c2 => ?_)
  · have hz := sat_f hz c2
    refine q_aload_n C 0 rfl dX5_image_12 rfl ?_
    refine q_callVz ZC_st C [] [] (c_X5_hasRiver μ) tO_X5 rfl gX5_image_X5_hasRiver rfl ⟨rfl, rfl⟩ hdX5_hasRiver ⟨by decide, by decide⟩ rfl (Nat.le_of_ble_eq_true rfl) dX5_image_13 rfl (fun hb3 _ => ?_)
    refine q_if_ne C dX5_image_16 (tgt := 22) (by decide) (fun c4 => ?_) (fun c4 => ?_)
    · have hz := sat_f hz c4
      refine q_aload_n C 0 rfl dX5_image_22 rfl ?_
      refine q_getR tO_X5 C (i := 7) i_X5 rfl rfl (by decide) rfl f_50 dX5_image_23 ?_
      refine q_iload_n C 1 rfl dX5_image_26 rfl ?_
      obtain ⟨c5, hz⟩ := sat_chk hz
      refine q_aald tQ_images C 2 rfl rfl c5 (k' := 6 * (1 + p1.toNat)) rfl dX5_image_27 ?_
      refine q_aload_n C 0 rfl dX5_image_28 rfl ?_
      refine q_getR tO_X5 C (i := 4) i_X5 rfl rfl (by decide) rfl f_40 dX5_image_29 ?_
      obtain ⟨z7, hz7, hz⟩ := sat_bind hz
      refine q_callVv ZC_st C [Vr (6 * 0)] [] (c_X2_become μ (1 + p1.toNat) (show 1 + p1.toNat < 29 by omega) 0 (by decide) hz7) (tO_X2 (show 1 + p1.toNat < 29 by omega)) rfl gX5_image_X2_become rfl ⟨rfl, rfl⟩ hdX2_become ⟨by decide, by decide⟩ rfl (Nat.le_of_ble_eq_true rfl) dX5_image_32 rfl (fun _ => ?_)
      refine q_iconst C dX5_image_35 ⟨by decide, by decide⟩ ?_
      exact q_iret C dX5_image_36 (sat_eq hz)
    · have hz := sat_t hz c4
      refine q_ldc (v := (-1000002)) (x := (-1000002)) C (by decide +kernel) dX5_image_19 ⟨by decide +kernel, by decide, by decide⟩ ?_
      exact q_iret C dX5_image_21 (sat_eq hz)
  · have hz := sat_t hz c2
    refine q_ldc (v := (-1000001)) (x := (-1000001)) C (by decide +kernel) dX5_image_9 ⟨by decide +kernel, by decide, by decide⟩ ?_
    exact q_iret C dX5_image_11 (sat_eq hz)
theorem hdX5_restore : yX5_restore.cls = RX5 ∧ yX5_restore.cls ≠ "java/lang/invoke/MethodHandle" ∧ yX5_restore.cls ≠ "java/lang/invoke/VarHandle" ∧ (parseMethodDescriptor yX5_restore.desc).map (fun d => d.parameters.length) = some 1 := by decide +kernel
set_option maxHeartbeats 4000000 in
set_option maxRecDepth 100000 in
theorem c_X5_restore {l : Launch} {D : va_G} {ad : Nat → Nat} {cI cII cR : ClassId} (μ : Mm) (p1 : Int) {v : Int × Mm} (hz : f_X5_restore μ p1 = some v) : CT l D vwCl (tyC cI cII cR) 194 ad (EC ad cI cII cR) (ZC ad) yX5_restore wsX5_restore ({ frames := 1, cells := 0, slots := 0, locals := 22 } : Room) (some .int) [Vr 174, Vi p1] μ (v.1, v.2) := by
  refine CT_of [(0, Vr 174), (1, Vi p1)] ZC_st (by decide) rfl rfl (Nat.le_of_ble_eq_true rfl) rfl (fun G C => ?_)
  have i_X2 : ∀ w ∈ u_ws RX2 TX2 11, w ∈ wsX5_restore := by decide +kernel
  have i_X5 : ∀ w ∈ u_ws RX5 TX5 9, w ∈ wsX5_restore := by decide +kernel
  have f_26 : Cond.fieldLink (yX5_restore).cls 26 "SwanDeeds" "acts" "LSwanDeeds$Acts;" ∈ wsX5_restore := by decide +kernel
  have f_40 : Cond.fieldLink (yX5_restore).cls 40 "SwanDeeds" "now" "LSwanDeeds$River;" ∈ wsX5_restore := by decide +kernel
  have f_50 : Cond.fieldLink (yX5_restore).cls 50 "SwanDeeds" "images" "[LSwanDeeds$River;" ∈ wsX5_restore := by decide +kernel
  have f_207 : Cond.fieldLink (yX5_restore).cls 207 "SwanDeeds$River" "lawnCount" "I" ∈ wsX5_restore := by decide +kernel
  have hz := sat_of hz
  unfold f_X5_restore at hz
  refine q_iload_n C 1 rfl dX5_restore_0 rfl ?_
  refine q_iconst C dX5_restore_1 ⟨by decide, by decide⟩ ?_
  refine q_iconst C dX5_restore_2 ⟨by decide, by decide⟩ ?_
  refine q_callSz ZC_st C [Vi p1, Vi 0, Vi 1] [] (c_X5_within μ p1 0 1) gX5_restore_X5_within rfl ⟨rfl, rfl⟩ hdX5_within ⟨by decide, by decide⟩ rfl (Nat.le_of_ble_eq_true rfl) dX5_restore_3 rfl (fun hb1 _ => ?_)
  refine q_if_ne C dX5_restore_6 (tgt := 12) (by decide) (fun c2 => ?_) (fun c2 => ?_)
  · have hz := sat_f hz c2
    refine q_aload_n C 0 rfl dX5_restore_12 rfl ?_
    refine q_getR tO_X5 C (i := 7) i_X5 rfl rfl (by decide) rfl f_50 dX5_restore_13 ?_
    refine q_iload_n C 1 rfl dX5_restore_16 rfl ?_
    obtain ⟨c3, hz⟩ := sat_chk hz
    refine q_aald tQ_images C 2 rfl rfl c3 (k' := 6 * (1 + p1.toNat)) rfl dX5_restore_17 ?_
    refine q_get (tO_X2 (show 1 + p1.toNat < 29 by omega)) C (i := 0) i_X2 rfl rfl (by decide) rfl f_207 dX5_restore_18 ?_
    refine q_if_ne C dX5_restore_21 (tgt := 27) (by decide) (fun c4 => ?_) (fun c4 => ?_)
    · have hz := sat_f hz c4
      refine q_aload_n C 0 rfl dX5_restore_27 rfl ?_
      refine q_getR tO_X5 C (i := 4) i_X5 rfl rfl (by decide) rfl f_40 dX5_restore_28 ?_
      refine q_aload_n C 0 rfl dX5_restore_31 rfl ?_
      refine q_getR tO_X5 C (i := 7) i_X5 rfl rfl (by decide) rfl f_50 dX5_restore_32 ?_
      refine q_iload_n C 1 rfl dX5_restore_35 rfl ?_
      obtain ⟨c5, hz⟩ := sat_chk hz
      refine q_aald tQ_images C 2 rfl rfl c5 (k' := 6 * (1 + p1.toNat)) rfl dX5_restore_36 ?_
      obtain ⟨z7, hz7, hz⟩ := sat_bind hz
      refine q_callVv ZC_st C [Vr (6 * (1 + p1.toNat))] [] (c_X2_become μ 0 (by decide) (1 + p1.toNat) (show 1 + p1.toNat < 29 by omega) hz7) (tO_X2 (by decide)) rfl gX5_restore_X2_become rfl ⟨rfl, rfl⟩ hdX2_become ⟨by decide, by decide⟩ rfl (Nat.le_of_ble_eq_true rfl) dX5_restore_37 rfl (fun _ => ?_)
      refine q_aload_n C 0 rfl dX5_restore_40 rfl ?_
      refine q_getR tO_X5 C (i := 2) i_X5 rfl rfl (by decide) rfl f_26 dX5_restore_41 ?_
      obtain ⟨z9, hz9, hz⟩ := sat_bind hz
      refine q_callVv ZC_st C [] [] (c_X0_forget z7 hz9) tO_X0 rfl gX5_restore_X0_forget rfl ⟨rfl, rfl⟩ hdX0_forget ⟨by decide, by decide⟩ rfl (Nat.le_of_ble_eq_true rfl) dX5_restore_44 rfl (fun _ => ?_)
      refine q_iconst C dX5_restore_47 ⟨by decide, by decide⟩ ?_
      exact q_iret C dX5_restore_48 (sat_eq hz)
    · have hz := sat_t hz c4
      refine q_ldc (v := (-1000002)) (x := (-1000002)) C (by decide +kernel) dX5_restore_24 ⟨by decide +kernel, by decide, by decide⟩ ?_
      exact q_iret C dX5_restore_26 (sat_eq hz)
  · have hz := sat_t hz c2
    refine q_ldc (v := (-1000001)) (x := (-1000001)) C (by decide +kernel) dX5_restore_9 ⟨by decide +kernel, by decide, by decide⟩ ?_
    exact q_iret C dX5_restore_11 (sat_eq hz)
theorem hdX5_kind : yX5_kind.cls = RX5 ∧ yX5_kind.cls ≠ "java/lang/invoke/MethodHandle" ∧ yX5_kind.cls ≠ "java/lang/invoke/VarHandle" ∧ (parseMethodDescriptor yX5_kind.desc).map (fun d => d.parameters.length) = some 1 := by decide +kernel
set_option maxHeartbeats 4000000 in
set_option maxRecDepth 100000 in
theorem c_X5_kind {l : Launch} {D : va_G} {ad : Nat → Nat} {cI cII cR : ClassId} (μ : Mm) (p1 : Int) {v : Int} (hz : f_X5_kind μ p1 = some v) : CT l D vwCl (tyC cI cII cR) 194 ad (EC ad cI cII cR) (ZC ad) yX5_kind wsX5_kind ({ frames := 2, cells := 0, slots := 0, locals := 43 } : Room) (some .int) [Vr 174, Vi p1] μ (v, μ) := by
  refine CT_of [(0, Vr 174), (1, Vi p1)] ZC_st (by decide) rfl rfl (Nat.le_of_ble_eq_true rfl) rfl (fun G C => ?_)
  have i_X2 : ∀ w ∈ u_ws RX2 TX2 11, w ∈ wsX5_kind := by decide +kernel
  have i_X5 : ∀ w ∈ u_ws RX5 TX5 9, w ∈ wsX5_kind := by decide +kernel
  have f_40 : Cond.fieldLink (yX5_kind).cls 40 "SwanDeeds" "now" "LSwanDeeds$River;" ∈ wsX5_kind := by decide +kernel
  have f_266 : Cond.fieldLink (yX5_kind).cls 266 "SwanDeeds$River" "kinds" "[I" ∈ wsX5_kind := by decide +kernel
  have hz := sat_of hz
  unfold f_X5_kind at hz
  refine q_aload_n C 0 rfl dX5_kind_0 rfl ?_
  refine q_iload_n C 1 rfl dX5_kind_1 rfl ?_
  refine q_callVz ZC_st C [Vi p1] [] (c_X5_isSwan μ p1) tO_X5 rfl gX5_kind_X5_isSwan rfl ⟨rfl, rfl⟩ hdX5_isSwan ⟨by decide, by decide⟩ rfl (Nat.le_of_ble_eq_true rfl) dX5_kind_2 rfl (fun hb1 _ => ?_)
  refine q_if_eq C dX5_kind_5 (tgt := 20) (by decide) (fun c2 => ?_) (fun c2 => ?_)
  · have hz := sat_t hz c2
    refine q_ldc (v := (-1000001)) (x := (-1000001)) C (by decide +kernel) dX5_kind_20 ⟨by decide +kernel, by decide, by decide⟩ ?_
    exact q_iret C dX5_kind_22 (congrArg (fun q => (q, μ)) (sat_eq hz))
  · have hz := sat_f hz c2
    refine q_aload_n C 0 rfl dX5_kind_8 rfl ?_
    refine q_getR tO_X5 C (i := 4) i_X5 rfl rfl (by decide) rfl f_40 dX5_kind_9 ?_
    refine q_getR (tO_X2 (by decide)) C (i := 5) i_X2 rfl rfl (by decide) rfl f_266 dX5_kind_12 ?_
    refine q_iload_n C 1 rfl dX5_kind_15 rfl ?_
    obtain ⟨c3, hz⟩ := sat_chk hz
    refine q_iald (tA_kinds (by decide)) C 0 rfl c3 dX5_kind_16 ?_
    refine q_goto C dX5_kind_17 (tgt := 22) (by decide) ?_
    exact q_iret C dX5_kind_22 (congrArg (fun q => (q, μ)) (sat_eq hz))
theorem hdX5_isOfKind : yX5_isOfKind.cls ≠ "java/lang/invoke/MethodHandle" ∧ yX5_isOfKind.cls ≠ "java/lang/invoke/VarHandle" ∧ (parseMethodDescriptor yX5_isOfKind.desc).map (fun d => d.parameters.length) = some 2 := by decide +kernel
set_option maxHeartbeats 4000000 in
set_option maxRecDepth 100000 in
theorem c_X5_isOfKind {l : Launch} {D : va_G} {ad : Nat → Nat} {cI cII cR : ClassId} (μ : Mm) (p0 p1 : Int) {v : Int} (hz : f_X5_isOfKind μ p0 p1 = some v) : CT l D vwCl (tyC cI cII cR) 194 ad (EC ad cI cII cR) (ZC ad) yX5_isOfKind wsX5_isOfKind ({ frames := 0, cells := 0, slots := 0, locals := 0 } : Room) (some .boolean) [Vi p0, Vi p1] μ (v, μ) := by
  refine CT_of [(0, Vi p0), (1, Vi p1)] ZC_st (by decide) rfl rfl (Nat.le_of_ble_eq_true rfl) rfl (fun G C => ?_)
  have hz := sat_of hz
  unfold f_X5_isOfKind at hz
  refine q_iload_n C 0 rfl dX5_isOfKind_0 rfl ?_
  refine q_istore_n C [(2, Vi p0), (0, Vi p0), (1, Vi p1)] rfl (by decide) dX5_isOfKind_1 rfl ?_
  refine q_iconst C dX5_isOfKind_2 ⟨by decide, by decide⟩ ?_
  refine q_istore_n C [(3, Vi 0), (2, Vi p0), (0, Vi p0), (1, Vi p1)] rfl (by decide) dX5_isOfKind_3 rfl ?_
  refine q_sub C [3, 1, 0] [(1, Vi p1), (2, Vi p0), (3, Vi 0)] rfl ?_
  refine loop_go (fun x1 => G μ 4 [(1, Vi p1), (2, Vi (x1.1)), (3, Vi (x1.2))] []) (sat_bind2 hz) (fun h => h) (fun x1 hz => ?_)
  refine q_iload_n C 2 rfl dX5_isOfKind_4 rfl ?_
  refine q_bipush C dX5_isOfKind_5 ⟨rfl, by decide, by decide⟩ ?_
  refine q_icmp_ge C dX5_isOfKind_7 (tgt := 29) (by decide) (fun c2 => ?_) (fun c2 => ?_)
  · have hz := sat_t hz c2
    have hz := sat_some hz
    refine q_sub C [] [] rfl ?_
    refine q_iconst C dX5_isOfKind_29 ⟨by decide, by decide⟩ ?_
    exact q_zret C (Or.inl rfl) dX5_isOfKind_30 (congrArg (fun q => (q, μ)) (sat_eq hz))
  · have hz := sat_f hz c2
    refine q_iload_n C 1 rfl dX5_isOfKind_10 rfl ?_
    refine q_iload_n C 0 rfl dX5_isOfKind_11 rfl ?_
    refine q_icmp_ne C dX5_isOfKind_12 (tgt := 17) (by decide) (fun c3 => ?_) (fun c3 => ?_)
    · have hz := sat_f hz c3
      refine q_gets C (by decide +kernel) dX5_isOfKind_17 ?_
      refine q_iload_n C 1 rfl dX5_isOfKind_20 rfl ?_
      obtain ⟨c4, hz⟩ := sat_chk hz
      refine q_tald C c4 dX5_isOfKind_21 ?_
      refine q_istore_n C [(2, Vi (widI x1.1)), (1, Vi p1), (3, Vi (x1.2))] rfl (by decide) dX5_isOfKind_22 rfl ?_
      refine q_iinc C 2 rfl [(3, Vi (w3 (x1.2 + 1))), (2, Vi (widI x1.1)), (1, Vi p1)] rfl (by decide) dX5_isOfKind_23 ?_
      refine q_goto C dX5_isOfKind_26 (tgt := 4) (by decide) ?_
      refine q_sub C [2, 1, 0] [(1, Vi p1), (2, Vi (widI x1.1)), (3, Vi (w3 (x1.2 + 1)))] rfl ?_
      have hz := sat_some hz
      exact hz
    · have hz := sat_t hz c3
      refine q_iconst C dX5_isOfKind_15 ⟨by decide, by decide⟩ ?_
      have hz := sat_some hz
      exact q_zret C (Or.inr rfl) dX5_isOfKind_16 (congrArg (fun q => (q, μ)) (sat_eq hz))
theorem hdX5_as : yX5_as.cls = RX5 ∧ yX5_as.cls ≠ "java/lang/invoke/MethodHandle" ∧ yX5_as.cls ≠ "java/lang/invoke/VarHandle" ∧ (parseMethodDescriptor yX5_as.desc).map (fun d => d.parameters.length) = some 2 := by decide +kernel
set_option maxHeartbeats 4000000 in
set_option maxRecDepth 100000 in
theorem c_X5_as {l : Launch} {D : va_G} {ad : Nat → Nat} {cI cII cR : ClassId} (μ : Mm) (p1 p2 : Int) {v : Int × Mm} (hz : f_X5_as μ p1 p2 = some v) : CT l D vwCl (tyC cI cII cR) 194 ad (EC ad cI cII cR) (ZC ad) yX5_as wsX5_as ({ frames := 2, cells := 0, slots := 0, locals := 43 } : Room) (some .int) [Vr 174, Vi p1, Vi p2] μ (v.1, v.2) := by
  refine CT_of [(0, Vr 174), (1, Vi p1), (2, Vi p2)] ZC_st (by decide) rfl rfl (Nat.le_of_ble_eq_true rfl) rfl (fun G C => ?_)
  have i_X2 : ∀ w ∈ u_ws RX2 TX2 11, w ∈ wsX5_as := by decide +kernel
  have i_X5 : ∀ w ∈ u_ws RX5 TX5 9, w ∈ wsX5_as := by decide +kernel
  have f_40 : Cond.fieldLink (yX5_as).cls 40 "SwanDeeds" "now" "LSwanDeeds$River;" ∈ wsX5_as := by decide +kernel
  have f_63 : Cond.fieldLink (yX5_as).cls 63 "SwanDeeds" "status" "I" ∈ wsX5_as := by decide +kernel
  have f_266 : Cond.fieldLink (yX5_as).cls 266 "SwanDeeds$River" "kinds" "[I" ∈ wsX5_as := by decide +kernel
  have hz := sat_of hz
  unfold f_X5_as at hz
  refine q_aload_n C 0 rfl dX5_as_0 rfl ?_
  refine q_iload_n C 1 rfl dX5_as_1 rfl ?_
  refine q_callVz ZC_st C [Vi p1] [] (c_X5_isSwan μ p1) tO_X5 rfl gX5_as_X5_isSwan rfl ⟨rfl, rfl⟩ hdX5_isSwan ⟨by decide, by decide⟩ rfl (Nat.le_of_ble_eq_true rfl) dX5_as_2 rfl (fun hb1 _ => ?_)
  refine q_if_eq C dX5_as_5 (tgt := 17) (by decide) (fun c2 => ?_) (fun c2 => ?_)
  · have hz := sat_t hz c2
    refine q_ldc (v := (-1000001)) (x := (-1000001)) C (by decide +kernel) dX5_as_17 ⟨by decide +kernel, by decide, by decide⟩ ?_
    exact q_iret C dX5_as_19 (sat_eq hz)
  · have hz := sat_f hz c2
    refine q_iload_n C 2 rfl dX5_as_8 rfl ?_
    refine q_iconst C dX5_as_9 ⟨by decide, by decide⟩ ?_
    refine q_iconst C dX5_as_10 ⟨by decide, by decide⟩ ?_
    refine q_callSz ZC_st C [Vi p2, Vi 0, Vi 5] [] (c_X5_within μ p2 0 5) gX5_as_X5_within rfl ⟨rfl, rfl⟩ hdX5_within ⟨by decide, by decide⟩ rfl (Nat.le_of_ble_eq_true rfl) dX5_as_11 rfl (fun hb3 _ => ?_)
    refine q_if_ne C dX5_as_14 (tgt := 20) (by decide) (fun c4 => ?_) (fun c4 => ?_)
    · have hz := sat_f hz c4
      refine q_aload_n C 0 rfl dX5_as_20 rfl ?_
      refine q_getR tO_X5 C (i := 4) i_X5 rfl rfl (by decide) rfl f_40 dX5_as_21 ?_
      refine q_getR (tO_X2 (by decide)) C (i := 5) i_X2 rfl rfl (by decide) rfl f_266 dX5_as_24 ?_
      refine q_iload_n C 1 rfl dX5_as_27 rfl ?_
      obtain ⟨c5, hz⟩ := sat_chk hz
      refine q_iald (tA_kinds (by decide)) C 0 rfl c5 dX5_as_28 ?_
      refine q_iload_n C 2 rfl dX5_as_29 rfl ?_
      obtain ⟨z7, hz7, hz⟩ := sat_bind hz
      refine q_callSz ZC_st C [Vi (μ 0 (26 + p1)), Vi p2] [] (c_X5_isOfKind μ (μ 0 (26 + p1)) p2 hz7) gX5_as_X5_isOfKind rfl ⟨rfl, rfl⟩ hdX5_isOfKind ⟨by decide, by decide⟩ rfl (Nat.le_of_ble_eq_true rfl) dX5_as_30 rfl (fun hb6 _ => ?_)
      refine q_if_ne C dX5_as_33 (tgt := 42) (by decide) (fun c8 => ?_) (fun c8 => ?_)
      · have hz := sat_f hz c8
        refine q_aload_n C 0 rfl dX5_as_42 rfl ?_
        refine q_iconst C dX5_as_43 ⟨by decide, by decide⟩ ?_
        obtain ⟨m9, hm9, hz⟩ := sat_bnd hz
        refine q_put tO_X5 C hm9 (i := 8) i_X5 tyX5_ok nmX5 rfl rfl (by decide) rfl f_63 dX5_as_44 ?_
        refine q_iload_n C 1 rfl dX5_as_47 rfl ?_
        exact q_iret C dX5_as_48 (sat_eq hz)
      · have hz := sat_t hz c8
        refine q_aload_n C 0 rfl dX5_as_36 rfl ?_
        refine q_iconst C dX5_as_37 ⟨by decide, by decide⟩ ?_
        obtain ⟨z11, hz11, hz⟩ := sat_bind hz
        refine q_callVi ZC_st C [Vi 3] [] (c_X5_found μ 3 hz11) tO_X5 rfl gX5_as_X5_found rfl ⟨rfl, rfl⟩ hdX5_found ⟨by decide, by decide⟩ rfl (Nat.le_of_ble_eq_true rfl) dX5_as_38 rfl (fun _ _ => ?_)
        exact q_iret C dX5_as_41 (sat_eq hz)
    · have hz := sat_t hz c4
      refine q_ldc (v := (-1000001)) (x := (-1000001)) C (by decide +kernel) dX5_as_17 ⟨by decide +kernel, by decide, by decide⟩ ?_
      exact q_iret C dX5_as_19 (sat_eq hz)
theorem hdX1_ready : yX1_ready.cls = RX1 ∧ yX1_ready.cls ≠ "java/lang/invoke/MethodHandle" ∧ yX1_ready.cls ≠ "java/lang/invoke/VarHandle" ∧ (parseMethodDescriptor yX1_ready.desc).map (fun d => d.parameters.length) = some 2 := by decide +kernel
set_option maxHeartbeats 4000000 in
set_option maxRecDepth 100000 in
theorem c_X1_ready {l : Launch} {D : va_G} {ad : Nat → Nat} {cI cII cR : ClassId} (μ : Mm) (q : Nat) (hq : q < 29) (p2 : Int) {v : Mm} (hz : f_X1_ready μ q p2 = some v) : CT l D vwCl (tyC cI cII cR) 194 ad (EC ad cI cII cR) (ZC ad) yX1_ready wsX1_ready ({ frames := 0, cells := 0, slots := 0, locals := 0 } : Room) none [Vr 178, Vr (6 * q), Vi p2] μ ((0 : Int), v) := by
  refine CT_of [(0, Vr 178), (1, Vr (6 * q)), (2, Vi p2)] ZC_st (by decide) rfl rfl (Nat.le_of_ble_eq_true rfl) rfl (fun G C => ?_)
  have i_X1 : ∀ w ∈ u_ws RX1 TX1 6, w ∈ wsX1_ready := by decide +kernel
  have i_X2 : ∀ w ∈ u_ws RX2 TX2 11, w ∈ wsX1_ready := by decide +kernel
  have f_15 : Cond.fieldLink (yX1_ready).cls 15 "SwanDeeds$Asks" "begun" "I" ∈ wsX1_ready := by decide +kernel
  have f_19 : Cond.fieldLink (yX1_ready).cls 19 "SwanDeeds$Asks" "number" "I" ∈ wsX1_ready := by decide +kernel
  have f_22 : Cond.fieldLink (yX1_ready).cls 22 "SwanDeeds$River" "kinds" "[I" ∈ wsX1_ready := by decide +kernel
  have f_27 : Cond.fieldLink (yX1_ready).cls 27 "SwanDeeds$Asks" "kind" "I" ∈ wsX1_ready := by decide +kernel
  have f_30 : Cond.fieldLink (yX1_ready).cls 30 "SwanDeeds$River" "places" "[I" ∈ wsX1_ready := by decide +kernel
  have f_33 : Cond.fieldLink (yX1_ready).cls 33 "SwanDeeds$Asks" "place" "I" ∈ wsX1_ready := by decide +kernel
  have f_36 : Cond.fieldLink (yX1_ready).cls 36 "SwanDeeds$River" "weights" "[I" ∈ wsX1_ready := by decide +kernel
  have f_39 : Cond.fieldLink (yX1_ready).cls 39 "SwanDeeds$Asks" "weight" "I" ∈ wsX1_ready := by decide +kernel
  have hz := sat_of hz
  unfold f_X1_ready at hz
  refine q_aload_n C 0 rfl dX1_ready_0 rfl ?_
  refine q_iconst C dX1_ready_1 ⟨by decide, by decide⟩ ?_
  obtain ⟨m1, hm1, hz⟩ := sat_bnd hz
  refine q_put tO_X1 C hm1 (i := 1) i_X1 tyX1_ok nmX1 rfl rfl (by decide) rfl f_15 dX1_ready_2 ?_
  refine q_aload_n C 0 rfl dX1_ready_5 rfl ?_
  refine q_iload_n C 2 rfl dX1_ready_6 rfl ?_
  obtain ⟨m2, hm2, hz⟩ := sat_bnd hz
  refine q_put tO_X1 C hm2 (i := 2) i_X1 tyX1_ok nmX1 rfl rfl (by decide) rfl f_19 dX1_ready_7 ?_
  refine q_aload_n C 0 rfl dX1_ready_10 rfl ?_
  refine q_aload_n C 1 rfl dX1_ready_11 rfl ?_
  refine q_getR (tO_X2 hq) C (i := 5) i_X2 rfl rfl (by decide) rfl f_22 dX1_ready_12 ?_
  refine q_iload_n C 2 rfl dX1_ready_15 rfl ?_
  obtain ⟨c3, hz⟩ := sat_chk hz
  refine q_iald (tA_kinds hq) C 0 rfl c3 dX1_ready_16 ?_
  obtain ⟨m4, hm4, hz⟩ := sat_bnd hz
  refine q_put tO_X1 C hm4 (i := 3) i_X1 tyX1_ok nmX1 rfl rfl (by decide) rfl f_27 dX1_ready_17 ?_
  refine q_aload_n C 0 rfl dX1_ready_20 rfl ?_
  refine q_aload_n C 1 rfl dX1_ready_21 rfl ?_
  refine q_getR (tO_X2 hq) C (i := 7) i_X2 rfl rfl (by decide) rfl f_30 dX1_ready_22 ?_
  refine q_iload_n C 2 rfl dX1_ready_25 rfl ?_
  obtain ⟨c5, hz⟩ := sat_chk hz
  refine q_iald (tA_places hq) C 0 rfl c5 dX1_ready_26 ?_
  obtain ⟨m6, hm6, hz⟩ := sat_bnd hz
  refine q_put tO_X1 C hm6 (i := 4) i_X1 tyX1_ok nmX1 rfl rfl (by decide) rfl f_33 dX1_ready_27 ?_
  refine q_aload_n C 0 rfl dX1_ready_30 rfl ?_
  refine q_aload_n C 1 rfl dX1_ready_31 rfl ?_
  refine q_getR (tO_X2 hq) C (i := 8) i_X2 rfl rfl (by decide) rfl f_36 dX1_ready_32 ?_
  refine q_iload_n C 2 rfl dX1_ready_35 rfl ?_
  obtain ⟨c7, hz⟩ := sat_chk hz
  refine q_iald (tA_weights hq) C 0 rfl c7 dX1_ready_36 ?_
  obtain ⟨m8, hm8, hz⟩ := sat_bnd hz
  refine q_put tO_X1 C hm8 (i := 5) i_X1 tyX1_ok nmX1 rfl rfl (by decide) rfl f_39 dX1_ready_37 ?_
  exact q_vret C dX1_ready_40 (congrArg (fun q => ((0 : Int), q)) (sat_eq hz))
theorem hdX1_begin : yX1_begin.cls = RX1 ∧ yX1_begin.cls ≠ "java/lang/invoke/MethodHandle" ∧ yX1_begin.cls ≠ "java/lang/invoke/VarHandle" ∧ (parseMethodDescriptor yX1_begin.desc).map (fun d => d.parameters.length) = some 1 := by decide +kernel
set_option maxHeartbeats 4000000 in
set_option maxRecDepth 100000 in
theorem c_X1_begin {l : Launch} {D : va_G} {ad : Nat → Nat} {cI cII cR : ClassId} (μ : Mm) (p1 : Int) {v : Mm} (hz : f_X1_begin μ p1 = some v) : CT l D vwCl (tyC cI cII cR) 194 ad (EC ad cI cII cR) (ZC ad) yX1_begin wsX1_begin ({ frames := 0, cells := 0, slots := 0, locals := 0 } : Room) none [Vr 178, Vi p1] μ ((0 : Int), v) := by
  refine CT_of [(0, Vr 178), (1, Vi p1)] ZC_st (by decide) rfl rfl (Nat.le_of_ble_eq_true rfl) rfl (fun G C => ?_)
  have i_X1 : ∀ w ∈ u_ws RX1 TX1 6, w ∈ wsX1_begin := by decide +kernel
  have f_9 : Cond.fieldLink (yX1_begin).cls 9 "SwanDeeds$Asks" "bodies" "[I" ∈ wsX1_begin := by decide +kernel
  have f_15 : Cond.fieldLink (yX1_begin).cls 15 "SwanDeeds$Asks" "begun" "I" ∈ wsX1_begin := by decide +kernel
  have hz := sat_of hz
  unfold f_X1_begin at hz
  refine q_aload_n C 0 rfl dX1_begin_0 rfl ?_
  refine q_get tO_X1 C (i := 1) i_X1 rfl rfl (by decide) rfl f_15 dX1_begin_1 ?_
  refine q_bipush C dX1_begin_4 ⟨rfl, by decide, by decide⟩ ?_
  refine q_icmp_ge C dX1_begin_6 (tgt := 29) (by decide) (fun c1 => ?_) (fun c1 => ?_)
  · have hz := sat_t hz c1
    exact q_vret C dX1_begin_29 (congrArg (fun q => ((0 : Int), q)) (sat_eq hz))
  · have hz := sat_f hz c1
    refine q_aload_n C 0 rfl dX1_begin_9 rfl ?_
    refine q_getR tO_X1 C (i := 0) i_X1 rfl rfl (by decide) rfl f_9 dX1_begin_10 ?_
    refine q_aload_n C 0 rfl dX1_begin_13 rfl ?_
    refine q_get tO_X1 C (i := 1) i_X1 rfl rfl (by decide) rfl f_15 dX1_begin_14 ?_
    refine q_iload_n C 1 rfl dX1_begin_17 rfl ?_
    obtain ⟨c2, hz⟩ := sat_chk hz
    obtain ⟨m3, hm3, hz⟩ := sat_bnd hz
    refine q_iast (tA_bodies) C 0 rfl c2 hm3 dX1_begin_18 ?_
    refine q_aload_n C 0 rfl dX1_begin_19 rfl ?_
    refine q_dup C dX1_begin_20 rfl ?_
    refine q_get tO_X1 C (i := 1) i_X1 rfl rfl (by decide) rfl f_15 dX1_begin_21 ?_
    refine q_iconst C dX1_begin_24 ⟨by decide, by decide⟩ ?_
    refine q_iadd C dX1_begin_25 ?_
    obtain ⟨m4, hm4, hz⟩ := sat_bnd hz
    refine q_put tO_X1 C hm4 (i := 1) i_X1 tyX1_ok nmX1 rfl rfl (by decide) rfl f_15 dX1_begin_26 ?_
    exact q_vret C dX1_begin_29 (congrArg (fun q => ((0 : Int), q)) (sat_eq hz))
theorem hdX1_sizeOfAny : yX1_sizeOfAny.cls = RX1 ∧ yX1_sizeOfAny.cls ≠ "java/lang/invoke/MethodHandle" ∧ yX1_sizeOfAny.cls ≠ "java/lang/invoke/VarHandle" ∧ (parseMethodDescriptor yX1_sizeOfAny.desc).map (fun d => d.parameters.length) = some 0 := by decide +kernel
set_option maxHeartbeats 4000000 in
set_option maxRecDepth 100000 in
theorem c_X1_sizeOfAny {l : Launch} {D : va_G} {ad : Nat → Nat} {cI cII cR : ClassId} (μ : Mm) {v : Int × Mm} (hz : f_X1_sizeOfAny μ = some v) : CT l D vwCl (tyC cI cII cR) 194 ad (EC ad cI cII cR) (ZC ad) yX1_sizeOfAny wsX1_sizeOfAny ({ frames := 1, cells := 0, slots := 0, locals := 21 } : Room) (some .int) [Vr 178] μ (v.1, v.2) := by
  refine CT_of [(0, Vr 178)] ZC_st (by decide) rfl rfl (Nat.le_of_ble_eq_true rfl) rfl (fun G C => ?_)
  have i_X1 : ∀ w ∈ u_ws RX1 TX1 6, w ∈ wsX1_sizeOfAny := by decide +kernel
  have f_39 : Cond.fieldLink (yX1_sizeOfAny).cls 39 "SwanDeeds$Asks" "weight" "I" ∈ wsX1_sizeOfAny := by decide +kernel
  have hz := sat_of hz
  unfold f_X1_sizeOfAny at hz
  refine q_aload_n C 0 rfl dX1_sizeOfAny_0 rfl ?_
  refine q_bipush C dX1_sizeOfAny_1 ⟨rfl, by decide, by decide⟩ ?_
  obtain ⟨z2, hz2, hz⟩ := sat_bind hz
  refine q_callVv ZC_st C [Vi 10] [] (c_X1_begin μ 10 hz2) tO_X1 rfl gX1_sizeOfAny_X1_begin rfl ⟨rfl, rfl⟩ hdX1_begin ⟨by decide, by decide⟩ rfl (Nat.le_of_ble_eq_true rfl) dX1_sizeOfAny_3 rfl (fun _ => ?_)
  refine q_aload_n C 0 rfl dX1_sizeOfAny_6 rfl ?_
  refine q_get tO_X1 C (i := 5) i_X1 rfl rfl (by decide) rfl f_39 dX1_sizeOfAny_7 ?_
  exact q_iret C dX1_sizeOfAny_10 (sat_eq hz)
theorem hdX1_markOfAny : yX1_markOfAny.cls = RX1 ∧ yX1_markOfAny.cls ≠ "java/lang/invoke/MethodHandle" ∧ yX1_markOfAny.cls ≠ "java/lang/invoke/VarHandle" ∧ (parseMethodDescriptor yX1_markOfAny.desc).map (fun d => d.parameters.length) = some 0 := by decide +kernel
set_option maxHeartbeats 4000000 in
set_option maxRecDepth 100000 in
theorem c_X1_markOfAny {l : Launch} {D : va_G} {ad : Nat → Nat} {cI cII cR : ClassId} (μ : Mm) {v : Int × Mm} (hz : f_X1_markOfAny μ = some v) : CT l D vwCl (tyC cI cII cR) 194 ad (EC ad cI cII cR) (ZC ad) yX1_markOfAny wsX1_markOfAny ({ frames := 1, cells := 0, slots := 0, locals := 21 } : Room) (some .int) [Vr 178] μ (v.1, v.2) := by
  refine CT_of [(0, Vr 178)] ZC_st (by decide) rfl rfl (Nat.le_of_ble_eq_true rfl) rfl (fun G C => ?_)
  have i_X1 : ∀ w ∈ u_ws RX1 TX1 6, w ∈ wsX1_markOfAny := by decide +kernel
  have f_19 : Cond.fieldLink (yX1_markOfAny).cls 19 "SwanDeeds$Asks" "number" "I" ∈ wsX1_markOfAny := by decide +kernel
  have hz := sat_of hz
  unfold f_X1_markOfAny at hz
  refine q_aload_n C 0 rfl dX1_markOfAny_0 rfl ?_
  refine q_bipush C dX1_markOfAny_1 ⟨rfl, by decide, by decide⟩ ?_
  obtain ⟨z2, hz2, hz⟩ := sat_bind hz
  refine q_callVv ZC_st C [Vi 20] [] (c_X1_begin μ 20 hz2) tO_X1 rfl gX1_markOfAny_X1_begin rfl ⟨rfl, rfl⟩ hdX1_begin ⟨by decide, by decide⟩ rfl (Nat.le_of_ble_eq_true rfl) dX1_markOfAny_3 rfl (fun _ => ?_)
  refine q_aload_n C 0 rfl dX1_markOfAny_6 rfl ?_
  refine q_get tO_X1 C (i := 2) i_X1 rfl rfl (by decide) rfl f_19 dX1_markOfAny_7 ?_
  exact q_iret C dX1_markOfAny_10 (sat_eq hz)
theorem hdX1_markOfPen : yX1_markOfPen.cls = RX1 ∧ yX1_markOfPen.cls ≠ "java/lang/invoke/MethodHandle" ∧ yX1_markOfPen.cls ≠ "java/lang/invoke/VarHandle" ∧ (parseMethodDescriptor yX1_markOfPen.desc).map (fun d => d.parameters.length) = some 0 := by decide +kernel
set_option maxHeartbeats 4000000 in
set_option maxRecDepth 100000 in
theorem c_X1_markOfPen {l : Launch} {D : va_G} {ad : Nat → Nat} {cI cII cR : ClassId} (μ : Mm) {v : Int × Mm} (hz : f_X1_markOfPen μ = some v) : CT l D vwCl (tyC cI cII cR) 194 ad (EC ad cI cII cR) (ZC ad) yX1_markOfPen wsX1_markOfPen ({ frames := 2, cells := 0, slots := 0, locals := 41 } : Room) (some .int) [Vr 178] μ (v.1, v.2) := by
  refine CT_of [(0, Vr 178)] ZC_st (by decide) rfl rfl (Nat.le_of_ble_eq_true rfl) rfl (fun G C => ?_)
  have i_X1 : ∀ w ∈ u_ws RX1 TX1 6, w ∈ wsX1_markOfPen := by decide +kernel
  have f_33 : Cond.fieldLink (yX1_markOfPen).cls 33 "SwanDeeds$Asks" "place" "I" ∈ wsX1_markOfPen := by decide +kernel
  have hz := sat_of hz
  unfold f_X1_markOfPen at hz
  refine q_aload_n C 0 rfl dX1_markOfPen_0 rfl ?_
  refine q_bipush C dX1_markOfPen_1 ⟨rfl, by decide, by decide⟩ ?_
  obtain ⟨z2, hz2, hz⟩ := sat_bind hz
  refine q_callVv ZC_st C [Vi 21] [] (c_X1_begin μ 21 hz2) tO_X1 rfl gX1_markOfPen_X1_begin rfl ⟨rfl, rfl⟩ hdX1_begin ⟨by decide, by decide⟩ rfl (Nat.le_of_ble_eq_true rfl) dX1_markOfPen_3 rfl (fun _ => ?_)
  refine q_aload_n C 0 rfl dX1_markOfPen_6 rfl ?_
  obtain ⟨z4, hz4, hz⟩ := sat_bind hz
  refine q_callVi ZC_st C [] [] (c_X1_markOfAny z2 hz4) tO_X1 rfl gX1_markOfPen_X1_markOfAny rfl ⟨rfl, rfl⟩ hdX1_markOfAny ⟨by decide, by decide⟩ rfl (Nat.le_of_ble_eq_true rfl) dX1_markOfPen_7 rfl (fun _ _ => ?_)
  refine q_aload_n C 0 rfl dX1_markOfPen_10 rfl ?_
  refine q_get tO_X1 C (i := 4) i_X1 rfl rfl (by decide) rfl f_33 dX1_markOfPen_11 ?_
  refine q_iadd C dX1_markOfPen_14 ?_
  exact q_iret C dX1_markOfPen_15 (sat_eq hz)
theorem hdX1_markOfCob : yX1_markOfCob.cls = RX1 ∧ yX1_markOfCob.cls ≠ "java/lang/invoke/MethodHandle" ∧ yX1_markOfCob.cls ≠ "java/lang/invoke/VarHandle" ∧ (parseMethodDescriptor yX1_markOfCob.desc).map (fun d => d.parameters.length) = some 0 := by decide +kernel
set_option maxHeartbeats 4000000 in
set_option maxRecDepth 100000 in
theorem c_X1_markOfCob {l : Launch} {D : va_G} {ad : Nat → Nat} {cI cII cR : ClassId} (μ : Mm) {v : Int × Mm} (hz : f_X1_markOfCob μ = some v) : CT l D vwCl (tyC cI cII cR) 194 ad (EC ad cI cII cR) (ZC ad) yX1_markOfCob wsX1_markOfCob ({ frames := 3, cells := 0, slots := 0, locals := 61 } : Room) (some .int) [Vr 178] μ (v.1, v.2) := by
  refine CT_of [(0, Vr 178)] ZC_st (by decide) rfl rfl (Nat.le_of_ble_eq_true rfl) rfl (fun G C => ?_)
  have hz := sat_of hz
  unfold f_X1_markOfCob at hz
  refine q_aload_n C 0 rfl dX1_markOfCob_0 rfl ?_
  refine q_bipush C dX1_markOfCob_1 ⟨rfl, by decide, by decide⟩ ?_
  obtain ⟨z2, hz2, hz⟩ := sat_bind hz
  refine q_callVv ZC_st C [Vi 24] [] (c_X1_begin μ 24 hz2) tO_X1 rfl gX1_markOfCob_X1_begin rfl ⟨rfl, rfl⟩ hdX1_begin ⟨by decide, by decide⟩ rfl (Nat.le_of_ble_eq_true rfl) dX1_markOfCob_3 rfl (fun _ => ?_)
  refine q_iconst C dX1_markOfCob_6 ⟨by decide, by decide⟩ ?_
  refine q_aload_n C 0 rfl dX1_markOfCob_7 rfl ?_
  obtain ⟨z4, hz4, hz⟩ := sat_bind hz
  refine q_callVi ZC_st C [] [Vi 2] (c_X1_markOfPen z2 hz4) tO_X1 rfl gX1_markOfCob_X1_markOfPen rfl ⟨rfl, rfl⟩ hdX1_markOfPen ⟨by decide, by decide⟩ rfl (Nat.le_of_ble_eq_true rfl) dX1_markOfCob_8 rfl (fun _ _ => ?_)
  refine q_imul C dX1_markOfCob_11 ?_
  exact q_iret C dX1_markOfCob_12 (sat_eq hz)
theorem hdX1_markOfCygnet : yX1_markOfCygnet.cls = RX1 ∧ yX1_markOfCygnet.cls ≠ "java/lang/invoke/MethodHandle" ∧ yX1_markOfCygnet.cls ≠ "java/lang/invoke/VarHandle" ∧ (parseMethodDescriptor yX1_markOfCygnet.desc).map (fun d => d.parameters.length) = some 0 := by decide +kernel
set_option maxHeartbeats 4000000 in
set_option maxRecDepth 100000 in
theorem c_X1_markOfCygnet {l : Launch} {D : va_G} {ad : Nat → Nat} {cI cII cR : ClassId} (μ : Mm) {v : Int × Mm} (hz : f_X1_markOfCygnet μ = some v) : CT l D vwCl (tyC cI cII cR) 194 ad (EC ad cI cII cR) (ZC ad) yX1_markOfCygnet wsX1_markOfCygnet ({ frames := 3, cells := 0, slots := 0, locals := 61 } : Room) (some .int) [Vr 178] μ (v.1, v.2) := by
  refine CT_of [(0, Vr 178)] ZC_st (by decide) rfl rfl (Nat.le_of_ble_eq_true rfl) rfl (fun G C => ?_)
  have hz := sat_of hz
  unfold f_X1_markOfCygnet at hz
  refine q_aload_n C 0 rfl dX1_markOfCygnet_0 rfl ?_
  refine q_bipush C dX1_markOfCygnet_1 ⟨rfl, by decide, by decide⟩ ?_
  obtain ⟨z2, hz2, hz⟩ := sat_bind hz
  refine q_callVv ZC_st C [Vi 22] [] (c_X1_begin μ 22 hz2) tO_X1 rfl gX1_markOfCygnet_X1_begin rfl ⟨rfl, rfl⟩ hdX1_begin ⟨by decide, by decide⟩ rfl (Nat.le_of_ble_eq_true rfl) dX1_markOfCygnet_3 rfl (fun _ => ?_)
  refine q_aload_n C 0 rfl dX1_markOfCygnet_6 rfl ?_
  obtain ⟨z4, hz4, hz⟩ := sat_bind hz
  refine q_callVi ZC_st C [] [] (c_X1_markOfPen z2 hz4) tO_X1 rfl gX1_markOfCygnet_X1_markOfPen rfl ⟨rfl, rfl⟩ hdX1_markOfPen ⟨by decide, by decide⟩ rfl (Nat.le_of_ble_eq_true rfl) dX1_markOfCygnet_7 rfl (fun _ _ => ?_)
  refine q_sipush C dX1_markOfCygnet_10 ⟨rfl, by decide, by decide⟩ ?_
  refine q_isub C dX1_markOfCygnet_13 ?_
  exact q_iret C dX1_markOfCygnet_14 (sat_eq hz)
theorem hdX1_sizeOfPen : yX1_sizeOfPen.cls = RX1 ∧ yX1_sizeOfPen.cls ≠ "java/lang/invoke/MethodHandle" ∧ yX1_sizeOfPen.cls ≠ "java/lang/invoke/VarHandle" ∧ (parseMethodDescriptor yX1_sizeOfPen.desc).map (fun d => d.parameters.length) = some 0 := by decide +kernel
set_option maxHeartbeats 4000000 in
set_option maxRecDepth 100000 in
theorem c_X1_sizeOfPen {l : Launch} {D : va_G} {ad : Nat → Nat} {cI cII cR : ClassId} (μ : Mm) {v : Int × Mm} (hz : f_X1_sizeOfPen μ = some v) : CT l D vwCl (tyC cI cII cR) 194 ad (EC ad cI cII cR) (ZC ad) yX1_sizeOfPen wsX1_sizeOfPen ({ frames := 4, cells := 0, slots := 0, locals := 81 } : Room) (some .int) [Vr 178] μ (v.1, v.2) := by
  refine CT_of [(0, Vr 178)] ZC_st (by decide) rfl rfl (Nat.le_of_ble_eq_true rfl) rfl (fun G C => ?_)
  have i_X1 : ∀ w ∈ u_ws RX1 TX1 6, w ∈ wsX1_sizeOfPen := by decide +kernel
  have f_27 : Cond.fieldLink (yX1_sizeOfPen).cls 27 "SwanDeeds$Asks" "kind" "I" ∈ wsX1_sizeOfPen := by decide +kernel
  have hz := sat_of hz
  unfold f_X1_sizeOfPen at hz
  refine q_aload_n C 0 rfl dX1_sizeOfPen_0 rfl ?_
  refine q_bipush C dX1_sizeOfPen_1 ⟨rfl, by decide, by decide⟩ ?_
  obtain ⟨z2, hz2, hz⟩ := sat_bind hz
  refine q_callVv ZC_st C [Vi 11] [] (c_X1_begin μ 11 hz2) tO_X1 rfl gX1_sizeOfPen_X1_begin rfl ⟨rfl, rfl⟩ hdX1_begin ⟨by decide, by decide⟩ rfl (Nat.le_of_ble_eq_true rfl) dX1_sizeOfPen_3 rfl (fun _ => ?_)
  refine q_aload_n C 0 rfl dX1_sizeOfPen_6 rfl ?_
  obtain ⟨z4, hz4, hz⟩ := sat_bind hz
  refine q_callVi ZC_st C [] [] (c_X1_sizeOfAny z2 hz4) tO_X1 rfl gX1_sizeOfPen_X1_sizeOfAny rfl ⟨rfl, rfl⟩ hdX1_sizeOfAny ⟨by decide, by decide⟩ rfl (Nat.le_of_ble_eq_true rfl) dX1_sizeOfPen_7 rfl (fun _ _ => ?_)
  refine q_istore_n C [(1, Vi (z4.1)), (0, Vr 178)] rfl (by decide) dX1_sizeOfPen_10 rfl ?_
  refine q_aload_n C 1 rfl dX1_sizeOfPen_11 rfl ?_
  refine q_get tO_X1 C (i := 3) i_X1 rfl rfl (by decide) rfl f_27 dX1_sizeOfPen_12 ?_
  refine sat_ite hz (fun c5 hz => ?_) (fun c5 hz => ?_)
  · have c5 : z4.2 33 2 = 2 := c5
    refine q_lookup C dX1_sizeOfPen_15 rfl (off := 25) (by rw [c5]; rfl) (tgt := 40) (by decide) ?_
    refine q_iload_n C 0 rfl dX1_sizeOfPen_40 rfl ?_
    refine q_aload_n C 1 rfl dX1_sizeOfPen_41 rfl ?_
    obtain ⟨z7, hz7, hz⟩ := sat_bind hz
    refine q_callVi ZC_st C [] [Vi (z4.1)] (c_X1_markOfCob z4.2 hz7) tO_X1 rfl gX1_sizeOfPen_X1_markOfCob rfl ⟨rfl, rfl⟩ hdX1_markOfCob ⟨by decide, by decide⟩ rfl (Nat.le_of_ble_eq_true rfl) dX1_sizeOfPen_42 rfl (fun _ _ => ?_)
    refine q_iadd C dX1_sizeOfPen_45 ?_
    exact q_iret C dX1_sizeOfPen_46 (sat_eq hz)
  · have c5 : ¬ z4.2 33 2 = 2 := c5
    refine sat_ite hz (fun c8 hz => ?_) (fun c8 hz => ?_)
    · have c8 : z4.2 33 2 = 3 := c8
      refine q_lookup C dX1_sizeOfPen_15 rfl (off := 32) (by rw [c8]; rfl) (tgt := 47) (by decide) ?_
      refine q_iload_n C 0 rfl dX1_sizeOfPen_47 rfl ?_
      refine q_aload_n C 1 rfl dX1_sizeOfPen_48 rfl ?_
      obtain ⟨z10, hz10, hz⟩ := sat_bind hz
      refine q_callVi ZC_st C [] [Vi (z4.1)] (c_X1_markOfCygnet z4.2 hz10) tO_X1 rfl gX1_sizeOfPen_X1_markOfCygnet rfl ⟨rfl, rfl⟩ hdX1_markOfCygnet ⟨by decide, by decide⟩ rfl (Nat.le_of_ble_eq_true rfl) dX1_sizeOfPen_49 rfl (fun _ _ => ?_)
      refine q_iadd C dX1_sizeOfPen_52 ?_
      exact q_iret C dX1_sizeOfPen_53 (sat_eq hz)
    · have c8 : ¬ z4.2 33 2 = 3 := c8
      refine q_lookup C dX1_sizeOfPen_15 rfl (off := 39) ((osw c5).trans ((osw c8).trans (rfl))) (tgt := 54) (by decide) ?_
      refine q_iload_n C 0 rfl dX1_sizeOfPen_54 rfl ?_
      refine q_aload_n C 1 rfl dX1_sizeOfPen_55 rfl ?_
      obtain ⟨z12, hz12, hz⟩ := sat_bind hz
      refine q_callVi ZC_st C [] [Vi (z4.1)] (c_X1_markOfPen z4.2 hz12) tO_X1 rfl gX1_sizeOfPen_X1_markOfPen rfl ⟨rfl, rfl⟩ hdX1_markOfPen ⟨by decide, by decide⟩ rfl (Nat.le_of_ble_eq_true rfl) dX1_sizeOfPen_56 rfl (fun _ _ => ?_)
      refine q_iadd C dX1_sizeOfPen_59 ?_
      exact q_iret C dX1_sizeOfPen_60 (sat_eq hz)
theorem hdX1_sizeOfCob : yX1_sizeOfCob.cls = RX1 ∧ yX1_sizeOfCob.cls ≠ "java/lang/invoke/MethodHandle" ∧ yX1_sizeOfCob.cls ≠ "java/lang/invoke/VarHandle" ∧ (parseMethodDescriptor yX1_sizeOfCob.desc).map (fun d => d.parameters.length) = some 0 := by decide +kernel
set_option maxHeartbeats 4000000 in
set_option maxRecDepth 100000 in
theorem c_X1_sizeOfCob {l : Launch} {D : va_G} {ad : Nat → Nat} {cI cII cR : ClassId} (μ : Mm) {v : Int × Mm} (hz : f_X1_sizeOfCob μ = some v) : CT l D vwCl (tyC cI cII cR) 194 ad (EC ad cI cII cR) (ZC ad) yX1_sizeOfCob wsX1_sizeOfCob ({ frames := 5, cells := 0, slots := 0, locals := 102 } : Room) (some .int) [Vr 178] μ (v.1, v.2) := by
  refine CT_of [(0, Vr 178)] ZC_st (by decide) rfl rfl (Nat.le_of_ble_eq_true rfl) rfl (fun G C => ?_)
  have hz := sat_of hz
  unfold f_X1_sizeOfCob at hz
  refine q_aload_n C 0 rfl dX1_sizeOfCob_0 rfl ?_
  refine q_bipush C dX1_sizeOfCob_1 ⟨rfl, by decide, by decide⟩ ?_
  obtain ⟨z2, hz2, hz⟩ := sat_bind hz
  refine q_callVv ZC_st C [Vi 12] [] (c_X1_begin μ 12 hz2) tO_X1 rfl gX1_sizeOfCob_X1_begin rfl ⟨rfl, rfl⟩ hdX1_begin ⟨by decide, by decide⟩ rfl (Nat.le_of_ble_eq_true rfl) dX1_sizeOfCob_3 rfl (fun _ => ?_)
  refine q_aload_n C 0 rfl dX1_sizeOfCob_6 rfl ?_
  obtain ⟨z4, hz4, hz⟩ := sat_bind hz
  refine q_callVi ZC_st C [] [] (c_X1_sizeOfPen z2 hz4) tO_X1 rfl gX1_sizeOfCob_X1_sizeOfPen rfl ⟨rfl, rfl⟩ hdX1_sizeOfPen ⟨by decide, by decide⟩ rfl (Nat.le_of_ble_eq_true rfl) dX1_sizeOfCob_7 rfl (fun _ _ => ?_)
  refine q_ineg C dX1_sizeOfCob_10 ?_
  exact q_iret C dX1_sizeOfCob_11 (sat_eq hz)
theorem hdX1_sizeOfOld : yX1_sizeOfOld.cls = RX1 ∧ yX1_sizeOfOld.cls ≠ "java/lang/invoke/MethodHandle" ∧ yX1_sizeOfOld.cls ≠ "java/lang/invoke/VarHandle" ∧ (parseMethodDescriptor yX1_sizeOfOld.desc).map (fun d => d.parameters.length) = some 0 := by decide +kernel
set_option maxHeartbeats 4000000 in
set_option maxRecDepth 100000 in
theorem c_X1_sizeOfOld {l : Launch} {D : va_G} {ad : Nat → Nat} {cI cII cR : ClassId} (μ : Mm) {v : Int × Mm} (hz : f_X1_sizeOfOld μ = some v) : CT l D vwCl (tyC cI cII cR) 194 ad (EC ad cI cII cR) (ZC ad) yX1_sizeOfOld wsX1_sizeOfOld ({ frames := 2, cells := 0, slots := 0, locals := 41 } : Room) (some .int) [Vr 178] μ (v.1, v.2) := by
  refine CT_of [(0, Vr 178)] ZC_st (by decide) rfl rfl (Nat.le_of_ble_eq_true rfl) rfl (fun G C => ?_)
  have hz := sat_of hz
  unfold f_X1_sizeOfOld at hz
  refine q_aload_n C 0 rfl dX1_sizeOfOld_0 rfl ?_
  refine q_bipush C dX1_sizeOfOld_1 ⟨rfl, by decide, by decide⟩ ?_
  obtain ⟨z2, hz2, hz⟩ := sat_bind hz
  refine q_callVv ZC_st C [Vi 13] [] (c_X1_begin μ 13 hz2) tO_X1 rfl gX1_sizeOfOld_X1_begin rfl ⟨rfl, rfl⟩ hdX1_begin ⟨by decide, by decide⟩ rfl (Nat.le_of_ble_eq_true rfl) dX1_sizeOfOld_3 rfl (fun _ => ?_)
  refine q_aload_n C 0 rfl dX1_sizeOfOld_6 rfl ?_
  obtain ⟨z4, hz4, hz⟩ := sat_bind hz
  refine q_callVi ZC_st C [] [] (c_X1_sizeOfAny z2 hz4) tO_X1 rfl gX1_sizeOfOld_X1_sizeOfAny rfl ⟨rfl, rfl⟩ hdX1_sizeOfAny ⟨by decide, by decide⟩ rfl (Nat.le_of_ble_eq_true rfl) dX1_sizeOfOld_7 rfl (fun _ _ => ?_)
  refine q_bipush C dX1_sizeOfOld_10 ⟨rfl, by decide, by decide⟩ ?_
  refine q_isub C dX1_sizeOfOld_12 ?_
  exact q_iret C dX1_sizeOfOld_13 (sat_eq hz)
theorem hdX1_sizeOfBlack : yX1_sizeOfBlack.cls = RX1 ∧ yX1_sizeOfBlack.cls ≠ "java/lang/invoke/MethodHandle" ∧ yX1_sizeOfBlack.cls ≠ "java/lang/invoke/VarHandle" ∧ (parseMethodDescriptor yX1_sizeOfBlack.desc).map (fun d => d.parameters.length) = some 0 := by decide +kernel
set_option maxHeartbeats 4000000 in
set_option maxRecDepth 100000 in
theorem c_X1_sizeOfBlack {l : Launch} {D : va_G} {ad : Nat → Nat} {cI cII cR : ClassId} (μ : Mm) {v : Int × Mm} (hz : f_X1_sizeOfBlack μ = some v) : CT l D vwCl (tyC cI cII cR) 194 ad (EC ad cI cII cR) (ZC ad) yX1_sizeOfBlack wsX1_sizeOfBlack ({ frames := 3, cells := 0, slots := 0, locals := 61 } : Room) (some .int) [Vr 178] μ (v.1, v.2) := by
  refine CT_of [(0, Vr 178)] ZC_st (by decide) rfl rfl (Nat.le_of_ble_eq_true rfl) rfl (fun G C => ?_)
  have hz := sat_of hz
  unfold f_X1_sizeOfBlack at hz
  refine q_aload_n C 0 rfl dX1_sizeOfBlack_0 rfl ?_
  refine q_bipush C dX1_sizeOfBlack_1 ⟨rfl, by decide, by decide⟩ ?_
  obtain ⟨z2, hz2, hz⟩ := sat_bind hz
  refine q_callVv ZC_st C [Vi 14] [] (c_X1_begin μ 14 hz2) tO_X1 rfl gX1_sizeOfBlack_X1_begin rfl ⟨rfl, rfl⟩ hdX1_begin ⟨by decide, by decide⟩ rfl (Nat.le_of_ble_eq_true rfl) dX1_sizeOfBlack_3 rfl (fun _ => ?_)
  refine q_iconst C dX1_sizeOfBlack_6 ⟨by decide, by decide⟩ ?_
  refine q_aload_n C 0 rfl dX1_sizeOfBlack_7 rfl ?_
  obtain ⟨z4, hz4, hz⟩ := sat_bind hz
  refine q_callVi ZC_st C [] [Vi 2] (c_X1_sizeOfOld z2 hz4) tO_X1 rfl gX1_sizeOfBlack_X1_sizeOfOld rfl ⟨rfl, rfl⟩ hdX1_sizeOfOld ⟨by decide, by decide⟩ rfl (Nat.le_of_ble_eq_true rfl) dX1_sizeOfBlack_8 rfl (fun _ _ => ?_)
  refine q_imul C dX1_sizeOfBlack_11 ?_
  exact q_iret C dX1_sizeOfBlack_12 (sat_eq hz)
theorem hdX1_markOfOld : yX1_markOfOld.cls = RX1 ∧ yX1_markOfOld.cls ≠ "java/lang/invoke/MethodHandle" ∧ yX1_markOfOld.cls ≠ "java/lang/invoke/VarHandle" ∧ (parseMethodDescriptor yX1_markOfOld.desc).map (fun d => d.parameters.length) = some 0 := by decide +kernel
set_option maxHeartbeats 4000000 in
set_option maxRecDepth 100000 in
theorem c_X1_markOfOld {l : Launch} {D : va_G} {ad : Nat → Nat} {cI cII cR : ClassId} (μ : Mm) {v : Int × Mm} (hz : f_X1_markOfOld μ = some v) : CT l D vwCl (tyC cI cII cR) 194 ad (EC ad cI cII cR) (ZC ad) yX1_markOfOld wsX1_markOfOld ({ frames := 4, cells := 0, slots := 0, locals := 81 } : Room) (some .int) [Vr 178] μ (v.1, v.2) := by
  refine CT_of [(0, Vr 178)] ZC_st (by decide) rfl rfl (Nat.le_of_ble_eq_true rfl) rfl (fun G C => ?_)
  have i_X1 : ∀ w ∈ u_ws RX1 TX1 6, w ∈ wsX1_markOfOld := by decide +kernel
  have f_27 : Cond.fieldLink (yX1_markOfOld).cls 27 "SwanDeeds$Asks" "kind" "I" ∈ wsX1_markOfOld := by decide +kernel
  have hz := sat_of hz
  unfold f_X1_markOfOld at hz
  refine q_aload_n C 0 rfl dX1_markOfOld_0 rfl ?_
  refine q_bipush C dX1_markOfOld_1 ⟨rfl, by decide, by decide⟩ ?_
  obtain ⟨z2, hz2, hz⟩ := sat_bind hz
  refine q_callVv ZC_st C [Vi 23] [] (c_X1_begin μ 23 hz2) tO_X1 rfl gX1_markOfOld_X1_begin rfl ⟨rfl, rfl⟩ hdX1_begin ⟨by decide, by decide⟩ rfl (Nat.le_of_ble_eq_true rfl) dX1_markOfOld_3 rfl (fun _ => ?_)
  refine q_aload_n C 0 rfl dX1_markOfOld_6 rfl ?_
  obtain ⟨z4, hz4, hz⟩ := sat_bind hz
  refine q_callVi ZC_st C [] [] (c_X1_markOfAny z2 hz4) tO_X1 rfl gX1_markOfOld_X1_markOfAny rfl ⟨rfl, rfl⟩ hdX1_markOfAny ⟨by decide, by decide⟩ rfl (Nat.le_of_ble_eq_true rfl) dX1_markOfOld_7 rfl (fun _ _ => ?_)
  refine q_istore_n C [(1, Vi (z4.1)), (0, Vr 178)] rfl (by decide) dX1_markOfOld_10 rfl ?_
  refine q_iload_n C 0 rfl dX1_markOfOld_11 rfl ?_
  refine q_aload_n C 1 rfl dX1_markOfOld_12 rfl ?_
  refine q_get tO_X1 C (i := 3) i_X1 rfl rfl (by decide) rfl f_27 dX1_markOfOld_13 ?_
  refine q_iconst C dX1_markOfOld_16 ⟨by decide, by decide⟩ ?_
  refine q_icmp_ne C dX1_markOfOld_17 (tgt := 27) (by decide) (fun c5 => ?_) (fun c5 => ?_)
  · have hz := sat_f hz c5
    refine q_aload_n C 1 rfl dX1_markOfOld_27 rfl ?_
    obtain ⟨z7, hz7, hz⟩ := sat_bind hz
    refine q_callVi ZC_st C [] [Vi (z4.1)] (c_X1_sizeOfOld z4.2 hz7) tO_X1 rfl gX1_markOfOld_X1_sizeOfOld rfl ⟨rfl, rfl⟩ hdX1_sizeOfOld ⟨by decide, by decide⟩ rfl (Nat.le_of_ble_eq_true rfl) dX1_markOfOld_28 rfl (fun _ _ => ?_)
    refine q_isub C dX1_markOfOld_31 ?_
    exact q_iret C dX1_markOfOld_32 (sat_eq hz)
  · have hz := sat_t hz c5
    refine q_aload_n C 1 rfl dX1_markOfOld_20 rfl ?_
    obtain ⟨z9, hz9, hz⟩ := sat_bind hz
    refine q_callVi ZC_st C [] [Vi (z4.1)] (c_X1_sizeOfBlack z4.2 hz9) tO_X1 rfl gX1_markOfOld_X1_sizeOfBlack rfl ⟨rfl, rfl⟩ hdX1_sizeOfBlack ⟨by decide, by decide⟩ rfl (Nat.le_of_ble_eq_true rfl) dX1_markOfOld_21 rfl (fun _ _ => ?_)
    refine q_goto C dX1_markOfOld_24 (tgt := 31) (by decide) ?_
    refine q_isub C dX1_markOfOld_31 ?_
    exact q_iret C dX1_markOfOld_32 (sat_eq hz)
theorem hdX5_ask : yX5_ask.cls = RX5 ∧ yX5_ask.cls ≠ "java/lang/invoke/MethodHandle" ∧ yX5_ask.cls ≠ "java/lang/invoke/VarHandle" ∧ (parseMethodDescriptor yX5_ask.desc).map (fun d => d.parameters.length) = some 2 := by decide +kernel
set_option maxHeartbeats 4000000 in
set_option maxRecDepth 100000 in
theorem c_X5_ask {l : Launch} {D : va_G} {ad : Nat → Nat} {cI cII cR : ClassId} (μ : Mm) (p1 p2 : Int) {v : Int × Mm} (hz : f_X5_ask μ p1 p2 = some v) : CT l D vwCl (tyC cI cII cR) 194 ad (EC ad cI cII cR) (ZC ad) yX5_ask wsX5_ask ({ frames := 6, cells := 0, slots := 0, locals := 122 } : Room) (some .int) [Vr 174, Vi p1, Vi p2] μ (v.1, v.2) := by
  refine CT_of [(0, Vr 174), (1, Vi p1), (2, Vi p2)] ZC_st (by decide) rfl rfl (Nat.le_of_ble_eq_true rfl) rfl (fun G C => ?_)
  have i_X2 : ∀ w ∈ u_ws RX2 TX2 11, w ∈ wsX5_ask := by decide +kernel
  have i_X5 : ∀ w ∈ u_ws RX5 TX5 9, w ∈ wsX5_ask := by decide +kernel
  have f_33 : Cond.fieldLink (yX5_ask).cls 33 "SwanDeeds" "asks" "LSwanDeeds$Asks;" ∈ wsX5_ask := by decide +kernel
  have f_40 : Cond.fieldLink (yX5_ask).cls 40 "SwanDeeds" "now" "LSwanDeeds$River;" ∈ wsX5_ask := by decide +kernel
  have f_266 : Cond.fieldLink (yX5_ask).cls 266 "SwanDeeds$River" "kinds" "[I" ∈ wsX5_ask := by decide +kernel
  have hz := sat_of hz
  unfold f_X5_ask at hz
  refine q_aload_n C 0 rfl dX5_ask_0 rfl ?_
  refine q_iload_n C 1 rfl dX5_ask_1 rfl ?_
  refine q_callVz ZC_st C [Vi p1] [] (c_X5_isSwan μ p1) tO_X5 rfl gX5_ask_X5_isSwan rfl ⟨rfl, rfl⟩ hdX5_isSwan ⟨by decide, by decide⟩ rfl (Nat.le_of_ble_eq_true rfl) dX5_ask_2 rfl (fun hb1 _ => ?_)
  refine q_if_eq C dX5_ask_5 (tgt := 17) (by decide) (fun c2 => ?_) (fun c2 => ?_)
  · have hz := sat_t hz c2
    refine q_ldc (v := (-1000001)) (x := (-1000001)) C (by decide +kernel) dX5_ask_17 ⟨by decide +kernel, by decide, by decide⟩ ?_
    exact q_iret C dX5_ask_19 (sat_eq hz)
  · have hz := sat_f hz c2
    refine q_iload_n C 2 rfl dX5_ask_8 rfl ?_
    refine q_iconst C dX5_ask_9 ⟨by decide, by decide⟩ ?_
    refine q_iconst C dX5_ask_10 ⟨by decide, by decide⟩ ?_
    refine q_callSz ZC_st C [Vi p2, Vi 0, Vi 1] [] (c_X5_within μ p2 0 1) gX5_ask_X5_within rfl ⟨rfl, rfl⟩ hdX5_within ⟨by decide, by decide⟩ rfl (Nat.le_of_ble_eq_true rfl) dX5_ask_11 rfl (fun hb3 _ => ?_)
    refine q_if_ne C dX5_ask_14 (tgt := 20) (by decide) (fun c4 => ?_) (fun c4 => ?_)
    · have hz := sat_f hz c4
      refine q_aload_n C 0 rfl dX5_ask_20 rfl ?_
      refine q_getR tO_X5 C (i := 3) i_X5 rfl rfl (by decide) rfl f_33 dX5_ask_21 ?_
      refine q_aload_n C 0 rfl dX5_ask_24 rfl ?_
      refine q_getR tO_X5 C (i := 4) i_X5 rfl rfl (by decide) rfl f_40 dX5_ask_25 ?_
      refine q_iload_n C 1 rfl dX5_ask_28 rfl ?_
      obtain ⟨z6, hz6, hz⟩ := sat_bind hz
      refine q_callVv ZC_st C [Vr (6 * 0), Vi p1] [] (c_X1_ready μ 0 (by decide) p1 hz6) tO_X1 rfl gX5_ask_X1_ready rfl ⟨rfl, rfl⟩ hdX1_ready ⟨by decide, by decide⟩ rfl (Nat.le_of_ble_eq_true rfl) dX5_ask_29 rfl (fun _ => ?_)
      refine q_iload_n C 2 rfl dX5_ask_32 rfl ?_
      obtain ⟨v7, hv7, hz⟩ := sat_bnd hz
      have Jv7 : G z6 41 [(0, Vr 174), (1, Vi p1)] [Vi v7] := by
        refine q_istore_n C [(3, Vi v7), (0, Vr 174), (1, Vi p1)] rfl (by decide) dX5_ask_41 rfl ?_
        refine q_aload_n C 1 rfl dX5_ask_42 rfl ?_
        refine q_getR tO_X5 C (i := 4) i_X5 rfl rfl (by decide) rfl f_40 dX5_ask_43 ?_
        refine q_getR (tO_X2 (by decide)) C (i := 5) i_X2 rfl rfl (by decide) rfl f_266 dX5_ask_46 ?_
        refine q_iload_n C 2 rfl dX5_ask_49 rfl ?_
        obtain ⟨c8, hz⟩ := sat_chk hz
        refine q_iald (tA_kinds (by decide)) C 0 rfl c8 dX5_ask_50 ?_
        refine sat_ite hz (fun c9 hz => ?_) (fun c9 hz => ?_)
        · have c9 : z6 0 (26 + p1) = 2 := c9
          refine q_tab_in C dX5_ask_51 (by omega) (by omega) (off := 29) (by rw [c9]; rfl) (tgt := 80) (by decide) ?_
          refine q_iload_n C 0 rfl dX5_ask_80 rfl ?_
          refine q_if_eq C dX5_ask_81 (tgt := 94) (by decide) (fun c10 => ?_) (fun c10 => ?_)
          · have hz := sat_t hz c10
            refine q_aload_n C 1 rfl dX5_ask_94 rfl ?_
            refine q_getR tO_X5 C (i := 3) i_X5 rfl rfl (by decide) rfl f_33 dX5_ask_95 ?_
            obtain ⟨z12, hz12, hz⟩ := sat_bind hz
            refine q_callVi ZC_st C [] [] (c_X1_markOfCob z6 hz12) tO_X1 rfl gX5_ask_X1_markOfCob rfl ⟨rfl, rfl⟩ hdX1_markOfCob ⟨by decide, by decide⟩ rfl (Nat.le_of_ble_eq_true rfl) dX5_ask_98 rfl (fun _ _ => ?_)
            exact q_iret C dX5_ask_101 (sat_eq hz)
          · have hz := sat_f hz c10
            refine q_aload_n C 1 rfl dX5_ask_84 rfl ?_
            refine q_getR tO_X5 C (i := 3) i_X5 rfl rfl (by decide) rfl f_33 dX5_ask_85 ?_
            obtain ⟨z14, hz14, hz⟩ := sat_bind hz
            refine q_callVi ZC_st C [] [] (c_X1_sizeOfCob z6 hz14) tO_X1 rfl gX5_ask_X1_sizeOfCob rfl ⟨rfl, rfl⟩ hdX1_sizeOfCob ⟨by decide, by decide⟩ rfl (Nat.le_of_ble_eq_true rfl) dX5_ask_88 rfl (fun _ _ => ?_)
            refine q_goto C dX5_ask_91 (tgt := 101) (by decide) ?_
            exact q_iret C dX5_ask_101 (sat_eq hz)
        · have c9 : ¬ z6 0 (26 + p1) = 2 := c9
          refine sat_ite hz (fun c15 hz => ?_) (fun c15 hz => ?_)
          · have c15 : z6 0 (26 + p1) = 3 := c15
            refine q_tab_in C dX5_ask_51 (by omega) (by omega) (off := 51) (by rw [c15]; rfl) (tgt := 102) (by decide) ?_
            refine q_iload_n C 0 rfl dX5_ask_102 rfl ?_
            refine q_if_eq C dX5_ask_103 (tgt := 116) (by decide) (fun c16 => ?_) (fun c16 => ?_)
            · have hz := sat_t hz c16
              refine q_aload_n C 1 rfl dX5_ask_116 rfl ?_
              refine q_getR tO_X5 C (i := 3) i_X5 rfl rfl (by decide) rfl f_33 dX5_ask_117 ?_
              obtain ⟨z18, hz18, hz⟩ := sat_bind hz
              refine q_callVi ZC_st C [] [] (c_X1_markOfCygnet z6 hz18) tO_X1 rfl gX5_ask_X1_markOfCygnet rfl ⟨rfl, rfl⟩ hdX1_markOfCygnet ⟨by decide, by decide⟩ rfl (Nat.le_of_ble_eq_true rfl) dX5_ask_120 rfl (fun _ _ => ?_)
              exact q_iret C dX5_ask_123 (sat_eq hz)
            · have hz := sat_f hz c16
              refine q_aload_n C 1 rfl dX5_ask_106 rfl ?_
              refine q_getR tO_X5 C (i := 3) i_X5 rfl rfl (by decide) rfl f_33 dX5_ask_107 ?_
              obtain ⟨z20, hz20, hz⟩ := sat_bind hz
              refine q_callVi ZC_st C [] [] (c_X1_sizeOfPen z6 hz20) tO_X1 rfl gX5_ask_X1_sizeOfPen rfl ⟨rfl, rfl⟩ hdX1_sizeOfPen ⟨by decide, by decide⟩ rfl (Nat.le_of_ble_eq_true rfl) dX5_ask_110 rfl (fun _ _ => ?_)
              refine q_goto C dX5_ask_113 (tgt := 123) (by decide) ?_
              exact q_iret C dX5_ask_123 (sat_eq hz)
          · have c15 : ¬ z6 0 (26 + p1) = 3 := c15
            refine sat_ite hz (fun c21 hz => ?_) (fun c21 hz => ?_)
            · have c21 : z6 0 (26 + p1) = 4 := c21
              refine q_tab_in C dX5_ask_51 (by omega) (by omega) (off := 73) (by rw [c21]; rfl) (tgt := 124) (by decide) ?_
              refine q_iload_n C 0 rfl dX5_ask_124 rfl ?_
              refine q_if_eq C dX5_ask_125 (tgt := 138) (by decide) (fun c22 => ?_) (fun c22 => ?_)
              · have hz := sat_t hz c22
                refine q_aload_n C 1 rfl dX5_ask_138 rfl ?_
                refine q_getR tO_X5 C (i := 3) i_X5 rfl rfl (by decide) rfl f_33 dX5_ask_139 ?_
                obtain ⟨z24, hz24, hz⟩ := sat_bind hz
                refine q_callVi ZC_st C [] [] (c_X1_markOfOld z6 hz24) tO_X1 rfl gX5_ask_X1_markOfOld rfl ⟨rfl, rfl⟩ hdX1_markOfOld ⟨by decide, by decide⟩ rfl (Nat.le_of_ble_eq_true rfl) dX5_ask_142 rfl (fun _ _ => ?_)
                exact q_iret C dX5_ask_145 (sat_eq hz)
              · have hz := sat_f hz c22
                refine q_aload_n C 1 rfl dX5_ask_128 rfl ?_
                refine q_getR tO_X5 C (i := 3) i_X5 rfl rfl (by decide) rfl f_33 dX5_ask_129 ?_
                obtain ⟨z26, hz26, hz⟩ := sat_bind hz
                refine q_callVi ZC_st C [] [] (c_X1_sizeOfOld z6 hz26) tO_X1 rfl gX5_ask_X1_sizeOfOld rfl ⟨rfl, rfl⟩ hdX1_sizeOfOld ⟨by decide, by decide⟩ rfl (Nat.le_of_ble_eq_true rfl) dX5_ask_132 rfl (fun _ _ => ?_)
                refine q_goto C dX5_ask_135 (tgt := 145) (by decide) ?_
                exact q_iret C dX5_ask_145 (sat_eq hz)
            · have c21 : ¬ z6 0 (26 + p1) = 4 := c21
              refine sat_ite hz (fun c27 hz => ?_) (fun c27 hz => ?_)
              · have c27 : z6 0 (26 + p1) = 5 := c27
                refine q_tab_in C dX5_ask_51 (by omega) (by omega) (off := 95) (by rw [c27]; rfl) (tgt := 146) (by decide) ?_
                refine q_iload_n C 0 rfl dX5_ask_146 rfl ?_
                refine q_if_eq C dX5_ask_147 (tgt := 160) (by decide) (fun c28 => ?_) (fun c28 => ?_)
                · have hz := sat_t hz c28
                  refine q_aload_n C 1 rfl dX5_ask_160 rfl ?_
                  refine q_getR tO_X5 C (i := 3) i_X5 rfl rfl (by decide) rfl f_33 dX5_ask_161 ?_
                  obtain ⟨z30, hz30, hz⟩ := sat_bind hz
                  refine q_callVi ZC_st C [] [] (c_X1_markOfOld z6 hz30) tO_X1 rfl gX5_ask_X1_markOfOld rfl ⟨rfl, rfl⟩ hdX1_markOfOld ⟨by decide, by decide⟩ rfl (Nat.le_of_ble_eq_true rfl) dX5_ask_164 rfl (fun _ _ => ?_)
                  exact q_iret C dX5_ask_167 (sat_eq hz)
                · have hz := sat_f hz c28
                  refine q_aload_n C 1 rfl dX5_ask_150 rfl ?_
                  refine q_getR tO_X5 C (i := 3) i_X5 rfl rfl (by decide) rfl f_33 dX5_ask_151 ?_
                  obtain ⟨z32, hz32, hz⟩ := sat_bind hz
                  refine q_callVi ZC_st C [] [] (c_X1_sizeOfBlack z6 hz32) tO_X1 rfl gX5_ask_X1_sizeOfBlack rfl ⟨rfl, rfl⟩ hdX1_sizeOfBlack ⟨by decide, by decide⟩ rfl (Nat.le_of_ble_eq_true rfl) dX5_ask_154 rfl (fun _ _ => ?_)
                  refine q_goto C dX5_ask_157 (tgt := 167) (by decide) ?_
                  exact q_iret C dX5_ask_167 (sat_eq hz)
              · have c27 : ¬ z6 0 (26 + p1) = 5 := c27
                refine q_tab_out C dX5_ask_51 (by omega) (tgt := 168) (by decide) ?_
                refine q_iload_n C 0 rfl dX5_ask_168 rfl ?_
                refine q_if_eq C dX5_ask_169 (tgt := 182) (by decide) (fun c33 => ?_) (fun c33 => ?_)
                · have hz := sat_t hz c33
                  refine q_aload_n C 1 rfl dX5_ask_182 rfl ?_
                  refine q_getR tO_X5 C (i := 3) i_X5 rfl rfl (by decide) rfl f_33 dX5_ask_183 ?_
                  obtain ⟨z35, hz35, hz⟩ := sat_bind hz
                  refine q_callVi ZC_st C [] [] (c_X1_markOfPen z6 hz35) tO_X1 rfl gX5_ask_X1_markOfPen rfl ⟨rfl, rfl⟩ hdX1_markOfPen ⟨by decide, by decide⟩ rfl (Nat.le_of_ble_eq_true rfl) dX5_ask_186 rfl (fun _ _ => ?_)
                  exact q_iret C dX5_ask_189 (sat_eq hz)
                · have hz := sat_f hz c33
                  refine q_aload_n C 1 rfl dX5_ask_172 rfl ?_
                  refine q_getR tO_X5 C (i := 3) i_X5 rfl rfl (by decide) rfl f_33 dX5_ask_173 ?_
                  obtain ⟨z37, hz37, hz⟩ := sat_bind hz
                  refine q_callVi ZC_st C [] [] (c_X1_sizeOfPen z6 hz37) tO_X1 rfl gX5_ask_X1_sizeOfPen rfl ⟨rfl, rfl⟩ hdX1_sizeOfPen ⟨by decide, by decide⟩ rfl (Nat.le_of_ble_eq_true rfl) dX5_ask_176 rfl (fun _ _ => ?_)
                  refine q_goto C dX5_ask_179 (tgt := 189) (by decide) ?_
                  exact q_iret C dX5_ask_189 (sat_eq hz)
      have hz := hv7.symm
      refine q_if_ne C dX5_ask_33 (tgt := 40) (by decide) (fun c38 => ?_) (fun c38 => ?_)
      · have hz := eq_f hz c38
        refine q_iconst C dX5_ask_40 ⟨by decide, by decide⟩ ?_
        have hz : _ = v7 := hz
        refine q_sub C [0, 1] [(0, Vr 174), (1, Vi p1)] rfl ?_
        subst hz
        exact Jv7
      · have hz := eq_t hz c38
        refine q_iconst C dX5_ask_36 ⟨by decide, by decide⟩ ?_
        refine q_goto C dX5_ask_37 (tgt := 41) (by decide) ?_
        have hz : _ = v7 := hz
        refine q_sub C [0, 1] [(0, Vr 174), (1, Vi p1)] rfl ?_
        subst hz
        exact Jv7
    · have hz := sat_t hz c4
      refine q_ldc (v := (-1000001)) (x := (-1000001)) C (by decide +kernel) dX5_ask_17 ⟨by decide +kernel, by decide, by decide⟩ ?_
      exact q_iret C dX5_ask_19 (sat_eq hz)
