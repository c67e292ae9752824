theorem hdX5_evening : yX5_evening.cls = RX5 ∧ yX5_evening.cls ≠ "java/lang/invoke/MethodHandle" ∧ yX5_evening.cls ≠ "java/lang/invoke/VarHandle" ∧ (parseMethodDescriptor yX5_evening.desc).map (fun d => d.parameters.length) = some 0 := by decide +kernel
set_option maxHeartbeats 4000000 in
set_option maxRecDepth 100000 in
theorem c_X5_evening {l : Launch} {D : va_G} {ad : Nat → Nat} {cI cII cR : ClassId} (μ : Mm) {v : Int × Mm} (hz : f_X5_evening μ = some v) : CT l D vwCl (tyC cI cII cR) 194 ad (EC ad cI cII cR) (ZC ad) yX5_evening wsX5_evening ({ frames := 4, cells := 0, slots := 0, locals := 96 } : Room) (some .int) [Vr 174] μ (v.1, v.2) := by
  refine CT_of [(0, Vr 174)] ZC_st (by decide) rfl rfl (Nat.le_of_ble_eq_true rfl) rfl (fun G C => ?_)
  have i_X5 : ∀ w ∈ u_ws RX5 TX5 9, w ∈ wsX5_evening := by decide +kernel
  have f_40 : Cond.fieldLink (yX5_evening).cls 40 "SwanDeeds" "now" "LSwanDeeds$River;" ∈ wsX5_evening := by decide +kernel
  have f_44 : Cond.fieldLink (yX5_evening).cls 44 "SwanDeeds" "trial" "LSwanDeeds$River;" ∈ wsX5_evening := by decide +kernel
  have hz := sat_of hz
  unfold f_X5_evening at hz
  refine q_aload_n C 0 rfl dX5_evening_0 rfl ?_
  refine q_callVz ZC_st C [] [] (c_X5_hasRiver μ) tO_X5 rfl gX5_evening_X5_hasRiver rfl ⟨rfl, rfl⟩ hdX5_hasRiver ⟨by decide, by decide⟩ rfl (Nat.le_of_ble_eq_true rfl) dX5_evening_1 rfl (fun hb1 _ => ?_)
  refine q_if_ne C dX5_evening_4 (tgt := 10) (by decide) (fun c2 => ?_) (fun c2 => ?_)
  · have hz := sat_f hz c2
    refine q_aload_n C 0 rfl dX5_evening_10 rfl ?_
    refine q_getR tO_X5 C (i := 5) i_X5 rfl rfl (by decide) rfl f_44 dX5_evening_11 ?_
    refine q_aload_n C 0 rfl dX5_evening_14 rfl ?_
    refine q_getR tO_X5 C (i := 4) i_X5 rfl rfl (by decide) rfl f_40 dX5_evening_15 ?_
    obtain ⟨z4, hz4, hz⟩ := sat_bind hz
    refine q_callVv ZC_st C [Vr (6 * 0)] [] (c_X2_become μ 3 (by decide) 0 (by decide) hz4) (tO_X2 (by decide)) rfl gX5_evening_X2_become rfl ⟨rfl, rfl⟩ hdX2_become ⟨by decide, by decide⟩ rfl (Nat.le_of_ble_eq_true rfl) dX5_evening_18 rfl (fun _ => ?_)
    refine q_iconst C dX5_evening_21 ⟨by decide, by decide⟩ ?_
    refine q_istore_n C [(1, Vi 0), (0, Vr 174)] rfl (by decide) dX5_evening_22 rfl ?_
    refine q_sub C [1, 0] [(0, Vr 174), (1, Vi 0)] rfl ?_
    refine loop_go (fun x5 => G x5.2 23 [(0, Vr 174), (1, Vi (x5.1))] []) (sat_bind2 hz) (fun h => h) (fun x5 hz => ?_)
    refine q_iload_n C 1 rfl dX5_evening_23 rfl ?_
    refine q_bipush C dX5_evening_24 ⟨rfl, by decide, by decide⟩ ?_
    refine q_icmp_gt C dX5_evening_26 (tgt := 55) (by decide) (fun c6 => ?_) (fun c6 => ?_)
    · have hz := sat_t hz c6
      have hz := sat_some hz
      refine q_sub C [] [] rfl ?_
      refine q_ldc (v := (-1000000)) (x := (-1000000)) C (by decide +kernel) dX5_evening_55 ⟨by decide +kernel, by decide, by decide⟩ ?_
      exact q_iret C dX5_evening_57 (sat_eq hz)
    · have hz := sat_f hz c6
      refine q_aload_n C 0 rfl dX5_evening_29 rfl ?_
      refine q_getR tO_X5 C (i := 5) i_X5 rfl rfl (by decide) rfl f_44 dX5_evening_30 ?_
      obtain ⟨z8, hz8, hz⟩ := sat_bind hz
      refine q_callVi ZC_st C [] [] (c_X2_ownerCount x5.2 3 (by decide) hz8) (tO_X2 (by decide)) rfl gX5_evening_X2_ownerCount rfl ⟨rfl, rfl⟩ hdX2_ownerCount ⟨by decide, by decide⟩ rfl (Nat.le_of_ble_eq_true rfl) dX5_evening_33 rfl (fun _ _ => ?_)
      refine q_iconst C dX5_evening_36 ⟨by decide, by decide⟩ ?_
      refine q_icmp_ne C dX5_evening_37 (tgt := 42) (by decide) (fun c9 => ?_) (fun c9 => ?_)
      · have hz := sat_f hz c9
        refine q_aload_n C 0 rfl dX5_evening_42 rfl ?_
        refine q_getR tO_X5 C (i := 5) i_X5 rfl rfl (by decide) rfl f_44 dX5_evening_43 ?_
        obtain ⟨z11, hz11, hz⟩ := sat_bind hz
        refine q_callVv ZC_st C [] [] (c_X2_passDay x5.2 3 (by decide) hz11) (tO_X2 (by decide)) rfl gX5_evening_X2_passDay rfl ⟨rfl, rfl⟩ hdX2_passDay ⟨by decide, by decide⟩ rfl (Nat.le_of_ble_eq_true rfl) dX5_evening_46 rfl (fun _ => ?_)
        refine q_iinc C 1 rfl [(1, Vi (w3 (x5.1 + 1))), (0, Vr 174)] rfl (by decide) dX5_evening_49 ?_
        refine q_goto C dX5_evening_52 (tgt := 23) (by decide) ?_
        refine q_sub C [1, 0] [(0, Vr 174), (1, Vi (w3 (x5.1 + 1)))] rfl ?_
        have hz := sat_some hz
        exact hz
      · have hz := sat_t hz c9
        refine q_iload_n C 1 rfl dX5_evening_40 rfl ?_
        have hz := sat_some hz
        exact q_iret C dX5_evening_41 (sat_eq hz)
  · have hz := sat_t hz c2
    refine q_ldc (v := (-1000002)) (x := (-1000002)) C (by decide +kernel) dX5_evening_7 ⟨by decide +kernel, by decide, by decide⟩ ?_
    exact q_iret C dX5_evening_9 (sat_eq hz)
theorem hdX5_stays : yX5_stays.cls = RX5 ∧ yX5_stays.cls ≠ "java/lang/invoke/MethodHandle" ∧ yX5_stays.cls ≠ "java/lang/invoke/VarHandle" ∧ (parseMethodDescriptor yX5_stays.desc).map (fun d => d.parameters.length) = some 3 := by decide +kernel
set_option maxHeartbeats 4000000 in
set_option maxRecDepth 100000 in
theorem c_X5_stays {l : Launch} {D : va_G} {ad : Nat → Nat} {cI cII cR : ClassId} (μ : Mm) (p1 p2 p3 : Int) {v : Int × Mm} (hz : f_X5_stays μ p1 p2 p3 = some v) : CT l D vwCl (tyC cI cII cR) 194 ad (EC ad cI cII cR) (ZC ad) yX5_stays wsX5_stays ({ frames := 4, cells := 0, slots := 0, locals := 96 } : Room) (some .int) [Vr 174, Vi p1, Vi p2, Vi p3] μ (v.1, v.2) := by
  refine CT_of [(0, Vr 174), (1, Vi p1), (2, Vi p2), (3, Vi p3)] ZC_st (by decide) rfl rfl (Nat.le_of_ble_eq_true rfl) rfl (fun G C => ?_)
  have i_X2 : ∀ w ∈ u_ws RX2 TX2 11, w ∈ wsX5_stays := by decide +kernel
  have i_X5 : ∀ w ∈ u_ws RX5 TX5 9, w ∈ wsX5_stays := by decide +kernel
  have f_40 : Cond.fieldLink (yX5_stays).cls 40 "SwanDeeds" "now" "LSwanDeeds$River;" ∈ wsX5_stays := by decide +kernel
  have f_44 : Cond.fieldLink (yX5_stays).cls 44 "SwanDeeds" "trial" "LSwanDeeds$River;" ∈ wsX5_stays := by decide +kernel
  have f_167 : Cond.fieldLink (yX5_stays).cls 167 "SwanDeeds$River" "places" "[I" ∈ wsX5_stays := by decide +kernel
  have hz := sat_of hz
  unfold f_X5_stays at hz
  refine q_aload_n C 0 rfl dX5_stays_0 rfl ?_
  refine q_iload_n C 1 rfl dX5_stays_1 rfl ?_
  refine q_callVz ZC_st C [Vi p1] [] (c_X5_isSwan μ p1) tO_X5 rfl gX5_stays_X5_isSwan rfl ⟨rfl, rfl⟩ hdX5_isSwan ⟨by decide, by decide⟩ rfl (Nat.le_of_ble_eq_true rfl) dX5_stays_2 rfl (fun hb1 _ => ?_)
  refine q_if_eq C dX5_stays_5 (tgt := 26) (by decide) (fun c2 => ?_) (fun c2 => ?_)
  · have hz := sat_t hz c2
    refine q_ldc (v := (-1000001)) (x := (-1000001)) C (by decide +kernel) dX5_stays_26 ⟨by decide +kernel, by decide, by decide⟩ ?_
    exact q_iret C dX5_stays_28 (sat_eq hz)
  · have hz := sat_f hz c2
    refine q_aload_n C 0 rfl dX5_stays_8 rfl ?_
    refine q_iload_n C 2 rfl dX5_stays_9 rfl ?_
    refine q_callVz ZC_st C [Vi p2] [] (c_X5_isLawn μ p2) tO_X5 rfl gX5_stays_X5_isLawn rfl ⟨rfl, rfl⟩ hdX5_isLawn ⟨by decide, by decide⟩ rfl (Nat.le_of_ble_eq_true rfl) dX5_stays_10 rfl (fun hb3 _ => ?_)
    refine q_if_eq C dX5_stays_13 (tgt := 26) (by decide) (fun c4 => ?_) (fun c4 => ?_)
    · have hz := sat_t hz c4
      refine q_ldc (v := (-1000001)) (x := (-1000001)) C (by decide +kernel) dX5_stays_26 ⟨by decide +kernel, by decide, by decide⟩ ?_
      exact q_iret C dX5_stays_28 (sat_eq hz)
    · have hz := sat_f hz c4
      refine q_iload_n C 3 rfl dX5_stays_16 rfl ?_
      refine q_iconst C dX5_stays_17 ⟨by decide, by decide⟩ ?_
      refine q_bipush C dX5_stays_18 ⟨rfl, by decide, by decide⟩ ?_
      refine q_callSz ZC_st C [Vi p3, Vi 1, Vi 60] [] (c_X5_within μ p3 1 60) gX5_stays_X5_within rfl ⟨rfl, rfl⟩ hdX5_within ⟨by decide, by decide⟩ rfl (Nat.le_of_ble_eq_true rfl) dX5_stays_20 rfl (fun hb5 _ => ?_)
      refine q_if_ne C dX5_stays_23 (tgt := 29) (by decide) (fun c6 => ?_) (fun c6 => ?_)
      · have hz := sat_f hz c6
        refine q_aload_n C 0 rfl dX5_stays_29 rfl ?_
        refine q_getR tO_X5 C (i := 5) i_X5 rfl rfl (by decide) rfl f_44 dX5_stays_30 ?_
        refine q_aload_n C 0 rfl dX5_stays_33 rfl ?_
        refine q_getR tO_X5 C (i := 4) i_X5 rfl rfl (by decide) rfl f_40 dX5_stays_34 ?_
        obtain ⟨z8, hz8, hz⟩ := sat_bind hz
        refine q_callVv ZC_st C [Vr (6 * 0)] [] (c_X2_become μ 3 (by decide) 0 (by decide) hz8) (tO_X2 (by decide)) rfl gX5_stays_X2_become rfl ⟨rfl, rfl⟩ hdX2_become ⟨by decide, by decide⟩ rfl (Nat.le_of_ble_eq_true rfl) dX5_stays_37 rfl (fun _ => ?_)
        refine q_iconst C dX5_stays_40 ⟨by decide, by decide⟩ ?_
        refine q_istore C [(4, Vi 0), (0, Vr 174), (1, Vi p1), (2, Vi p2), (3, Vi p3)] rfl (by decide) dX5_stays_41 ?_
        refine q_iconst C dX5_stays_43 ⟨by decide, by decide⟩ ?_
        refine q_istore C [(5, Vi 0), (4, Vi 0), (0, Vr 174), (1, Vi p1), (2, Vi p2), (3, Vi p3)] rfl (by decide) dX5_stays_44 ?_
        refine q_sub C [2, 3, 4, 5, 1, 0] [(0, Vr 174), (1, Vi p1), (2, Vi p2), (3, Vi p3), (4, Vi 0), (5, Vi 0)] rfl ?_
        refine loop_go (fun x9 => G x9.2.2 46 [(0, Vr 174), (1, Vi p1), (2, Vi p2), (3, Vi p3), (4, Vi (x9.1)), (5, Vi (x9.2.1))] []) (sat_bind2 hz) (fun h => h) (fun x9 hz => ?_)
        refine q_iload C 5 rfl dX5_stays_46 ?_
        refine q_iload_n C 3 rfl dX5_stays_48 rfl ?_
        refine q_icmp_ge C dX5_stays_49 (tgt := 81) (by decide) (fun c10 => ?_) (fun c10 => ?_)
        · have hz := sat_t hz c10
          have hz := sat_some hz
          refine q_sub C [4] [(4, Vi (x9.1))] rfl ?_
          refine q_iload C 0 rfl dX5_stays_81 ?_
          exact q_iret C dX5_stays_83 (sat_eq hz)
        · have hz := sat_f hz c10
          refine q_aload_n C 0 rfl dX5_stays_52 rfl ?_
          refine q_getR tO_X5 C (i := 5) i_X5 rfl rfl (by decide) rfl f_44 dX5_stays_53 ?_
          obtain ⟨z12, hz12, hz⟩ := sat_bind hz
          refine q_callVv ZC_st C [] [] (c_X2_passDay x9.2.2 3 (by decide) hz12) (tO_X2 (by decide)) rfl gX5_stays_X2_passDay rfl ⟨rfl, rfl⟩ hdX2_passDay ⟨by decide, by decide⟩ rfl (Nat.le_of_ble_eq_true rfl) dX5_stays_56 rfl (fun _ => ?_)
          refine q_aload_n C 0 rfl dX5_stays_59 rfl ?_
          refine q_getR tO_X5 C (i := 5) i_X5 rfl rfl (by decide) rfl f_44 dX5_stays_60 ?_
          refine q_getR (tO_X2 (by decide)) C (i := 7) i_X2 rfl rfl (by decide) rfl f_167 dX5_stays_63 ?_
          refine q_iload_n C 1 rfl dX5_stays_66 rfl ?_
          obtain ⟨c13, hz⟩ := sat_chk hz
          refine q_iald (tA_places (by decide)) C 0 rfl c13 dX5_stays_67 ?_
          refine q_iload_n C 2 rfl dX5_stays_68 rfl ?_
          refine q_icmp_ne C dX5_stays_69 (tgt := 75) (by decide) (fun c14 => ?_) (fun c14 => ?_)
          · have hz := sat_f hz c14
            refine q_iinc C 5 rfl [(5, Vi (w3 (x9.2.1 + 1))), (0, Vr 174), (1, Vi p1), (2, Vi p2), (3, Vi p3), (4, Vi (x9.1))] rfl (by decide) dX5_stays_75 ?_
            refine q_goto C dX5_stays_78 (tgt := 46) (by decide) ?_
            refine q_sub C [1, 2, 3, 4, 5, 0] [(0, Vr 174), (1, Vi p1), (2, Vi p2), (3, Vi p3), (4, Vi (x9.1)), (5, Vi (w3 (x9.2.1 + 1)))] rfl ?_
            have hz := sat_some hz
            exact hz
          · have hz := sat_t hz c14
            refine q_iinc C 4 rfl [(4, Vi (w3 (x9.1 + 1))), (0, Vr 174), (1, Vi p1), (2, Vi p2), (3, Vi p3), (5, Vi (x9.2.1))] rfl (by decide) dX5_stays_72 ?_
            refine q_iinc C 5 rfl [(5, Vi (w3 (x9.2.1 + 1))), (4, Vi (w3 (x9.1 + 1))), (0, Vr 174), (1, Vi p1), (2, Vi p2), (3, Vi p3)] rfl (by decide) dX5_stays_75 ?_
            refine q_goto C dX5_stays_78 (tgt := 46) (by decide) ?_
            refine q_sub C [2, 3, 4, 5, 1, 0] [(0, Vr 174), (1, Vi p1), (2, Vi p2), (3, Vi p3), (4, Vi (w3 (x9.1 + 1))), (5, Vi (w3 (x9.2.1 + 1)))] rfl ?_
            have hz := sat_some hz
            exact hz
      · have hz := sat_t hz c6
        refine q_ldc (v := (-1000001)) (x := (-1000001)) C (by decide +kernel) dX5_stays_26 ⟨by decide +kernel, by decide, by decide⟩ ?_
        exact q_iret C dX5_stays_28 (sat_eq hz)
theorem hdX5_comesByWeirs : yX5_comesByWeirs.cls = RX5 ∧ yX5_comesByWeirs.cls ≠ "java/lang/invoke/MethodHandle" ∧ yX5_comesByWeirs.cls ≠ "java/lang/invoke/VarHandle" ∧ (parseMethodDescriptor yX5_comesByWeirs.desc).map (fun d => d.parameters.length) = some 4 := by decide +kernel
set_option maxHeartbeats 4000000 in
set_option maxRecDepth 100000 in
theorem c_X5_comesByWeirs {l : Launch} {D : va_G} {ad : Nat → Nat} {cI cII cR : ClassId} (μ : Mm) (p1 p2 p3 p4 : Int) {v : Int × Mm} (hz : f_X5_comesByWeirs μ p1 p2 p3 p4 = some v) : CT l D vwCl (tyC cI cII cR) 194 ad (EC ad cI cII cR) (ZC ad) yX5_comesByWeirs wsX5_comesByWeirs ({ frames := 5, cells := 0, slots := 0, locals := 118 } : Room) (some .boolean) [Vr 174, Vi p1, Vi p2, Vi p3, Vi p4] μ (v.1, v.2) := by
  refine CT_of [(0, Vr 174), (1, Vi p1), (2, Vi p2), (3, Vi p3), (4, Vi p4)] ZC_st (by decide) rfl rfl (Nat.le_of_ble_eq_true rfl) rfl (fun G C => ?_)
  have i_X2 : ∀ w ∈ u_ws RX2 TX2 11, w ∈ wsX5_comesByWeirs := by decide +kernel
  have i_X5 : ∀ w ∈ u_ws RX5 TX5 9, w ∈ wsX5_comesByWeirs := by decide +kernel
  have f_40 : Cond.fieldLink (yX5_comesByWeirs).cls 40 "SwanDeeds" "now" "LSwanDeeds$River;" ∈ wsX5_comesByWeirs := by decide +kernel
  have f_44 : Cond.fieldLink (yX5_comesByWeirs).cls 44 "SwanDeeds" "trial" "LSwanDeeds$River;" ∈ wsX5_comesByWeirs := by decide +kernel
  have f_161 : Cond.fieldLink (yX5_comesByWeirs).cls 161 "SwanDeeds$River" "weirBits" "I" ∈ wsX5_comesByWeirs := by decide +kernel
  have f_167 : Cond.fieldLink (yX5_comesByWeirs).cls 167 "SwanDeeds$River" "places" "[I" ∈ wsX5_comesByWeirs := by decide +kernel
  have hz := sat_of hz
  unfold f_X5_comesByWeirs at hz
  refine q_iload_n C 1 rfl dX5_comesByWeirs_0 rfl ?_
  refine q_aload_n C 0 rfl dX5_comesByWeirs_1 rfl ?_
  refine q_getR tO_X5 C (i := 4) i_X5 rfl rfl (by decide) rfl f_40 dX5_comesByWeirs_2 ?_
  refine q_get (tO_X2 (by decide)) C (i := 3) i_X2 rfl rfl (by decide) rfl f_161 dX5_comesByWeirs_5 ?_
  refine q_iand C dX5_comesByWeirs_8 ?_
  refine q_if_eq C dX5_comesByWeirs_9 (tgt := 14) (by decide) (fun c1 => ?_) (fun c1 => ?_)
  · have hz := sat_t hz c1
    refine q_aload_n C 0 rfl dX5_comesByWeirs_14 rfl ?_
    refine q_getR tO_X5 C (i := 5) i_X5 rfl rfl (by decide) rfl f_44 dX5_comesByWeirs_15 ?_
    refine q_aload_n C 0 rfl dX5_comesByWeirs_18 rfl ?_
    refine q_getR tO_X5 C (i := 4) i_X5 rfl rfl (by decide) rfl f_40 dX5_comesByWeirs_19 ?_
    obtain ⟨z3, hz3, hz⟩ := sat_bind hz
    refine q_callVv ZC_st C [Vr (6 * 0)] [] (c_X2_become μ 3 (by decide) 0 (by decide) hz3) (tO_X2 (by decide)) rfl gX5_comesByWeirs_X2_become rfl ⟨rfl, rfl⟩ hdX2_become ⟨by decide, by decide⟩ rfl (Nat.le_of_ble_eq_true rfl) dX5_comesByWeirs_22 rfl (fun _ => ?_)
    refine q_aload_n C 0 rfl dX5_comesByWeirs_25 rfl ?_
    refine q_getR tO_X5 C (i := 5) i_X5 rfl rfl (by decide) rfl f_44 dX5_comesByWeirs_26 ?_
    refine q_dup C dX5_comesByWeirs_29 rfl ?_
    refine q_get (tO_X2 (by decide)) C (i := 3) i_X2 rfl rfl (by decide) rfl f_161 dX5_comesByWeirs_30 ?_
    refine q_iload_n C 1 rfl dX5_comesByWeirs_33 rfl ?_
    refine q_ior C dX5_comesByWeirs_34 ?_
    obtain ⟨m4, hm4, hz⟩ := sat_bnd hz
    refine q_put (tO_X2 (by decide)) C hm4 (i := 3) i_X2 tyX2_ok nmX2 rfl rfl (by decide) rfl f_161 dX5_comesByWeirs_35 ?_
    refine q_aload_n C 0 rfl dX5_comesByWeirs_38 rfl ?_
    refine q_getR tO_X5 C (i := 5) i_X5 rfl rfl (by decide) rfl f_44 dX5_comesByWeirs_39 ?_
    refine q_iload C 4 rfl dX5_comesByWeirs_42 ?_
    obtain ⟨z6, hz6, hz⟩ := sat_bind hz
    refine q_callVv ZC_st C [Vi p4] [] (c_X2_passDays m4 3 (by decide) p4 hz6) (tO_X2 (by decide)) rfl gX5_comesByWeirs_X2_passDays rfl ⟨rfl, rfl⟩ hdX2_passDays ⟨by decide, by decide⟩ rfl (Nat.le_of_ble_eq_true rfl) dX5_comesByWeirs_44 rfl (fun _ => ?_)
    refine q_aload_n C 0 rfl dX5_comesByWeirs_47 rfl ?_
    refine q_getR tO_X5 C (i := 5) i_X5 rfl rfl (by decide) rfl f_44 dX5_comesByWeirs_48 ?_
    refine q_getR (tO_X2 (by decide)) C (i := 7) i_X2 rfl rfl (by decide) rfl f_167 dX5_comesByWeirs_51 ?_
    refine q_iload_n C 2 rfl dX5_comesByWeirs_54 rfl ?_
    obtain ⟨c7, hz⟩ := sat_chk hz
    refine q_iald (tA_places (by decide)) C 0 rfl c7 dX5_comesByWeirs_55 ?_
    refine q_iload_n C 3 rfl dX5_comesByWeirs_56 rfl ?_
    refine q_icmp_ne C dX5_comesByWeirs_57 (tgt := 64) (by decide) (fun c8 => ?_) (fun c8 => ?_)
    · have hz := sat_f hz c8
      refine q_iconst C dX5_comesByWeirs_64 ⟨by decide, by decide⟩ ?_
      exact q_zret C (Or.inl rfl) dX5_comesByWeirs_65 (sat_eq hz)
    · have hz := sat_t hz c8
      refine q_iconst C dX5_comesByWeirs_60 ⟨by decide, by decide⟩ ?_
      refine q_goto C dX5_comesByWeirs_61 (tgt := 65) (by decide) ?_
      exact q_zret C (Or.inr rfl) dX5_comesByWeirs_65 (sat_eq hz)
  · have hz := sat_f hz c1
    refine q_iconst C dX5_comesByWeirs_12 ⟨by decide, by decide⟩ ?_
    exact q_zret C (Or.inl rfl) dX5_comesByWeirs_13 (sat_eq hz)
theorem hdX5_comesByCrusts : yX5_comesByCrusts.cls = RX5 ∧ yX5_comesByCrusts.cls ≠ "java/lang/invoke/MethodHandle" ∧ yX5_comesByCrusts.cls ≠ "java/lang/invoke/VarHandle" ∧ (parseMethodDescriptor yX5_comesByCrusts.desc).map (fun d => d.parameters.length) = some 4 := by decide +kernel
set_option maxHeartbeats 4000000 in
set_option maxRecDepth 100000 in
theorem c_X5_comesByCrusts {l : Launch} {D : va_G} {ad : Nat → Nat} {cI cII cR : ClassId} (μ : Mm) (p1 p2 p3 p4 : Int) {v : Int × Mm} (hz : f_X5_comesByCrusts μ p1 p2 p3 p4 = some v) : CT l D vwCl (tyC cI cII cR) 194 ad (EC ad cI cII cR) (ZC ad) yX5_comesByCrusts wsX5_comesByCrusts ({ frames := 5, cells := 0, slots := 0, locals := 118 } : Room) (some .boolean) [Vr 174, Vi p1, Vi p2, Vi p3, Vi p4] μ (v.1, v.2) := by
  refine CT_of [(0, Vr 174), (1, Vi p1), (2, Vi p2), (3, Vi p3), (4, Vi p4)] ZC_st (by decide) rfl rfl (Nat.le_of_ble_eq_true rfl) rfl (fun G C => ?_)
  have i_X2 : ∀ w ∈ u_ws RX2 TX2 11, w ∈ wsX5_comesByCrusts := by decide +kernel
  have i_X5 : ∀ w ∈ u_ws RX5 TX5 9, w ∈ wsX5_comesByCrusts := by decide +kernel
  have f_40 : Cond.fieldLink (yX5_comesByCrusts).cls 40 "SwanDeeds" "now" "LSwanDeeds$River;" ∈ wsX5_comesByCrusts := by decide +kernel
  have f_44 : Cond.fieldLink (yX5_comesByCrusts).cls 44 "SwanDeeds" "trial" "LSwanDeeds$River;" ∈ wsX5_comesByCrusts := by decide +kernel
  have f_167 : Cond.fieldLink (yX5_comesByCrusts).cls 167 "SwanDeeds$River" "places" "[I" ∈ wsX5_comesByCrusts := by decide +kernel
  have f_207 : Cond.fieldLink (yX5_comesByCrusts).cls 207 "SwanDeeds$River" "lawnCount" "I" ∈ wsX5_comesByCrusts := by decide +kernel
  have hz := sat_of hz
  unfold f_X5_comesByCrusts at hz
  refine q_aload_n C 0 rfl dX5_comesByCrusts_0 rfl ?_
  refine q_getR tO_X5 C (i := 5) i_X5 rfl rfl (by decide) rfl f_44 dX5_comesByCrusts_1 ?_
  refine q_aload_n C 0 rfl dX5_comesByCrusts_4 rfl ?_
  refine q_getR tO_X5 C (i := 4) i_X5 rfl rfl (by decide) rfl f_40 dX5_comesByCrusts_5 ?_
  obtain ⟨z2, hz2, hz⟩ := sat_bind hz
  refine q_callVv ZC_st C [Vr (6 * 0)] [] (c_X2_become μ 3 (by decide) 0 (by decide) hz2) (tO_X2 (by decide)) rfl gX5_comesByCrusts_X2_become rfl ⟨rfl, rfl⟩ hdX2_become ⟨by decide, by decide⟩ rfl (Nat.le_of_ble_eq_true rfl) dX5_comesByCrusts_8 rfl (fun _ => ?_)
  refine q_iconst C dX5_comesByCrusts_11 ⟨by decide, by decide⟩ ?_
  refine q_istore C [(5, Vi 0), (0, Vr 174), (1, Vi p1), (2, Vi p2), (3, Vi p3), (4, Vi p4)] rfl (by decide) dX5_comesByCrusts_12 ?_
  refine q_sub C [1, 2, 3, 4, 5, 0] [(0, Vr 174), (1, Vi p1), (2, Vi p2), (3, Vi p3), (4, Vi p4), (5, Vi 0)] rfl ?_
  refine loop_go (fun x3 => G x3.2 14 [(0, Vr 174), (1, Vi p1), (2, Vi p2), (3, Vi p3), (4, Vi p4), (5, Vi (x3.1))] []) (sat_bind2 hz) (fun h => h) (fun x3 hz => ?_)
  refine q_iload C 5 rfl dX5_comesByCrusts_14 ?_
  refine q_aload_n C 0 rfl dX5_comesByCrusts_16 rfl ?_
  refine q_getR tO_X5 C (i := 4) i_X5 rfl rfl (by decide) rfl f_40 dX5_comesByCrusts_17 ?_
  refine q_get (tO_X2 (by decide)) C (i := 0) i_X2 rfl rfl (by decide) rfl f_207 dX5_comesByCrusts_20 ?_
  refine q_icmp_ge C dX5_comesByCrusts_23 (tgt := 53) (by decide) (fun c4 => ?_) (fun c4 => ?_)
  · have hz := sat_t hz c4
    have hz := sat_some hz
    refine q_sub C [0, 2, 3, 4] [(0, Vr 174), (2, Vi p2), (3, Vi p3), (4, Vi p4)] rfl ?_
    refine q_aload_n C 0 rfl dX5_comesByCrusts_53 rfl ?_
    refine q_getR tO_X5 C (i := 5) i_X5 rfl rfl (by decide) rfl f_44 dX5_comesByCrusts_54 ?_
    refine q_iload C 3 rfl dX5_comesByCrusts_57 ?_
    obtain ⟨z6, hz6, hz⟩ := sat_bind hz
    refine q_callVv ZC_st C [Vi p4] [] (c_X2_passDays x3.2 3 (by decide) p4 hz6) (tO_X2 (by decide)) rfl gX5_comesByCrusts_X2_passDays rfl ⟨rfl, rfl⟩ hdX2_passDays ⟨by decide, by decide⟩ rfl (Nat.le_of_ble_eq_true rfl) dX5_comesByCrusts_59 rfl (fun _ => ?_)
    refine q_aload_n C 0 rfl dX5_comesByCrusts_62 rfl ?_
    refine q_getR tO_X5 C (i := 5) i_X5 rfl rfl (by decide) rfl f_44 dX5_comesByCrusts_63 ?_
    refine q_getR (tO_X2 (by decide)) C (i := 7) i_X2 rfl rfl (by decide) rfl f_167 dX5_comesByCrusts_66 ?_
    refine q_iload_n C 1 rfl dX5_comesByCrusts_69 rfl ?_
    obtain ⟨c7, hz⟩ := sat_chk hz
    refine q_iald (tA_places (by decide)) C 0 rfl c7 dX5_comesByCrusts_70 ?_
    refine q_iload_n C 2 rfl dX5_comesByCrusts_71 rfl ?_
    refine q_icmp_ne C dX5_comesByCrusts_72 (tgt := 79) (by decide) (fun c8 => ?_) (fun c8 => ?_)
    · have hz := sat_f hz c8
      refine q_iconst C dX5_comesByCrusts_79 ⟨by decide, by decide⟩ ?_
      exact q_zret C (Or.inl rfl) dX5_comesByCrusts_80 (sat_eq hz)
    · have hz := sat_t hz c8
      refine q_iconst C dX5_comesByCrusts_75 ⟨by decide, by decide⟩ ?_
      refine q_goto C dX5_comesByCrusts_76 (tgt := 80) (by decide) ?_
      exact q_zret C (Or.inr rfl) dX5_comesByCrusts_80 (sat_eq hz)
  · have hz := sat_f hz c4
    refine q_iload_n C 1 rfl dX5_comesByCrusts_26 rfl ?_
    refine q_iload C 5 rfl dX5_comesByCrusts_27 ?_
    refine q_ishr C dX5_comesByCrusts_29 ?_
    refine q_iconst C dX5_comesByCrusts_30 ⟨by decide, by decide⟩ ?_
    refine q_iand C dX5_comesByCrusts_31 ?_
    refine q_iconst C dX5_comesByCrusts_32 ⟨by decide, by decide⟩ ?_
    refine q_icmp_ne C dX5_comesByCrusts_33 (tgt := 47) (by decide) (fun c9 => ?_) (fun c9 => ?_)
    · have hz := sat_f hz c9
      refine q_iinc C 5 rfl [(5, Vi (w3 (x3.1 + 1))), (0, Vr 174), (1, Vi p1), (2, Vi p2), (3, Vi p3), (4, Vi p4)] rfl (by decide) dX5_comesByCrusts_47 ?_
      refine q_goto C dX5_comesByCrusts_50 (tgt := 14) (by decide) ?_
      refine q_sub C [1, 2, 3, 4, 5, 0] [(0, Vr 174), (1, Vi p1), (2, Vi p2), (3, Vi p3), (4, Vi p4), (5, Vi (w3 (x3.1 + 1)))] rfl ?_
      have hz := sat_some hz
      exact hz
    · have hz := sat_t hz c9
      refine q_aload_n C 0 rfl dX5_comesByCrusts_36 rfl ?_
      refine q_getR tO_X5 C (i := 5) i_X5 rfl rfl (by decide) rfl f_44 dX5_comesByCrusts_37 ?_
      refine q_iload C 5 rfl dX5_comesByCrusts_40 ?_
      refine q_bipush C dX5_comesByCrusts_42 ⟨rfl, by decide, by decide⟩ ?_
      obtain ⟨z11, hz11, hz⟩ := sat_bind hz
      refine q_callVv ZC_st C [Vi (x3.1), Vi 9] [] (c_X2_scatter x3.2 3 (by decide) x3.1 9 hz11) (tO_X2 (by decide)) rfl gX5_comesByCrusts_X2_scatter rfl ⟨rfl, rfl⟩ hdX2_scatter ⟨by decide, by decide⟩ rfl (Nat.le_of_ble_eq_true rfl) dX5_comesByCrusts_44 rfl (fun _ => ?_)
      refine q_iinc C 5 rfl [(5, Vi (w3 (x3.1 + 1))), (0, Vr 174), (1, Vi p1), (2, Vi p2), (3, Vi p3), (4, Vi p4)] rfl (by decide) dX5_comesByCrusts_47 ?_
      refine q_goto C dX5_comesByCrusts_50 (tgt := 14) (by decide) ?_
      refine q_sub C [1, 2, 3, 4, 5, 0] [(0, Vr 174), (1, Vi p1), (2, Vi p2), (3, Vi p3), (4, Vi p4), (5, Vi (w3 (x3.1 + 1)))] rfl ?_
      have hz := sat_some hz
      exact hz
theorem hdX5_fewest : yX5_fewest.cls = RX5 ∧ yX5_fewest.cls ≠ "java/lang/invoke/MethodHandle" ∧ yX5_fewest.cls ≠ "java/lang/invoke/VarHandle" ∧ (parseMethodDescriptor yX5_fewest.desc).map (fun d => d.parameters.length) = some 4 := by decide +kernel
set_option maxHeartbeats 4000000 in
set_option maxRecDepth 100000 in
theorem c_X5_fewest {l : Launch} {D : va_G} {ad : Nat → Nat} {cI cII cR : ClassId} (μ : Mm) (p1 p2 p3 p4 : Int) {v : Int × Mm} (hz : f_X5_fewest μ p1 p2 p3 p4 = some v) : CT l D vwCl (tyC cI cII cR) 194 ad (EC ad cI cII cR) (ZC ad) yX5_fewest wsX5_fewest ({ frames := 6, cells := 0, slots := 0, locals := 143 } : Room) (some .int) [Vr 174, Vi p1, Vi p2, Vi p3, Vi p4] μ (v.1, v.2) := by
  refine CT_of [(0, Vr 174), (1, Vi p1), (2, Vi p2), (3, Vi p3), (4, Vi p4)] ZC_st (by decide) rfl rfl (Nat.le_of_ble_eq_true rfl) rfl (fun G C => ?_)
  have i_X2 : ∀ w ∈ u_ws RX2 TX2 11, w ∈ wsX5_fewest := by decide +kernel
  have i_X5 : ∀ w ∈ u_ws RX5 TX5 9, w ∈ wsX5_fewest := by decide +kernel
  have f_40 : Cond.fieldLink (yX5_fewest).cls 40 "SwanDeeds" "now" "LSwanDeeds$River;" ∈ wsX5_fewest := by decide +kernel
  have f_207 : Cond.fieldLink (yX5_fewest).cls 207 "SwanDeeds$River" "lawnCount" "I" ∈ wsX5_fewest := by decide +kernel
  have hz := sat_of hz
  unfold f_X5_fewest at hz
  refine q_iload_n C 1 rfl dX5_fewest_0 rfl ?_
  obtain ⟨v1, hv1, hz⟩ := sat_bnd hz
  have Jv1 : G μ 23 [(0, Vr 174), (1, Vi p1), (2, Vi p2), (3, Vi p3), (4, Vi p4)] [Vi v1] := by
    refine q_istore C [(5, Vi v1), (0, Vr 174), (1, Vi p1), (2, Vi p2), (3, Vi p3), (4, Vi p4)] rfl (by decide) dX5_fewest_23 ?_
    refine q_iconst C dX5_fewest_25 ⟨by decide, by decide⟩ ?_
    refine q_istore C [(6, Vi 0), (5, Vi v1), (0, Vr 174), (1, Vi p1), (2, Vi p2), (3, Vi p3), (4, Vi p4)] rfl (by decide) dX5_fewest_26 ?_
    refine q_sub C [2, 3, 4, 5, 6, 1, 0] [(0, Vr 174), (1, Vi p1), (2, Vi p2), (3, Vi p3), (4, Vi p4), (5, Vi v1), (6, Vi 0)] rfl ?_
    refine loop_go (fun x2 => G x2.2 28 [(0, Vr 174), (1, Vi p1), (2, Vi p2), (3, Vi p3), (4, Vi p4), (5, Vi v1), (6, Vi (x2.1))] []) (sat_bind2 hz) (fun h => h) (fun x2 hz => ?_)
    refine q_iload C 6 rfl dX5_fewest_28 ?_
    refine q_iload C 5 rfl dX5_fewest_30 ?_
    refine q_icmp_gt C dX5_fewest_32 (tgt := 108) (by decide) (fun c3 => ?_) (fun c3 => ?_)
    · have hz := sat_t hz c3
      have hz := sat_some hz
      refine q_sub C [] [] rfl ?_
      refine q_ldc (v := (-1000000)) (x := (-1000000)) C (by decide +kernel) dX5_fewest_108 ⟨by decide +kernel, by decide, by decide⟩ ?_
      exact q_iret C dX5_fewest_110 (sat_eq hz)
    · have hz := sat_f hz c3
      refine q_iconst C dX5_fewest_35 ⟨by decide, by decide⟩ ?_
      refine q_istore C [(7, Vi 0), (0, Vr 174), (1, Vi p1), (2, Vi p2), (3, Vi p3), (4, Vi p4), (5, Vi v1), (6, Vi (x2.1))] rfl (by decide) dX5_fewest_36 ?_
      refine q_sub C [1, 2, 3, 4, 5, 6, 7, 0] [(0, Vr 174), (1, Vi p1), (2, Vi p2), (3, Vi p3), (4, Vi p4), (5, Vi v1), (6, Vi (x2.1)), (7, Vi 0)] rfl ?_
      refine loop_go (fun x4 => G x4.2 38 [(0, Vr 174), (1, Vi p1), (2, Vi p2), (3, Vi p3), (4, Vi p4), (5, Vi v1), (6, Vi (x2.1)), (7, Vi (x4.1))] []) (sat_bind2 hz) (fun h => h) (fun x4 hz => ?_)
      refine q_iload C 7 rfl dX5_fewest_38 ?_
      refine q_iconst C dX5_fewest_40 ⟨by decide, by decide⟩ ?_
      refine q_iload C 5 rfl dX5_fewest_41 ?_
      refine q_ishl C dX5_fewest_43 ?_
      refine q_icmp_ge C dX5_fewest_44 (tgt := 102) (by decide) (fun c5 => ?_) (fun c5 => ?_)
      · have hz := sat_t hz c5
        have hz := sat_some hz
        refine q_sub C [0, 1, 2, 3, 4, 5, 6] [(0, Vr 174), (1, Vi p1), (2, Vi p2), (3, Vi p3), (4, Vi p4), (5, Vi v1), (6, Vi (x2.1))] rfl ?_
        refine q_iinc C 6 rfl [(6, Vi (w3 (x2.1 + 1))), (0, Vr 174), (1, Vi p1), (2, Vi p2), (3, Vi p3), (4, Vi p4), (5, Vi v1)] rfl (by decide) dX5_fewest_102 ?_
        refine q_goto C dX5_fewest_105 (tgt := 28) (by decide) ?_
        refine q_sub C [1, 2, 3, 4, 5, 6, 0] [(0, Vr 174), (1, Vi p1), (2, Vi p2), (3, Vi p3), (4, Vi p4), (5, Vi v1), (6, Vi (w3 (x2.1 + 1)))] rfl ?_
        have hz := sat_some hz
        exact hz
      · have hz := sat_f hz c5
        refine q_iload C 7 rfl dX5_fewest_47 ?_
        refine q_callSi ZC_st C [Vi (x4.1)] [] (c_J6_bitCount_0f7a4 x4.2 x4.1) gX5_fewest_J6_bitCount_0f7a4 rfl ⟨rfl, rfl⟩ hdJ6_bitCount_0f7a4 ⟨by decide, by decide⟩ rfl (Nat.le_of_ble_eq_true rfl) dX5_fewest_49 rfl (fun _ _ => ?_)
        refine q_iload C 6 rfl dX5_fewest_52 ?_
        refine q_icmp_eq C dX5_fewest_54 (tgt := 60) (by decide) (fun c7 => ?_) (fun c7 => ?_)
        · have hz := sat_t hz c7
          refine q_iload_n C 1 rfl dX5_fewest_60 rfl ?_
          refine q_if_eq C dX5_fewest_61 (tgt := 80) (by decide) (fun c8 => ?_) (fun c8 => ?_)
          · have hz := sat_t hz c8
            refine q_aload_n C 0 rfl dX5_fewest_80 rfl ?_
            refine q_iload C 7 rfl dX5_fewest_81 ?_
            refine q_iload_n C 2 rfl dX5_fewest_83 rfl ?_
            refine q_iload_n C 3 rfl dX5_fewest_84 rfl ?_
            refine q_iload C 4 rfl dX5_fewest_85 ?_
            obtain ⟨z10, hz10, hz⟩ := sat_bind hz
            refine q_callVz ZC_st C [Vi (x4.1), Vi p2, Vi p3, Vi p4] [] (c_X5_comesByCrusts x4.2 x4.1 p2 p3 p4 hz10) tO_X5 rfl gX5_fewest_X5_comesByCrusts rfl ⟨rfl, rfl⟩ hdX5_comesByCrusts ⟨by decide, by decide⟩ rfl (Nat.le_of_ble_eq_true rfl) dX5_fewest_87 rfl (fun hb9 _ => ?_)
            refine q_if_eq C dX5_fewest_90 (tgt := 96) (by decide) (fun c11 => ?_) (fun c11 => ?_)
            · have hz := sat_t hz c11
              refine q_iinc C 7 rfl [(7, Vi (w3 (x4.1 + 1))), (0, Vr 174), (1, Vi p1), (2, Vi p2), (3, Vi p3), (4, Vi p4), (5, Vi v1), (6, Vi (x2.1))] rfl (by decide) dX5_fewest_96 ?_
              refine q_goto C dX5_fewest_99 (tgt := 38) (by decide) ?_
              refine q_sub C [1, 2, 3, 4, 5, 6, 7, 0] [(0, Vr 174), (1, Vi p1), (2, Vi p2), (3, Vi p3), (4, Vi p4), (5, Vi v1), (6, Vi (x2.1)), (7, Vi (w3 (x4.1 + 1)))] rfl ?_
              have hz := sat_some hz
              exact hz
            · have hz := sat_f hz c11
              refine q_iload C 7 rfl dX5_fewest_93 ?_
              have hz := sat_some hz
              have hz := sat_some hz
              exact q_iret C dX5_fewest_95 (sat_eq hz)
          · have hz := sat_f hz c8
            refine q_aload_n C 0 rfl dX5_fewest_64 rfl ?_
            refine q_iload C 7 rfl dX5_fewest_65 ?_
            refine q_iload_n C 2 rfl dX5_fewest_67 rfl ?_
            refine q_iload_n C 3 rfl dX5_fewest_68 rfl ?_
            refine q_iload C 4 rfl dX5_fewest_69 ?_
            obtain ⟨z13, hz13, hz⟩ := sat_bind hz
            refine q_callVz ZC_st C [Vi (x4.1), Vi p2, Vi p3, Vi p4] [] (c_X5_comesByWeirs x4.2 x4.1 p2 p3 p4 hz13) tO_X5 rfl gX5_fewest_X5_comesByWeirs rfl ⟨rfl, rfl⟩ hdX5_comesByWeirs ⟨by decide, by decide⟩ rfl (Nat.le_of_ble_eq_true rfl) dX5_fewest_71 rfl (fun hb12 _ => ?_)
            refine q_if_eq C dX5_fewest_74 (tgt := 96) (by decide) (fun c14 => ?_) (fun c14 => ?_)
            · have hz := sat_t hz c14
              refine q_iinc C 7 rfl [(7, Vi (w3 (x4.1 + 1))), (0, Vr 174), (1, Vi p1), (2, Vi p2), (3, Vi p3), (4, Vi p4), (5, Vi v1), (6, Vi (x2.1))] rfl (by decide) dX5_fewest_96 ?_
              refine q_goto C dX5_fewest_99 (tgt := 38) (by decide) ?_
              refine q_sub C [1, 2, 3, 4, 5, 6, 7, 0] [(0, Vr 174), (1, Vi p1), (2, Vi p2), (3, Vi p3), (4, Vi p4), (5, Vi v1), (6, Vi (x2.1)), (7, Vi (w3 (x4.1 + 1)))] rfl ?_
              have hz := sat_some hz
              exact hz
            · have hz := sat_f hz c14
              refine q_goto C dX5_fewest_77 (tgt := 93) (by decide) ?_
              refine q_iload C 7 rfl dX5_fewest_93 ?_
              have hz := sat_some hz
              have hz := sat_some hz
              exact q_iret C dX5_fewest_95 (sat_eq hz)
        · have hz := sat_f hz c7
          refine q_goto C dX5_fewest_57 (tgt := 96) (by decide) ?_
          refine q_iinc C 7 rfl [(7, Vi (w3 (x4.1 + 1))), (0, Vr 174), (1, Vi p1), (2, Vi p2), (3, Vi p3), (4, Vi p4), (5, Vi v1), (6, Vi (x2.1))] rfl (by decide) dX5_fewest_96 ?_
          refine q_goto C dX5_fewest_99 (tgt := 38) (by decide) ?_
          refine q_sub C [1, 2, 3, 4, 5, 6, 7, 0] [(0, Vr 174), (1, Vi p1), (2, Vi p2), (3, Vi p3), (4, Vi p4), (5, Vi v1), (6, Vi (x2.1)), (7, Vi (w3 (x4.1 + 1)))] rfl ?_
          have hz := sat_some hz
          exact hz
  have hz := hv1.symm
  refine q_if_eq C dX5_fewest_1 (tgt := 16) (by decide) (fun c17 => ?_) (fun c17 => ?_)
  · have hz := eq_t hz c17
    refine q_aload_n C 0 rfl dX5_fewest_16 rfl ?_
    refine q_getR tO_X5 C (i := 4) i_X5 rfl rfl (by decide) rfl f_40 dX5_fewest_17 ?_
    refine q_get (tO_X2 (by decide)) C (i := 0) i_X2 rfl rfl (by decide) rfl f_207 dX5_fewest_20 ?_
    have hz : _ = v1 := hz
    subst hz
    exact Jv1
  · have hz := eq_f hz c17
    refine q_aload_n C 0 rfl dX5_fewest_4 rfl ?_
    refine q_getR tO_X5 C (i := 4) i_X5 rfl rfl (by decide) rfl f_40 dX5_fewest_5 ?_
    refine q_get (tO_X2 (by decide)) C (i := 0) i_X2 rfl rfl (by decide) rfl f_207 dX5_fewest_8 ?_
    refine q_iconst C dX5_fewest_11 ⟨by decide, by decide⟩ ?_
    refine q_isub C dX5_fewest_12 ?_
    refine q_goto C dX5_fewest_13 (tgt := 23) (by decide) ?_
    have hz : _ = v1 := hz
    subst hz
    exact Jv1
theorem hdX5_sizeOrSet : yX5_sizeOrSet.cls ≠ "java/lang/invoke/MethodHandle" ∧ yX5_sizeOrSet.cls ≠ "java/lang/invoke/VarHandle" ∧ (parseMethodDescriptor yX5_sizeOrSet.desc).map (fun d => d.parameters.length) = some 2 := by decide +kernel
set_option maxHeartbeats 4000000 in
set_option maxRecDepth 100000 in
theorem c_X5_sizeOrSet {l : Launch} {D : va_G} {ad : Nat → Nat} {cI cII cR : ClassId} (μ : Mm) (p0 p1 : Int) : CT l D vwCl (tyC cI cII cR) 194 ad (EC ad cI cII cR) (ZC ad) yX5_sizeOrSet wsX5_sizeOrSet ({ frames := 1, cells := 0, slots := 0, locals := 20 } : Room) (some .int) [Vi p0, Vi p1] μ (f_X5_sizeOrSet μ p0 p1, μ) := by
  refine CT_of [(0, Vi p0), (1, Vi p1)] ZC_st (by decide) rfl rfl (Nat.le_of_ble_eq_true rfl) rfl (fun G C => ?_)
  generalize hz : f_X5_sizeOrSet μ p0 p1 = v at C
  unfold f_X5_sizeOrSet at hz
  refine q_iload_n C 0 rfl dX5_sizeOrSet_0 rfl ?_
  refine q_ldc (v := (-1000000)) (x := (-1000000)) C (by decide +kernel) dX5_sizeOrSet_1 ⟨by decide +kernel, by decide, by decide⟩ ?_
  refine q_icmp_eq C dX5_sizeOrSet_3 (tgt := 11) (by decide) (fun c1 => ?_) (fun c1 => ?_)
  · have hz := eq_t hz c1
    refine q_iload_n C 0 rfl dX5_sizeOrSet_11 rfl ?_
    refine q_goto C dX5_sizeOrSet_12 (tgt := 19) (by decide) ?_
    exact q_iret C dX5_sizeOrSet_19 (congrArg (fun q => (q, μ)) hz)
  · have hz := eq_f hz c1
    refine q_iload_n C 1 rfl dX5_sizeOrSet_6 rfl ?_
    refine q_iconst C dX5_sizeOrSet_7 ⟨by decide, by decide⟩ ?_
    refine q_icmp_ne C dX5_sizeOrSet_8 (tgt := 15) (by decide) (fun c2 => ?_) (fun c2 => ?_)
    · have hz := eq_f hz c2
      refine q_iload_n C 0 rfl dX5_sizeOrSet_15 rfl ?_
      refine q_callSi ZC_st C [Vi p0] [] (c_J6_bitCount_0f7a4 μ p0) gX5_sizeOrSet_J6_bitCount_0f7a4 rfl ⟨rfl, rfl⟩ hdJ6_bitCount_0f7a4 ⟨by decide, by decide⟩ rfl (Nat.le_of_ble_eq_true rfl) dX5_sizeOrSet_16 rfl (fun _ _ => ?_)
      exact q_iret C dX5_sizeOrSet_19 (congrArg (fun q => (q, μ)) hz)
    · have hz := eq_t hz c2
      refine q_iload_n C 0 rfl dX5_sizeOrSet_11 rfl ?_
      refine q_goto C dX5_sizeOrSet_12 (tgt := 19) (by decide) ?_
      exact q_iret C dX5_sizeOrSet_19 (congrArg (fun q => (q, μ)) hz)
theorem hdX5_crusts : yX5_crusts.cls = RX5 ∧ yX5_crusts.cls ≠ "java/lang/invoke/MethodHandle" ∧ yX5_crusts.cls ≠ "java/lang/invoke/VarHandle" ∧ (parseMethodDescriptor yX5_crusts.desc).map (fun d => d.parameters.length) = some 4 := by decide +kernel
set_option maxHeartbeats 4000000 in
set_option maxRecDepth 100000 in
theorem c_X5_crusts {l : Launch} {D : va_G} {ad : Nat → Nat} {cI cII cR : ClassId} (μ : Mm) (p1 p2 p3 p4 : Int) {v : Int × Mm} (hz : f_X5_crusts μ p1 p2 p3 p4 = some v) : CT l D vwCl (tyC cI cII cR) 194 ad (EC ad cI cII cR) (ZC ad) yX5_crusts wsX5_crusts ({ frames := 7, cells := 0, slots := 0, locals := 170 } : Room) (some .int) [Vr 174, Vi p1, Vi p2, Vi p3, Vi p4] μ (v.1, v.2) := by
  refine CT_of [(0, Vr 174), (1, Vi p1), (2, Vi p2), (3, Vi p3), (4, Vi p4)] ZC_st (by decide) rfl rfl (Nat.le_of_ble_eq_true rfl) rfl (fun G C => ?_)
  have hz := sat_of hz
  unfold f_X5_crusts at hz
  refine q_aload_n C 0 rfl dX5_crusts_0 rfl ?_
  refine q_iload_n C 1 rfl dX5_crusts_1 rfl ?_
  refine q_callVz ZC_st C [Vi p1] [] (c_X5_isSwan μ p1) tO_X5 rfl gX5_crusts_X5_isSwan rfl ⟨rfl, rfl⟩ hdX5_isSwan ⟨by decide, by decide⟩ rfl (Nat.le_of_ble_eq_true rfl) dX5_crusts_2 rfl (fun hb1 _ => ?_)
  refine q_if_eq C dX5_crusts_5 (tgt := 36) (by decide) (fun c2 => ?_) (fun c2 => ?_)
  · have hz := sat_t hz c2
    refine q_ldc (v := (-1000001)) (x := (-1000001)) C (by decide +kernel) dX5_crusts_36 ⟨by decide +kernel, by decide, by decide⟩ ?_
    exact q_iret C dX5_crusts_38 (sat_eq hz)
  · have hz := sat_f hz c2
    refine q_aload_n C 0 rfl dX5_crusts_8 rfl ?_
    refine q_iload_n C 2 rfl dX5_crusts_9 rfl ?_
    refine q_callVz ZC_st C [Vi p2] [] (c_X5_isLawn μ p2) tO_X5 rfl gX5_crusts_X5_isLawn rfl ⟨rfl, rfl⟩ hdX5_isLawn ⟨by decide, by decide⟩ rfl (Nat.le_of_ble_eq_true rfl) dX5_crusts_10 rfl (fun hb3 _ => ?_)
    refine q_if_eq C dX5_crusts_13 (tgt := 36) (by decide) (fun c4 => ?_) (fun c4 => ?_)
    · have hz := sat_t hz c4
      refine q_ldc (v := (-1000001)) (x := (-1000001)) C (by decide +kernel) dX5_crusts_36 ⟨by decide +kernel, by decide, by decide⟩ ?_
      exact q_iret C dX5_crusts_38 (sat_eq hz)
    · have hz := sat_f hz c4
      refine q_iload_n C 3 rfl dX5_crusts_16 rfl ?_
      refine q_iconst C dX5_crusts_17 ⟨by decide, by decide⟩ ?_
      refine q_bipush C dX5_crusts_18 ⟨rfl, by decide, by decide⟩ ?_
      refine q_callSz ZC_st C [Vi p3, Vi 1, Vi 20] [] (c_X5_within μ p3 1 20) gX5_crusts_X5_within rfl ⟨rfl, rfl⟩ hdX5_within ⟨by decide, by decide⟩ rfl (Nat.le_of_ble_eq_true rfl) dX5_crusts_20 rfl (fun hb5 _ => ?_)
      refine q_if_eq C dX5_crusts_23 (tgt := 36) (by decide) (fun c6 => ?_) (fun c6 => ?_)
      · have hz := sat_t hz c6
        refine q_ldc (v := (-1000001)) (x := (-1000001)) C (by decide +kernel) dX5_crusts_36 ⟨by decide +kernel, by decide, by decide⟩ ?_
        exact q_iret C dX5_crusts_38 (sat_eq hz)
      · have hz := sat_f hz c6
        refine q_iload C 4 rfl dX5_crusts_26 ?_
        refine q_iconst C dX5_crusts_28 ⟨by decide, by decide⟩ ?_
        refine q_iconst C dX5_crusts_29 ⟨by decide, by decide⟩ ?_
        refine q_callSz ZC_st C [Vi p4, Vi 0, Vi 1] [] (c_X5_within μ p4 0 1) gX5_crusts_X5_within rfl ⟨rfl, rfl⟩ hdX5_within ⟨by decide, by decide⟩ rfl (Nat.le_of_ble_eq_true rfl) dX5_crusts_30 rfl (fun hb7 _ => ?_)
        refine q_if_ne C dX5_crusts_33 (tgt := 39) (by decide) (fun c8 => ?_) (fun c8 => ?_)
        · have hz := sat_f hz c8
          refine q_aload_n C 0 rfl dX5_crusts_39 rfl ?_
          refine q_iconst C dX5_crusts_40 ⟨by decide, by decide⟩ ?_
          refine q_iload_n C 1 rfl dX5_crusts_41 rfl ?_
          refine q_iload_n C 2 rfl dX5_crusts_42 rfl ?_
          refine q_iload_n C 3 rfl dX5_crusts_43 rfl ?_
          obtain ⟨z10, hz10, hz⟩ := sat_bind hz
          refine q_callVi ZC_st C [Vi 0, Vi p1, Vi p2, Vi p3] [] (c_X5_fewest μ 0 p1 p2 p3 hz10) tO_X5 rfl gX5_crusts_X5_fewest rfl ⟨rfl, rfl⟩ hdX5_fewest ⟨by decide, by decide⟩ rfl (Nat.le_of_ble_eq_true rfl) dX5_crusts_44 rfl (fun _ _ => ?_)
          refine q_iload C 4 rfl dX5_crusts_47 ?_
          refine q_callSi ZC_st C [Vi (z10.1), Vi p4] [] (c_X5_sizeOrSet z10.2 z10.1 p4) gX5_crusts_X5_sizeOrSet rfl ⟨rfl, rfl⟩ hdX5_sizeOrSet ⟨by decide, by decide⟩ rfl (Nat.le_of_ble_eq_true rfl) dX5_crusts_49 rfl (fun _ _ => ?_)
          exact q_iret C dX5_crusts_52 (sat_eq hz)
        · have hz := sat_t hz c8
          refine q_ldc (v := (-1000001)) (x := (-1000001)) C (by decide +kernel) dX5_crusts_36 ⟨by decide +kernel, by decide, by decide⟩ ?_
          exact q_iret C dX5_crusts_38 (sat_eq hz)
theorem hdX5_weirs : yX5_weirs.cls = RX5 ∧ yX5_weirs.cls ≠ "java/lang/invoke/MethodHandle" ∧ yX5_weirs.cls ≠ "java/lang/invoke/VarHandle" ∧ (parseMethodDescriptor yX5_weirs.desc).map (fun d => d.parameters.length) = some 4 := by decide +kernel
set_option maxHeartbeats 4000000 in
set_option maxRecDepth 100000 in
theorem c_X5_weirs {l : Launch} {D : va_G} {ad : Nat → Nat} {cI cII cR : ClassId} (μ : Mm) (p1 p2 p3 p4 : Int) {v : Int × Mm} (hz : f_X5_weirs μ p1 p2 p3 p4 = some v) : CT l D vwCl (tyC cI cII cR) 194 ad (EC ad cI cII cR) (ZC ad) yX5_weirs wsX5_weirs ({ frames := 7, cells := 0, slots := 0, locals := 170 } : Room) (some .int) [Vr 174, Vi p1, Vi p2, Vi p3, Vi p4] μ (v.1, v.2) := by
  refine CT_of [(0, Vr 174), (1, Vi p1), (2, Vi p2), (3, Vi p3), (4, Vi p4)] ZC_st (by decide) rfl rfl (Nat.le_of_ble_eq_true rfl) rfl (fun G C => ?_)
  have hz := sat_of hz
  unfold f_X5_weirs at hz
  refine q_aload_n C 0 rfl dX5_weirs_0 rfl ?_
  refine q_iload_n C 1 rfl dX5_weirs_1 rfl ?_
  refine q_callVz ZC_st C [Vi p1] [] (c_X5_isSwan μ p1) tO_X5 rfl gX5_weirs_X5_isSwan rfl ⟨rfl, rfl⟩ hdX5_isSwan ⟨by decide, by decide⟩ rfl (Nat.le_of_ble_eq_true rfl) dX5_weirs_2 rfl (fun hb1 _ => ?_)
  refine q_if_eq C dX5_weirs_5 (tgt := 36) (by decide) (fun c2 => ?_) (fun c2 => ?_)
  · have hz := sat_t hz c2
    refine q_ldc (v := (-1000001)) (x := (-1000001)) C (by decide +kernel) dX5_weirs_36 ⟨by decide +kernel, by decide, by decide⟩ ?_
    exact q_iret C dX5_weirs_38 (sat_eq hz)
  · have hz := sat_f hz c2
    refine q_aload_n C 0 rfl dX5_weirs_8 rfl ?_
    refine q_iload_n C 2 rfl dX5_weirs_9 rfl ?_
    refine q_callVz ZC_st C [Vi p2] [] (c_X5_isLawn μ p2) tO_X5 rfl gX5_weirs_X5_isLawn rfl ⟨rfl, rfl⟩ hdX5_isLawn ⟨by decide, by decide⟩ rfl (Nat.le_of_ble_eq_true rfl) dX5_weirs_10 rfl (fun hb3 _ => ?_)
    refine q_if_eq C dX5_weirs_13 (tgt := 36) (by decide) (fun c4 => ?_) (fun c4 => ?_)
    · have hz := sat_t hz c4
      refine q_ldc (v := (-1000001)) (x := (-1000001)) C (by decide +kernel) dX5_weirs_36 ⟨by decide +kernel, by decide, by decide⟩ ?_
      exact q_iret C dX5_weirs_38 (sat_eq hz)
    · have hz := sat_f hz c4
      refine q_iload_n C 3 rfl dX5_weirs_16 rfl ?_
      refine q_iconst C dX5_weirs_17 ⟨by decide, by decide⟩ ?_
      refine q_bipush C dX5_weirs_18 ⟨rfl, by decide, by decide⟩ ?_
      refine q_callSz ZC_st C [Vi p3, Vi 1, Vi 20] [] (c_X5_within μ p3 1 20) gX5_weirs_X5_within rfl ⟨rfl, rfl⟩ hdX5_within ⟨by decide, by decide⟩ rfl (Nat.le_of_ble_eq_true rfl) dX5_weirs_20 rfl (fun hb5 _ => ?_)
      refine q_if_eq C dX5_weirs_23 (tgt := 36) (by decide) (fun c6 => ?_) (fun c6 => ?_)
      · have hz := sat_t hz c6
        refine q_ldc (v := (-1000001)) (x := (-1000001)) C (by decide +kernel) dX5_weirs_36 ⟨by decide +kernel, by decide, by decide⟩ ?_
        exact q_iret C dX5_weirs_38 (sat_eq hz)
      · have hz := sat_f hz c6
        refine q_iload C 4 rfl dX5_weirs_26 ?_
        refine q_iconst C dX5_weirs_28 ⟨by decide, by decide⟩ ?_
        refine q_iconst C dX5_weirs_29 ⟨by decide, by decide⟩ ?_
        refine q_callSz ZC_st C [Vi p4, Vi 0, Vi 1] [] (c_X5_within μ p4 0 1) gX5_weirs_X5_within rfl ⟨rfl, rfl⟩ hdX5_within ⟨by decide, by decide⟩ rfl (Nat.le_of_ble_eq_true rfl) dX5_weirs_30 rfl (fun hb7 _ => ?_)
        refine q_if_ne C dX5_weirs_33 (tgt := 39) (by decide) (fun c8 => ?_) (fun c8 => ?_)
        · have hz := sat_f hz c8
          refine q_aload_n C 0 rfl dX5_weirs_39 rfl ?_
          refine q_iconst C dX5_weirs_40 ⟨by decide, by decide⟩ ?_
          refine q_iload_n C 1 rfl dX5_weirs_41 rfl ?_
          refine q_iload_n C 2 rfl dX5_weirs_42 rfl ?_
          refine q_iload_n C 3 rfl dX5_weirs_43 rfl ?_
          obtain ⟨z10, hz10, hz⟩ := sat_bind hz
          refine q_callVi ZC_st C [Vi 1, Vi p1, Vi p2, Vi p3] [] (c_X5_fewest μ 1 p1 p2 p3 hz10) tO_X5 rfl gX5_weirs_X5_fewest rfl ⟨rfl, rfl⟩ hdX5_fewest ⟨by decide, by decide⟩ rfl (Nat.le_of_ble_eq_true rfl) dX5_weirs_44 rfl (fun _ _ => ?_)
          refine q_iload C 4 rfl dX5_weirs_47 ?_
          refine q_callSi ZC_st C [Vi (z10.1), Vi p4] [] (c_X5_sizeOrSet z10.2 z10.1 p4) gX5_weirs_X5_sizeOrSet rfl ⟨rfl, rfl⟩ hdX5_sizeOrSet ⟨by decide, by decide⟩ rfl (Nat.le_of_ble_eq_true rfl) dX5_weirs_49 rfl (fun _ _ => ?_)
          exact q_iret C dX5_weirs_52 (sat_eq hz)
        · have hz := sat_t hz c8
          refine q_ldc (v := (-1000001)) (x := (-1000001)) C (by decide +kernel) dX5_weirs_36 ⟨by decide +kernel, by decide, by decide⟩ ?_
          exact q_iret C dX5_weirs_38 (sat_eq hz)
theorem hdX5_hold : yX5_hold.cls = RX5 ∧ yX5_hold.cls ≠ "java/lang/invoke/MethodHandle" ∧ yX5_hold.cls ≠ "java/lang/invoke/VarHandle" ∧ (parseMethodDescriptor yX5_hold.desc).map (fun d => d.parameters.length) = some 2 := by decide +kernel
set_option maxHeartbeats 4000000 in
set_option maxRecDepth 100000 in
theorem c_X5_hold {l : Launch} {D : va_G} {ad : Nat → Nat} {cI cII cR : ClassId} (μ : Mm) (p1 p2 : Int) {v : Int × Mm} (hz : f_X5_hold μ p1 p2 = some v) : CT l D vwCl (tyC cI cII cR) 194 ad (EC ad cI cII cR) (ZC ad) yX5_hold wsX5_hold ({ frames := 5, cells := 0, slots := 0, locals := 119 } : Room) (some .int) [Vr 174, Vi p1, Vi p2] μ (v.1, v.2) := by
  refine CT_of [(0, Vr 174), (1, Vi p1), (2, Vi p2)] ZC_st (by decide) rfl rfl (Nat.le_of_ble_eq_true rfl) rfl (fun G C => ?_)
  have i_X2 : ∀ w ∈ u_ws RX2 TX2 11, w ∈ wsX5_hold := by decide +kernel
  have i_X5 : ∀ w ∈ u_ws RX5 TX5 9, w ∈ wsX5_hold := by decide +kernel
  have f_40 : Cond.fieldLink (yX5_hold).cls 40 "SwanDeeds" "now" "LSwanDeeds$River;" ∈ wsX5_hold := by decide +kernel
  have f_44 : Cond.fieldLink (yX5_hold).cls 44 "SwanDeeds" "trial" "LSwanDeeds$River;" ∈ wsX5_hold := by decide +kernel
  have f_207 : Cond.fieldLink (yX5_hold).cls 207 "SwanDeeds$River" "lawnCount" "I" ∈ wsX5_hold := by decide +kernel
  have hz := sat_of hz
  unfold f_X5_hold at hz
  refine q_aload_n C 0 rfl dX5_hold_0 rfl ?_
  refine q_iload_n C 1 rfl dX5_hold_1 rfl ?_
  refine q_callVz ZC_st C [Vi p1] [] (c_X5_isSwan μ p1) tO_X5 rfl gX5_hold_X5_isSwan rfl ⟨rfl, rfl⟩ hdX5_isSwan ⟨by decide, by decide⟩ rfl (Nat.le_of_ble_eq_true rfl) dX5_hold_2 rfl (fun hb1 _ => ?_)
  refine q_if_eq C dX5_hold_5 (tgt := 17) (by decide) (fun c2 => ?_) (fun c2 => ?_)
  · have hz := sat_t hz c2
    refine q_ldc (v := (-1000001)) (x := (-1000001)) C (by decide +kernel) dX5_hold_17 ⟨by decide +kernel, by decide, by decide⟩ ?_
    exact q_iret C dX5_hold_19 (sat_eq hz)
  · have hz := sat_f hz c2
    refine q_iload_n C 2 rfl dX5_hold_8 rfl ?_
    refine q_iconst C dX5_hold_9 ⟨by decide, by decide⟩ ?_
    refine q_iconst C dX5_hold_10 ⟨by decide, by decide⟩ ?_
    refine q_callSz ZC_st C [Vi p2, Vi 0, Vi 1] [] (c_X5_within μ p2 0 1) gX5_hold_X5_within rfl ⟨rfl, rfl⟩ hdX5_within ⟨by decide, by decide⟩ rfl (Nat.le_of_ble_eq_true rfl) dX5_hold_11 rfl (fun hb3 _ => ?_)
    refine q_if_ne C dX5_hold_14 (tgt := 20) (by decide) (fun c4 => ?_) (fun c4 => ?_)
    · have hz := sat_f hz c4
      refine q_iconst C dX5_hold_20 ⟨by decide, by decide⟩ ?_
      refine q_istore_n C [(3, Vi 0), (0, Vr 174), (1, Vi p1), (2, Vi p2)] rfl (by decide) dX5_hold_21 rfl ?_
      refine q_iconst C dX5_hold_22 ⟨by decide, by decide⟩ ?_
      refine q_istore C [(4, Vi (-1)), (3, Vi 0), (0, Vr 174), (1, Vi p1), (2, Vi p2)] rfl (by decide) dX5_hold_23 ?_
      refine q_iconst C dX5_hold_25 ⟨by decide, by decide⟩ ?_
      refine q_istore C [(5, Vi 0), (4, Vi (-1)), (3, Vi 0), (0, Vr 174), (1, Vi p1), (2, Vi p2)] rfl (by decide) dX5_hold_26 ?_
      refine q_sub C [3, 4, 5, 2, 1, 0] [(0, Vr 174), (1, Vi p1), (2, Vi p2), (3, Vi 0), (4, Vi (-1)), (5, Vi 0)] rfl ?_
      refine loop_go (fun x5 => G x5.2.2.2 28 [(0, Vr 174), (1, Vi p1), (2, Vi p2), (3, Vi (x5.1)), (4, Vi (x5.2.1)), (5, Vi (x5.2.2.1))] []) (sat_bind2 hz) (fun h => h) (fun x5 hz => ?_)
      refine q_iload C 5 rfl dX5_hold_28 ?_
      refine q_aload_n C 0 rfl dX5_hold_30 rfl ?_
      refine q_getR tO_X5 C (i := 4) i_X5 rfl rfl (by decide) rfl f_40 dX5_hold_31 ?_
      refine q_get (tO_X2 (by decide)) C (i := 0) i_X2 rfl rfl (by decide) rfl f_207 dX5_hold_34 ?_
      refine q_icmp_ge C dX5_hold_37 (tgt := 92) (by decide) (fun c6 => ?_) (fun c6 => ?_)
      · have hz := sat_t hz c6
        have hz := sat_some hz
        refine q_sub C [2, 3, 4] [(2, Vi p2), (3, Vi (x5.1)), (4, Vi (x5.2.1))] rfl ?_
        refine q_iload_n C 0 rfl dX5_hold_92 rfl ?_
        refine q_if_ne C dX5_hold_93 (tgt := 100) (by decide) (fun c7 => ?_) (fun c7 => ?_)
        · have hz := sat_f hz c7
          refine q_iload C 2 rfl dX5_hold_100 ?_
          exact q_iret C dX5_hold_102 (sat_eq hz)
        · have hz := sat_t hz c7
          refine q_iload_n C 1 rfl dX5_hold_96 rfl ?_
          refine q_goto C dX5_hold_97 (tgt := 102) (by decide) ?_
          exact q_iret C dX5_hold_102 (sat_eq hz)
      · have hz := sat_f hz c6
        refine q_aload_n C 0 rfl dX5_hold_40 rfl ?_
        refine q_getR tO_X5 C (i := 5) i_X5 rfl rfl (by decide) rfl f_44 dX5_hold_41 ?_
        refine q_aload_n C 0 rfl dX5_hold_44 rfl ?_
        refine q_getR tO_X5 C (i := 4) i_X5 rfl rfl (by decide) rfl f_40 dX5_hold_45 ?_
        obtain ⟨z9, hz9, hz⟩ := sat_bind hz
        refine q_callVv ZC_st C [Vr (6 * 0)] [] (c_X2_become x5.2.2.2 3 (by decide) 0 (by decide) hz9) (tO_X2 (by decide)) rfl gX5_hold_X2_become rfl ⟨rfl, rfl⟩ hdX2_become ⟨by decide, by decide⟩ rfl (Nat.le_of_ble_eq_true rfl) dX5_hold_48 rfl (fun _ => ?_)
        refine q_aload_n C 0 rfl dX5_hold_51 rfl ?_
        refine q_getR tO_X5 C (i := 5) i_X5 rfl rfl (by decide) rfl f_44 dX5_hold_52 ?_
        refine q_iload C 5 rfl dX5_hold_55 ?_
        refine q_bipush C dX5_hold_57 ⟨rfl, by decide, by decide⟩ ?_
        obtain ⟨z11, hz11, hz⟩ := sat_bind hz
        refine q_callVv ZC_st C [Vi (x5.2.2.1), Vi 9] [] (c_X2_scatter z9 3 (by decide) x5.2.2.1 9 hz11) (tO_X2 (by decide)) rfl gX5_hold_X2_scatter rfl ⟨rfl, rfl⟩ hdX2_scatter ⟨by decide, by decide⟩ rfl (Nat.le_of_ble_eq_true rfl) dX5_hold_59 rfl (fun _ => ?_)
        refine q_aload_n C 0 rfl dX5_hold_62 rfl ?_
        refine q_getR tO_X5 C (i := 5) i_X5 rfl rfl (by decide) rfl f_44 dX5_hold_63 ?_
        refine q_iload_n C 1 rfl dX5_hold_66 rfl ?_
        obtain ⟨z13, hz13, hz⟩ := sat_bind hz
        refine q_callVi ZC_st C [Vi p1] [] (c_X2_daysHeld z11 3 (by decide) p1 hz13) (tO_X2 (by decide)) rfl gX5_hold_X2_daysHeld rfl ⟨rfl, rfl⟩ hdX2_daysHeld ⟨by decide, by decide⟩ rfl (Nat.le_of_ble_eq_true rfl) dX5_hold_67 rfl (fun _ _ => ?_)
        refine q_istore C [(6, Vi (z13.1)), (0, Vr 174), (1, Vi p1), (2, Vi p2), (3, Vi (x5.1)), (4, Vi (x5.2.1)), (5, Vi (x5.2.2.1))] rfl (by decide) dX5_hold_70 ?_
        refine q_iload C 0 rfl dX5_hold_72 ?_
        refine q_iload C 5 rfl dX5_hold_74 ?_
        refine q_icmp_le C dX5_hold_76 (tgt := 86) (by decide) (fun c14 => ?_) (fun c14 => ?_)
        · have hz := sat_t hz c14
          refine q_iinc C 6 rfl [(5, Vi (w3 (x5.2.2.1 + 1))), (6, Vi (z13.1)), (0, Vr 174), (1, Vi p1), (2, Vi p2), (3, Vi (x5.1)), (4, Vi (x5.2.1))] rfl (by decide) dX5_hold_86 ?_
          refine q_goto C dX5_hold_89 (tgt := 28) (by decide) ?_
          refine q_sub C [2, 3, 4, 5, 6, 0] [(0, Vr 174), (1, Vi p1), (2, Vi p2), (3, Vi (x5.1)), (4, Vi (x5.2.1)), (5, Vi (w3 (x5.2.2.1 + 1)))] rfl ?_
          have hz := sat_some hz
          exact hz
        · have hz := sat_f hz c14
          refine q_iload C 0 rfl dX5_hold_79 ?_
          refine q_istore C [(4, Vi (z13.1)), (6, Vi (z13.1)), (0, Vr 174), (1, Vi p1), (2, Vi p2), (3, Vi (x5.1)), (5, Vi (x5.2.2.1))] rfl (by decide) dX5_hold_81 ?_
          refine q_iload C 6 rfl dX5_hold_83 ?_
          refine q_istore_n C [(3, Vi (x5.2.2.1)), (4, Vi (z13.1)), (6, Vi (z13.1)), (0, Vr 174), (1, Vi p1), (2, Vi p2), (5, Vi (x5.2.2.1))] rfl (by decide) dX5_hold_85 rfl ?_
          refine q_iinc C 6 rfl [(5, Vi (w3 (x5.2.2.1 + 1))), (3, Vi (x5.2.2.1)), (4, Vi (z13.1)), (6, Vi (z13.1)), (0, Vr 174), (1, Vi p1), (2, Vi p2)] rfl (by decide) dX5_hold_86 ?_
          refine q_goto C dX5_hold_89 (tgt := 28) (by decide) ?_
          refine q_sub C [4, 5, 6, 1, 2, 0] [(0, Vr 174), (1, Vi p1), (2, Vi p2), (3, Vi (x5.2.2.1)), (4, Vi (z13.1)), (5, Vi (w3 (x5.2.2.1 + 1)))] rfl ?_
          have hz := sat_some hz
          exact hz
    · have hz := sat_t hz c4
      refine q_ldc (v := (-1000001)) (x := (-1000001)) C (by decide +kernel) dX5_hold_17 ⟨by decide +kernel, by decide, by decide⟩ ?_
      exact q_iret C dX5_hold_19 (sat_eq hz)
theorem hdX5_meet : yX5_meet.cls = RX5 ∧ yX5_meet.cls ≠ "java/lang/invoke/MethodHandle" ∧ yX5_meet.cls ≠ "java/lang/invoke/VarHandle" ∧ (parseMethodDescriptor yX5_meet.desc).map (fun d => d.parameters.length) = some 2 := by decide +kernel
set_option maxHeartbeats 4000000 in
set_option maxRecDepth 100000 in
theorem c_X5_meet {l : Launch} {D : va_G} {ad : Nat → Nat} {cI cII cR : ClassId} (μ : Mm) (p1 p2 : Int) {v : Int × Mm} (hz : f_X5_meet μ p1 p2 = some v) : CT l D vwCl (tyC cI cII cR) 194 ad (EC ad cI cII cR) (ZC ad) yX5_meet wsX5_meet ({ frames := 4, cells := 0, slots := 0, locals := 96 } : Room) (some .int) [Vr 174, Vi p1, Vi p2] μ (v.1, v.2) := by
  refine CT_of [(0, Vr 174), (1, Vi p1), (2, Vi p2)] ZC_st (by decide) rfl rfl (Nat.le_of_ble_eq_true rfl) rfl (fun G C => ?_)
  have i_X2 : ∀ w ∈ u_ws RX2 TX2 11, w ∈ wsX5_meet := by decide +kernel
  have i_X5 : ∀ w ∈ u_ws RX5 TX5 9, w ∈ wsX5_meet := by decide +kernel
  have f_40 : Cond.fieldLink (yX5_meet).cls 40 "SwanDeeds" "now" "LSwanDeeds$River;" ∈ wsX5_meet := by decide +kernel
  have f_44 : Cond.fieldLink (yX5_meet).cls 44 "SwanDeeds" "trial" "LSwanDeeds$River;" ∈ wsX5_meet := by decide +kernel
  have f_167 : Cond.fieldLink (yX5_meet).cls 167 "SwanDeeds$River" "places" "[I" ∈ wsX5_meet := by decide +kernel
  have hz := sat_of hz
  unfold f_X5_meet at hz
  refine q_aload_n C 0 rfl dX5_meet_0 rfl ?_
  refine q_iload_n C 1 rfl dX5_meet_1 rfl ?_
  refine q_callVz ZC_st C [Vi p1] [] (c_X5_isSwan μ p1) tO_X5 rfl gX5_meet_X5_isSwan rfl ⟨rfl, rfl⟩ hdX5_isSwan ⟨by decide, by decide⟩ rfl (Nat.le_of_ble_eq_true rfl) dX5_meet_2 rfl (fun hb1 _ => ?_)
  refine q_if_eq C dX5_meet_5 (tgt := 21) (by decide) (fun c2 => ?_) (fun c2 => ?_)
  · have hz := sat_t hz c2
    refine q_ldc (v := (-1000001)) (x := (-1000001)) C (by decide +kernel) dX5_meet_21 ⟨by decide +kernel, by decide, by decide⟩ ?_
    exact q_iret C dX5_meet_23 (sat_eq hz)
  · have hz := sat_f hz c2
    refine q_aload_n C 0 rfl dX5_meet_8 rfl ?_
    refine q_iload_n C 2 rfl dX5_meet_9 rfl ?_
    refine q_callVz ZC_st C [Vi p2] [] (c_X5_isSwan μ p2) tO_X5 rfl gX5_meet_X5_isSwan rfl ⟨rfl, rfl⟩ hdX5_isSwan ⟨by decide, by decide⟩ rfl (Nat.le_of_ble_eq_true rfl) dX5_meet_10 rfl (fun hb3 _ => ?_)
    refine q_if_eq C dX5_meet_13 (tgt := 21) (by decide) (fun c4 => ?_) (fun c4 => ?_)
    · have hz := sat_t hz c4
      refine q_ldc (v := (-1000001)) (x := (-1000001)) C (by decide +kernel) dX5_meet_21 ⟨by decide +kernel, by decide, by decide⟩ ?_
      exact q_iret C dX5_meet_23 (sat_eq hz)
    · have hz := sat_f hz c4
      refine q_iload_n C 1 rfl dX5_meet_16 rfl ?_
      refine q_iload_n C 2 rfl dX5_meet_17 rfl ?_
      refine q_icmp_ne C dX5_meet_18 (tgt := 24) (by decide) (fun c5 => ?_) (fun c5 => ?_)
      · have hz := sat_f hz c5
        refine q_aload_n C 0 rfl dX5_meet_24 rfl ?_
        refine q_getR tO_X5 C (i := 5) i_X5 rfl rfl (by decide) rfl f_44 dX5_meet_25 ?_
        refine q_aload_n C 0 rfl dX5_meet_28 rfl ?_
        refine q_getR tO_X5 C (i := 4) i_X5 rfl rfl (by decide) rfl f_40 dX5_meet_29 ?_
        obtain ⟨z7, hz7, hz⟩ := sat_bind hz
        refine q_callVv ZC_st C [Vr (6 * 0)] [] (c_X2_become μ 3 (by decide) 0 (by decide) hz7) (tO_X2 (by decide)) rfl gX5_meet_X2_become rfl ⟨rfl, rfl⟩ hdX2_become ⟨by decide, by decide⟩ rfl (Nat.le_of_ble_eq_true rfl) dX5_meet_32 rfl (fun _ => ?_)
        refine q_iconst C dX5_meet_35 ⟨by decide, by decide⟩ ?_
        refine q_istore_n C [(3, Vi 0), (0, Vr 174), (1, Vi p1), (2, Vi p2)] rfl (by decide) dX5_meet_36 rfl ?_
        refine q_sub C [1, 2, 3, 0] [(0, Vr 174), (1, Vi p1), (2, Vi p2), (3, Vi 0)] rfl ?_
        refine loop_go (fun x8 => G x8.2 37 [(0, Vr 174), (1, Vi p1), (2, Vi p2), (3, Vi (x8.1))] []) (sat_bind2 hz) (fun h => h) (fun x8 hz => ?_)
        refine q_iload_n C 3 rfl dX5_meet_37 rfl ?_
        refine q_bipush C dX5_meet_38 ⟨rfl, by decide, by decide⟩ ?_
        refine q_icmp_gt C dX5_meet_40 (tgt := 79) (by decide) (fun c9 => ?_) (fun c9 => ?_)
        · have hz := sat_t hz c9
          have hz := sat_some hz
          refine q_sub C [] [] rfl ?_
          refine q_ldc (v := (-1000000)) (x := (-1000000)) C (by decide +kernel) dX5_meet_79 ⟨by decide +kernel, by decide, by decide⟩ ?_
          exact q_iret C dX5_meet_81 (sat_eq hz)
        · have hz := sat_f hz c9
          refine q_aload_n C 0 rfl dX5_meet_43 rfl ?_
          refine q_getR tO_X5 C (i := 5) i_X5 rfl rfl (by decide) rfl f_44 dX5_meet_44 ?_
          refine q_getR (tO_X2 (by decide)) C (i := 7) i_X2 rfl rfl (by decide) rfl f_167 dX5_meet_47 ?_
          refine q_iload_n C 1 rfl dX5_meet_50 rfl ?_
          obtain ⟨c10, hz⟩ := sat_chk hz
          refine q_iald (tA_places (by decide)) C 0 rfl c10 dX5_meet_51 ?_
          refine q_aload_n C 0 rfl dX5_meet_52 rfl ?_
          refine q_getR tO_X5 C (i := 5) i_X5 rfl rfl (by decide) rfl f_44 dX5_meet_53 ?_
          refine q_getR (tO_X2 (by decide)) C (i := 7) i_X2 rfl rfl (by decide) rfl f_167 dX5_meet_56 ?_
          refine q_iload_n C 2 rfl dX5_meet_59 rfl ?_
          obtain ⟨c11, hz⟩ := sat_chk hz
          refine q_iald (tA_places (by decide)) C 0 rfl c11 dX5_meet_60 ?_
          refine q_icmp_ne C dX5_meet_61 (tgt := 66) (by decide) (fun c12 => ?_) (fun c12 => ?_)
          · have hz := sat_f hz c12
            refine q_aload_n C 0 rfl dX5_meet_66 rfl ?_
            refine q_getR tO_X5 C (i := 5) i_X5 rfl rfl (by decide) rfl f_44 dX5_meet_67 ?_
            obtain ⟨z14, hz14, hz⟩ := sat_bind hz
            refine q_callVv ZC_st C [] [] (c_X2_passDay x8.2 3 (by decide) hz14) (tO_X2 (by decide)) rfl gX5_meet_X2_passDay rfl ⟨rfl, rfl⟩ hdX2_passDay ⟨by decide, by decide⟩ rfl (Nat.le_of_ble_eq_true rfl) dX5_meet_70 rfl (fun _ => ?_)
            refine q_iinc C 3 rfl [(3, Vi (w3 (x8.1 + 1))), (0, Vr 174), (1, Vi p1), (2, Vi p2)] rfl (by decide) dX5_meet_73 ?_
            refine q_goto C dX5_meet_76 (tgt := 37) (by decide) ?_
            refine q_sub C [1, 2, 3, 0] [(0, Vr 174), (1, Vi p1), (2, Vi p2), (3, Vi (w3 (x8.1 + 1)))] rfl ?_
            have hz := sat_some hz
            exact hz
          · have hz := sat_t hz c12
            refine q_iload_n C 3 rfl dX5_meet_64 rfl ?_
            have hz := sat_some hz
            exact q_iret C dX5_meet_65 (sat_eq hz)
      · have hz := sat_t hz c5
        refine q_ldc (v := (-1000001)) (x := (-1000001)) C (by decide +kernel) dX5_meet_21 ⟨by decide +kernel, by decide, by decide⟩ ?_
        exact q_iret C dX5_meet_23 (sat_eq hz)
theorem hdX5_fights : yX5_fights.cls = RX5 ∧ yX5_fights.cls ≠ "java/lang/invoke/MethodHandle" ∧ yX5_fights.cls ≠ "java/lang/invoke/VarHandle" ∧ (parseMethodDescriptor yX5_fights.desc).map (fun d => d.parameters.length) = some 1 := by decide +kernel
set_option maxHeartbeats 4000000 in
set_option maxRecDepth 100000 in
theorem c_X5_fights {l : Launch} {D : va_G} {ad : Nat → Nat} {cI cII cR : ClassId} (μ : Mm) (p1 : Int) {v : Int × Mm} (hz : f_X5_fights μ p1 = some v) : CT l D vwCl (tyC cI cII cR) 194 ad (EC ad cI cII cR) (ZC ad) yX5_fights wsX5_fights ({ frames := 6, cells := 0, slots := 0, locals := 139 } : Room) (some .int) [Vr 174, Vi p1] μ (v.1, v.2) := by
  refine CT_of [(0, Vr 174), (1, Vi p1)] ZC_st (by decide) rfl rfl (Nat.le_of_ble_eq_true rfl) rfl (fun G C => ?_)
  have i_X2 : ∀ w ∈ u_ws RX2 TX2 11, w ∈ wsX5_fights := by decide +kernel
  have i_X5 : ∀ w ∈ u_ws RX5 TX5 9, w ∈ wsX5_fights := by decide +kernel
  have f_44 : Cond.fieldLink (yX5_fights).cls 44 "SwanDeeds" "trial" "LSwanDeeds$River;" ∈ wsX5_fights := by decide +kernel
  have f_210 : Cond.fieldLink (yX5_fights).cls 210 "SwanDeeds$River" "defeats" "I" ∈ wsX5_fights := by decide +kernel
  have hz := sat_of hz
  unfold f_X5_fights at hz
  refine q_aload_n C 0 rfl dX5_fights_0 rfl ?_
  refine q_callVz ZC_st C [] [] (c_X5_hasRiver μ) tO_X5 rfl gX5_fights_X5_hasRiver rfl ⟨rfl, rfl⟩ hdX5_hasRiver ⟨by decide, by decide⟩ rfl (Nat.le_of_ble_eq_true rfl) dX5_fights_1 rfl (fun hb1 _ => ?_)
  refine q_if_ne C dX5_fights_4 (tgt := 10) (by decide) (fun c2 => ?_) (fun c2 => ?_)
  · have hz := sat_f hz c2
    refine q_iload_n C 1 rfl dX5_fights_10 rfl ?_
    refine q_iconst C dX5_fights_11 ⟨by decide, by decide⟩ ?_
    refine q_bipush C dX5_fights_12 ⟨rfl, by decide, by decide⟩ ?_
    refine q_callSz ZC_st C [Vi p1, Vi 1, Vi 60] [] (c_X5_within μ p1 1 60) gX5_fights_X5_within rfl ⟨rfl, rfl⟩ hdX5_within ⟨by decide, by decide⟩ rfl (Nat.le_of_ble_eq_true rfl) dX5_fights_14 rfl (fun hb3 _ => ?_)
    refine q_if_ne C dX5_fights_17 (tgt := 23) (by decide) (fun c4 => ?_) (fun c4 => ?_)
    · have hz := sat_f hz c4
      refine q_aload_n C 0 rfl dX5_fights_23 rfl ?_
      refine q_iload_n C 1 rfl dX5_fights_24 rfl ?_
      obtain ⟨z6, hz6, hz⟩ := sat_bind hz
      refine q_callVv ZC_st C [Vi p1] [] (c_X5_foretell μ p1 hz6) tO_X5 rfl gX5_fights_X5_foretell rfl ⟨rfl, rfl⟩ hdX5_foretell ⟨by decide, by decide⟩ rfl (Nat.le_of_ble_eq_true rfl) dX5_fights_25 rfl (fun _ => ?_)
      refine q_aload_n C 0 rfl dX5_fights_28 rfl ?_
      refine q_getR tO_X5 C (i := 5) i_X5 rfl rfl (by decide) rfl f_44 dX5_fights_29 ?_
      refine q_get (tO_X2 (by decide)) C (i := 9) i_X2 rfl rfl (by decide) rfl f_210 dX5_fights_32 ?_
      exact q_iret C dX5_fights_35 (sat_eq hz)
    · have hz := sat_t hz c4
      refine q_ldc (v := (-1000001)) (x := (-1000001)) C (by decide +kernel) dX5_fights_20 ⟨by decide +kernel, by decide, by decide⟩ ?_
      exact q_iret C dX5_fights_22 (sat_eq hz)
  · have hz := sat_t hz c2
    refine q_ldc (v := (-1000002)) (x := (-1000002)) C (by decide +kernel) dX5_fights_7 ⟨by decide +kernel, by decide, by decide⟩ ?_
    exact q_iret C dX5_fights_9 (sat_eq hz)
theorem hdX5_doubles : yX5_doubles.cls = RX5 ∧ yX5_doubles.cls ≠ "java/lang/invoke/MethodHandle" ∧ yX5_doubles.cls ≠ "java/lang/invoke/VarHandle" ∧ (parseMethodDescriptor yX5_doubles.desc).map (fun d => d.parameters.length) = some 1 := by decide +kernel
set_option maxHeartbeats 4000000 in
set_option maxRecDepth 100000 in
theorem c_X5_doubles {l : Launch} {D : va_G} {ad : Nat → Nat} {cI cII cR : ClassId} (μ : Mm) (p1 : Int) {v : Int} (hz : f_X5_doubles μ p1 = some v) : CT l D vwCl (tyC cI cII cR) 194 ad (EC ad cI cII cR) (ZC ad) yX5_doubles wsX5_doubles ({ frames := 1, cells := 0, slots := 0, locals := 22 } : Room) (some .int) [Vr 174, Vi p1] μ (v, μ) := by
  refine CT_of [(0, Vr 174), (1, Vi p1)] ZC_st (by decide) rfl rfl (Nat.le_of_ble_eq_true rfl) rfl (fun G C => ?_)
  have i_X2 : ∀ w ∈ u_ws RX2 TX2 11, w ∈ wsX5_doubles := by decide +kernel
  have i_X5 : ∀ w ∈ u_ws RX5 TX5 9, w ∈ wsX5_doubles := by decide +kernel
  have f_40 : Cond.fieldLink (yX5_doubles).cls 40 "SwanDeeds" "now" "LSwanDeeds$River;" ∈ wsX5_doubles := by decide +kernel
  have f_117 : Cond.fieldLink (yX5_doubles).cls 117 "SwanDeeds$River" "swanCount" "I" ∈ wsX5_doubles := by decide +kernel
  have f_177 : Cond.fieldLink (yX5_doubles).cls 177 "SwanDeeds$River" "plots" "[I" ∈ wsX5_doubles := by decide +kernel
  have hz := sat_of hz
  unfold f_X5_doubles at hz
  refine q_aload_n C 0 rfl dX5_doubles_0 rfl ?_
  refine q_callVz ZC_st C [] [] (c_X5_hasRiver μ) tO_X5 rfl gX5_doubles_X5_hasRiver rfl ⟨rfl, rfl⟩ hdX5_hasRiver ⟨by decide, by decide⟩ rfl (Nat.le_of_ble_eq_true rfl) dX5_doubles_1 rfl (fun hb1 _ => ?_)
  refine q_if_ne C dX5_doubles_4 (tgt := 10) (by decide) (fun c2 => ?_) (fun c2 => ?_)
  · have hz := sat_f hz c2
    refine q_iload_n C 1 rfl dX5_doubles_10 rfl ?_
    refine q_iconst C dX5_doubles_11 ⟨by decide, by decide⟩ ?_
    refine q_iconst C dX5_doubles_12 ⟨by decide, by decide⟩ ?_
    refine q_callSz ZC_st C [Vi p1, Vi 0, Vi 1] [] (c_X5_within μ p1 0 1) gX5_doubles_X5_within rfl ⟨rfl, rfl⟩ hdX5_within ⟨by decide, by decide⟩ rfl (Nat.le_of_ble_eq_true rfl) dX5_doubles_13 rfl (fun hb3 _ => ?_)
    refine q_if_ne C dX5_doubles_16 (tgt := 22) (by decide) (fun c4 => ?_) (fun c4 => ?_)
    · have hz := sat_f hz c4
      refine q_iconst C dX5_doubles_22 ⟨by decide, by decide⟩ ?_
      refine q_istore_n C [(2, Vi 0), (0, Vr 174), (1, Vi p1)] rfl (by decide) dX5_doubles_23 rfl ?_
      refine q_ldc (v := (-1000000)) (x := (-1000000)) C (by decide +kernel) dX5_doubles_24 ⟨by decide +kernel, by decide, by decide⟩ ?_
      refine q_istore_n C [(3, Vi (-1000000)), (2, Vi 0), (0, Vr 174), (1, Vi p1)] rfl (by decide) dX5_doubles_26 rfl ?_
      refine q_iconst C dX5_doubles_27 ⟨by decide, by decide⟩ ?_
      refine q_istore C [(4, Vi 0), (3, Vi (-1000000)), (2, Vi 0), (0, Vr 174), (1, Vi p1)] rfl (by decide) dX5_doubles_28 ?_
      refine q_sub C [3, 4, 2, 1, 0] [(0, Vr 174), (1, Vi p1), (2, Vi 0), (3, Vi (-1000000)), (4, Vi 0)] rfl ?_
      refine loop_go (fun x5 => G μ 30 [(0, Vr 174), (1, Vi p1), (2, Vi (x5.1)), (3, Vi (x5.2.1)), (4, Vi (x5.2.2))] []) (sat_bind2 hz) (fun h => h) (fun x5 hz => ?_)
      refine q_iload C 4 rfl dX5_doubles_30 ?_
      refine q_aload_n C 0 rfl dX5_doubles_32 rfl ?_
      refine q_getR tO_X5 C (i := 4) i_X5 rfl rfl (by decide) rfl f_40 dX5_doubles_33 ?_
      refine q_get (tO_X2 (by decide)) C (i := 1) i_X2 rfl rfl (by decide) rfl f_117 dX5_doubles_36 ?_
      refine q_icmp_ge C dX5_doubles_39 (tgt := 117) (by decide) (fun c6 => ?_) (fun c6 => ?_)
      · have hz := sat_t hz c6
        have hz := sat_some hz
        refine q_sub C [1, 2, 3] [(1, Vi p1), (2, Vi (x5.1)), (3, Vi (x5.2.1))] rfl ?_
        refine q_iload_n C 0 rfl dX5_doubles_117 rfl ?_
        refine q_if_ne C dX5_doubles_118 (tgt := 125) (by decide) (fun c7 => ?_) (fun c7 => ?_)
        · have hz := sat_f hz c7
          refine q_iload_n C 2 rfl dX5_doubles_125 rfl ?_
          exact q_iret C dX5_doubles_126 (congrArg (fun q => (q, μ)) (sat_eq hz))
        · have hz := sat_t hz c7
          refine q_iload_n C 1 rfl dX5_doubles_121 rfl ?_
          refine q_goto C dX5_doubles_122 (tgt := 126) (by decide) ?_
          exact q_iret C dX5_doubles_126 (congrArg (fun q => (q, μ)) (sat_eq hz))
      · have hz := sat_f hz c6
        refine q_iload C 4 rfl dX5_doubles_42 ?_
        refine q_iconst C dX5_doubles_44 ⟨by decide, by decide⟩ ?_
        refine q_iadd C dX5_doubles_45 ?_
        refine q_istore C [(5, Vi (w3 (x5.2.2 + 1))), (0, Vr 174), (1, Vi p1), (2, Vi (x5.1)), (3, Vi (x5.2.1)), (4, Vi (x5.2.2))] rfl (by decide) dX5_doubles_46 ?_
        refine q_sub C [1, 2, 3, 4, 5, 0] [(0, Vr 174), (1, Vi p1), (2, Vi (x5.1)), (3, Vi (x5.2.1)), (4, Vi (x5.2.2)), (5, Vi (w3 (x5.2.2 + 1)))] rfl ?_
        refine loop_go (fun x8 => G μ 48 [(0, Vr 174), (1, Vi p1), (2, Vi (x8.1)), (3, Vi (x8.2.1)), (4, Vi (x5.2.2)), (5, Vi (x8.2.2))] []) (sat_bind2 hz) (fun h => h) (fun x8 hz => ?_)
        refine q_iload C 5 rfl dX5_doubles_48 ?_
        refine q_aload_n C 0 rfl dX5_doubles_50 rfl ?_
        refine q_getR tO_X5 C (i := 4) i_X5 rfl rfl (by decide) rfl f_40 dX5_doubles_51 ?_
        refine q_get (tO_X2 (by decide)) C (i := 1) i_X2 rfl rfl (by decide) rfl f_117 dX5_doubles_54 ?_
        refine q_icmp_ge C dX5_doubles_57 (tgt := 111) (by decide) (fun c9 => ?_) (fun c9 => ?_)
        · have hz := sat_t hz c9
          have hz := sat_some hz
          refine q_sub C [0, 1, 2, 3, 4] [(0, Vr 174), (1, Vi p1), (2, Vi (x8.1)), (3, Vi (x8.2.1)), (4, Vi (x5.2.2))] rfl ?_
          refine q_iinc C 4 rfl [(4, Vi (w3 (x5.2.2 + 1))), (0, Vr 174), (1, Vi p1), (2, Vi (x8.1)), (3, Vi (x8.2.1))] rfl (by decide) dX5_doubles_111 ?_
          refine q_goto C dX5_doubles_114 (tgt := 30) (by decide) ?_
          refine q_sub C [1, 2, 3, 4, 0] [(0, Vr 174), (1, Vi p1), (2, Vi (x8.1)), (3, Vi (x8.2.1)), (4, Vi (w3 (x5.2.2 + 1)))] rfl ?_
          have hz := sat_some hz
          exact hz
        · have hz := sat_f hz c9
          refine q_aload_n C 0 rfl dX5_doubles_60 rfl ?_
          refine q_getR tO_X5 C (i := 4) i_X5 rfl rfl (by decide) rfl f_40 dX5_doubles_61 ?_
          refine q_getR (tO_X2 (by decide)) C (i := 6) i_X2 rfl rfl (by decide) rfl f_177 dX5_doubles_64 ?_
          refine q_iload C 4 rfl dX5_doubles_67 ?_
          obtain ⟨c10, hz⟩ := sat_chk hz
          refine q_iald (tA_plots (by decide)) C 0 rfl c10 dX5_doubles_69 ?_
          refine q_aload_n C 0 rfl dX5_doubles_70 rfl ?_
          refine q_getR tO_X5 C (i := 4) i_X5 rfl rfl (by decide) rfl f_40 dX5_doubles_71 ?_
          refine q_getR (tO_X2 (by decide)) C (i := 6) i_X2 rfl rfl (by decide) rfl f_177 dX5_doubles_74 ?_
          refine q_iload C 5 rfl dX5_doubles_77 ?_
          obtain ⟨c11, hz⟩ := sat_chk hz
          refine q_iald (tA_plots (by decide)) C 0 rfl c11 dX5_doubles_79 ?_
          refine q_icmp_ne C dX5_doubles_80 (tgt := 105) (by decide) (fun c12 => ?_) (fun c12 => ?_)
          · have hz := sat_f hz c12
            refine q_iinc C 5 rfl [(5, Vi (w3 (x8.2.2 + 1))), (0, Vr 174), (1, Vi p1), (2, Vi (x8.1)), (3, Vi (x8.2.1)), (4, Vi (x5.2.2))] rfl (by decide) dX5_doubles_105 ?_
            refine q_goto C dX5_doubles_108 (tgt := 48) (by decide) ?_
            refine q_sub C [1, 2, 3, 4, 5, 0] [(0, Vr 174), (1, Vi p1), (2, Vi (x8.1)), (3, Vi (x8.2.1)), (4, Vi (x5.2.2)), (5, Vi (w3 (x8.2.2 + 1)))] rfl ?_
            have hz := sat_some hz
            exact hz
          · have hz := sat_t hz c12
            refine q_iinc C 2 rfl [(2, Vi (w3 (x8.1 + 1))), (0, Vr 174), (1, Vi p1), (3, Vi (x8.2.1)), (4, Vi (x5.2.2)), (5, Vi (x8.2.2))] rfl (by decide) dX5_doubles_83 ?_
            refine q_iload_n C 3 rfl dX5_doubles_86 rfl ?_
            refine q_ldc (v := (-1000000)) (x := (-1000000)) C (by decide +kernel) dX5_doubles_87 ⟨by decide +kernel, by decide, by decide⟩ ?_
            refine q_icmp_ne C dX5_doubles_89 (tgt := 103) (by decide) (fun c13 => ?_) (fun c13 => ?_)
            · have hz := sat_f hz c13
              refine q_iload_n C 3 rfl dX5_doubles_103 rfl ?_
              refine q_istore_n C [(3, Vi (x8.2.1)), (2, Vi (w3 (x8.1 + 1))), (0, Vr 174), (1, Vi p1), (4, Vi (x5.2.2)), (5, Vi (x8.2.2))] rfl (by decide) dX5_doubles_104 rfl ?_
              refine q_iinc C 5 rfl [(5, Vi (w3 (x8.2.2 + 1))), (3, Vi (x8.2.1)), (2, Vi (w3 (x8.1 + 1))), (0, Vr 174), (1, Vi p1), (4, Vi (x5.2.2))] rfl (by decide) dX5_doubles_105 ?_
              refine q_goto C dX5_doubles_108 (tgt := 48) (by decide) ?_
              refine q_sub C [3, 4, 2, 1, 5, 0] [(0, Vr 174), (1, Vi p1), (2, Vi (w3 (x8.1 + 1))), (3, Vi (x8.2.1)), (4, Vi (x5.2.2)), (5, Vi (w3 (x8.2.2 + 1)))] rfl ?_
              have hz := sat_some hz
              exact hz
            · have hz := sat_t hz c13
              refine q_bipush C dX5_doubles_92 ⟨rfl, by decide, by decide⟩ ?_
              refine q_iload C 4 rfl dX5_doubles_94 ?_
              refine q_imul C dX5_doubles_96 ?_
              refine q_iload C 5 rfl dX5_doubles_97 ?_
              refine q_iadd C dX5_doubles_99 ?_
              refine q_goto C dX5_doubles_100 (tgt := 104) (by decide) ?_
              obtain ⟨a14, ha14, hz⟩ := sat_bnd hz
              refine q_nmi ha14 ?_
              refine q_istore_n C [(3, Vi a14), (2, Vi (w3 (x8.1 + 1))), (0, Vr 174), (1, Vi p1), (4, Vi (x5.2.2)), (5, Vi (x8.2.2))] rfl (by decide) dX5_doubles_104 rfl ?_
              refine q_iinc C 5 rfl [(5, Vi (w3 (x8.2.2 + 1))), (3, Vi a14), (2, Vi (w3 (x8.1 + 1))), (0, Vr 174), (1, Vi p1), (4, Vi (x5.2.2))] rfl (by decide) dX5_doubles_105 ?_
              refine q_goto C dX5_doubles_108 (tgt := 48) (by decide) ?_
              refine q_sub C [3, 4, 2, 1, 5, 0] [(0, Vr 174), (1, Vi p1), (2, Vi (w3 (x8.1 + 1))), (3, Vi a14), (4, Vi (x5.2.2)), (5, Vi (w3 (x8.2.2 + 1)))] rfl ?_
              have hz := sat_some hz
              exact hz
    · have hz := sat_t hz c4
      refine q_ldc (v := (-1000001)) (x := (-1000001)) C (by decide +kernel) dX5_doubles_19 ⟨by decide +kernel, by decide, by decide⟩ ?_
      exact q_iret C dX5_doubles_21 (congrArg (fun q => (q, μ)) (sat_eq hz))
  · have hz := sat_t hz c2
    refine q_ldc (v := (-1000002)) (x := (-1000002)) C (by decide +kernel) dX5_doubles_7 ⟨by decide +kernel, by decide, by decide⟩ ?_
    exact q_iret C dX5_doubles_9 (congrArg (fun q => (q, μ)) (sat_eq hz))
