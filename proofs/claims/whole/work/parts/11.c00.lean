theorem hdX5_within : yX5_within.cls ≠ "java/lang/invoke/MethodHandle" ∧ yX5_within.cls ≠ "java/lang/invoke/VarHandle" ∧ (parseMethodDescriptor yX5_within.desc).map (fun d => d.parameters.length) = some 3 := by decide +kernel
set_option maxHeartbeats 4000000 in
set_option maxRecDepth 100000 in
theorem c_X5_within {l : Launch} {D : va_G} {ad : Nat → Nat} {cI cII cR : ClassId} (μ : Mm) (p0 p1 p2 : Int) : CT l D vwCl (tyC cI cII cR) 194 ad (EC ad cI cII cR) (ZC ad) yX5_within wsX5_within ({ frames := 0, cells := 0, slots := 0, locals := 0 } : Room) (some .boolean) [Vi p0, Vi p1, Vi p2] μ (f_X5_within μ p0 p1 p2, μ) := by
  refine CT_of [(0, Vi p0), (1, Vi p1), (2, Vi p2)] ZC_st (by decide) rfl rfl (Nat.le_of_ble_eq_true rfl) rfl (fun G C => ?_)
  generalize hz : f_X5_within μ p0 p1 p2 = v at C
  unfold f_X5_within at hz
  refine q_iload_n C 0 rfl dX5_within_0 rfl ?_
  refine q_iload_n C 1 rfl dX5_within_1 rfl ?_
  refine q_icmp_lt C dX5_within_2 (tgt := 14) (by decide) (fun c1 => ?_) (fun c1 => ?_)
  · have hz := eq_t hz c1
    refine q_iconst C dX5_within_14 ⟨by decide, by decide⟩ ?_
    exact q_zret C (Or.inl rfl) dX5_within_15 (congrArg (fun q => (q, μ)) hz)
  · have hz := eq_f hz c1
    refine q_iload_n C 0 rfl dX5_within_5 rfl ?_
    refine q_iload_n C 2 rfl dX5_within_6 rfl ?_
    refine q_icmp_gt C dX5_within_7 (tgt := 14) (by decide) (fun c2 => ?_) (fun c2 => ?_)
    · have hz := eq_t hz c2
      refine q_iconst C dX5_within_14 ⟨by decide, by decide⟩ ?_
      exact q_zret C (Or.inl rfl) dX5_within_15 (congrArg (fun q => (q, μ)) hz)
    · have hz := eq_f hz c2
      refine q_iconst C dX5_within_10 ⟨by decide, by decide⟩ ?_
      refine q_goto C dX5_within_11 (tgt := 15) (by decide) ?_
      exact q_zret C (Or.inr rfl) dX5_within_15 (congrArg (fun q => (q, μ)) hz)
theorem hdX5_found : yX5_found.cls = RX5 ∧ yX5_found.cls ≠ "java/lang/invoke/MethodHandle" ∧ yX5_found.cls ≠ "java/lang/invoke/VarHandle" ∧ (parseMethodDescriptor yX5_found.desc).map (fun d => d.parameters.length) = some 1 := by decide +kernel
set_option maxHeartbeats 4000000 in
set_option maxRecDepth 100000 in
theorem c_X5_found {l : Launch} {D : va_G} {ad : Nat → Nat} {cI cII cR : ClassId} (μ : Mm) (p1 : Int) {v : Int × Mm} (hz : f_X5_found μ p1 = some v) : CT l D vwCl (tyC cI cII cR) 194 ad (EC ad cI cII cR) (ZC ad) yX5_found wsX5_found ({ frames := 0, cells := 0, slots := 0, locals := 0 } : Room) (some .int) [Vr 174, Vi p1] μ (v.1, v.2) := by
  refine CT_of [(0, Vr 174), (1, Vi p1)] ZC_st (by decide) rfl rfl (Nat.le_of_ble_eq_true rfl) rfl (fun G C => ?_)
  have i_X5 : ∀ w ∈ u_ws RX5 TX5 9, w ∈ wsX5_found := by decide +kernel
  have f_63 : Cond.fieldLink (yX5_found).cls 63 "SwanDeeds" "status" "I" ∈ wsX5_found := by decide +kernel
  have hz := sat_of hz
  unfold f_X5_found at hz
  refine q_aload_n C 0 rfl dX5_found_0 rfl ?_
  refine q_iload_n C 1 rfl dX5_found_1 rfl ?_
  obtain ⟨m1, hm1, hz⟩ := sat_bnd hz
  refine q_put tO_X5 C hm1 (i := 8) i_X5 tyX5_ok nmX5 rfl rfl (by decide) rfl f_63 dX5_found_2 ?_
  refine q_ldcw (v := (-1000010)) (x := (-1000010)) C (by decide +kernel) dX5_found_5 ⟨by decide +kernel, by decide, by decide⟩ ?_
  refine q_iload_n C 1 rfl dX5_found_8 rfl ?_
  refine q_isub C dX5_found_9 ?_
  exact q_iret C dX5_found_10 (sat_eq hz)
theorem hdX3_make : yX3_make.cls = RX3 ∧ yX3_make.cls ≠ "java/lang/invoke/MethodHandle" ∧ yX3_make.cls ≠ "java/lang/invoke/VarHandle" ∧ (parseMethodDescriptor yX3_make.desc).map (fun d => d.parameters.length) = some 3 := by decide +kernel
set_option maxHeartbeats 4000000 in
set_option maxRecDepth 100000 in
theorem c_X3_make {l : Launch} {D : va_G} {ad : Nat → Nat} {cI cII cR : ClassId} (μ : Mm) (p1 p2 p3 : Int) {v : Mm} (hz : f_X3_make μ p1 p2 p3 = some v) : CT l D vwCl (tyC cI cII cR) 194 ad (EC ad cI cII cR) (ZC ad) yX3_make wsX3_make ({ frames := 0, cells := 0, slots := 0, locals := 0 } : Room) none [Vr 175, Vi p1, Vi p2, Vi p3] μ ((0 : Int), v) := by
  refine CT_of [(0, Vr 175), (1, Vi p1), (2, Vi p2), (3, Vi p3)] ZC_st (by decide) rfl rfl (Nat.le_of_ble_eq_true rfl) rfl (fun G C => ?_)
  have i_X3 : ∀ w ∈ u_ws RX3 TX3 3, w ∈ wsX3_make := by decide +kernel
  have f_11 : Cond.fieldLink (yX3_make).cls 11 "SwanDeeds$Rows" "items" "[[I" ∈ wsX3_make := by decide +kernel
  have f_16 : Cond.fieldLink (yX3_make).cls 16 "SwanDeeds$Rows" "lanes" "[I" ∈ wsX3_make := by decide +kernel
  have f_20 : Cond.fieldLink (yX3_make).cls 20 "SwanDeeds$Rows" "sizes" "[I" ∈ wsX3_make := by decide +kernel
  have hz := sat_of hz
  unfold f_X3_make at hz
  refine q_aload_n C 0 rfl dX3_make_0 rfl ?_
  refine q_getR tO_X3 C (i := 1) i_X3 rfl rfl (by decide) rfl f_16 dX3_make_1 ?_
  refine q_iload_n C 1 rfl dX3_make_4 rfl ?_
  refine q_iload_n C 2 rfl dX3_make_5 rfl ?_
  obtain ⟨c1, hz⟩ := sat_chk hz
  obtain ⟨m2, hm2, hz⟩ := sat_bnd hz
  refine q_iast (tA_lanes) C 0 rfl c1 hm2 dX3_make_6 ?_
  refine q_aload_n C 0 rfl dX3_make_7 rfl ?_
  refine q_getR tO_X3 C (i := 2) i_X3 rfl rfl (by decide) rfl f_20 dX3_make_8 ?_
  refine q_iload_n C 1 rfl dX3_make_11 rfl ?_
  refine q_iload_n C 3 rfl dX3_make_12 rfl ?_
  obtain ⟨c3, hz⟩ := sat_chk hz
  obtain ⟨m4, hm4, hz⟩ := sat_bnd hz
  refine q_iast (tA_sizes) C 0 rfl c3 hm4 dX3_make_13 ?_
  refine q_iconst C dX3_make_14 ⟨by decide, by decide⟩ ?_
  refine q_istore C [(4, Vi 0), (0, Vr 175), (1, Vi p1), (2, Vi p2), (3, Vi p3)] rfl (by decide) dX3_make_15 ?_
  refine q_sub C [1, 2, 0] [(0, Vr 175), (1, Vi p1), (4, Vi 0)] rfl ?_
  refine loop_go (fun x5 => G x5.2 17 [(0, Vr 175), (1, Vi p1), (4, Vi (x5.1))] []) (sat_bind2 hz) (fun h => h) (fun x5 hz => ?_)
  refine q_iload C 2 rfl dX3_make_17 ?_
  refine q_bipush C dX3_make_19 ⟨rfl, by decide, by decide⟩ ?_
  refine q_icmp_ge C dX3_make_21 (tgt := 40) (by decide) (fun c6 => ?_) (fun c6 => ?_)
  · have hz := sat_t hz c6
    have hz := sat_some hz
    refine q_sub C [] [] rfl ?_
    exact q_vret C dX3_make_40 (congrArg (fun q => ((0 : Int), q)) (sat_eq hz))
  · have hz := sat_f hz c6
    refine q_aload_n C 0 rfl dX3_make_24 rfl ?_
    refine q_getR tO_X3 C (i := 0) i_X3 rfl rfl (by decide) rfl f_11 dX3_make_25 ?_
    refine q_iload_n C 1 rfl dX3_make_28 rfl ?_
    obtain ⟨c7, hz⟩ := sat_chk hz
    refine q_aald tQ_items C 1 rfl rfl c7 (k' := 186 + p1.toNat) rfl dX3_make_29 ?_
    refine q_iload C 2 rfl dX3_make_30 ?_
    refine q_iconst C dX3_make_32 ⟨by decide, by decide⟩ ?_
    obtain ⟨c8, hz⟩ := sat_chk hz
    obtain ⟨m9, hm9, hz⟩ := sat_bnd hz
    refine q_iast (tA_items (show p1.toNat < 8 by omega)) C 0 rfl c8 hm9 dX3_make_33 ?_
    refine q_iinc C 2 rfl [(4, Vi (w3 (x5.1 + 1))), (0, Vr 175), (1, Vi p1)] rfl (by decide) dX3_make_34 ?_
    refine q_goto C dX3_make_37 (tgt := 17) (by decide) ?_
    refine q_sub C [1, 2, 0] [(0, Vr 175), (1, Vi p1), (4, Vi (w3 (x5.1 + 1)))] rfl ?_
    have hz := sat_some hz
    exact hz
theorem hdX5_row : yX5_row.cls = RX5 ∧ yX5_row.cls ≠ "java/lang/invoke/MethodHandle" ∧ yX5_row.cls ≠ "java/lang/invoke/VarHandle" ∧ (parseMethodDescriptor yX5_row.desc).map (fun d => d.parameters.length) = some 3 := by decide +kernel
set_option maxHeartbeats 4000000 in
set_option maxRecDepth 100000 in
theorem c_X5_row {l : Launch} {D : va_G} {ad : Nat → Nat} {cI cII cR : ClassId} (μ : Mm) (p1 p2 p3 : Int) {v : Int × Mm} (hz : f_X5_row μ p1 p2 p3 = some v) : CT l D vwCl (tyC cI cII cR) 194 ad (EC ad cI cII cR) (ZC ad) yX5_row wsX5_row ({ frames := 1, cells := 0, slots := 0, locals := 24 } : Room) (some .int) [Vr 174, Vi p1, Vi p2, Vi p3] μ (v.1, v.2) := by
  refine CT_of [(0, Vr 174), (1, Vi p1), (2, Vi p2), (3, Vi p3)] ZC_st (by decide) rfl rfl (Nat.le_of_ble_eq_true rfl) rfl (fun G C => ?_)
  have i_X5 : ∀ w ∈ u_ws RX5 TX5 9, w ∈ wsX5_row := by decide +kernel
  have f_10 : Cond.fieldLink (yX5_row).cls 10 "SwanDeeds" "rows" "LSwanDeeds$Rows;" ∈ wsX5_row := by decide +kernel
  have f_63 : Cond.fieldLink (yX5_row).cls 63 "SwanDeeds" "status" "I" ∈ wsX5_row := by decide +kernel
  have hz := sat_of hz
  unfold f_X5_row at hz
  refine q_iload_n C 1 rfl dX5_row_0 rfl ?_
  refine q_iconst C dX5_row_1 ⟨by decide, by decide⟩ ?_
  refine q_bipush C dX5_row_2 ⟨rfl, by decide, by decide⟩ ?_
  refine q_callSz ZC_st C [Vi p1, Vi 0, Vi 7] [] (c_X5_within μ p1 0 7) gX5_row_X5_within rfl ⟨rfl, rfl⟩ hdX5_within ⟨by decide, by decide⟩ rfl (Nat.le_of_ble_eq_true rfl) dX5_row_4 rfl (fun hb1 _ => ?_)
  refine q_if_eq C dX5_row_7 (tgt := 25) (by decide) (fun c2 => ?_) (fun c2 => ?_)
  · have hz := sat_t hz c2
    refine q_ldc (v := (-1000001)) (x := (-1000001)) C (by decide +kernel) dX5_row_25 ⟨by decide +kernel, by decide, by decide⟩ ?_
    exact q_iret C dX5_row_27 (sat_eq hz)
  · have hz := sat_f hz c2
    refine q_iload_n C 2 rfl dX5_row_10 rfl ?_
    refine q_iconst C dX5_row_11 ⟨by decide, by decide⟩ ?_
    refine q_iconst C dX5_row_12 ⟨by decide, by decide⟩ ?_
    refine q_callSz ZC_st C [Vi p2, Vi 0, Vi 2] [] (c_X5_within μ p2 0 2) gX5_row_X5_within rfl ⟨rfl, rfl⟩ hdX5_within ⟨by decide, by decide⟩ rfl (Nat.le_of_ble_eq_true rfl) dX5_row_13 rfl (fun hb3 _ => ?_)
    refine q_if_eq C dX5_row_16 (tgt := 25) (by decide) (fun c4 => ?_) (fun c4 => ?_)
    · have hz := sat_t hz c4
      refine q_ldc (v := (-1000001)) (x := (-1000001)) C (by decide +kernel) dX5_row_25 ⟨by decide +kernel, by decide, by decide⟩ ?_
      exact q_iret C dX5_row_27 (sat_eq hz)
    · have hz := sat_f hz c4
      refine q_iload_n C 3 rfl dX5_row_19 rfl ?_
      refine q_bipush C dX5_row_20 ⟨rfl, by decide, by decide⟩ ?_
      refine q_icmp_le C dX5_row_22 (tgt := 28) (by decide) (fun c5 => ?_) (fun c5 => ?_)
      · have hz := sat_t hz c5
        refine q_iload_n C 3 rfl dX5_row_28 rfl ?_
        refine q_if_ge C dX5_row_29 (tgt := 38) (by decide) (fun c6 => ?_) (fun c6 => ?_)
        · have hz := sat_t hz c6
          refine q_aload_n C 0 rfl dX5_row_38 rfl ?_
          refine q_iconst C dX5_row_39 ⟨by decide, by decide⟩ ?_
          obtain ⟨m7, hm7, hz⟩ := sat_bnd hz
          refine q_put tO_X5 C hm7 (i := 8) i_X5 tyX5_ok nmX5 rfl rfl (by decide) rfl f_63 dX5_row_40 ?_
          refine q_aload_n C 0 rfl dX5_row_43 rfl ?_
          refine q_getR tO_X5 C (i := 0) i_X5 rfl rfl (by decide) rfl f_10 dX5_row_44 ?_
          refine q_iload_n C 1 rfl dX5_row_47 rfl ?_
          refine q_iload_n C 2 rfl dX5_row_48 rfl ?_
          refine q_iload_n C 3 rfl dX5_row_49 rfl ?_
          obtain ⟨z9, hz9, hz⟩ := sat_bind hz
          refine q_callVv ZC_st C [Vi p1, Vi p2, Vi p3] [] (c_X3_make m7 p1 p2 p3 hz9) tO_X3 rfl gX5_row_X3_make rfl ⟨rfl, rfl⟩ hdX3_make ⟨by decide, by decide⟩ rfl (Nat.le_of_ble_eq_true rfl) dX5_row_50 rfl (fun _ => ?_)
          refine q_iload_n C 3 rfl dX5_row_53 rfl ?_
          exact q_iret C dX5_row_54 (sat_eq hz)
        · have hz := sat_f hz c6
          refine q_aload_n C 0 rfl dX5_row_32 rfl ?_
          refine q_iconst C dX5_row_33 ⟨by decide, by decide⟩ ?_
          obtain ⟨z11, hz11, hz⟩ := sat_bind hz
          refine q_callVi ZC_st C [Vi 4] [] (c_X5_found μ 4 hz11) tO_X5 rfl gX5_row_X5_found rfl ⟨rfl, rfl⟩ hdX5_found ⟨by decide, by decide⟩ rfl (Nat.le_of_ble_eq_true rfl) dX5_row_34 rfl (fun _ _ => ?_)
          exact q_iret C dX5_row_37 (sat_eq hz)
      · have hz := sat_f hz c5
        refine q_ldc (v := (-1000001)) (x := (-1000001)) C (by decide +kernel) dX5_row_25 ⟨by decide +kernel, by decide, by decide⟩ ?_
        exact q_iret C dX5_row_27 (sat_eq hz)
theorem hdX3_isMissing : yX3_isMissing.cls = RX3 ∧ yX3_isMissing.cls ≠ "java/lang/invoke/MethodHandle" ∧ yX3_isMissing.cls ≠ "java/lang/invoke/VarHandle" ∧ (parseMethodDescriptor yX3_isMissing.desc).map (fun d => d.parameters.length) = some 1 := by decide +kernel
set_option maxHeartbeats 4000000 in
set_option maxRecDepth 100000 in
theorem c_X3_isMissing {l : Launch} {D : va_G} {ad : Nat → Nat} {cI cII cR : ClassId} (μ : Mm) (p1 : Int) {v : Int} (hz : f_X3_isMissing μ p1 = some v) : CT l D vwCl (tyC cI cII cR) 194 ad (EC ad cI cII cR) (ZC ad) yX3_isMissing wsX3_isMissing ({ frames := 0, cells := 0, slots := 0, locals := 0 } : Room) (some .boolean) [Vr 175, Vi p1] μ (v, μ) := by
  refine CT_of [(0, Vr 175), (1, Vi p1)] ZC_st (by decide) rfl rfl (Nat.le_of_ble_eq_true rfl) rfl (fun G C => ?_)
  have i_X3 : ∀ w ∈ u_ws RX3 TX3 3, w ∈ wsX3_isMissing := by decide +kernel
  have f_20 : Cond.fieldLink (yX3_isMissing).cls 20 "SwanDeeds$Rows" "sizes" "[I" ∈ wsX3_isMissing := by decide +kernel
  have hz := sat_of hz
  unfold f_X3_isMissing at hz
  refine q_aload_n C 0 rfl dX3_isMissing_0 rfl ?_
  refine q_getR tO_X3 C (i := 2) i_X3 rfl rfl (by decide) rfl f_20 dX3_isMissing_1 ?_
  refine q_iload_n C 1 rfl dX3_isMissing_4 rfl ?_
  obtain ⟨c1, hz⟩ := sat_chk hz
  refine q_iald (tA_sizes) C 0 rfl c1 dX3_isMissing_5 ?_
  refine q_iconst C dX3_isMissing_6 ⟨by decide, by decide⟩ ?_
  refine q_icmp_ne C dX3_isMissing_7 (tgt := 14) (by decide) (fun c2 => ?_) (fun c2 => ?_)
  · have hz := sat_f hz c2
    refine q_iconst C dX3_isMissing_14 ⟨by decide, by decide⟩ ?_
    exact q_zret C (Or.inl rfl) dX3_isMissing_15 (congrArg (fun q => (q, μ)) (sat_eq hz))
  · have hz := sat_t hz c2
    refine q_iconst C dX3_isMissing_10 ⟨by decide, by decide⟩ ?_
    refine q_goto C dX3_isMissing_11 (tgt := 15) (by decide) ?_
    exact q_zret C (Or.inr rfl) dX3_isMissing_15 (congrArg (fun q => (q, μ)) (sat_eq hz))
theorem hdX3_holds : yX3_holds.cls = RX3 ∧ yX3_holds.cls ≠ "java/lang/invoke/MethodHandle" ∧ yX3_holds.cls ≠ "java/lang/invoke/VarHandle" ∧ (parseMethodDescriptor yX3_holds.desc).map (fun d => d.parameters.length) = some 3 := by decide +kernel
set_option maxHeartbeats 4000000 in
set_option maxRecDepth 100000 in
theorem c_X3_holds {l : Launch} {D : va_G} {ad : Nat → Nat} {cI cII cR : ClassId} (μ : Mm) (p1 p2 p3 : Int) {v : Int} (hz : f_X3_holds μ p1 p2 p3 = some v) : CT l D vwCl (tyC cI cII cR) 194 ad (EC ad cI cII cR) (ZC ad) yX3_holds wsX3_holds ({ frames := 0, cells := 0, slots := 0, locals := 0 } : Room) (some .boolean) [Vr 175, Vi p1, Vi p2, Vi p3] μ (v, μ) := by
  refine CT_of [(0, Vr 175), (1, Vi p1), (2, Vi p2), (3, Vi p3)] ZC_st (by decide) rfl rfl (Nat.le_of_ble_eq_true rfl) rfl (fun G C => ?_)
  have i_X3 : ∀ w ∈ u_ws RX3 TX3 3, w ∈ wsX3_holds := by decide +kernel
  have f_20 : Cond.fieldLink (yX3_holds).cls 20 "SwanDeeds$Rows" "sizes" "[I" ∈ wsX3_holds := by decide +kernel
  have hz := sat_of hz
  unfold f_X3_holds at hz
  refine q_iload_n C 3 rfl dX3_holds_0 rfl ?_
  refine q_if_lt C dX3_holds_1 (tgt := 24) (by decide) (fun c1 => ?_) (fun c1 => ?_)
  · have hz := sat_t hz c1
    refine q_iconst C dX3_holds_24 ⟨by decide, by decide⟩ ?_
    exact q_zret C (Or.inl rfl) dX3_holds_25 (congrArg (fun q => (q, μ)) (sat_eq hz))
  · have hz := sat_f hz c1
    refine q_iload_n C 2 rfl dX3_holds_4 rfl ?_
    refine q_if_lt C dX3_holds_5 (tgt := 24) (by decide) (fun c2 => ?_) (fun c2 => ?_)
    · have hz := sat_t hz c2
      refine q_iconst C dX3_holds_24 ⟨by decide, by decide⟩ ?_
      exact q_zret C (Or.inl rfl) dX3_holds_25 (congrArg (fun q => (q, μ)) (sat_eq hz))
    · have hz := sat_f hz c2
      refine q_iload_n C 2 rfl dX3_holds_8 rfl ?_
      refine q_aload_n C 0 rfl dX3_holds_9 rfl ?_
      refine q_getR tO_X3 C (i := 2) i_X3 rfl rfl (by decide) rfl f_20 dX3_holds_10 ?_
      refine q_iload_n C 1 rfl dX3_holds_13 rfl ?_
      obtain ⟨c3, hz⟩ := sat_chk hz
      refine q_iald (tA_sizes) C 0 rfl c3 dX3_holds_14 ?_
      refine q_iload_n C 3 rfl dX3_holds_15 rfl ?_
      refine q_isub C dX3_holds_16 ?_
      refine q_icmp_gt C dX3_holds_17 (tgt := 24) (by decide) (fun c4 => ?_) (fun c4 => ?_)
      · have hz := sat_t hz c4
        refine q_iconst C dX3_holds_24 ⟨by decide, by decide⟩ ?_
        exact q_zret C (Or.inl rfl) dX3_holds_25 (congrArg (fun q => (q, μ)) (sat_eq hz))
      · have hz := sat_f hz c4
        refine q_iconst C dX3_holds_20 ⟨by decide, by decide⟩ ?_
        refine q_goto C dX3_holds_21 (tgt := 25) (by decide) ?_
        exact q_zret C (Or.inr rfl) dX3_holds_25 (congrArg (fun q => (q, μ)) (sat_eq hz))
theorem hdX3_findingAt : yX3_findingAt.cls = RX3 ∧ yX3_findingAt.cls ≠ "java/lang/invoke/MethodHandle" ∧ yX3_findingAt.cls ≠ "java/lang/invoke/VarHandle" ∧ (parseMethodDescriptor yX3_findingAt.desc).map (fun d => d.parameters.length) = some 3 := by decide +kernel
set_option maxHeartbeats 4000000 in
set_option maxRecDepth 100000 in
theorem c_X3_findingAt {l : Launch} {D : va_G} {ad : Nat → Nat} {cI cII cR : ClassId} (μ : Mm) (p1 p2 p3 : Int) {v : Int} (hz : f_X3_findingAt μ p1 p2 p3 = some v) : CT l D vwCl (tyC cI cII cR) 194 ad (EC ad cI cII cR) (ZC ad) yX3_findingAt wsX3_findingAt ({ frames := 1, cells := 0, slots := 0, locals := 23 } : Room) (some .int) [Vr 175, Vi p1, Vi p2, Vi p3] μ (v, μ) := by
  refine CT_of [(0, Vr 175), (1, Vi p1), (2, Vi p2), (3, Vi p3)] ZC_st (by decide) rfl rfl (Nat.le_of_ble_eq_true rfl) rfl (fun G C => ?_)
  have hz := sat_of hz
  unfold f_X3_findingAt at hz
  refine q_aload_n C 0 rfl dX3_findingAt_0 rfl ?_
  refine q_iload_n C 1 rfl dX3_findingAt_1 rfl ?_
  obtain ⟨z2, hz2, hz⟩ := sat_bind hz
  refine q_callVz ZC_st C [Vi p1] [] (c_X3_isMissing μ p1 hz2) tO_X3 rfl gX3_findingAt_X3_isMissing rfl ⟨rfl, rfl⟩ hdX3_isMissing ⟨by decide, by decide⟩ rfl (Nat.le_of_ble_eq_true rfl) dX3_findingAt_2 rfl (fun hb1 _ => ?_)
  refine q_if_eq C dX3_findingAt_5 (tgt := 10) (by decide) (fun c3 => ?_) (fun c3 => ?_)
  · have hz := sat_t hz c3
    refine q_aload_n C 0 rfl dX3_findingAt_10 rfl ?_
    refine q_iload_n C 1 rfl dX3_findingAt_11 rfl ?_
    refine q_iload_n C 2 rfl dX3_findingAt_12 rfl ?_
    refine q_iload_n C 3 rfl dX3_findingAt_13 rfl ?_
    obtain ⟨z5, hz5, hz⟩ := sat_bind hz
    refine q_callVz ZC_st C [Vi p1, Vi p2, Vi p3] [] (c_X3_holds μ p1 p2 p3 hz5) tO_X3 rfl gX3_findingAt_X3_holds rfl ⟨rfl, rfl⟩ hdX3_holds ⟨by decide, by decide⟩ rfl (Nat.le_of_ble_eq_true rfl) dX3_findingAt_14 rfl (fun hb4 _ => ?_)
    refine q_if_eq C dX3_findingAt_17 (tgt := 24) (by decide) (fun c6 => ?_) (fun c6 => ?_)
    · have hz := sat_t hz c6
      refine q_iconst C dX3_findingAt_24 ⟨by decide, by decide⟩ ?_
      exact q_iret C dX3_findingAt_25 (congrArg (fun q => (q, μ)) (sat_eq hz))
    · have hz := sat_f hz c6
      refine q_iconst C dX3_findingAt_20 ⟨by decide, by decide⟩ ?_
      refine q_goto C dX3_findingAt_21 (tgt := 25) (by decide) ?_
      exact q_iret C dX3_findingAt_25 (congrArg (fun q => (q, μ)) (sat_eq hz))
  · have hz := sat_f hz c3
    refine q_iconst C dX3_findingAt_8 ⟨by decide, by decide⟩ ?_
    exact q_iret C dX3_findingAt_9 (congrArg (fun q => (q, μ)) (sat_eq hz))
theorem hdX3_put : yX3_put.cls = RX3 ∧ yX3_put.cls ≠ "java/lang/invoke/MethodHandle" ∧ yX3_put.cls ≠ "java/lang/invoke/VarHandle" ∧ (parseMethodDescriptor yX3_put.desc).map (fun d => d.parameters.length) = some 3 := by decide +kernel
set_option maxHeartbeats 4000000 in
set_option maxRecDepth 100000 in
theorem c_X3_put {l : Launch} {D : va_G} {ad : Nat → Nat} {cI cII cR : ClassId} (μ : Mm) (p1 p2 p3 : Int) {v : Int × Mm} (hz : f_X3_put μ p1 p2 p3 = some v) : CT l D vwCl (tyC cI cII cR) 194 ad (EC ad cI cII cR) (ZC ad) yX3_put wsX3_put ({ frames := 0, cells := 0, slots := 0, locals := 0 } : Room) (some .int) [Vr 175, Vi p1, Vi p2, Vi p3] μ (v.1, v.2) := by
  refine CT_of [(0, Vr 175), (1, Vi p1), (2, Vi p2), (3, Vi p3)] ZC_st (by decide) rfl rfl (Nat.le_of_ble_eq_true rfl) rfl (fun G C => ?_)
  have i_X3 : ∀ w ∈ u_ws RX3 TX3 3, w ∈ wsX3_put := by decide +kernel
  have f_11 : Cond.fieldLink (yX3_put).cls 11 "SwanDeeds$Rows" "items" "[[I" ∈ wsX3_put := by decide +kernel
  have f_16 : Cond.fieldLink (yX3_put).cls 16 "SwanDeeds$Rows" "lanes" "[I" ∈ wsX3_put := by decide +kernel
  have hz := sat_of hz
  unfold f_X3_put at hz
  refine q_aload_n C 0 rfl dX3_put_0 rfl ?_
  refine q_getR tO_X3 C (i := 1) i_X3 rfl rfl (by decide) rfl f_16 dX3_put_1 ?_
  refine q_iload_n C 1 rfl dX3_put_4 rfl ?_
  obtain ⟨c1, hz⟩ := sat_chk hz
  refine q_iald (tA_lanes) C 0 rfl c1 dX3_put_5 ?_
  obtain ⟨v2, hv2, hz⟩ := sat_bind hz
  have Jv2 : G v2 67 [(0, Vr 175), (1, Vi p1), (2, Vi p2)] [] := by
    refine q_aload_n C 0 rfl dX3_put_67 rfl ?_
    refine q_getR tO_X3 C (i := 0) i_X3 rfl rfl (by decide) rfl f_11 dX3_put_68 ?_
    refine q_iload_n C 1 rfl dX3_put_71 rfl ?_
    obtain ⟨c3, hz⟩ := sat_chk hz
    refine q_aald tQ_items C 1 rfl rfl c3 (k' := 186 + p1.toNat) rfl dX3_put_72 ?_
    refine q_iload_n C 2 rfl dX3_put_73 rfl ?_
    obtain ⟨c4, hz⟩ := sat_chk hz
    refine q_iald (tA_items (show p1.toNat < 8 by omega)) C 0 rfl c4 dX3_put_74 ?_
    exact q_iret C dX3_put_75 (sat_eq hz)
  have hz := sat_of hv2
  refine sat_ite hz (fun c5 hz => ?_) (fun c5 hz => ?_)
  · have c5 : μ 36 (0 + p1) = 0 := c5
    refine q_lookup C dX3_put_6 rfl (off := 26) (by rw [c5]; rfl) (tgt := 32) (by decide) ?_
    refine q_aload_n C 0 rfl dX3_put_32 rfl ?_
    refine q_getR tO_X3 C (i := 0) i_X3 rfl rfl (by decide) rfl f_11 dX3_put_33 ?_
    refine q_iload_n C 1 rfl dX3_put_36 rfl ?_
    obtain ⟨c6, hz⟩ := sat_chk hz
    refine q_aald tQ_items C 1 rfl rfl c6 (k' := 186 + p1.toNat) rfl dX3_put_37 ?_
    refine q_iload_n C 2 rfl dX3_put_38 rfl ?_
    refine q_iload_n C 3 rfl dX3_put_39 rfl ?_
    refine q_i2b C dX3_put_40 ?_
    obtain ⟨c7, hz⟩ := sat_chk hz
    obtain ⟨m8, hm8, hz⟩ := sat_bnd hz
    refine q_iast (tA_items (show p1.toNat < 8 by omega)) C 0 rfl c7 hm8 dX3_put_41 ?_
    refine q_goto C dX3_put_42 (tgt := 67) (by decide) ?_
    have hz := sat_some hz
    have hz : _ = v2 := hz
    refine q_sub C [0, 1, 2] [(0, Vr 175), (1, Vi p1), (2, Vi p2)] rfl ?_
    subst hz
    exact Jv2
  · have c5 : ¬ μ 36 (0 + p1) = 0 := c5
    refine sat_ite hz (fun c9 hz => ?_) (fun c9 hz => ?_)
    · have c9 : μ 36 (0 + p1) = 1 := c9
      refine q_lookup C dX3_put_6 rfl (off := 39) (by rw [c9]; rfl) (tgt := 45) (by decide) ?_
      refine q_aload_n C 0 rfl dX3_put_45 rfl ?_
      refine q_getR tO_X3 C (i := 0) i_X3 rfl rfl (by decide) rfl f_11 dX3_put_46 ?_
      refine q_iload_n C 1 rfl dX3_put_49 rfl ?_
      obtain ⟨c10, hz⟩ := sat_chk hz
      refine q_aald tQ_items C 1 rfl rfl c10 (k' := 186 + p1.toNat) rfl dX3_put_50 ?_
      refine q_iload_n C 2 rfl dX3_put_51 rfl ?_
      refine q_iload_n C 3 rfl dX3_put_52 rfl ?_
      refine q_i2s C dX3_put_53 ?_
      obtain ⟨c11, hz⟩ := sat_chk hz
      obtain ⟨m12, hm12, hz⟩ := sat_bnd hz
      refine q_iast (tA_items (show p1.toNat < 8 by omega)) C 0 rfl c11 hm12 dX3_put_54 ?_
      refine q_goto C dX3_put_55 (tgt := 67) (by decide) ?_
      have hz := sat_some hz
      have hz : _ = v2 := hz
      refine q_sub C [0, 1, 2] [(0, Vr 175), (1, Vi p1), (2, Vi p2)] rfl ?_
      subst hz
      exact Jv2
    · have c9 : ¬ μ 36 (0 + p1) = 1 := c9
      refine q_lookup C dX3_put_6 rfl (off := 52) ((osw c5).trans ((osw c9).trans (rfl))) (tgt := 58) (by decide) ?_
      refine q_aload_n C 0 rfl dX3_put_58 rfl ?_
      refine q_getR tO_X3 C (i := 0) i_X3 rfl rfl (by decide) rfl f_11 dX3_put_59 ?_
      refine q_iload_n C 1 rfl dX3_put_62 rfl ?_
      obtain ⟨c13, hz⟩ := sat_chk hz
      refine q_aald tQ_items C 1 rfl rfl c13 (k' := 186 + p1.toNat) rfl dX3_put_63 ?_
      refine q_iload_n C 2 rfl dX3_put_64 rfl ?_
      refine q_iload_n C 3 rfl dX3_put_65 rfl ?_
      obtain ⟨c14, hz⟩ := sat_chk hz
      obtain ⟨m15, hm15, hz⟩ := sat_bnd hz
      refine q_iast (tA_items (show p1.toNat < 8 by omega)) C 0 rfl c14 hm15 dX3_put_66 ?_
      have hz := sat_some hz
      have hz : _ = v2 := hz
      refine q_sub C [0, 1, 2] [(0, Vr 175), (1, Vi p1), (2, Vi p2)] rfl ?_
      subst hz
      exact Jv2
theorem hdX5_set : yX5_set.cls = RX5 ∧ yX5_set.cls ≠ "java/lang/invoke/MethodHandle" ∧ yX5_set.cls ≠ "java/lang/invoke/VarHandle" ∧ (parseMethodDescriptor yX5_set.desc).map (fun d => d.parameters.length) = some 3 := by decide +kernel
set_option maxHeartbeats 4000000 in
set_option maxRecDepth 100000 in
theorem c_X5_set {l : Launch} {D : va_G} {ad : Nat → Nat} {cI cII cR : ClassId} (μ : Mm) (p1 p2 p3 : Int) {v : Int × Mm} (hz : f_X5_set μ p1 p2 p3 = some v) : CT l D vwCl (tyC cI cII cR) 194 ad (EC ad cI cII cR) (ZC ad) yX5_set wsX5_set ({ frames := 2, cells := 0, slots := 0, locals := 46 } : Room) (some .int) [Vr 174, Vi p1, Vi p2, Vi p3] μ (v.1, v.2) := by
  refine CT_of [(0, Vr 174), (1, Vi p1), (2, Vi p2), (3, Vi p3)] ZC_st (by decide) rfl rfl (Nat.le_of_ble_eq_true rfl) rfl (fun G C => ?_)
  have i_X5 : ∀ w ∈ u_ws RX5 TX5 9, w ∈ wsX5_set := by decide +kernel
  have f_10 : Cond.fieldLink (yX5_set).cls 10 "SwanDeeds" "rows" "LSwanDeeds$Rows;" ∈ wsX5_set := by decide +kernel
  have f_63 : Cond.fieldLink (yX5_set).cls 63 "SwanDeeds" "status" "I" ∈ wsX5_set := by decide +kernel
  have hz := sat_of hz
  unfold f_X5_set at hz
  refine q_iload_n C 1 rfl dX5_set_0 rfl ?_
  refine q_iconst C dX5_set_1 ⟨by decide, by decide⟩ ?_
  refine q_bipush C dX5_set_2 ⟨rfl, by decide, by decide⟩ ?_
  refine q_callSz ZC_st C [Vi p1, Vi 0, Vi 7] [] (c_X5_within μ p1 0 7) gX5_set_X5_within rfl ⟨rfl, rfl⟩ hdX5_within ⟨by decide, by decide⟩ rfl (Nat.le_of_ble_eq_true rfl) dX5_set_4 rfl (fun hb1 _ => ?_)
  refine q_if_ne C dX5_set_7 (tgt := 13) (by decide) (fun c2 => ?_) (fun c2 => ?_)
  · have hz := sat_f hz c2
    refine q_aload_n C 0 rfl dX5_set_13 rfl ?_
    refine q_getR tO_X5 C (i := 0) i_X5 rfl rfl (by decide) rfl f_10 dX5_set_14 ?_
    refine q_iload_n C 1 rfl dX5_set_17 rfl ?_
    refine q_iload_n C 2 rfl dX5_set_18 rfl ?_
    refine q_iconst C dX5_set_19 ⟨by decide, by decide⟩ ?_
    obtain ⟨z4, hz4, hz⟩ := sat_bind hz
    refine q_callVi ZC_st C [Vi p1, Vi p2, Vi 1] [] (c_X3_findingAt μ p1 p2 1 hz4) tO_X3 rfl gX5_set_X3_findingAt rfl ⟨rfl, rfl⟩ hdX3_findingAt ⟨by decide, by decide⟩ rfl (Nat.le_of_ble_eq_true rfl) dX5_set_20 rfl (fun _ _ => ?_)
    refine q_istore C [(4, Vi z4), (0, Vr 174), (1, Vi p1), (2, Vi p2), (3, Vi p3)] rfl (by decide) dX5_set_23 ?_
    refine q_iload C 0 rfl dX5_set_25 ?_
    refine q_if_eq C dX5_set_27 (tgt := 37) (by decide) (fun c5 => ?_) (fun c5 => ?_)
    · have hz := sat_t hz c5
      refine q_aload_n C 1 rfl dX5_set_37 rfl ?_
      refine q_iconst C dX5_set_38 ⟨by decide, by decide⟩ ?_
      obtain ⟨m6, hm6, hz⟩ := sat_bnd hz
      refine q_put tO_X5 C hm6 (i := 8) i_X5 tyX5_ok nmX5 rfl rfl (by decide) rfl f_63 dX5_set_39 ?_
      refine q_aload_n C 1 rfl dX5_set_42 rfl ?_
      refine q_getR tO_X5 C (i := 0) i_X5 rfl rfl (by decide) rfl f_10 dX5_set_43 ?_
      refine q_iload_n C 2 rfl dX5_set_46 rfl ?_
      refine q_iload_n C 3 rfl dX5_set_47 rfl ?_
      refine q_iload_n C 4 rfl dX5_set_48 rfl ?_
      obtain ⟨z8, hz8, hz⟩ := sat_bind hz
      refine q_callVi ZC_st C [Vi p1, Vi p2, Vi p3] [] (c_X3_put m6 p1 p2 p3 hz8) tO_X3 rfl gX5_set_X3_put rfl ⟨rfl, rfl⟩ hdX3_put ⟨by decide, by decide⟩ rfl (Nat.le_of_ble_eq_true rfl) dX5_set_49 rfl (fun _ _ => ?_)
      exact q_iret C dX5_set_52 (sat_eq hz)
    · have hz := sat_f hz c5
      refine q_aload_n C 1 rfl dX5_set_30 rfl ?_
      refine q_iload C 0 rfl dX5_set_31 ?_
      obtain ⟨z10, hz10, hz⟩ := sat_bind hz
      refine q_callVi ZC_st C [Vi z4] [] (c_X5_found μ z4 hz10) tO_X5 rfl gX5_set_X5_found rfl ⟨rfl, rfl⟩ hdX5_found ⟨by decide, by decide⟩ rfl (Nat.le_of_ble_eq_true rfl) dX5_set_33 rfl (fun _ _ => ?_)
      exact q_iret C dX5_set_36 (sat_eq hz)
  · have hz := sat_t hz c2
    refine q_ldc (v := (-1000001)) (x := (-1000001)) C (by decide +kernel) dX5_set_10 ⟨by decide +kernel, by decide, by decide⟩ ?_
    exact q_iret C dX5_set_12 (sat_eq hz)
theorem hdX3_laneOf : yX3_laneOf.cls = RX3 ∧ yX3_laneOf.cls ≠ "java/lang/invoke/MethodHandle" ∧ yX3_laneOf.cls ≠ "java/lang/invoke/VarHandle" ∧ (parseMethodDescriptor yX3_laneOf.desc).map (fun d => d.parameters.length) = some 1 := by decide +kernel
set_option maxHeartbeats 4000000 in
set_option maxRecDepth 100000 in
theorem c_X3_laneOf {l : Launch} {D : va_G} {ad : Nat → Nat} {cI cII cR : ClassId} (μ : Mm) (p1 : Int) {v : Int} (hz : f_X3_laneOf μ p1 = some v) : CT l D vwCl (tyC cI cII cR) 194 ad (EC ad cI cII cR) (ZC ad) yX3_laneOf wsX3_laneOf ({ frames := 0, cells := 0, slots := 0, locals := 0 } : Room) (some .int) [Vr 175, Vi p1] μ (v, μ) := by
  refine CT_of [(0, Vr 175), (1, Vi p1)] ZC_st (by decide) rfl rfl (Nat.le_of_ble_eq_true rfl) rfl (fun G C => ?_)
  have i_X3 : ∀ w ∈ u_ws RX3 TX3 3, w ∈ wsX3_laneOf := by decide +kernel
  have f_16 : Cond.fieldLink (yX3_laneOf).cls 16 "SwanDeeds$Rows" "lanes" "[I" ∈ wsX3_laneOf := by decide +kernel
  have hz := sat_of hz
  unfold f_X3_laneOf at hz
  refine q_aload_n C 0 rfl dX3_laneOf_0 rfl ?_
  refine q_getR tO_X3 C (i := 1) i_X3 rfl rfl (by decide) rfl f_16 dX3_laneOf_1 ?_
  refine q_iload_n C 1 rfl dX3_laneOf_4 rfl ?_
  obtain ⟨c1, hz⟩ := sat_chk hz
  refine q_iald (tA_lanes) C 0 rfl c1 dX3_laneOf_5 ?_
  exact q_iret C dX3_laneOf_6 (congrArg (fun q => (q, μ)) (sat_eq hz))
theorem hdX3_remove : yX3_remove.cls = RX3 ∧ yX3_remove.cls ≠ "java/lang/invoke/MethodHandle" ∧ yX3_remove.cls ≠ "java/lang/invoke/VarHandle" ∧ (parseMethodDescriptor yX3_remove.desc).map (fun d => d.parameters.length) = some 1 := by decide +kernel
set_option maxHeartbeats 4000000 in
set_option maxRecDepth 100000 in
theorem c_X3_remove {l : Launch} {D : va_G} {ad : Nat → Nat} {cI cII cR : ClassId} (μ : Mm) (p1 : Int) {v : Int × Mm} (hz : f_X3_remove μ p1 = some v) : CT l D vwCl (tyC cI cII cR) 194 ad (EC ad cI cII cR) (ZC ad) yX3_remove wsX3_remove ({ frames := 0, cells := 0, slots := 0, locals := 0 } : Room) (some .int) [Vr 175, Vi p1] μ (v.1, v.2) := by
  refine CT_of [(0, Vr 175), (1, Vi p1)] ZC_st (by decide) rfl rfl (Nat.le_of_ble_eq_true rfl) rfl (fun G C => ?_)
  have i_X3 : ∀ w ∈ u_ws RX3 TX3 3, w ∈ wsX3_remove := by decide +kernel
  have f_20 : Cond.fieldLink (yX3_remove).cls 20 "SwanDeeds$Rows" "sizes" "[I" ∈ wsX3_remove := by decide +kernel
  have hz := sat_of hz
  unfold f_X3_remove at hz
  refine q_aload_n C 0 rfl dX3_remove_0 rfl ?_
  refine q_getR tO_X3 C (i := 2) i_X3 rfl rfl (by decide) rfl f_20 dX3_remove_1 ?_
  refine q_iload_n C 1 rfl dX3_remove_4 rfl ?_
  obtain ⟨c1, hz⟩ := sat_chk hz
  refine q_iald (tA_sizes) C 0 rfl c1 dX3_remove_5 ?_
  refine q_istore_n C [(2, Vi (μ 37 (0 + p1))), (0, Vr 175), (1, Vi p1)] rfl (by decide) dX3_remove_6 rfl ?_
  refine q_aload_n C 1 rfl dX3_remove_7 rfl ?_
  refine q_getR tO_X3 C (i := 2) i_X3 rfl rfl (by decide) rfl f_20 dX3_remove_8 ?_
  refine q_iload_n C 2 rfl dX3_remove_11 rfl ?_
  refine q_iconst C dX3_remove_12 ⟨by decide, by decide⟩ ?_
  obtain ⟨c2, hz⟩ := sat_chk hz
  obtain ⟨m3, hm3, hz⟩ := sat_bnd hz
  refine q_iast (tA_sizes) C 0 rfl c2 hm3 dX3_remove_13 ?_
  refine q_iload_n C 0 rfl dX3_remove_14 rfl ?_
  exact q_iret C dX3_remove_15 (sat_eq hz)
theorem hdX5_drop : yX5_drop.cls = RX5 ∧ yX5_drop.cls ≠ "java/lang/invoke/MethodHandle" ∧ yX5_drop.cls ≠ "java/lang/invoke/VarHandle" ∧ (parseMethodDescriptor yX5_drop.desc).map (fun d => d.parameters.length) = some 1 := by decide +kernel
set_option maxHeartbeats 4000000 in
set_option maxRecDepth 100000 in
theorem c_X5_drop {l : Launch} {D : va_G} {ad : Nat → Nat} {cI cII cR : ClassId} (μ : Mm) (p1 : Int) {v : Int × Mm} (hz : f_X5_drop μ p1 = some v) : CT l D vwCl (tyC cI cII cR) 194 ad (EC ad cI cII cR) (ZC ad) yX5_drop wsX5_drop ({ frames := 1, cells := 0, slots := 0, locals := 22 } : Room) (some .int) [Vr 174, Vi p1] μ (v.1, v.2) := by
  refine CT_of [(0, Vr 174), (1, Vi p1)] ZC_st (by decide) rfl rfl (Nat.le_of_ble_eq_true rfl) rfl (fun G C => ?_)
  have i_X5 : ∀ w ∈ u_ws RX5 TX5 9, w ∈ wsX5_drop := by decide +kernel
  have f_10 : Cond.fieldLink (yX5_drop).cls 10 "SwanDeeds" "rows" "LSwanDeeds$Rows;" ∈ wsX5_drop := by decide +kernel
  have f_63 : Cond.fieldLink (yX5_drop).cls 63 "SwanDeeds" "status" "I" ∈ wsX5_drop := by decide +kernel
  have hz := sat_of hz
  unfold f_X5_drop at hz
  refine q_iload_n C 1 rfl dX5_drop_0 rfl ?_
  refine q_iconst C dX5_drop_1 ⟨by decide, by decide⟩ ?_
  refine q_bipush C dX5_drop_2 ⟨rfl, by decide, by decide⟩ ?_
  refine q_callSz ZC_st C [Vi p1, Vi 0, Vi 7] [] (c_X5_within μ p1 0 7) gX5_drop_X5_within rfl ⟨rfl, rfl⟩ hdX5_within ⟨by decide, by decide⟩ rfl (Nat.le_of_ble_eq_true rfl) dX5_drop_4 rfl (fun hb1 _ => ?_)
  refine q_if_ne C dX5_drop_7 (tgt := 13) (by decide) (fun c2 => ?_) (fun c2 => ?_)
  · have hz := sat_f hz c2
    refine q_aload_n C 0 rfl dX5_drop_13 rfl ?_
    refine q_getR tO_X5 C (i := 0) i_X5 rfl rfl (by decide) rfl f_10 dX5_drop_14 ?_
    refine q_iload_n C 1 rfl dX5_drop_17 rfl ?_
    obtain ⟨z4, hz4, hz⟩ := sat_bind hz
    refine q_callVz ZC_st C [Vi p1] [] (c_X3_isMissing μ p1 hz4) tO_X3 rfl gX5_drop_X3_isMissing rfl ⟨rfl, rfl⟩ hdX3_isMissing ⟨by decide, by decide⟩ rfl (Nat.le_of_ble_eq_true rfl) dX5_drop_18 rfl (fun hb3 _ => ?_)
    refine q_if_eq C dX5_drop_21 (tgt := 30) (by decide) (fun c5 => ?_) (fun c5 => ?_)
    · have hz := sat_t hz c5
      refine q_aload_n C 0 rfl dX5_drop_30 rfl ?_
      refine q_iconst C dX5_drop_31 ⟨by decide, by decide⟩ ?_
      obtain ⟨m6, hm6, hz⟩ := sat_bnd hz
      refine q_put tO_X5 C hm6 (i := 8) i_X5 tyX5_ok nmX5 rfl rfl (by decide) rfl f_63 dX5_drop_32 ?_
      refine q_aload_n C 0 rfl dX5_drop_35 rfl ?_
      refine q_getR tO_X5 C (i := 0) i_X5 rfl rfl (by decide) rfl f_10 dX5_drop_36 ?_
      refine q_iload_n C 1 rfl dX5_drop_39 rfl ?_
      obtain ⟨z8, hz8, hz⟩ := sat_bind hz
      refine q_callVi ZC_st C [Vi p1] [] (c_X3_remove m6 p1 hz8) tO_X3 rfl gX5_drop_X3_remove rfl ⟨rfl, rfl⟩ hdX3_remove ⟨by decide, by decide⟩ rfl (Nat.le_of_ble_eq_true rfl) dX5_drop_40 rfl (fun _ _ => ?_)
      exact q_iret C dX5_drop_43 (sat_eq hz)
    · have hz := sat_f hz c5
      refine q_aload_n C 0 rfl dX5_drop_24 rfl ?_
      refine q_iconst C dX5_drop_25 ⟨by decide, by decide⟩ ?_
      obtain ⟨z10, hz10, hz⟩ := sat_bind hz
      refine q_callVi ZC_st C [Vi 1] [] (c_X5_found μ 1 hz10) tO_X5 rfl gX5_drop_X5_found rfl ⟨rfl, rfl⟩ hdX5_found ⟨by decide, by decide⟩ rfl (Nat.le_of_ble_eq_true rfl) dX5_drop_26 rfl (fun _ _ => ?_)
      exact q_iret C dX5_drop_29 (sat_eq hz)
  · have hz := sat_t hz c2
    refine q_ldc (v := (-1000001)) (x := (-1000001)) C (by decide +kernel) dX5_drop_10 ⟨by decide +kernel, by decide, by decide⟩ ?_
    exact q_iret C dX5_drop_12 (sat_eq hz)
theorem hdX4_take : yX4_take.cls = RX4 ∧ yX4_take.cls ≠ "java/lang/invoke/MethodHandle" ∧ yX4_take.cls ≠ "java/lang/invoke/VarHandle" ∧ (parseMethodDescriptor yX4_take.desc).map (fun d => d.parameters.length) = some 1 := by decide +kernel
set_option maxHeartbeats 4000000 in
set_option maxRecDepth 100000 in
theorem c_X4_take {l : Launch} {D : va_G} {ad : Nat → Nat} {cI cII cR : ClassId} (μ : Mm) (p1 : Int) {v : Int × Mm} (hz : f_X4_take μ p1 = some v) : CT l D vwCl (tyC cI cII cR) 194 ad (EC ad cI cII cR) (ZC ad) yX4_take wsX4_take ({ frames := 0, cells := 0, slots := 0, locals := 0 } : Room) (some .boolean) [Vr 176, Vi p1] μ (v.1, v.2) := by
  refine CT_of [(0, Vr 176), (1, Vi p1)] ZC_st (by decide) rfl rfl (Nat.le_of_ble_eq_true rfl) rfl (fun G C => ?_)
  have i_X4 : ∀ w ∈ u_ws RX4 TX4 8, w ∈ wsX4_take := by decide +kernel
  have f_9 : Cond.fieldLink (yX4_take).cls 9 "SwanDeeds$Tape" "bytes" "[I" ∈ wsX4_take := by decide +kernel
  have f_15 : Cond.fieldLink (yX4_take).cls 15 "SwanDeeds$Tape" "length" "I" ∈ wsX4_take := by decide +kernel
  have hz := sat_of hz
  unfold f_X4_take at hz
  refine q_aload_n C 0 rfl dX4_take_0 rfl ?_
  refine q_get tO_X4 C (i := 1) i_X4 rfl rfl (by decide) rfl f_15 dX4_take_1 ?_
  refine q_bipush C dX4_take_4 ⟨rfl, by decide, by decide⟩ ?_
  refine q_icmp_lt C dX4_take_6 (tgt := 11) (by decide) (fun c1 => ?_) (fun c1 => ?_)
  · have hz := sat_t hz c1
    refine q_aload_n C 0 rfl dX4_take_11 rfl ?_
    refine q_getR tO_X4 C (i := 0) i_X4 rfl rfl (by decide) rfl f_9 dX4_take_12 ?_
    refine q_aload_n C 0 rfl dX4_take_15 rfl ?_
    refine q_get tO_X4 C (i := 1) i_X4 rfl rfl (by decide) rfl f_15 dX4_take_16 ?_
    refine q_iload_n C 1 rfl dX4_take_19 rfl ?_
    obtain ⟨c2, hz⟩ := sat_chk hz
    obtain ⟨m3, hm3, hz⟩ := sat_bnd hz
    refine q_iast (tA_bytes) C 0 rfl c2 hm3 dX4_take_20 ?_
    refine q_aload_n C 0 rfl dX4_take_21 rfl ?_
    refine q_dup C dX4_take_22 rfl ?_
    refine q_get tO_X4 C (i := 1) i_X4 rfl rfl (by decide) rfl f_15 dX4_take_23 ?_
    refine q_iconst C dX4_take_26 ⟨by decide, by decide⟩ ?_
    refine q_iadd C dX4_take_27 ?_
    obtain ⟨m4, hm4, hz⟩ := sat_bnd hz
    refine q_put tO_X4 C hm4 (i := 1) i_X4 tyX4_ok nmX4 rfl rfl (by decide) rfl f_15 dX4_take_28 ?_
    refine q_iconst C dX4_take_31 ⟨by decide, by decide⟩ ?_
    exact q_zret C (Or.inr rfl) dX4_take_32 (sat_eq hz)
  · have hz := sat_f hz c1
    refine q_iconst C dX4_take_9 ⟨by decide, by decide⟩ ?_
    exact q_zret C (Or.inl rfl) dX4_take_10 (sat_eq hz)
theorem hdX5_feed : yX5_feed.cls = RX5 ∧ yX5_feed.cls ≠ "java/lang/invoke/MethodHandle" ∧ yX5_feed.cls ≠ "java/lang/invoke/VarHandle" ∧ (parseMethodDescriptor yX5_feed.desc).map (fun d => d.parameters.length) = some 1 := by decide +kernel
set_option maxHeartbeats 4000000 in
set_option maxRecDepth 100000 in
theorem c_X5_feed {l : Launch} {D : va_G} {ad : Nat → Nat} {cI cII cR : ClassId} (μ : Mm) (p1 : Int) {v : Int × Mm} (hz : f_X5_feed μ p1 = some v) : CT l D vwCl (tyC cI cII cR) 194 ad (EC ad cI cII cR) (ZC ad) yX5_feed wsX5_feed ({ frames := 1, cells := 0, slots := 0, locals := 22 } : Room) (some .int) [Vr 174, Vi p1] μ (v.1, v.2) := by
  refine CT_of [(0, Vr 174), (1, Vi p1)] ZC_st (by decide) rfl rfl (Nat.le_of_ble_eq_true rfl) rfl (fun G C => ?_)
  have i_X4 : ∀ w ∈ u_ws RX4 TX4 8, w ∈ wsX5_feed := by decide +kernel
  have i_X5 : ∀ w ∈ u_ws RX5 TX5 9, w ∈ wsX5_feed := by decide +kernel
  have f_19 : Cond.fieldLink (yX5_feed).cls 19 "SwanDeeds" "tape" "LSwanDeeds$Tape;" ∈ wsX5_feed := by decide +kernel
  have f_98 : Cond.fieldLink (yX5_feed).cls 98 "SwanDeeds$Tape" "length" "I" ∈ wsX5_feed := by decide +kernel
  have hz := sat_of hz
  unfold f_X5_feed at hz
  refine q_iload_n C 1 rfl dX5_feed_0 rfl ?_
  refine q_iconst C dX5_feed_1 ⟨by decide, by decide⟩ ?_
  refine q_sipush C dX5_feed_2 ⟨rfl, by decide, by decide⟩ ?_
  refine q_callSz ZC_st C [Vi p1, Vi 0, Vi 255] [] (c_X5_within μ p1 0 255) gX5_feed_X5_within rfl ⟨rfl, rfl⟩ hdX5_within ⟨by decide, by decide⟩ rfl (Nat.le_of_ble_eq_true rfl) dX5_feed_5 rfl (fun hb1 _ => ?_)
  refine q_if_ne C dX5_feed_8 (tgt := 14) (by decide) (fun c2 => ?_) (fun c2 => ?_)
  · have hz := sat_f hz c2
    refine q_aload_n C 0 rfl dX5_feed_14 rfl ?_
    refine q_getR tO_X5 C (i := 1) i_X5 rfl rfl (by decide) rfl f_19 dX5_feed_15 ?_
    refine q_iload_n C 1 rfl dX5_feed_18 rfl ?_
    obtain ⟨z4, hz4, hz⟩ := sat_bind hz
    refine q_callVz ZC_st C [Vi p1] [] (c_X4_take μ p1 hz4) tO_X4 rfl gX5_feed_X4_take rfl ⟨rfl, rfl⟩ hdX4_take ⟨by decide, by decide⟩ rfl (Nat.le_of_ble_eq_true rfl) dX5_feed_19 rfl (fun hb3 _ => ?_)
    refine q_if_eq C dX5_feed_22 (tgt := 35) (by decide) (fun c5 => ?_) (fun c5 => ?_)
    · have hz := sat_t hz c5
      refine q_ldc (v := (-1000003)) (x := (-1000003)) C (by decide +kernel) dX5_feed_35 ⟨by decide +kernel, by decide, by decide⟩ ?_
      exact q_iret C dX5_feed_37 (sat_eq hz)
    · have hz := sat_f hz c5
      refine q_aload_n C 0 rfl dX5_feed_25 rfl ?_
      refine q_getR tO_X5 C (i := 1) i_X5 rfl rfl (by decide) rfl f_19 dX5_feed_26 ?_
      refine q_get tO_X4 C (i := 1) i_X4 rfl rfl (by decide) rfl f_98 dX5_feed_29 ?_
      refine q_goto C dX5_feed_32 (tgt := 37) (by decide) ?_
      exact q_iret C dX5_feed_37 (sat_eq hz)
  · have hz := sat_t hz c2
    refine q_ldc (v := (-1000001)) (x := (-1000001)) C (by decide +kernel) dX5_feed_11 ⟨by decide +kernel, by decide, by decide⟩ ?_
    exact q_iret C dX5_feed_13 (sat_eq hz)
theorem hdX4_isFigure : yX4_isFigure.cls ≠ "java/lang/invoke/MethodHandle" ∧ yX4_isFigure.cls ≠ "java/lang/invoke/VarHandle" ∧ (parseMethodDescriptor yX4_isFigure.desc).map (fun d => d.parameters.length) = some 1 := by decide +kernel
set_option maxHeartbeats 4000000 in
set_option maxRecDepth 100000 in
theorem c_X4_isFigure {l : Launch} {D : va_G} {ad : Nat → Nat} {cI cII cR : ClassId} (μ : Mm) (p0 : Int) : CT l D vwCl (tyC cI cII cR) 194 ad (EC ad cI cII cR) (ZC ad) yX4_isFigure wsX4_isFigure ({ frames := 0, cells := 0, slots := 0, locals := 0 } : Room) (some .boolean) [Vi p0] μ (f_X4_isFigure μ p0, μ) := by
  refine CT_of [(0, Vi p0)] ZC_st (by decide) rfl rfl (Nat.le_of_ble_eq_true rfl) rfl (fun G C => ?_)
  generalize hz : f_X4_isFigure μ p0 = v at C
  unfold f_X4_isFigure at hz
  refine q_iload_n C 0 rfl dX4_isFigure_0 rfl ?_
  refine q_bipush C dX4_isFigure_1 ⟨rfl, by decide, by decide⟩ ?_
  refine q_icmp_lt C dX4_isFigure_3 (tgt := 16) (by decide) (fun c1 => ?_) (fun c1 => ?_)
  · have hz := eq_t hz c1
    refine q_iconst C dX4_isFigure_16 ⟨by decide, by decide⟩ ?_
    exact q_zret C (Or.inl rfl) dX4_isFigure_17 (congrArg (fun q => (q, μ)) hz)
  · have hz := eq_f hz c1
    refine q_iload_n C 0 rfl dX4_isFigure_6 rfl ?_
    refine q_bipush C dX4_isFigure_7 ⟨rfl, by decide, by decide⟩ ?_
    refine q_icmp_gt C dX4_isFigure_9 (tgt := 16) (by decide) (fun c2 => ?_) (fun c2 => ?_)
    · have hz := eq_t hz c2
      refine q_iconst C dX4_isFigure_16 ⟨by decide, by decide⟩ ?_
      exact q_zret C (Or.inl rfl) dX4_isFigure_17 (congrArg (fun q => (q, μ)) hz)
    · have hz := eq_f hz c2
      refine q_iconst C dX4_isFigure_12 ⟨by decide, by decide⟩ ?_
      refine q_goto C dX4_isFigure_13 (tgt := 17) (by decide) ?_
      exact q_zret C (Or.inr rfl) dX4_isFigure_17 (congrArg (fun q => (q, μ)) hz)
theorem hdX4_scanFigures : yX4_scanFigures.cls = RX4 ∧ yX4_scanFigures.cls ≠ "java/lang/invoke/MethodHandle" ∧ yX4_scanFigures.cls ≠ "java/lang/invoke/VarHandle" ∧ (parseMethodDescriptor yX4_scanFigures.desc).map (fun d => d.parameters.length) = some 0 := by decide +kernel
set_option maxHeartbeats 4000000 in
set_option maxRecDepth 100000 in
theorem c_X4_scanFigures {l : Launch} {D : va_G} {ad : Nat → Nat} {cI cII cR : ClassId} (μ : Mm) {v : Mm} (hz : f_X4_scanFigures μ = some v) : CT l D vwCl (tyC cI cII cR) 194 ad (EC ad cI cII cR) (ZC ad) yX4_scanFigures wsX4_scanFigures ({ frames := 1, cells := 0, slots := 0, locals := 20 } : Room) none [Vr 176] μ ((0 : Int), v) := by
  refine CT_of [(0, Vr 176)] ZC_st (by decide) rfl rfl (Nat.le_of_ble_eq_true rfl) rfl (fun G C => ?_)
  have i_X4 : ∀ w ∈ u_ws RX4 TX4 8, w ∈ wsX4_scanFigures := by decide +kernel
  have f_9 : Cond.fieldLink (yX4_scanFigures).cls 9 "SwanDeeds$Tape" "bytes" "[I" ∈ wsX4_scanFigures := by decide +kernel
  have f_15 : Cond.fieldLink (yX4_scanFigures).cls 15 "SwanDeeds$Tape" "length" "I" ∈ wsX4_scanFigures := by decide +kernel
  have f_19 : Cond.fieldLink (yX4_scanFigures).cls 19 "SwanDeeds$Tape" "at" "I" ∈ wsX4_scanFigures := by decide +kernel
  have f_72 : Cond.fieldLink (yX4_scanFigures).cls 72 "SwanDeeds$Tape" "sort" "I" ∈ wsX4_scanFigures := by decide +kernel
  have f_75 : Cond.fieldLink (yX4_scanFigures).cls 75 "SwanDeeds$Tape" "value" "I" ∈ wsX4_scanFigures := by decide +kernel
  have hz := sat_of hz
  unfold f_X4_scanFigures at hz
  refine q_iconst C dX4_scanFigures_0 ⟨by decide, by decide⟩ ?_
  refine q_istore_n C [(1, Vi 0), (0, Vr 176)] rfl (by decide) dX4_scanFigures_1 rfl ?_
  refine q_aload_n C 1 rfl dX4_scanFigures_2 rfl ?_
  refine q_iconst C dX4_scanFigures_3 ⟨by decide, by decide⟩ ?_
  obtain ⟨m1, hm1, hz⟩ := sat_bnd hz
  refine q_put tO_X4 C hm1 (i := 7) i_X4 tyX4_ok nmX4 rfl rfl (by decide) rfl f_75 dX4_scanFigures_4 ?_
  refine q_sub C [1, 0] [(0, Vr 176), (1, Vi 0)] rfl ?_
  refine loop_go (fun x2 => G x2.2 7 [(0, Vr 176), (1, Vi (x2.1))] []) (sat_bind2 hz) (fun h => h) (fun x2 hz => ?_)
  refine q_aload_n C 0 rfl dX4_scanFigures_7 rfl ?_
  refine q_get tO_X4 C (i := 4) i_X4 rfl rfl (by decide) rfl f_19 dX4_scanFigures_8 ?_
  refine q_aload_n C 0 rfl dX4_scanFigures_11 rfl ?_
  refine q_get tO_X4 C (i := 1) i_X4 rfl rfl (by decide) rfl f_15 dX4_scanFigures_12 ?_
  refine q_icmp_ge C dX4_scanFigures_15 (tgt := 85) (by decide) (fun c3 => ?_) (fun c3 => ?_)
  · have hz := sat_t hz c3
    have hz := sat_some hz
    refine q_aload_n C 0 rfl dX4_scanFigures_85 rfl ?_
    refine q_iload_n C 1 rfl dX4_scanFigures_86 rfl ?_
    refine q_iconst C dX4_scanFigures_87 ⟨by decide, by decide⟩ ?_
    refine q_icmp_le C dX4_scanFigures_88 (tgt := 95) (by decide) (fun c4 => ?_) (fun c4 => ?_)
    · have hz := sat_t hz c4
      refine q_iconst C dX4_scanFigures_95 ⟨by decide, by decide⟩ ?_
      obtain ⟨m5, hm5, hz⟩ := sat_bnd hz
      refine q_put tO_X4 C hm5 (i := 6) i_X4 tyX4_ok nmX4 rfl rfl (by decide) rfl f_72 dX4_scanFigures_96 ?_
      exact q_vret C dX4_scanFigures_99 (congrArg (fun q => ((0 : Int), q)) (sat_eq hz))
    · have hz := sat_f hz c4
      refine q_iconst C dX4_scanFigures_91 ⟨by decide, by decide⟩ ?_
      refine q_goto C dX4_scanFigures_92 (tgt := 96) (by decide) ?_
      obtain ⟨m6, hm6, hz⟩ := sat_bnd hz
      refine q_put tO_X4 C hm6 (i := 6) i_X4 tyX4_ok nmX4 rfl rfl (by decide) rfl f_72 dX4_scanFigures_96 ?_
      exact q_vret C dX4_scanFigures_99 (congrArg (fun q => ((0 : Int), q)) (sat_eq hz))
  · have hz := sat_f hz c3
    refine q_aload_n C 0 rfl dX4_scanFigures_18 rfl ?_
    refine q_getR tO_X4 C (i := 0) i_X4 rfl rfl (by decide) rfl f_9 dX4_scanFigures_19 ?_
    refine q_aload_n C 0 rfl dX4_scanFigures_22 rfl ?_
    refine q_get tO_X4 C (i := 4) i_X4 rfl rfl (by decide) rfl f_19 dX4_scanFigures_23 ?_
    obtain ⟨c7, hz⟩ := sat_chk hz
    refine q_iald (tA_bytes) C 0 rfl c7 dX4_scanFigures_26 ?_
    refine q_callSz ZC_st C [Vi (x2.2 35 (0 + (x2.2 34 3)))] [] (c_X4_isFigure x2.2 (x2.2 35 (0 + (x2.2 34 3)))) gX4_scanFigures_X4_isFigure rfl ⟨rfl, rfl⟩ hdX4_isFigure ⟨by decide, by decide⟩ rfl (Nat.le_of_ble_eq_true rfl) dX4_scanFigures_27 rfl (fun hb8 _ => ?_)
    refine q_if_eq C dX4_scanFigures_30 (tgt := 85) (by decide) (fun c9 => ?_) (fun c9 => ?_)
    · have hz := sat_t hz c9
      have hz := sat_some hz
      refine q_aload_n C 0 rfl dX4_scanFigures_85 rfl ?_
      refine q_iload_n C 1 rfl dX4_scanFigures_86 rfl ?_
      refine q_iconst C dX4_scanFigures_87 ⟨by decide, by decide⟩ ?_
      refine q_icmp_le C dX4_scanFigures_88 (tgt := 95) (by decide) (fun c10 => ?_) (fun c10 => ?_)
      · have hz := sat_t hz c10
        refine q_iconst C dX4_scanFigures_95 ⟨by decide, by decide⟩ ?_
        obtain ⟨m11, hm11, hz⟩ := sat_bnd hz
        refine q_put tO_X4 C hm11 (i := 6) i_X4 tyX4_ok nmX4 rfl rfl (by decide) rfl f_72 dX4_scanFigures_96 ?_
        exact q_vret C dX4_scanFigures_99 (congrArg (fun q => ((0 : Int), q)) (sat_eq hz))
      · have hz := sat_f hz c10
        refine q_iconst C dX4_scanFigures_91 ⟨by decide, by decide⟩ ?_
        refine q_goto C dX4_scanFigures_92 (tgt := 96) (by decide) ?_
        obtain ⟨m12, hm12, hz⟩ := sat_bnd hz
        refine q_put tO_X4 C hm12 (i := 6) i_X4 tyX4_ok nmX4 rfl rfl (by decide) rfl f_72 dX4_scanFigures_96 ?_
        exact q_vret C dX4_scanFigures_99 (congrArg (fun q => ((0 : Int), q)) (sat_eq hz))
    · have hz := sat_f hz c9
      refine q_aload_n C 0 rfl dX4_scanFigures_33 rfl ?_
      refine q_iload_n C 1 rfl dX4_scanFigures_34 rfl ?_
      refine q_iconst C dX4_scanFigures_35 ⟨by decide, by decide⟩ ?_
      obtain ⟨v13, hv13, hz⟩ := sat_bind hz
      have Jv13 : G x2.2 66 [(0, Vr 176), (1, Vi (x2.1))] [Vi v13, Vr 176] := by
        obtain ⟨m14, hm14, hz⟩ := sat_bnd hz
        refine q_put tO_X4 C hm14 (i := 7) i_X4 tyX4_ok nmX4 rfl rfl (by decide) rfl f_75 dX4_scanFigures_66 ?_
        refine q_iinc C 1 rfl [(1, Vi (w3 (x2.1 + 1))), (0, Vr 176)] rfl (by decide) dX4_scanFigures_69 ?_
        refine q_aload_n C 1 rfl dX4_scanFigures_72 rfl ?_
        refine q_dup C dX4_scanFigures_73 rfl ?_
        refine q_get tO_X4 C (i := 4) i_X4 rfl rfl (by decide) rfl f_19 dX4_scanFigures_74 ?_
        refine q_iconst C dX4_scanFigures_77 ⟨by decide, by decide⟩ ?_
        refine q_iadd C dX4_scanFigures_78 ?_
        obtain ⟨m15, hm15, hz⟩ := sat_bnd hz
        refine q_put tO_X4 C hm15 (i := 4) i_X4 tyX4_ok nmX4 rfl rfl (by decide) rfl f_19 dX4_scanFigures_79 ?_
        refine q_goto C dX4_scanFigures_82 (tgt := 7) (by decide) ?_
        refine q_sub C [1, 0] [(0, Vr 176), (1, Vi (w3 (x2.1 + 1)))] rfl ?_
        have hz := sat_some hz
        exact hz
      have hz := sat_of hv13
      refine q_icmp_ge C dX4_scanFigures_36 (tgt := 62) (by decide) (fun c16 => ?_) (fun c16 => ?_)
      · have hz := sat_t hz c16
        refine q_aload_n C 0 rfl dX4_scanFigures_62 rfl ?_
        refine q_get tO_X4 C (i := 7) i_X4 rfl rfl (by decide) rfl f_75 dX4_scanFigures_63 ?_
        have hz := sat_some hz
        have hz : _ = v13 := hz
        subst hz
        exact Jv13
      · have hz := sat_f hz c16
        refine q_aload_n C 0 rfl dX4_scanFigures_39 rfl ?_
        refine q_get tO_X4 C (i := 7) i_X4 rfl rfl (by decide) rfl f_75 dX4_scanFigures_40 ?_
        refine q_bipush C dX4_scanFigures_43 ⟨rfl, by decide, by decide⟩ ?_
        refine q_imul C dX4_scanFigures_45 ?_
        refine q_aload_n C 0 rfl dX4_scanFigures_46 rfl ?_
        refine q_getR tO_X4 C (i := 0) i_X4 rfl rfl (by decide) rfl f_9 dX4_scanFigures_47 ?_
        refine q_aload_n C 0 rfl dX4_scanFigures_50 rfl ?_
        refine q_get tO_X4 C (i := 4) i_X4 rfl rfl (by decide) rfl f_19 dX4_scanFigures_51 ?_
        obtain ⟨c17, hz⟩ := sat_chk hz
        refine q_iald (tA_bytes) C 0 rfl c17 dX4_scanFigures_54 ?_
        refine q_iadd C dX4_scanFigures_55 ?_
        refine q_bipush C dX4_scanFigures_56 ⟨rfl, by decide, by decide⟩ ?_
        refine q_isub C dX4_scanFigures_58 ?_
        refine q_goto C dX4_scanFigures_59 (tgt := 66) (by decide) ?_
        have hz := sat_some hz
        have hz : _ = v13 := hz
        subst hz
        exact Jv13
theorem hdX4_scan : yX4_scan.cls = RX4 ∧ yX4_scan.cls ≠ "java/lang/invoke/MethodHandle" ∧ yX4_scan.cls ≠ "java/lang/invoke/VarHandle" ∧ (parseMethodDescriptor yX4_scan.desc).map (fun d => d.parameters.length) = some 0 := by decide +kernel
set_option maxHeartbeats 4000000 in
set_option maxRecDepth 100000 in
theorem c_X4_scan {l : Launch} {D : va_G} {ad : Nat → Nat} {cI cII cR : ClassId} (μ : Mm) {v : Mm} (hz : f_X4_scan μ = some v) : CT l D vwCl (tyC cI cII cR) 194 ad (EC ad cI cII cR) (ZC ad) yX4_scan wsX4_scan ({ frames := 2, cells := 0, slots := 0, locals := 41 } : Room) none [Vr 176] μ ((0 : Int), v) := by
  refine CT_of [(0, Vr 176)] ZC_st (by decide) rfl rfl (Nat.le_of_ble_eq_true rfl) rfl (fun G C => ?_)
  have i_X4 : ∀ w ∈ u_ws RX4 TX4 8, w ∈ wsX4_scan := by decide +kernel
  have f_9 : Cond.fieldLink (yX4_scan).cls 9 "SwanDeeds$Tape" "bytes" "[I" ∈ wsX4_scan := by decide +kernel
  have f_15 : Cond.fieldLink (yX4_scan).cls 15 "SwanDeeds$Tape" "length" "I" ∈ wsX4_scan := by decide +kernel
  have f_19 : Cond.fieldLink (yX4_scan).cls 19 "SwanDeeds$Tape" "at" "I" ∈ wsX4_scan := by decide +kernel
  have f_72 : Cond.fieldLink (yX4_scan).cls 72 "SwanDeeds$Tape" "sort" "I" ∈ wsX4_scan := by decide +kernel
  have f_75 : Cond.fieldLink (yX4_scan).cls 75 "SwanDeeds$Tape" "value" "I" ∈ wsX4_scan := by decide +kernel
  have f_89 : Cond.fieldLink (yX4_scan).cls 89 "SwanDeeds$Tape" "start" "I" ∈ wsX4_scan := by decide +kernel
  have hz := sat_of hz
  unfold f_X4_scan at hz
  refine q_aload_n C 0 rfl dX4_scan_0 rfl ?_
  refine q_aload_n C 0 rfl dX4_scan_1 rfl ?_
  refine q_get tO_X4 C (i := 4) i_X4 rfl rfl (by decide) rfl f_19 dX4_scan_2 ?_
  obtain ⟨m1, hm1, hz⟩ := sat_bnd hz
  refine q_put tO_X4 C hm1 (i := 5) i_X4 tyX4_ok nmX4 rfl rfl (by decide) rfl f_89 dX4_scan_5 ?_
  refine q_aload_n C 0 rfl dX4_scan_8 rfl ?_
  refine q_iconst C dX4_scan_9 ⟨by decide, by decide⟩ ?_
  obtain ⟨m2, hm2, hz⟩ := sat_bnd hz
  refine q_put tO_X4 C hm2 (i := 6) i_X4 tyX4_ok nmX4 rfl rfl (by decide) rfl f_72 dX4_scan_10 ?_
  refine q_aload_n C 0 rfl dX4_scan_13 rfl ?_
  refine q_get tO_X4 C (i := 4) i_X4 rfl rfl (by decide) rfl f_19 dX4_scan_14 ?_
  refine q_aload_n C 0 rfl dX4_scan_17 rfl ?_
  refine q_get tO_X4 C (i := 1) i_X4 rfl rfl (by decide) rfl f_15 dX4_scan_18 ?_
  refine q_icmp_lt C dX4_scan_21 (tgt := 25) (by decide) (fun c3 => ?_) (fun c3 => ?_)
  · have hz := sat_t hz c3
    refine q_aload_n C 0 rfl dX4_scan_25 rfl ?_
    refine q_getR tO_X4 C (i := 0) i_X4 rfl rfl (by decide) rfl f_9 dX4_scan_26 ?_
    refine q_aload_n C 0 rfl dX4_scan_29 rfl ?_
    refine q_get tO_X4 C (i := 4) i_X4 rfl rfl (by decide) rfl f_19 dX4_scan_30 ?_
    obtain ⟨c4, hz⟩ := sat_chk hz
    refine q_iald (tA_bytes) C 0 rfl c4 dX4_scan_33 ?_
    refine q_callSz ZC_st C [Vi (m2 35 (0 + (m2 34 3)))] [] (c_X4_isFigure m2 (m2 35 (0 + (m2 34 3)))) gX4_scan_X4_isFigure rfl ⟨rfl, rfl⟩ hdX4_isFigure ⟨by decide, by decide⟩ rfl (Nat.le_of_ble_eq_true rfl) dX4_scan_34 rfl (fun hb5 _ => ?_)
    refine q_if_eq C dX4_scan_37 (tgt := 45) (by decide) (fun c6 => ?_) (fun c6 => ?_)
    · have hz := sat_t hz c6
      refine q_aload_n C 0 rfl dX4_scan_45 rfl ?_
      refine q_iconst C dX4_scan_46 ⟨by decide, by decide⟩ ?_
      obtain ⟨m7, hm7, hz⟩ := sat_bnd hz
      refine q_put tO_X4 C hm7 (i := 6) i_X4 tyX4_ok nmX4 rfl rfl (by decide) rfl f_72 dX4_scan_47 ?_
      refine q_aload_n C 0 rfl dX4_scan_50 rfl ?_
      refine q_aload_n C 0 rfl dX4_scan_51 rfl ?_
      refine q_getR tO_X4 C (i := 0) i_X4 rfl rfl (by decide) rfl f_9 dX4_scan_52 ?_
      refine q_aload_n C 0 rfl dX4_scan_55 rfl ?_
      refine q_get tO_X4 C (i := 4) i_X4 rfl rfl (by decide) rfl f_19 dX4_scan_56 ?_
      obtain ⟨c8, hz⟩ := sat_chk hz
      refine q_iald (tA_bytes) C 0 rfl c8 dX4_scan_59 ?_
      obtain ⟨m9, hm9, hz⟩ := sat_bnd hz
      refine q_put tO_X4 C hm9 (i := 7) i_X4 tyX4_ok nmX4 rfl rfl (by decide) rfl f_75 dX4_scan_60 ?_
      refine q_aload_n C 0 rfl dX4_scan_63 rfl ?_
      refine q_dup C dX4_scan_64 rfl ?_
      refine q_get tO_X4 C (i := 4) i_X4 rfl rfl (by decide) rfl f_19 dX4_scan_65 ?_
      refine q_iconst C dX4_scan_68 ⟨by decide, by decide⟩ ?_
      refine q_iadd C dX4_scan_69 ?_
      obtain ⟨m10, hm10, hz⟩ := sat_bnd hz
      refine q_put tO_X4 C hm10 (i := 4) i_X4 tyX4_ok nmX4 rfl rfl (by decide) rfl f_19 dX4_scan_70 ?_
      exact q_vret C dX4_scan_73 (congrArg (fun q => ((0 : Int), q)) (sat_eq hz))
    · have hz := sat_f hz c6
      refine q_aload_n C 0 rfl dX4_scan_40 rfl ?_
      obtain ⟨z12, hz12, hz⟩ := sat_bind hz
      refine q_callVv ZC_st C [] [] (c_X4_scanFigures m2 hz12) tO_X4 rfl gX4_scan_X4_scanFigures rfl ⟨rfl, rfl⟩ hdX4_scanFigures ⟨by decide, by decide⟩ rfl (Nat.le_of_ble_eq_true rfl) dX4_scan_41 rfl (fun _ => ?_)
      exact q_vret C dX4_scan_44 (congrArg (fun q => ((0 : Int), q)) (sat_eq hz))
  · have hz := sat_f hz c3
    exact q_vret C dX4_scan_24 (congrArg (fun q => ((0 : Int), q)) (sat_eq hz))
theorem hdX4_refuse : yX4_refuse.cls = RX4 ∧ yX4_refuse.cls ≠ "java/lang/invoke/MethodHandle" ∧ yX4_refuse.cls ≠ "java/lang/invoke/VarHandle" ∧ (parseMethodDescriptor yX4_refuse.desc).map (fun d => d.parameters.length) = some 1 := by decide +kernel
set_option maxHeartbeats 4000000 in
set_option maxRecDepth 100000 in
theorem c_X4_refuse {l : Launch} {D : va_G} {ad : Nat → Nat} {cI cII cR : ClassId} (μ : Mm) (p1 : Int) {v : Int × Mm} (hz : f_X4_refuse μ p1 = some v) : CT l D vwCl (tyC cI cII cR) 194 ad (EC ad cI cII cR) (ZC ad) yX4_refuse wsX4_refuse ({ frames := 0, cells := 0, slots := 0, locals := 0 } : Room) (some .boolean) [Vr 176, Vi p1] μ (v.1, v.2) := by
  refine CT_of [(0, Vr 176), (1, Vi p1)] ZC_st (by decide) rfl rfl (Nat.le_of_ble_eq_true rfl) rfl (fun G C => ?_)
  have i_X4 : ∀ w ∈ u_ws RX4 TX4 8, w ∈ wsX4_refuse := by decide +kernel
  have f_86 : Cond.fieldLink (yX4_refuse).cls 86 "SwanDeeds$Tape" "faultNumber" "I" ∈ wsX4_refuse := by decide +kernel
  have f_89 : Cond.fieldLink (yX4_refuse).cls 89 "SwanDeeds$Tape" "start" "I" ∈ wsX4_refuse := by decide +kernel
  have f_92 : Cond.fieldLink (yX4_refuse).cls 92 "SwanDeeds$Tape" "faultPlace" "I" ∈ wsX4_refuse := by decide +kernel
  have hz := sat_of hz
  unfold f_X4_refuse at hz
  refine q_aload_n C 0 rfl dX4_refuse_0 rfl ?_
  refine q_iload_n C 1 rfl dX4_refuse_1 rfl ?_
  obtain ⟨m1, hm1, hz⟩ := sat_bnd hz
  refine q_put tO_X4 C hm1 (i := 2) i_X4 tyX4_ok nmX4 rfl rfl (by decide) rfl f_86 dX4_refuse_2 ?_
  refine q_aload_n C 0 rfl dX4_refuse_5 rfl ?_
  refine q_aload_n C 0 rfl dX4_refuse_6 rfl ?_
  refine q_get tO_X4 C (i := 5) i_X4 rfl rfl (by decide) rfl f_89 dX4_refuse_7 ?_
  obtain ⟨m2, hm2, hz⟩ := sat_bnd hz
  refine q_put tO_X4 C hm2 (i := 3) i_X4 tyX4_ok nmX4 rfl rfl (by decide) rfl f_92 dX4_refuse_10 ?_
  refine q_iconst C dX4_refuse_13 ⟨by decide, by decide⟩ ?_
  exact q_zret C (Or.inl rfl) dX4_refuse_14 (sat_eq hz)
theorem hdX4_readSingle : yX4_readSingle.cls = RX4 ∧ yX4_readSingle.cls ≠ "java/lang/invoke/MethodHandle" ∧ yX4_readSingle.cls ≠ "java/lang/invoke/VarHandle" ∧ (parseMethodDescriptor yX4_readSingle.desc).map (fun d => d.parameters.length) = some 1 := by decide +kernel
set_option maxHeartbeats 4000000 in
set_option maxRecDepth 100000 in
theorem c_X4_readSingle {l : Launch} {D : va_G} {ad : Nat → Nat} {cI cII cR : ClassId} (μ : Mm) (p1 : Int) {v : Int × Mm} (hz : f_X4_readSingle μ p1 = some v) : CT l D vwCl (tyC cI cII cR) 194 ad (EC ad cI cII cR) (ZC ad) yX4_readSingle wsX4_readSingle ({ frames := 3, cells := 0, slots := 0, locals := 61 } : Room) (some .boolean) [Vr 176, Vi p1] μ (v.1, v.2) := by
  refine CT_of [(0, Vr 176), (1, Vi p1)] ZC_st (by decide) rfl rfl (Nat.le_of_ble_eq_true rfl) rfl (fun G C => ?_)
  have i_X4 : ∀ w ∈ u_ws RX4 TX4 8, w ∈ wsX4_readSingle := by decide +kernel
  have f_72 : Cond.fieldLink (yX4_readSingle).cls 72 "SwanDeeds$Tape" "sort" "I" ∈ wsX4_readSingle := by decide +kernel
  have f_75 : Cond.fieldLink (yX4_readSingle).cls 75 "SwanDeeds$Tape" "value" "I" ∈ wsX4_readSingle := by decide +kernel
  have hz := sat_of hz
  unfold f_X4_readSingle at hz
  refine q_aload_n C 0 rfl dX4_readSingle_0 rfl ?_
  obtain ⟨z2, hz2, hz⟩ := sat_bind hz
  refine q_callVv ZC_st C [] [] (c_X4_scan μ hz2) tO_X4 rfl gX4_readSingle_X4_scan rfl ⟨rfl, rfl⟩ hdX4_scan ⟨by decide, by decide⟩ rfl (Nat.le_of_ble_eq_true rfl) dX4_readSingle_1 rfl (fun _ => ?_)
  refine q_aload_n C 0 rfl dX4_readSingle_4 rfl ?_
  refine q_get tO_X4 C (i := 6) i_X4 rfl rfl (by decide) rfl f_72 dX4_readSingle_5 ?_
  refine q_if_ne C dX4_readSingle_8 (tgt := 19) (by decide) (fun c3 => ?_) (fun c3 => ?_)
  · have hz := sat_f hz c3
    refine q_aload_n C 0 rfl dX4_readSingle_19 rfl ?_
    refine q_iconst C dX4_readSingle_20 ⟨by decide, by decide⟩ ?_
    obtain ⟨z5, hz5, hz⟩ := sat_bind hz
    refine q_callVz ZC_st C [Vi 1] [] (c_X4_refuse z2 1 hz5) tO_X4 rfl gX4_readSingle_X4_refuse rfl ⟨rfl, rfl⟩ hdX4_refuse ⟨by decide, by decide⟩ rfl (Nat.le_of_ble_eq_true rfl) dX4_readSingle_21 rfl (fun hb4 _ => ?_)
    refine q_if_eq C dX4_readSingle_24 (tgt := 31) (by decide) (fun c6 => ?_) (fun c6 => ?_)
    · have hz := sat_t hz c6
      refine q_iconst C dX4_readSingle_31 ⟨by decide, by decide⟩ ?_
      exact q_zret C (Or.inl rfl) dX4_readSingle_32 (sat_eq hz)
    · have hz := sat_f hz c6
      refine q_iconst C dX4_readSingle_27 ⟨by decide, by decide⟩ ?_
      refine q_goto C dX4_readSingle_28 (tgt := 32) (by decide) ?_
      exact q_zret C (Or.inr rfl) dX4_readSingle_32 (sat_eq hz)
  · have hz := sat_t hz c3
    refine q_aload_n C 0 rfl dX4_readSingle_11 rfl ?_
    refine q_get tO_X4 C (i := 7) i_X4 rfl rfl (by decide) rfl f_75 dX4_readSingle_12 ?_
    refine q_iload_n C 1 rfl dX4_readSingle_15 rfl ?_
    refine q_icmp_eq C dX4_readSingle_16 (tgt := 27) (by decide) (fun c7 => ?_) (fun c7 => ?_)
    · have hz := sat_t hz c7
      refine q_iconst C dX4_readSingle_27 ⟨by decide, by decide⟩ ?_
      refine q_goto C dX4_readSingle_28 (tgt := 32) (by decide) ?_
      exact q_zret C (Or.inr rfl) dX4_readSingle_32 (sat_eq hz)
    · have hz := sat_f hz c7
      refine q_aload_n C 0 rfl dX4_readSingle_19 rfl ?_
      refine q_iconst C dX4_readSingle_20 ⟨by decide, by decide⟩ ?_
      obtain ⟨z9, hz9, hz⟩ := sat_bind hz
      refine q_callVz ZC_st C [Vi 1] [] (c_X4_refuse z2 1 hz9) tO_X4 rfl gX4_readSingle_X4_refuse rfl ⟨rfl, rfl⟩ hdX4_refuse ⟨by decide, by decide⟩ rfl (Nat.le_of_ble_eq_true rfl) dX4_readSingle_21 rfl (fun hb8 _ => ?_)
      refine q_if_eq C dX4_readSingle_24 (tgt := 31) (by decide) (fun c10 => ?_) (fun c10 => ?_)
      · have hz := sat_t hz c10
        refine q_iconst C dX4_readSingle_31 ⟨by decide, by decide⟩ ?_
        exact q_zret C (Or.inl rfl) dX4_readSingle_32 (sat_eq hz)
      · have hz := sat_f hz c10
        refine q_iconst C dX4_readSingle_27 ⟨by decide, by decide⟩ ?_
        refine q_goto C dX4_readSingle_28 (tgt := 32) (by decide) ?_
        exact q_zret C (Or.inr rfl) dX4_readSingle_32 (sat_eq hz)
theorem hdX4_readNumber : yX4_readNumber.cls = RX4 ∧ yX4_readNumber.cls ≠ "java/lang/invoke/MethodHandle" ∧ yX4_readNumber.cls ≠ "java/lang/invoke/VarHandle" ∧ (parseMethodDescriptor yX4_readNumber.desc).map (fun d => d.parameters.length) = some 2 := by decide +kernel
set_option maxHeartbeats 4000000 in
set_option maxRecDepth 100000 in
theorem c_X4_readNumber {l : Launch} {D : va_G} {ad : Nat → Nat} {cI cII cR : ClassId} (μ : Mm) (p1 p2 : Int) {v : Int × Mm} (hz : f_X4_readNumber μ p1 p2 = some v) : CT l D vwCl (tyC cI cII cR) 194 ad (EC ad cI cII cR) (ZC ad) yX4_readNumber wsX4_readNumber ({ frames := 3, cells := 0, slots := 0, locals := 61 } : Room) (some .int) [Vr 176, Vi p1, Vi p2] μ (v.1, v.2) := by
  refine CT_of [(0, Vr 176), (1, Vi p1), (2, Vi p2)] ZC_st (by decide) rfl rfl (Nat.le_of_ble_eq_true rfl) rfl (fun G C => ?_)
  have i_X4 : ∀ w ∈ u_ws RX4 TX4 8, w ∈ wsX4_readNumber := by decide +kernel
  have f_72 : Cond.fieldLink (yX4_readNumber).cls 72 "SwanDeeds$Tape" "sort" "I" ∈ wsX4_readNumber := by decide +kernel
  have f_75 : Cond.fieldLink (yX4_readNumber).cls 75 "SwanDeeds$Tape" "value" "I" ∈ wsX4_readNumber := by decide +kernel
  have hz := sat_of hz
  unfold f_X4_readNumber at hz
  refine q_aload_n C 0 rfl dX4_readNumber_0 rfl ?_
  obtain ⟨z2, hz2, hz⟩ := sat_bind hz
  refine q_callVv ZC_st C [] [] (c_X4_scan μ hz2) tO_X4 rfl gX4_readNumber_X4_scan rfl ⟨rfl, rfl⟩ hdX4_scan ⟨by decide, by decide⟩ rfl (Nat.le_of_ble_eq_true rfl) dX4_readNumber_1 rfl (fun _ => ?_)
  refine q_aload_n C 0 rfl dX4_readNumber_4 rfl ?_
  refine q_get tO_X4 C (i := 6) i_X4 rfl rfl (by decide) rfl f_72 dX4_readNumber_5 ?_
  refine q_iconst C dX4_readNumber_8 ⟨by decide, by decide⟩ ?_
  refine q_icmp_eq C dX4_readNumber_9 (tgt := 20) (by decide) (fun c3 => ?_) (fun c3 => ?_)
  · have hz := sat_t hz c3
    refine q_aload_n C 0 rfl dX4_readNumber_20 rfl ?_
    refine q_get tO_X4 C (i := 7) i_X4 rfl rfl (by decide) rfl f_75 dX4_readNumber_21 ?_
    refine q_iload_n C 1 rfl dX4_readNumber_24 rfl ?_
    refine q_iload_n C 2 rfl dX4_readNumber_25 rfl ?_
    refine q_callNz ZC_st C [Vi (z2 34 6), Vi p1, Vi p2] [] (c_X5_within z2 (z2 34 6) p1 p2) ggX4_readNumber_X5_within rfl ⟨rfl, rfl⟩ (by decide +kernel) (by decide +kernel) hdX5_within ⟨by decide, by decide⟩ rfl (Nat.le_of_ble_eq_true rfl) dX4_readNumber_26 rfl (fun hb4 _ => ?_)
    refine q_if_ne C dX4_readNumber_29 (tgt := 40) (by decide) (fun c5 => ?_) (fun c5 => ?_)
    · have hz := sat_f hz c5
      refine q_aload_n C 0 rfl dX4_readNumber_40 rfl ?_
      refine q_get tO_X4 C (i := 7) i_X4 rfl rfl (by decide) rfl f_75 dX4_readNumber_41 ?_
      exact q_iret C dX4_readNumber_44 (sat_eq hz)
    · have hz := sat_t hz c5
      refine q_aload_n C 0 rfl dX4_readNumber_32 rfl ?_
      refine q_iconst C dX4_readNumber_33 ⟨by decide, by decide⟩ ?_
      obtain ⟨z7, hz7, hz⟩ := sat_bind hz
      refine q_callVz ZC_st C [Vi 2] [] (c_X4_refuse z2 2 hz7) tO_X4 rfl gX4_readNumber_X4_refuse rfl ⟨rfl, rfl⟩ hdX4_refuse ⟨by decide, by decide⟩ rfl (Nat.le_of_ble_eq_true rfl) dX4_readNumber_34 rfl (fun hb6 _ => ?_)
      refine q_pop C dX4_readNumber_37 rfl ?_
      refine q_iconst C dX4_readNumber_38 ⟨by decide, by decide⟩ ?_
      exact q_iret C dX4_readNumber_39 (sat_eq hz)
  · have hz := sat_f hz c3
    refine q_aload_n C 0 rfl dX4_readNumber_12 rfl ?_
    refine q_iconst C dX4_readNumber_13 ⟨by decide, by decide⟩ ?_
    obtain ⟨z9, hz9, hz⟩ := sat_bind hz
    refine q_callVz ZC_st C [Vi 1] [] (c_X4_refuse z2 1 hz9) tO_X4 rfl gX4_readNumber_X4_refuse rfl ⟨rfl, rfl⟩ hdX4_refuse ⟨by decide, by decide⟩ rfl (Nat.le_of_ble_eq_true rfl) dX4_readNumber_14 rfl (fun hb8 _ => ?_)
    refine q_pop C dX4_readNumber_17 rfl ?_
    refine q_iconst C dX4_readNumber_18 ⟨by decide, by decide⟩ ?_
    exact q_iret C dX4_readNumber_19 (sat_eq hz)
theorem hdX2_begin : yX2_begin.cls = RX2 ∧ yX2_begin.cls ≠ "java/lang/invoke/MethodHandle" ∧ yX2_begin.cls ≠ "java/lang/invoke/VarHandle" ∧ (parseMethodDescriptor yX2_begin.desc).map (fun d => d.parameters.length) = some 2 := by decide +kernel
set_option maxHeartbeats 4000000 in
set_option maxRecDepth 100000 in
theorem c_X2_begin {l : Launch} {D : va_G} {ad : Nat → Nat} {cI cII cR : ClassId} (μ : Mm) (r : Nat) (hr : r < 29) (p1 p2 : Int) {v : Mm} (hz : f_X2_begin μ r p1 p2 = some v) : CT l D vwCl (tyC cI cII cR) 194 ad (EC ad cI cII cR) (ZC ad) yX2_begin wsX2_begin ({ frames := 0, cells := 0, slots := 0, locals := 0 } : Room) none [Vr (6 * r), Vi p1, Vi p2] μ ((0 : Int), v) := by
  refine CT_of [(0, Vr (6 * r)), (1, Vi p1), (2, Vi p2)] ZC_st (by decide) rfl rfl (Nat.le_of_ble_eq_true rfl) rfl (fun G C => ?_)
  have i_X2 : ∀ w ∈ u_ws RX2 TX2 11, w ∈ wsX2_begin := by decide +kernel
  have f_9 : Cond.fieldLink (yX2_begin).cls 9 "SwanDeeds$River" "crumbs" "[I" ∈ wsX2_begin := by decide +kernel
  have f_27 : Cond.fieldLink (yX2_begin).cls 27 "SwanDeeds$River" "lawnCount" "I" ∈ wsX2_begin := by decide +kernel
  have f_31 : Cond.fieldLink (yX2_begin).cls 31 "SwanDeeds$River" "swanCount" "I" ∈ wsX2_begin := by decide +kernel
  have f_34 : Cond.fieldLink (yX2_begin).cls 34 "SwanDeeds$River" "day" "I" ∈ wsX2_begin := by decide +kernel
  have f_37 : Cond.fieldLink (yX2_begin).cls 37 "SwanDeeds$River" "weirBits" "I" ∈ wsX2_begin := by decide +kernel
  have hz := sat_of hz
  unfold f_X2_begin at hz
  refine q_aload_n C 0 rfl dX2_begin_0 rfl ?_
  refine q_iload_n C 1 rfl dX2_begin_1 rfl ?_
  obtain ⟨m1, hm1, hz⟩ := sat_bnd hz
  refine q_put (tO_X2 hr) C hm1 (i := 0) i_X2 tyX2_ok nmX2 rfl rfl (by decide) rfl f_27 dX2_begin_2 ?_
  refine q_aload_n C 0 rfl dX2_begin_5 rfl ?_
  refine q_iconst C dX2_begin_6 ⟨by decide, by decide⟩ ?_
  obtain ⟨m2, hm2, hz⟩ := sat_bnd hz
  refine q_put (tO_X2 hr) C hm2 (i := 1) i_X2 tyX2_ok nmX2 rfl rfl (by decide) rfl f_31 dX2_begin_7 ?_
  refine q_aload_n C 0 rfl dX2_begin_10 rfl ?_
  refine q_iconst C dX2_begin_11 ⟨by decide, by decide⟩ ?_
  obtain ⟨m3, hm3, hz⟩ := sat_bnd hz
  refine q_put (tO_X2 hr) C hm3 (i := 2) i_X2 tyX2_ok nmX2 rfl rfl (by decide) rfl f_34 dX2_begin_12 ?_
  refine q_aload_n C 0 rfl dX2_begin_15 rfl ?_
  refine q_iconst C dX2_begin_16 ⟨by decide, by decide⟩ ?_
  obtain ⟨m4, hm4, hz⟩ := sat_bnd hz
  refine q_put (tO_X2 hr) C hm4 (i := 3) i_X2 tyX2_ok nmX2 rfl rfl (by decide) rfl f_37 dX2_begin_17 ?_
  refine q_iconst C dX2_begin_20 ⟨by decide, by decide⟩ ?_
  refine q_istore_n C [(3, Vi 0), (0, Vr (6 * r)), (1, Vi p1), (2, Vi p2)] rfl (by decide) dX2_begin_21 rfl ?_
  refine q_sub C [1, 2, 3, 0] [(0, Vr (6 * r)), (1, Vi p1), (2, Vi p2), (3, Vi 0)] rfl ?_
  refine loop_go (fun x5 => G x5.2 22 [(0, Vr (6 * r)), (1, Vi p1), (2, Vi p2), (3, Vi (x5.1))] []) (sat_bind2 hz) (fun h => h) (fun x5 hz => ?_)
  refine q_iload_n C 3 rfl dX2_begin_22 rfl ?_
  refine q_bipush C dX2_begin_23 ⟨rfl, by decide, by decide⟩ ?_
  refine q_icmp_ge C dX2_begin_25 (tgt := 50) (by decide) (fun c6 => ?_) (fun c6 => ?_)
  · have hz := sat_t hz c6
    have hz := sat_some hz
    refine q_sub C [] [] rfl ?_
    exact q_vret C dX2_begin_50 (congrArg (fun q => ((0 : Int), q)) (sat_eq hz))
  · have hz := sat_f hz c6
    refine q_aload_n C 0 rfl dX2_begin_28 rfl ?_
    refine q_getR (tO_X2 hr) C (i := 4) i_X2 rfl rfl (by decide) rfl f_9 dX2_begin_29 ?_
    refine q_iload_n C 3 rfl dX2_begin_32 rfl ?_
    refine q_iload_n C 3 rfl dX2_begin_33 rfl ?_
    refine q_iload_n C 1 rfl dX2_begin_34 rfl ?_
    refine q_icmp_ge C dX2_begin_35 (tgt := 42) (by decide) (fun c7 => ?_) (fun c7 => ?_)
    · have hz := sat_t hz c7
      refine q_iconst C dX2_begin_42 ⟨by decide, by decide⟩ ?_
      obtain ⟨c8, hz⟩ := sat_chk hz
      obtain ⟨m9, hm9, hz⟩ := sat_bnd hz
      refine q_iast (tA_crumbs hr) C 0 rfl c8 hm9 dX2_begin_43 ?_
      refine q_iinc C 3 rfl [(3, Vi (w3 (x5.1 + 1))), (0, Vr (6 * r)), (1, Vi p1), (2, Vi p2)] rfl (by decide) dX2_begin_44 ?_
      refine q_goto C dX2_begin_47 (tgt := 22) (by decide) ?_
      refine q_sub C [1, 2, 3, 0] [(0, Vr (6 * r)), (1, Vi p1), (2, Vi p2), (3, Vi (w3 (x5.1 + 1)))] rfl ?_
      have hz := sat_some hz
      exact hz
    · have hz := sat_f hz c7
      refine q_iload_n C 2 rfl dX2_begin_38 rfl ?_
      refine q_goto C dX2_begin_39 (tgt := 43) (by decide) ?_
      obtain ⟨c10, hz⟩ := sat_chk hz
      obtain ⟨m11, hm11, hz⟩ := sat_bnd hz
      refine q_iast (tA_crumbs hr) C 0 rfl c10 hm11 dX2_begin_43 ?_
      refine q_iinc C 3 rfl [(3, Vi (w3 (x5.1 + 1))), (0, Vr (6 * r)), (1, Vi p1), (2, Vi p2)] rfl (by decide) dX2_begin_44 ?_
      refine q_goto C dX2_begin_47 (tgt := 22) (by decide) ?_
      refine q_sub C [1, 2, 3, 0] [(0, Vr (6 * r)), (1, Vi p1), (2, Vi p2), (3, Vi (w3 (x5.1 + 1)))] rfl ?_
      have hz := sat_some hz
      exact hz
