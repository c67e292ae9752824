theorem hdX4_readLaw : yX4_readLaw.cls = RX4 ∧ yX4_readLaw.cls ≠ "java/lang/invoke/MethodHandle" ∧ yX4_readLaw.cls ≠ "java/lang/invoke/VarHandle" ∧ (parseMethodDescriptor yX4_readLaw.desc).map (fun d => d.parameters.length) = some 1 := by decide +kernel
set_option maxHeartbeats 4000000 in
set_option maxRecDepth 100000 in
theorem c_X4_readLaw {l : Launch} {D : va_G} {ad : Nat → Nat} {cI cII cR : ClassId} (μ : Mm) (q : Nat) (hq : q < 29) {v : Int × Mm} (hz : f_X4_readLaw μ q = some v) : CT l D vwCl (tyC cI cII cR) 194 ad (EC ad cI cII cR) (ZC ad) yX4_readLaw wsX4_readLaw ({ frames := 4, cells := 0, slots := 0, locals := 83 } : Room) (some .boolean) [Vr 176, Vr (6 * q)] μ (v.1, v.2) := by
  refine CT_of [(0, Vr 176), (1, Vr (6 * q))] ZC_st (by decide) rfl rfl (Nat.le_of_ble_eq_true rfl) rfl (fun G C => ?_)
  have hz := sat_of hz
  unfold f_X4_readLaw at hz
  refine q_aload_n C 0 rfl dX4_readLaw_0 rfl ?_
  refine q_bipush C dX4_readLaw_1 ⟨rfl, by decide, by decide⟩ ?_
  obtain ⟨z2, hz2, hz⟩ := sat_bind hz
  refine q_callVz ZC_st C [Vi 114] [] (c_X4_readSingle μ 114 hz2) tO_X4 rfl gX4_readLaw_X4_readSingle rfl ⟨rfl, rfl⟩ hdX4_readSingle ⟨by decide, by decide⟩ rfl (Nat.le_of_ble_eq_true rfl) dX4_readLaw_3 rfl (fun hb1 _ => ?_)
  refine q_if_ne C dX4_readLaw_6 (tgt := 11) (by decide) (fun c3 => ?_) (fun c3 => ?_)
  · have hz := sat_f hz c3
    refine q_aload_n C 0 rfl dX4_readLaw_11 rfl ?_
    refine q_iconst C dX4_readLaw_12 ⟨by decide, by decide⟩ ?_
    refine q_bipush C dX4_readLaw_13 ⟨rfl, by decide, by decide⟩ ?_
    obtain ⟨z5, hz5, hz⟩ := sat_bind hz
    refine q_callVi ZC_st C [Vi 2, Vi 9] [] (c_X4_readNumber z2.2 2 9 hz5) tO_X4 rfl gX4_readLaw_X4_readNumber rfl ⟨rfl, rfl⟩ hdX4_readNumber ⟨by decide, by decide⟩ rfl (Nat.le_of_ble_eq_true rfl) dX4_readLaw_15 rfl (fun _ _ => ?_)
    refine q_istore_n C [(2, Vi (z5.1)), (0, Vr 176), (1, Vr (6 * q))] rfl (by decide) dX4_readLaw_18 rfl ?_
    refine q_iload_n C 0 rfl dX4_readLaw_19 rfl ?_
    refine q_iconst C dX4_readLaw_20 ⟨by decide, by decide⟩ ?_
    refine q_icmp_eq C dX4_readLaw_21 (tgt := 33) (by decide) (fun c6 => ?_) (fun c6 => ?_)
    · have hz := sat_t hz c6
      refine q_iconst C dX4_readLaw_33 ⟨by decide, by decide⟩ ?_
      exact q_zret C (Or.inl rfl) dX4_readLaw_34 (sat_eq hz)
    · have hz := sat_f hz c6
      refine q_aload_n C 1 rfl dX4_readLaw_24 rfl ?_
      refine q_bipush C dX4_readLaw_25 ⟨rfl, by decide, by decide⟩ ?_
      obtain ⟨z8, hz8, hz⟩ := sat_bind hz
      refine q_callVz ZC_st C [Vi 44] [] (c_X4_readSingle z5.2 44 hz8) tO_X4 rfl gX4_readLaw_X4_readSingle rfl ⟨rfl, rfl⟩ hdX4_readSingle ⟨by decide, by decide⟩ rfl (Nat.le_of_ble_eq_true rfl) dX4_readLaw_27 rfl (fun hb7 _ => ?_)
      refine q_if_ne C dX4_readLaw_30 (tgt := 35) (by decide) (fun c9 => ?_) (fun c9 => ?_)
      · have hz := sat_f hz c9
        refine q_aload_n C 1 rfl dX4_readLaw_35 rfl ?_
        refine q_iconst C dX4_readLaw_36 ⟨by decide, by decide⟩ ?_
        refine q_bipush C dX4_readLaw_37 ⟨rfl, by decide, by decide⟩ ?_
        obtain ⟨z11, hz11, hz⟩ := sat_bind hz
        refine q_callVi ZC_st C [Vi 0, Vi 9] [] (c_X4_readNumber z8.2 0 9 hz11) tO_X4 rfl gX4_readLaw_X4_readNumber rfl ⟨rfl, rfl⟩ hdX4_readNumber ⟨by decide, by decide⟩ rfl (Nat.le_of_ble_eq_true rfl) dX4_readLaw_39 rfl (fun _ _ => ?_)
        refine q_istore_n C [(3, Vi (z11.1)), (2, Vi (z5.1)), (0, Vr 176), (1, Vr (6 * q))] rfl (by decide) dX4_readLaw_42 rfl ?_
        refine q_iload_n C 0 rfl dX4_readLaw_43 rfl ?_
        refine q_iconst C dX4_readLaw_44 ⟨by decide, by decide⟩ ?_
        refine q_icmp_eq C dX4_readLaw_45 (tgt := 57) (by decide) (fun c12 => ?_) (fun c12 => ?_)
        · have hz := sat_t hz c12
          refine q_iconst C dX4_readLaw_57 ⟨by decide, by decide⟩ ?_
          exact q_zret C (Or.inl rfl) dX4_readLaw_58 (sat_eq hz)
        · have hz := sat_f hz c12
          refine q_aload_n C 2 rfl dX4_readLaw_48 rfl ?_
          refine q_bipush C dX4_readLaw_49 ⟨rfl, by decide, by decide⟩ ?_
          obtain ⟨z14, hz14, hz⟩ := sat_bind hz
          refine q_callVz ZC_st C [Vi 59] [] (c_X4_readSingle z11.2 59 hz14) tO_X4 rfl gX4_readLaw_X4_readSingle rfl ⟨rfl, rfl⟩ hdX4_readSingle ⟨by decide, by decide⟩ rfl (Nat.le_of_ble_eq_true rfl) dX4_readLaw_51 rfl (fun hb13 _ => ?_)
          refine q_if_ne C dX4_readLaw_54 (tgt := 59) (by decide) (fun c15 => ?_) (fun c15 => ?_)
          · have hz := sat_f hz c15
            refine q_aload_n C 3 rfl dX4_readLaw_59 rfl ?_
            refine q_iload_n C 1 rfl dX4_readLaw_60 rfl ?_
            refine q_iload_n C 0 rfl dX4_readLaw_61 rfl ?_
            obtain ⟨z17, hz17, hz⟩ := sat_bind hz
            refine q_callVv ZC_st C [Vi (z5.1), Vi (z11.1)] [] (c_X2_begin z14.2 q hq z5.1 z11.1 hz17) (tO_X2 hq) rfl gX4_readLaw_X2_begin rfl ⟨rfl, rfl⟩ hdX2_begin ⟨by decide, by decide⟩ rfl (Nat.le_of_ble_eq_true rfl) dX4_readLaw_62 rfl (fun _ => ?_)
            refine q_iconst C dX4_readLaw_65 ⟨by decide, by decide⟩ ?_
            exact q_zret C (Or.inr rfl) dX4_readLaw_66 (sat_eq hz)
          · have hz := sat_t hz c15
            refine q_iconst C dX4_readLaw_57 ⟨by decide, by decide⟩ ?_
            exact q_zret C (Or.inl rfl) dX4_readLaw_58 (sat_eq hz)
      · have hz := sat_t hz c9
        refine q_iconst C dX4_readLaw_33 ⟨by decide, by decide⟩ ?_
        exact q_zret C (Or.inl rfl) dX4_readLaw_34 (sat_eq hz)
  · have hz := sat_t hz c3
    refine q_iconst C dX4_readLaw_9 ⟨by decide, by decide⟩ ?_
    exact q_zret C (Or.inl rfl) dX4_readLaw_10 (sat_eq hz)
theorem hdX4_kindOf : yX4_kindOf.cls ≠ "java/lang/invoke/MethodHandle" ∧ yX4_kindOf.cls ≠ "java/lang/invoke/VarHandle" ∧ (parseMethodDescriptor yX4_kindOf.desc).map (fun d => d.parameters.length) = some 1 := by decide +kernel
set_option maxHeartbeats 4000000 in
set_option maxRecDepth 100000 in
theorem c_X4_kindOf {l : Launch} {D : va_G} {ad : Nat → Nat} {cI cII cR : ClassId} (μ : Mm) (p0 : Int) : CT l D vwCl (tyC cI cII cR) 194 ad (EC ad cI cII cR) (ZC ad) yX4_kindOf wsX4_kindOf ({ frames := 0, cells := 0, slots := 0, locals := 0 } : Room) (some .int) [Vi p0] μ (f_X4_kindOf μ p0, μ) := by
  refine CT_of [(0, Vi p0)] ZC_st (by decide) rfl rfl (Nat.le_of_ble_eq_true rfl) rfl (fun G C => ?_)
  generalize hz : f_X4_kindOf μ p0 = v at C
  unfold f_X4_kindOf at hz
  refine q_iload_n C 0 rfl dX4_kindOf_0 rfl ?_
  refine eq_ite hz (fun c1 hz => ?_) (fun c1 hz => ?_)
  · have c1 : p0 = 98 := c1
    refine q_lookup C dX4_kindOf_1 rfl (off := 59) (by rw [c1]; rfl) (tgt := 60) (by decide) ?_
    refine q_iconst C dX4_kindOf_60 ⟨by decide, by decide⟩ ?_
    exact q_iret C dX4_kindOf_61 (congrArg (fun q => (q, μ)) hz)
  · have c1 : ¬ p0 = 98 := c1
    refine eq_ite hz (fun c2 hz => ?_) (fun c2 hz => ?_)
    · have c2 : p0 = 99 := c2
      refine q_lookup C dX4_kindOf_1 rfl (off := 53) (by rw [c2]; rfl) (tgt := 54) (by decide) ?_
      refine q_iconst C dX4_kindOf_54 ⟨by decide, by decide⟩ ?_
      exact q_iret C dX4_kindOf_55 (congrArg (fun q => (q, μ)) hz)
    · have c2 : ¬ p0 = 99 := c2
      refine eq_ite hz (fun c3 hz => ?_) (fun c3 hz => ?_)
      · have c3 : p0 = 111 := c3
        refine q_lookup C dX4_kindOf_1 rfl (off := 57) (by rw [c3]; rfl) (tgt := 58) (by decide) ?_
        refine q_iconst C dX4_kindOf_58 ⟨by decide, by decide⟩ ?_
        exact q_iret C dX4_kindOf_59 (congrArg (fun q => (q, μ)) hz)
      · have c3 : ¬ p0 = 111 := c3
        refine eq_ite hz (fun c4 hz => ?_) (fun c4 hz => ?_)
        · have c4 : p0 = 112 := c4
          refine q_lookup C dX4_kindOf_1 rfl (off := 51) (by rw [c4]; rfl) (tgt := 52) (by decide) ?_
          refine q_iconst C dX4_kindOf_52 ⟨by decide, by decide⟩ ?_
          exact q_iret C dX4_kindOf_53 (congrArg (fun q => (q, μ)) hz)
        · have c4 : ¬ p0 = 112 := c4
          refine eq_ite hz (fun c5 hz => ?_) (fun c5 hz => ?_)
          · have c5 : p0 = 121 := c5
            refine q_lookup C dX4_kindOf_1 rfl (off := 55) (by rw [c5]; rfl) (tgt := 56) (by decide) ?_
            refine q_iconst C dX4_kindOf_56 ⟨by decide, by decide⟩ ?_
            exact q_iret C dX4_kindOf_57 (congrArg (fun q => (q, μ)) hz)
          · have c5 : ¬ p0 = 121 := c5
            refine q_lookup C dX4_kindOf_1 rfl (off := 61) ((osw c1).trans ((osw c2).trans ((osw c3).trans ((osw c4).trans ((osw c5).trans (rfl)))))) (tgt := 62) (by decide) ?_
            refine q_iconst C dX4_kindOf_62 ⟨by decide, by decide⟩ ?_
            exact q_iret C dX4_kindOf_63 (congrArg (fun q => (q, μ)) hz)
theorem hdX4_readSort : yX4_readSort.cls = RX4 ∧ yX4_readSort.cls ≠ "java/lang/invoke/MethodHandle" ∧ yX4_readSort.cls ≠ "java/lang/invoke/VarHandle" ∧ (parseMethodDescriptor yX4_readSort.desc).map (fun d => d.parameters.length) = some 0 := by decide +kernel
set_option maxHeartbeats 4000000 in
set_option maxRecDepth 100000 in
theorem c_X4_readSort {l : Launch} {D : va_G} {ad : Nat → Nat} {cI cII cR : ClassId} (μ : Mm) {v : Int × Mm} (hz : f_X4_readSort μ = some v) : CT l D vwCl (tyC cI cII cR) 194 ad (EC ad cI cII cR) (ZC ad) yX4_readSort wsX4_readSort ({ frames := 3, cells := 0, slots := 0, locals := 61 } : Room) (some .int) [Vr 176] μ (v.1, v.2) := by
  refine CT_of [(0, Vr 176)] ZC_st (by decide) rfl rfl (Nat.le_of_ble_eq_true rfl) rfl (fun G C => ?_)
  have i_X4 : ∀ w ∈ u_ws RX4 TX4 8, w ∈ wsX4_readSort := by decide +kernel
  have f_72 : Cond.fieldLink (yX4_readSort).cls 72 "SwanDeeds$Tape" "sort" "I" ∈ wsX4_readSort := by decide +kernel
  have f_75 : Cond.fieldLink (yX4_readSort).cls 75 "SwanDeeds$Tape" "value" "I" ∈ wsX4_readSort := by decide +kernel
  have hz := sat_of hz
  unfold f_X4_readSort at hz
  refine q_aload_n C 0 rfl dX4_readSort_0 rfl ?_
  obtain ⟨z2, hz2, hz⟩ := sat_bind hz
  refine q_callVv ZC_st C [] [] (c_X4_scan μ hz2) tO_X4 rfl gX4_readSort_X4_scan rfl ⟨rfl, rfl⟩ hdX4_scan ⟨by decide, by decide⟩ rfl (Nat.le_of_ble_eq_true rfl) dX4_readSort_1 rfl (fun _ => ?_)
  refine q_aload_n C 0 rfl dX4_readSort_4 rfl ?_
  refine q_get tO_X4 C (i := 6) i_X4 rfl rfl (by decide) rfl f_72 dX4_readSort_5 ?_
  obtain ⟨v3, hv3, hz⟩ := sat_bnd hz
  have Jv3 : G z2 22 [(0, Vr 176)] [Vi v3] := by
    refine q_istore_n C [(1, Vi v3), (0, Vr 176)] rfl (by decide) dX4_readSort_22 rfl ?_
    refine q_iload_n C 0 rfl dX4_readSort_23 rfl ?_
    refine q_iconst C dX4_readSort_24 ⟨by decide, by decide⟩ ?_
    refine q_icmp_ne C dX4_readSort_25 (tgt := 34) (by decide) (fun c4 => ?_) (fun c4 => ?_)
    · have hz := sat_f hz c4
      refine q_iload_n C 0 rfl dX4_readSort_34 rfl ?_
      exact q_iret C dX4_readSort_35 (sat_eq hz)
    · have hz := sat_t hz c4
      refine q_aload_n C 1 rfl dX4_readSort_28 rfl ?_
      refine q_iconst C dX4_readSort_29 ⟨by decide, by decide⟩ ?_
      obtain ⟨z6, hz6, hz⟩ := sat_bind hz
      refine q_callVz ZC_st C [Vi 1] [] (c_X4_refuse z2 1 hz6) tO_X4 rfl gX4_readSort_X4_refuse rfl ⟨rfl, rfl⟩ hdX4_refuse ⟨by decide, by decide⟩ rfl (Nat.le_of_ble_eq_true rfl) dX4_readSort_30 rfl (fun hb5 _ => ?_)
      refine q_pop C dX4_readSort_33 rfl ?_
      refine q_iload_n C 0 rfl dX4_readSort_34 rfl ?_
      exact q_iret C dX4_readSort_35 (sat_eq hz)
  have hz := hv3.symm
  refine q_if_ne C dX4_readSort_8 (tgt := 21) (by decide) (fun c7 => ?_) (fun c7 => ?_)
  · have hz := eq_f hz c7
    refine q_iconst C dX4_readSort_21 ⟨by decide, by decide⟩ ?_
    have hz : _ = v3 := hz
    subst hz
    exact Jv3
  · have hz := eq_t hz c7
    refine q_aload_n C 0 rfl dX4_readSort_11 rfl ?_
    refine q_get tO_X4 C (i := 7) i_X4 rfl rfl (by decide) rfl f_75 dX4_readSort_12 ?_
    refine q_callSi ZC_st C [Vi (z2 34 6)] [] (c_X4_kindOf z2 (z2 34 6)) gX4_readSort_X4_kindOf rfl ⟨rfl, rfl⟩ hdX4_kindOf ⟨by decide, by decide⟩ rfl (Nat.le_of_ble_eq_true rfl) dX4_readSort_15 rfl (fun _ _ => ?_)
    refine q_goto C dX4_readSort_18 (tgt := 22) (by decide) ?_
    have hz : _ = v3 := hz
    subst hz
    exact Jv3
theorem hdX4_readSwan : yX4_readSwan.cls = RX4 ∧ yX4_readSwan.cls ≠ "java/lang/invoke/MethodHandle" ∧ yX4_readSwan.cls ≠ "java/lang/invoke/VarHandle" ∧ (parseMethodDescriptor yX4_readSwan.desc).map (fun d => d.parameters.length) = some 2 := by decide +kernel
set_option maxHeartbeats 4000000 in
set_option maxRecDepth 100000 in
theorem c_X4_readSwan {l : Launch} {D : va_G} {ad : Nat → Nat} {cI cII cR : ClassId} (μ : Mm) (q : Nat) (hq : q < 29) (p2 : Int) {v : Int × Mm} (hz : f_X4_readSwan μ q p2 = some v) : CT l D vwCl (tyC cI cII cR) 194 ad (EC ad cI cII cR) (ZC ad) yX4_readSwan wsX4_readSwan ({ frames := 4, cells := 0, slots := 0, locals := 83 } : Room) (some .boolean) [Vr 176, Vr (6 * q), Vi p2] μ (v.1, v.2) := by
  refine CT_of [(0, Vr 176), (1, Vr (6 * q)), (2, Vi p2)] ZC_st (by decide) rfl rfl (Nat.le_of_ble_eq_true rfl) rfl (fun G C => ?_)
  have i_X2 : ∀ w ∈ u_ws RX2 TX2 11, w ∈ wsX4_readSwan := by decide +kernel
  have f_51 : Cond.fieldLink (yX4_readSwan).cls 51 "SwanDeeds$River" "lawnCount" "I" ∈ wsX4_readSwan := by decide +kernel
  have f_54 : Cond.fieldLink (yX4_readSwan).cls 54 "SwanDeeds$River" "kinds" "[I" ∈ wsX4_readSwan := by decide +kernel
  have f_57 : Cond.fieldLink (yX4_readSwan).cls 57 "SwanDeeds$River" "places" "[I" ∈ wsX4_readSwan := by decide +kernel
  have f_60 : Cond.fieldLink (yX4_readSwan).cls 60 "SwanDeeds$River" "plots" "[I" ∈ wsX4_readSwan := by decide +kernel
  have f_63 : Cond.fieldLink (yX4_readSwan).cls 63 "SwanDeeds$River" "weights" "[I" ∈ wsX4_readSwan := by decide +kernel
  have f_66 : Cond.fieldLink (yX4_readSwan).cls 66 "SwanDeeds$River" "swanCount" "I" ∈ wsX4_readSwan := by decide +kernel
  have hz := sat_of hz
  unfold f_X4_readSwan at hz
  refine q_aload_n C 0 rfl dX4_readSwan_0 rfl ?_
  obtain ⟨z2, hz2, hz⟩ := sat_bind hz
  refine q_callVi ZC_st C [] [] (c_X4_readSort μ hz2) tO_X4 rfl gX4_readSwan_X4_readSort rfl ⟨rfl, rfl⟩ hdX4_readSort ⟨by decide, by decide⟩ rfl (Nat.le_of_ble_eq_true rfl) dX4_readSwan_1 rfl (fun _ _ => ?_)
  refine q_istore_n C [(3, Vi (z2.1)), (0, Vr 176), (1, Vr (6 * q)), (2, Vi p2)] rfl (by decide) dX4_readSwan_4 rfl ?_
  refine q_iload_n C 0 rfl dX4_readSwan_5 rfl ?_
  refine q_iconst C dX4_readSwan_6 ⟨by decide, by decide⟩ ?_
  refine q_icmp_ne C dX4_readSwan_7 (tgt := 12) (by decide) (fun c3 => ?_) (fun c3 => ?_)
  · have hz := sat_f hz c3
    refine q_iload_n C 3 rfl dX4_readSwan_12 rfl ?_
    refine q_bipush C dX4_readSwan_13 ⟨rfl, by decide, by decide⟩ ?_
    refine q_icmp_lt C dX4_readSwan_15 (tgt := 24) (by decide) (fun c4 => ?_) (fun c4 => ?_)
    · have hz := sat_t hz c4
      refine q_aload_n C 1 rfl dX4_readSwan_24 rfl ?_
      refine q_iconst C dX4_readSwan_25 ⟨by decide, by decide⟩ ?_
      refine q_aload_n C 2 rfl dX4_readSwan_26 rfl ?_
      refine q_get (tO_X2 hq) C (i := 0) i_X2 rfl rfl (by decide) rfl f_51 dX4_readSwan_27 ?_
      refine q_iconst C dX4_readSwan_30 ⟨by decide, by decide⟩ ?_
      refine q_isub C dX4_readSwan_31 ?_
      obtain ⟨z6, hz6, hz⟩ := sat_bind hz
      refine q_callVi ZC_st C [Vi 0, Vi (w3 ((z2.2 q 24) - 1))] [] (c_X4_readNumber z2.2 0 (w3 ((z2.2 q 24) - 1)) hz6) tO_X4 rfl gX4_readSwan_X4_readNumber rfl ⟨rfl, rfl⟩ hdX4_readNumber ⟨by decide, by decide⟩ rfl (Nat.le_of_ble_eq_true rfl) dX4_readSwan_32 rfl (fun _ _ => ?_)
      refine q_istore C [(4, Vi (z6.1)), (3, Vi (z2.1)), (0, Vr 176), (1, Vr (6 * q)), (2, Vi p2)] rfl (by decide) dX4_readSwan_35 ?_
      refine q_iload C 0 rfl dX4_readSwan_37 ?_
      refine q_iconst C dX4_readSwan_39 ⟨by decide, by decide⟩ ?_
      refine q_icmp_eq C dX4_readSwan_40 (tgt := 52) (by decide) (fun c7 => ?_) (fun c7 => ?_)
      · have hz := sat_t hz c7
        refine q_iconst C dX4_readSwan_52 ⟨by decide, by decide⟩ ?_
        exact q_zret C (Or.inl rfl) dX4_readSwan_53 (sat_eq hz)
      · have hz := sat_f hz c7
        refine q_aload_n C 2 rfl dX4_readSwan_43 rfl ?_
        refine q_bipush C dX4_readSwan_44 ⟨rfl, by decide, by decide⟩ ?_
        obtain ⟨z9, hz9, hz⟩ := sat_bind hz
        refine q_callVz ZC_st C [Vi 44] [] (c_X4_readSingle z6.2 44 hz9) tO_X4 rfl gX4_readSwan_X4_readSingle rfl ⟨rfl, rfl⟩ hdX4_readSingle ⟨by decide, by decide⟩ rfl (Nat.le_of_ble_eq_true rfl) dX4_readSwan_46 rfl (fun hb8 _ => ?_)
        refine q_if_ne C dX4_readSwan_49 (tgt := 54) (by decide) (fun c10 => ?_) (fun c10 => ?_)
        · have hz := sat_f hz c10
          refine q_aload_n C 2 rfl dX4_readSwan_54 rfl ?_
          refine q_iconst C dX4_readSwan_55 ⟨by decide, by decide⟩ ?_
          refine q_aload_n C 3 rfl dX4_readSwan_56 rfl ?_
          refine q_get (tO_X2 hq) C (i := 0) i_X2 rfl rfl (by decide) rfl f_51 dX4_readSwan_57 ?_
          refine q_iconst C dX4_readSwan_60 ⟨by decide, by decide⟩ ?_
          refine q_isub C dX4_readSwan_61 ?_
          obtain ⟨z12, hz12, hz⟩ := sat_bind hz
          refine q_callVi ZC_st C [Vi 0, Vi (w3 ((z9.2 q 24) - 1))] [] (c_X4_readNumber z9.2 0 (w3 ((z9.2 q 24) - 1)) hz12) tO_X4 rfl gX4_readSwan_X4_readNumber rfl ⟨rfl, rfl⟩ hdX4_readNumber ⟨by decide, by decide⟩ rfl (Nat.le_of_ble_eq_true rfl) dX4_readSwan_62 rfl (fun _ _ => ?_)
          refine q_istore C [(5, Vi (z12.1)), (4, Vi (z6.1)), (3, Vi (z2.1)), (0, Vr 176), (1, Vr (6 * q)), (2, Vi p2)] rfl (by decide) dX4_readSwan_65 ?_
          refine q_iload C 0 rfl dX4_readSwan_67 ?_
          refine q_iconst C dX4_readSwan_69 ⟨by decide, by decide⟩ ?_
          refine q_icmp_eq C dX4_readSwan_70 (tgt := 82) (by decide) (fun c13 => ?_) (fun c13 => ?_)
          · have hz := sat_t hz c13
            refine q_iconst C dX4_readSwan_82 ⟨by decide, by decide⟩ ?_
            exact q_zret C (Or.inl rfl) dX4_readSwan_83 (sat_eq hz)
          · have hz := sat_f hz c13
            refine q_aload_n C 3 rfl dX4_readSwan_73 rfl ?_
            refine q_bipush C dX4_readSwan_74 ⟨rfl, by decide, by decide⟩ ?_
            obtain ⟨z15, hz15, hz⟩ := sat_bind hz
            refine q_callVz ZC_st C [Vi 44] [] (c_X4_readSingle z12.2 44 hz15) tO_X4 rfl gX4_readSwan_X4_readSingle rfl ⟨rfl, rfl⟩ hdX4_readSingle ⟨by decide, by decide⟩ rfl (Nat.le_of_ble_eq_true rfl) dX4_readSwan_76 rfl (fun hb14 _ => ?_)
            refine q_if_ne C dX4_readSwan_79 (tgt := 84) (by decide) (fun c16 => ?_) (fun c16 => ?_)
            · have hz := sat_f hz c16
              refine q_aload_n C 3 rfl dX4_readSwan_84 rfl ?_
              refine q_iconst C dX4_readSwan_85 ⟨by decide, by decide⟩ ?_
              refine q_bipush C dX4_readSwan_86 ⟨rfl, by decide, by decide⟩ ?_
              obtain ⟨z18, hz18, hz⟩ := sat_bind hz
              refine q_callVi ZC_st C [Vi 1, Vi 9] [] (c_X4_readNumber z15.2 1 9 hz18) tO_X4 rfl gX4_readSwan_X4_readNumber rfl ⟨rfl, rfl⟩ hdX4_readNumber ⟨by decide, by decide⟩ rfl (Nat.le_of_ble_eq_true rfl) dX4_readSwan_88 rfl (fun _ _ => ?_)
              refine q_istore C [(6, Vi (z18.1)), (5, Vi (z12.1)), (4, Vi (z6.1)), (3, Vi (z2.1)), (0, Vr 176), (1, Vr (6 * q)), (2, Vi p2)] rfl (by decide) dX4_readSwan_91 ?_
              refine q_iload C 0 rfl dX4_readSwan_93 ?_
              refine q_iconst C dX4_readSwan_95 ⟨by decide, by decide⟩ ?_
              refine q_icmp_eq C dX4_readSwan_96 (tgt := 108) (by decide) (fun c19 => ?_) (fun c19 => ?_)
              · have hz := sat_t hz c19
                refine q_iconst C dX4_readSwan_108 ⟨by decide, by decide⟩ ?_
                exact q_zret C (Or.inl rfl) dX4_readSwan_109 (sat_eq hz)
              · have hz := sat_f hz c19
                refine q_aload_n C 4 rfl dX4_readSwan_99 rfl ?_
                refine q_bipush C dX4_readSwan_100 ⟨rfl, by decide, by decide⟩ ?_
                obtain ⟨z21, hz21, hz⟩ := sat_bind hz
                refine q_callVz ZC_st C [Vi 59] [] (c_X4_readSingle z18.2 59 hz21) tO_X4 rfl gX4_readSwan_X4_readSingle rfl ⟨rfl, rfl⟩ hdX4_readSingle ⟨by decide, by decide⟩ rfl (Nat.le_of_ble_eq_true rfl) dX4_readSwan_102 rfl (fun hb20 _ => ?_)
                refine q_if_ne C dX4_readSwan_105 (tgt := 110) (by decide) (fun c22 => ?_) (fun c22 => ?_)
                · have hz := sat_f hz c22
                  refine q_aload_n C 5 rfl dX4_readSwan_110 rfl ?_
                  refine q_getR (tO_X2 hq) C (i := 5) i_X2 rfl rfl (by decide) rfl f_54 dX4_readSwan_111 ?_
                  refine q_iload_n C 6 rfl dX4_readSwan_114 rfl ?_
                  refine q_iload_n C 3 rfl dX4_readSwan_115 rfl ?_
                  obtain ⟨c23, hz⟩ := sat_chk hz
                  obtain ⟨m24, hm24, hz⟩ := sat_bnd hz
                  refine q_iast (tA_kinds hq) C 0 rfl c23 hm24 dX4_readSwan_116 ?_
                  refine q_aload_n C 5 rfl dX4_readSwan_117 rfl ?_
                  refine q_getR (tO_X2 hq) C (i := 7) i_X2 rfl rfl (by decide) rfl f_57 dX4_readSwan_118 ?_
                  refine q_iload_n C 6 rfl dX4_readSwan_121 rfl ?_
                  refine q_iload C 2 rfl dX4_readSwan_122 ?_
                  obtain ⟨c25, hz⟩ := sat_chk hz
                  obtain ⟨m26, hm26, hz⟩ := sat_bnd hz
                  refine q_iast (tA_places hq) C 0 rfl c25 hm26 dX4_readSwan_124 ?_
                  refine q_aload_n C 5 rfl dX4_readSwan_125 rfl ?_
                  refine q_getR (tO_X2 hq) C (i := 6) i_X2 rfl rfl (by decide) rfl f_60 dX4_readSwan_126 ?_
                  refine q_iload_n C 6 rfl dX4_readSwan_129 rfl ?_
                  refine q_iload C 1 rfl dX4_readSwan_130 ?_
                  obtain ⟨c27, hz⟩ := sat_chk hz
                  obtain ⟨m28, hm28, hz⟩ := sat_bnd hz
                  refine q_iast (tA_plots hq) C 0 rfl c27 hm28 dX4_readSwan_132 ?_
                  refine q_aload_n C 5 rfl dX4_readSwan_133 rfl ?_
                  refine q_getR (tO_X2 hq) C (i := 8) i_X2 rfl rfl (by decide) rfl f_63 dX4_readSwan_134 ?_
                  refine q_iload_n C 6 rfl dX4_readSwan_137 rfl ?_
                  refine q_iload C 0 rfl dX4_readSwan_138 ?_
                  obtain ⟨c29, hz⟩ := sat_chk hz
                  obtain ⟨m30, hm30, hz⟩ := sat_bnd hz
                  refine q_iast (tA_weights hq) C 0 rfl c29 hm30 dX4_readSwan_140 ?_
                  refine q_aload_n C 5 rfl dX4_readSwan_141 rfl ?_
                  refine q_iload_n C 6 rfl dX4_readSwan_142 rfl ?_
                  refine q_iconst C dX4_readSwan_143 ⟨by decide, by decide⟩ ?_
                  refine q_iadd C dX4_readSwan_144 ?_
                  obtain ⟨m31, hm31, hz⟩ := sat_bnd hz
                  refine q_put (tO_X2 hq) C hm31 (i := 1) i_X2 tyX2_ok nmX2 rfl rfl (by decide) rfl f_66 dX4_readSwan_145 ?_
                  refine q_iconst C dX4_readSwan_148 ⟨by decide, by decide⟩ ?_
                  exact q_zret C (Or.inr rfl) dX4_readSwan_149 (sat_eq hz)
                · have hz := sat_t hz c22
                  refine q_iconst C dX4_readSwan_108 ⟨by decide, by decide⟩ ?_
                  exact q_zret C (Or.inl rfl) dX4_readSwan_109 (sat_eq hz)
            · have hz := sat_t hz c16
              refine q_iconst C dX4_readSwan_82 ⟨by decide, by decide⟩ ?_
              exact q_zret C (Or.inl rfl) dX4_readSwan_83 (sat_eq hz)
        · have hz := sat_t hz c10
          refine q_iconst C dX4_readSwan_52 ⟨by decide, by decide⟩ ?_
          exact q_zret C (Or.inl rfl) dX4_readSwan_53 (sat_eq hz)
    · have hz := sat_f hz c4
      refine q_aload_n C 1 rfl dX4_readSwan_18 rfl ?_
      refine q_iconst C dX4_readSwan_19 ⟨by decide, by decide⟩ ?_
      obtain ⟨z33, hz33, hz⟩ := sat_bind hz
      refine q_callVz ZC_st C [Vi 3] [] (c_X4_refuse z2.2 3 hz33) tO_X4 rfl gX4_readSwan_X4_refuse rfl ⟨rfl, rfl⟩ hdX4_refuse ⟨by decide, by decide⟩ rfl (Nat.le_of_ble_eq_true rfl) dX4_readSwan_20 rfl (fun hb32 _ => ?_)
      exact q_zret C (hb32) dX4_readSwan_23 (sat_eq hz)
  · have hz := sat_t hz c3
    refine q_iconst C dX4_readSwan_10 ⟨by decide, by decide⟩ ?_
    exact q_zret C (Or.inl rfl) dX4_readSwan_11 (sat_eq hz)
theorem hdX4_readInto : yX4_readInto.cls = RX4 ∧ yX4_readInto.cls ≠ "java/lang/invoke/MethodHandle" ∧ yX4_readInto.cls ≠ "java/lang/invoke/VarHandle" ∧ (parseMethodDescriptor yX4_readInto.desc).map (fun d => d.parameters.length) = some 1 := by decide +kernel
set_option maxHeartbeats 4000000 in
set_option maxRecDepth 100000 in
theorem c_X4_readInto {l : Launch} {D : va_G} {ad : Nat → Nat} {cI cII cR : ClassId} (μ : Mm) (q : Nat) (hq : q < 29) {v : Int × Mm} (hz : f_X4_readInto μ q = some v) : CT l D vwCl (tyC cI cII cR) 194 ad (EC ad cI cII cR) (ZC ad) yX4_readInto wsX4_readInto ({ frames := 5, cells := 0, slots := 0, locals := 109 } : Room) (some .boolean) [Vr 176, Vr (6 * q)] μ (v.1, v.2) := by
  refine CT_of [(0, Vr 176), (1, Vr (6 * q))] ZC_st (by decide) rfl rfl (Nat.le_of_ble_eq_true rfl) rfl (fun G C => ?_)
  have i_X4 : ∀ w ∈ u_ws RX4 TX4 8, w ∈ wsX4_readInto := by decide +kernel
  have f_15 : Cond.fieldLink (yX4_readInto).cls 15 "SwanDeeds$Tape" "length" "I" ∈ wsX4_readInto := by decide +kernel
  have f_19 : Cond.fieldLink (yX4_readInto).cls 19 "SwanDeeds$Tape" "at" "I" ∈ wsX4_readInto := by decide +kernel
  have hz := sat_of hz
  unfold f_X4_readInto at hz
  refine q_aload_n C 0 rfl dX4_readInto_0 rfl ?_
  refine q_iconst C dX4_readInto_1 ⟨by decide, by decide⟩ ?_
  obtain ⟨m1, hm1, hz⟩ := sat_bnd hz
  refine q_put tO_X4 C hm1 (i := 4) i_X4 tyX4_ok nmX4 rfl rfl (by decide) rfl f_19 dX4_readInto_2 ?_
  refine q_aload_n C 0 rfl dX4_readInto_5 rfl ?_
  refine q_aload_n C 1 rfl dX4_readInto_6 rfl ?_
  obtain ⟨z3, hz3, hz⟩ := sat_bind hz
  refine q_callVz ZC_st C [Vr (6 * q)] [] (c_X4_readLaw m1 q hq hz3) tO_X4 rfl gX4_readInto_X4_readLaw rfl ⟨rfl, rfl⟩ hdX4_readLaw ⟨by decide, by decide⟩ rfl (Nat.le_of_ble_eq_true rfl) dX4_readInto_7 rfl (fun hb2 _ => ?_)
  refine q_if_ne C dX4_readInto_10 (tgt := 15) (by decide) (fun c4 => ?_) (fun c4 => ?_)
  · have hz := sat_f hz c4
    refine q_iconst C dX4_readInto_15 ⟨by decide, by decide⟩ ?_
    refine q_istore_n C [(2, Vi 0), (0, Vr 176), (1, Vr (6 * q))] rfl (by decide) dX4_readInto_16 rfl ?_
    refine q_sub C [1, 2, 0] [(0, Vr 176), (1, Vr (6 * q)), (2, Vi 0)] rfl ?_
    refine loop_go (fun x5 => G x5.2 17 [(0, Vr 176), (1, Vr (6 * q)), (2, Vi (x5.1))] []) (sat_bind2 hz) (fun h => h) (fun x5 hz => ?_)
    refine q_iload_n C 2 rfl dX4_readInto_17 rfl ?_
    refine q_bipush C dX4_readInto_18 ⟨rfl, by decide, by decide⟩ ?_
    refine q_icmp_gt C dX4_readInto_20 (tgt := 57) (by decide) (fun c6 => ?_) (fun c6 => ?_)
    · have hz := sat_t hz c6
      have hz := sat_some hz
      refine q_sub C [] [] rfl ?_
      refine q_iconst C dX4_readInto_57 ⟨by decide, by decide⟩ ?_
      exact q_zret C (Or.inl rfl) dX4_readInto_58 (sat_eq hz)
    · have hz := sat_f hz c6
      refine q_iload_n C 2 rfl dX4_readInto_23 rfl ?_
      refine q_if_le C dX4_readInto_24 (tgt := 40) (by decide) (fun c7 => ?_) (fun c7 => ?_)
      · have hz := sat_t hz c7
        refine q_aload_n C 0 rfl dX4_readInto_40 rfl ?_
        refine q_aload_n C 1 rfl dX4_readInto_41 rfl ?_
        refine q_iload_n C 2 rfl dX4_readInto_42 rfl ?_
        obtain ⟨z9, hz9, hz⟩ := sat_bind hz
        refine q_callVz ZC_st C [Vr (6 * q), Vi (x5.1)] [] (c_X4_readSwan x5.2 q hq x5.1 hz9) tO_X4 rfl gX4_readInto_X4_readSwan rfl ⟨rfl, rfl⟩ hdX4_readSwan ⟨by decide, by decide⟩ rfl (Nat.le_of_ble_eq_true rfl) dX4_readInto_43 rfl (fun hb8 _ => ?_)
        refine q_if_ne C dX4_readInto_46 (tgt := 51) (by decide) (fun c10 => ?_) (fun c10 => ?_)
        · have hz := sat_f hz c10
          refine q_iinc C 2 rfl [(2, Vi (w3 (x5.1 + 1))), (0, Vr 176), (1, Vr (6 * q))] rfl (by decide) dX4_readInto_51 ?_
          refine q_goto C dX4_readInto_54 (tgt := 17) (by decide) ?_
          refine q_sub C [1, 2, 0] [(0, Vr 176), (1, Vr (6 * q)), (2, Vi (w3 (x5.1 + 1)))] rfl ?_
          have hz := sat_some hz
          exact hz
        · have hz := sat_t hz c10
          refine q_iconst C dX4_readInto_49 ⟨by decide, by decide⟩ ?_
          have hz := sat_some hz
          exact q_zret C (Or.inl rfl) dX4_readInto_50 (sat_eq hz)
      · have hz := sat_f hz c7
        refine q_aload_n C 0 rfl dX4_readInto_27 rfl ?_
        refine q_get tO_X4 C (i := 4) i_X4 rfl rfl (by decide) rfl f_19 dX4_readInto_28 ?_
        refine q_aload_n C 0 rfl dX4_readInto_31 rfl ?_
        refine q_get tO_X4 C (i := 1) i_X4 rfl rfl (by decide) rfl f_15 dX4_readInto_32 ?_
        refine q_icmp_lt C dX4_readInto_35 (tgt := 40) (by decide) (fun c11 => ?_) (fun c11 => ?_)
        · have hz := sat_t hz c11
          refine q_aload_n C 0 rfl dX4_readInto_40 rfl ?_
          refine q_aload_n C 1 rfl dX4_readInto_41 rfl ?_
          refine q_iload_n C 2 rfl dX4_readInto_42 rfl ?_
          obtain ⟨z13, hz13, hz⟩ := sat_bind hz
          refine q_callVz ZC_st C [Vr (6 * q), Vi (x5.1)] [] (c_X4_readSwan x5.2 q hq x5.1 hz13) tO_X4 rfl gX4_readInto_X4_readSwan rfl ⟨rfl, rfl⟩ hdX4_readSwan ⟨by decide, by decide⟩ rfl (Nat.le_of_ble_eq_true rfl) dX4_readInto_43 rfl (fun hb12 _ => ?_)
          refine q_if_ne C dX4_readInto_46 (tgt := 51) (by decide) (fun c14 => ?_) (fun c14 => ?_)
          · have hz := sat_f hz c14
            refine q_iinc C 2 rfl [(2, Vi (w3 (x5.1 + 1))), (0, Vr 176), (1, Vr (6 * q))] rfl (by decide) dX4_readInto_51 ?_
            refine q_goto C dX4_readInto_54 (tgt := 17) (by decide) ?_
            refine q_sub C [1, 2, 0] [(0, Vr 176), (1, Vr (6 * q)), (2, Vi (w3 (x5.1 + 1)))] rfl ?_
            have hz := sat_some hz
            exact hz
          · have hz := sat_t hz c14
            refine q_iconst C dX4_readInto_49 ⟨by decide, by decide⟩ ?_
            have hz := sat_some hz
            exact q_zret C (Or.inl rfl) dX4_readInto_50 (sat_eq hz)
        · have hz := sat_f hz c11
          refine q_iconst C dX4_readInto_38 ⟨by decide, by decide⟩ ?_
          have hz := sat_some hz
          exact q_zret C (Or.inr rfl) dX4_readInto_39 (sat_eq hz)
  · have hz := sat_t hz c4
    refine q_iconst C dX4_readInto_13 ⟨by decide, by decide⟩ ?_
    exact q_zret C (Or.inl rfl) dX4_readInto_14 (sat_eq hz)
theorem hdX2_become : yX2_become.cls = RX2 ∧ yX2_become.cls ≠ "java/lang/invoke/MethodHandle" ∧ yX2_become.cls ≠ "java/lang/invoke/VarHandle" ∧ (parseMethodDescriptor yX2_become.desc).map (fun d => d.parameters.length) = some 1 := by decide +kernel
set_option maxHeartbeats 4000000 in
set_option maxRecDepth 100000 in
theorem c_X2_become {l : Launch} {D : va_G} {ad : Nat → Nat} {cI cII cR : ClassId} (μ : Mm) (r : Nat) (hr : r < 29) (q : Nat) (hq : q < 29) {v : Mm} (hz : f_X2_become μ r q = some v) : CT l D vwCl (tyC cI cII cR) 194 ad (EC ad cI cII cR) (ZC ad) yX2_become wsX2_become ({ frames := 0, cells := 0, slots := 0, locals := 0 } : Room) none [Vr (6 * r), Vr (6 * q)] μ ((0 : Int), v) := by
  refine CT_of [(0, Vr (6 * r)), (1, Vr (6 * q))] ZC_st (by decide) rfl rfl (Nat.le_of_ble_eq_true rfl) rfl (fun G C => ?_)
  have i_X2 : ∀ w ∈ u_ws RX2 TX2 11, w ∈ wsX2_become := by decide +kernel
  have f_9 : Cond.fieldLink (yX2_become).cls 9 "SwanDeeds$River" "crumbs" "[I" ∈ wsX2_become := by decide +kernel
  have f_15 : Cond.fieldLink (yX2_become).cls 15 "SwanDeeds$River" "kinds" "[I" ∈ wsX2_become := by decide +kernel
  have f_18 : Cond.fieldLink (yX2_become).cls 18 "SwanDeeds$River" "plots" "[I" ∈ wsX2_become := by decide +kernel
  have f_21 : Cond.fieldLink (yX2_become).cls 21 "SwanDeeds$River" "places" "[I" ∈ wsX2_become := by decide +kernel
  have f_24 : Cond.fieldLink (yX2_become).cls 24 "SwanDeeds$River" "weights" "[I" ∈ wsX2_become := by decide +kernel
  have f_27 : Cond.fieldLink (yX2_become).cls 27 "SwanDeeds$River" "lawnCount" "I" ∈ wsX2_become := by decide +kernel
  have f_31 : Cond.fieldLink (yX2_become).cls 31 "SwanDeeds$River" "swanCount" "I" ∈ wsX2_become := by decide +kernel
  have f_34 : Cond.fieldLink (yX2_become).cls 34 "SwanDeeds$River" "day" "I" ∈ wsX2_become := by decide +kernel
  have f_37 : Cond.fieldLink (yX2_become).cls 37 "SwanDeeds$River" "weirBits" "I" ∈ wsX2_become := by decide +kernel
  have f_40 : Cond.fieldLink (yX2_become).cls 40 "SwanDeeds$River" "defeats" "I" ∈ wsX2_become := by decide +kernel
  have f_43 : Cond.fieldLink (yX2_become).cls 43 "SwanDeeds$River" "eaters" "I" ∈ wsX2_become := by decide +kernel
  have hz := sat_of hz
  unfold f_X2_become at hz
  refine q_aload_n C 0 rfl dX2_become_0 rfl ?_
  refine q_aload_n C 1 rfl dX2_become_1 rfl ?_
  refine q_get (tO_X2 hq) C (i := 0) i_X2 rfl rfl (by decide) rfl f_27 dX2_become_2 ?_
  obtain ⟨m1, hm1, hz⟩ := sat_bnd hz
  refine q_put (tO_X2 hr) C hm1 (i := 0) i_X2 tyX2_ok nmX2 rfl rfl (by decide) rfl f_27 dX2_become_5 ?_
  refine q_aload_n C 0 rfl dX2_become_8 rfl ?_
  refine q_aload_n C 1 rfl dX2_become_9 rfl ?_
  refine q_get (tO_X2 hq) C (i := 1) i_X2 rfl rfl (by decide) rfl f_31 dX2_become_10 ?_
  obtain ⟨m2, hm2, hz⟩ := sat_bnd hz
  refine q_put (tO_X2 hr) C hm2 (i := 1) i_X2 tyX2_ok nmX2 rfl rfl (by decide) rfl f_31 dX2_become_13 ?_
  refine q_aload_n C 0 rfl dX2_become_16 rfl ?_
  refine q_aload_n C 1 rfl dX2_become_17 rfl ?_
  refine q_get (tO_X2 hq) C (i := 2) i_X2 rfl rfl (by decide) rfl f_34 dX2_become_18 ?_
  obtain ⟨m3, hm3, hz⟩ := sat_bnd hz
  refine q_put (tO_X2 hr) C hm3 (i := 2) i_X2 tyX2_ok nmX2 rfl rfl (by decide) rfl f_34 dX2_become_21 ?_
  refine q_aload_n C 0 rfl dX2_become_24 rfl ?_
  refine q_aload_n C 1 rfl dX2_become_25 rfl ?_
  refine q_get (tO_X2 hq) C (i := 3) i_X2 rfl rfl (by decide) rfl f_37 dX2_become_26 ?_
  obtain ⟨m4, hm4, hz⟩ := sat_bnd hz
  refine q_put (tO_X2 hr) C hm4 (i := 3) i_X2 tyX2_ok nmX2 rfl rfl (by decide) rfl f_37 dX2_become_29 ?_
  refine q_iconst C dX2_become_32 ⟨by decide, by decide⟩ ?_
  refine q_istore_n C [(2, Vi 0), (0, Vr (6 * r)), (1, Vr (6 * q))] rfl (by decide) dX2_become_33 rfl ?_
  refine q_sub C [1, 2, 0] [(0, Vr (6 * r)), (1, Vr (6 * q)), (2, Vi 0)] rfl ?_
  refine loop_go (fun x5 => G x5.2 34 [(0, Vr (6 * r)), (1, Vr (6 * q)), (2, Vi (x5.1))] []) (sat_bind2 hz) (fun h => h) (fun x5 hz => ?_)
  refine q_iload_n C 2 rfl dX2_become_34 rfl ?_
  refine q_bipush C dX2_become_35 ⟨rfl, by decide, by decide⟩ ?_
  refine q_icmp_ge C dX2_become_37 (tgt := 58) (by decide) (fun c6 => ?_) (fun c6 => ?_)
  · have hz := sat_t hz c6
    have hz := sat_some hz
    refine q_sub C [0, 1] [(0, Vr (6 * r)), (1, Vr (6 * q))] rfl ?_
    refine q_iconst C dX2_become_58 ⟨by decide, by decide⟩ ?_
    refine q_istore_n C [(2, Vi 0), (0, Vr (6 * r)), (1, Vr (6 * q))] rfl (by decide) dX2_become_59 rfl ?_
    refine q_sub C [1, 2, 0] [(0, Vr (6 * r)), (1, Vr (6 * q)), (2, Vi 0)] rfl ?_
    refine loop_go (fun x7 => G x7.2 60 [(0, Vr (6 * r)), (1, Vr (6 * q)), (2, Vi (x7.1))] []) (sat_bind2 hz) (fun h => h) (fun x7 hz => ?_)
    refine q_iload_n C 2 rfl dX2_become_60 rfl ?_
    refine q_bipush C dX2_become_61 ⟨rfl, by decide, by decide⟩ ?_
    refine q_icmp_ge C dX2_become_63 (tgt := 120) (by decide) (fun c8 => ?_) (fun c8 => ?_)
    · have hz := sat_t hz c8
      have hz := sat_some hz
      refine q_sub C [0] [(0, Vr (6 * r))] rfl ?_
      refine q_aload_n C 0 rfl dX2_become_120 rfl ?_
      refine q_iconst C dX2_become_121 ⟨by decide, by decide⟩ ?_
      obtain ⟨m9, hm9, hz⟩ := sat_bnd hz
      refine q_put (tO_X2 hr) C hm9 (i := 9) i_X2 tyX2_ok nmX2 rfl rfl (by decide) rfl f_40 dX2_become_122 ?_
      refine q_aload_n C 0 rfl dX2_become_125 rfl ?_
      refine q_iconst C dX2_become_126 ⟨by decide, by decide⟩ ?_
      obtain ⟨m10, hm10, hz⟩ := sat_bnd hz
      refine q_put (tO_X2 hr) C hm10 (i := 10) i_X2 tyX2_ok nmX2 rfl rfl (by decide) rfl f_43 dX2_become_127 ?_
      exact q_vret C dX2_become_130 (congrArg (fun q => ((0 : Int), q)) (sat_eq hz))
    · have hz := sat_f hz c8
      refine q_aload_n C 0 rfl dX2_become_66 rfl ?_
      refine q_getR (tO_X2 hr) C (i := 5) i_X2 rfl rfl (by decide) rfl f_15 dX2_become_67 ?_
      refine q_iload_n C 2 rfl dX2_become_70 rfl ?_
      refine q_aload_n C 1 rfl dX2_become_71 rfl ?_
      refine q_getR (tO_X2 hq) C (i := 5) i_X2 rfl rfl (by decide) rfl f_15 dX2_become_72 ?_
      refine q_iload_n C 2 rfl dX2_become_75 rfl ?_
      obtain ⟨c11, hz⟩ := sat_chk hz
      refine q_iald (tA_kinds hq) C 0 rfl c11 dX2_become_76 ?_
      obtain ⟨c12, hz⟩ := sat_chk hz
      obtain ⟨m13, hm13, hz⟩ := sat_bnd hz
      refine q_iast (tA_kinds hr) C 0 rfl c12 hm13 dX2_become_77 ?_
      refine q_aload_n C 0 rfl dX2_become_78 rfl ?_
      refine q_getR (tO_X2 hr) C (i := 6) i_X2 rfl rfl (by decide) rfl f_18 dX2_become_79 ?_
      refine q_iload_n C 2 rfl dX2_become_82 rfl ?_
      refine q_aload_n C 1 rfl dX2_become_83 rfl ?_
      refine q_getR (tO_X2 hq) C (i := 6) i_X2 rfl rfl (by decide) rfl f_18 dX2_become_84 ?_
      refine q_iload_n C 2 rfl dX2_become_87 rfl ?_
      obtain ⟨c14, hz⟩ := sat_chk hz
      refine q_iald (tA_plots hq) C 0 rfl c14 dX2_become_88 ?_
      obtain ⟨c15, hz⟩ := sat_chk hz
      obtain ⟨m16, hm16, hz⟩ := sat_bnd hz
      refine q_iast (tA_plots hr) C 0 rfl c15 hm16 dX2_become_89 ?_
      refine q_aload_n C 0 rfl dX2_become_90 rfl ?_
      refine q_getR (tO_X2 hr) C (i := 7) i_X2 rfl rfl (by decide) rfl f_21 dX2_become_91 ?_
      refine q_iload_n C 2 rfl dX2_become_94 rfl ?_
      refine q_aload_n C 1 rfl dX2_become_95 rfl ?_
      refine q_getR (tO_X2 hq) C (i := 7) i_X2 rfl rfl (by decide) rfl f_21 dX2_become_96 ?_
      refine q_iload_n C 2 rfl dX2_become_99 rfl ?_
      obtain ⟨c17, hz⟩ := sat_chk hz
      refine q_iald (tA_places hq) C 0 rfl c17 dX2_become_100 ?_
      obtain ⟨c18, hz⟩ := sat_chk hz
      obtain ⟨m19, hm19, hz⟩ := sat_bnd hz
      refine q_iast (tA_places hr) C 0 rfl c18 hm19 dX2_become_101 ?_
      refine q_aload_n C 0 rfl dX2_become_102 rfl ?_
      refine q_getR (tO_X2 hr) C (i := 8) i_X2 rfl rfl (by decide) rfl f_24 dX2_become_103 ?_
      refine q_iload_n C 2 rfl dX2_become_106 rfl ?_
      refine q_aload_n C 1 rfl dX2_become_107 rfl ?_
      refine q_getR (tO_X2 hq) C (i := 8) i_X2 rfl rfl (by decide) rfl f_24 dX2_become_108 ?_
      refine q_iload_n C 2 rfl dX2_become_111 rfl ?_
      obtain ⟨c20, hz⟩ := sat_chk hz
      refine q_iald (tA_weights hq) C 0 rfl c20 dX2_become_112 ?_
      obtain ⟨c21, hz⟩ := sat_chk hz
      obtain ⟨m22, hm22, hz⟩ := sat_bnd hz
      refine q_iast (tA_weights hr) C 0 rfl c21 hm22 dX2_become_113 ?_
      refine q_iinc C 2 rfl [(2, Vi (w3 (x7.1 + 1))), (0, Vr (6 * r)), (1, Vr (6 * q))] rfl (by decide) dX2_become_114 ?_
      refine q_goto C dX2_become_117 (tgt := 60) (by decide) ?_
      refine q_sub C [1, 2, 0] [(0, Vr (6 * r)), (1, Vr (6 * q)), (2, Vi (w3 (x7.1 + 1)))] rfl ?_
      have hz := sat_some hz
      exact hz
  · have hz := sat_f hz c6
    refine q_aload_n C 0 rfl dX2_become_40 rfl ?_
    refine q_getR (tO_X2 hr) C (i := 4) i_X2 rfl rfl (by decide) rfl f_9 dX2_become_41 ?_
    refine q_iload_n C 2 rfl dX2_become_44 rfl ?_
    refine q_aload_n C 1 rfl dX2_become_45 rfl ?_
    refine q_getR (tO_X2 hq) C (i := 4) i_X2 rfl rfl (by decide) rfl f_9 dX2_become_46 ?_
    refine q_iload_n C 2 rfl dX2_become_49 rfl ?_
    obtain ⟨c26, hz⟩ := sat_chk hz
    refine q_iald (tA_crumbs hq) C 0 rfl c26 dX2_become_50 ?_
    obtain ⟨c27, hz⟩ := sat_chk hz
    obtain ⟨m28, hm28, hz⟩ := sat_bnd hz
    refine q_iast (tA_crumbs hr) C 0 rfl c27 hm28 dX2_become_51 ?_
    refine q_iinc C 2 rfl [(2, Vi (w3 (x5.1 + 1))), (0, Vr (6 * r)), (1, Vr (6 * q))] rfl (by decide) dX2_become_52 ?_
    refine q_goto C dX2_become_55 (tgt := 34) (by decide) ?_
    refine q_sub C [1, 2, 0] [(0, Vr (6 * r)), (1, Vr (6 * q)), (2, Vi (w3 (x5.1 + 1)))] rfl ?_
    have hz := sat_some hz
    exact hz
theorem hdX0_forget : yX0_forget.cls = RX0 ∧ yX0_forget.cls ≠ "java/lang/invoke/MethodHandle" ∧ yX0_forget.cls ≠ "java/lang/invoke/VarHandle" ∧ (parseMethodDescriptor yX0_forget.desc).map (fun d => d.parameters.length) = some 0 := by decide +kernel
set_option maxHeartbeats 4000000 in
set_option maxRecDepth 100000 in
theorem c_X0_forget {l : Launch} {D : va_G} {ad : Nat → Nat} {cI cII cR : ClassId} (μ : Mm) {v : Mm} (hz : f_X0_forget μ = some v) : CT l D vwCl (tyC cI cII cR) 194 ad (EC ad cI cII cR) (ZC ad) yX0_forget wsX0_forget ({ frames := 0, cells := 0, slots := 0, locals := 0 } : Room) none [Vr 177] μ ((0 : Int), v) := by
  refine CT_of [(0, Vr 177)] ZC_st (by decide) rfl rfl (Nat.le_of_ble_eq_true rfl) rfl (fun G C => ?_)
  have i_X0 : ∀ w ∈ u_ws RX0 TX0 3, w ∈ wsX0_forget := by decide +kernel
  have f_26 : Cond.fieldLink (yX0_forget).cls 26 "SwanDeeds$Acts" "size" "I" ∈ wsX0_forget := by decide +kernel
  have hz := sat_of hz
  unfold f_X0_forget at hz
  refine q_aload_n C 0 rfl dX0_forget_0 rfl ?_
  refine q_iconst C dX0_forget_1 ⟨by decide, by decide⟩ ?_
  obtain ⟨m1, hm1, hz⟩ := sat_bnd hz
  refine q_put tO_X0 C hm1 (i := 2) i_X0 tyX0_ok nmX0 rfl rfl (by decide) rfl f_26 dX0_forget_2 ?_
  exact q_vret C dX0_forget_5 (congrArg (fun q => ((0 : Int), q)) (sat_eq hz))
theorem hdX5_river : yX5_river.cls = RX5 ∧ yX5_river.cls ≠ "java/lang/invoke/MethodHandle" ∧ yX5_river.cls ≠ "java/lang/invoke/VarHandle" ∧ (parseMethodDescriptor yX5_river.desc).map (fun d => d.parameters.length) = some 0 := by decide +kernel
set_option maxHeartbeats 4000000 in
set_option maxRecDepth 100000 in
theorem c_X5_river {l : Launch} {D : va_G} {ad : Nat → Nat} {cI cII cR : ClassId} (μ : Mm) {v : Int × Mm} (hz : f_X5_river μ = some v) : CT l D vwCl (tyC cI cII cR) 194 ad (EC ad cI cII cR) (ZC ad) yX5_river wsX5_river ({ frames := 6, cells := 0, slots := 0, locals := 131 } : Room) (some .int) [Vr 174] μ (v.1, v.2) := by
  refine CT_of [(0, Vr 174)] ZC_st (by decide) rfl rfl (Nat.le_of_ble_eq_true rfl) rfl (fun G C => ?_)
  have i_X2 : ∀ w ∈ u_ws RX2 TX2 11, w ∈ wsX5_river := by decide +kernel
  have i_X4 : ∀ w ∈ u_ws RX4 TX4 8, w ∈ wsX5_river := by decide +kernel
  have i_X5 : ∀ w ∈ u_ws RX5 TX5 9, w ∈ wsX5_river := by decide +kernel
  have f_19 : Cond.fieldLink (yX5_river).cls 19 "SwanDeeds" "tape" "LSwanDeeds$Tape;" ∈ wsX5_river := by decide +kernel
  have f_26 : Cond.fieldLink (yX5_river).cls 26 "SwanDeeds" "acts" "LSwanDeeds$Acts;" ∈ wsX5_river := by decide +kernel
  have f_40 : Cond.fieldLink (yX5_river).cls 40 "SwanDeeds" "now" "LSwanDeeds$River;" ∈ wsX5_river := by decide +kernel
  have f_44 : Cond.fieldLink (yX5_river).cls 44 "SwanDeeds" "trial" "LSwanDeeds$River;" ∈ wsX5_river := by decide +kernel
  have f_98 : Cond.fieldLink (yX5_river).cls 98 "SwanDeeds$Tape" "length" "I" ∈ wsX5_river := by decide +kernel
  have f_107 : Cond.fieldLink (yX5_river).cls 107 "SwanDeeds$Tape" "faultPlace" "I" ∈ wsX5_river := by decide +kernel
  have f_117 : Cond.fieldLink (yX5_river).cls 117 "SwanDeeds$River" "swanCount" "I" ∈ wsX5_river := by decide +kernel
  have hz := sat_of hz
  unfold f_X5_river at hz
  refine q_aload_n C 0 rfl dX5_river_0 rfl ?_
  refine q_getR tO_X5 C (i := 1) i_X5 rfl rfl (by decide) rfl f_19 dX5_river_1 ?_
  refine q_aload_n C 0 rfl dX5_river_4 rfl ?_
  refine q_getR tO_X5 C (i := 5) i_X5 rfl rfl (by decide) rfl f_44 dX5_river_5 ?_
  obtain ⟨z2, hz2, hz⟩ := sat_bind hz
  refine q_callVz ZC_st C [Vr (6 * 3)] [] (c_X4_readInto μ 3 (by decide) hz2) tO_X4 rfl gX5_river_X4_readInto rfl ⟨rfl, rfl⟩ hdX4_readInto ⟨by decide, by decide⟩ rfl (Nat.le_of_ble_eq_true rfl) dX5_river_8 rfl (fun hb1 _ => ?_)
  refine q_istore_n C [(1, Vi (z2.1)), (0, Vr 174)] rfl (by decide) dX5_river_11 rfl ?_
  refine q_aload_n C 1 rfl dX5_river_12 rfl ?_
  refine q_getR tO_X5 C (i := 1) i_X5 rfl rfl (by decide) rfl f_19 dX5_river_13 ?_
  refine q_iconst C dX5_river_16 ⟨by decide, by decide⟩ ?_
  obtain ⟨m3, hm3, hz⟩ := sat_bnd hz
  refine q_put tO_X4 C hm3 (i := 1) i_X4 tyX4_ok nmX4 rfl rfl (by decide) rfl f_98 dX5_river_17 ?_
  refine q_iload_n C 0 rfl dX5_river_20 rfl ?_
  refine q_if_ne C dX5_river_21 (tgt := 35) (by decide) (fun c4 => ?_) (fun c4 => ?_)
  · have hz := sat_f hz c4
    refine q_aload_n C 1 rfl dX5_river_35 rfl ?_
    refine q_getR tO_X5 C (i := 4) i_X5 rfl rfl (by decide) rfl f_40 dX5_river_36 ?_
    refine q_aload_n C 1 rfl dX5_river_39 rfl ?_
    refine q_getR tO_X5 C (i := 5) i_X5 rfl rfl (by decide) rfl f_44 dX5_river_40 ?_
    obtain ⟨z6, hz6, hz⟩ := sat_bind hz
    refine q_callVv ZC_st C [Vr (6 * 3)] [] (c_X2_become m3 0 (by decide) 3 (by decide) hz6) (tO_X2 (by decide)) rfl gX5_river_X2_become rfl ⟨rfl, rfl⟩ hdX2_become ⟨by decide, by decide⟩ rfl (Nat.le_of_ble_eq_true rfl) dX5_river_43 rfl (fun _ => ?_)
    refine q_aload_n C 1 rfl dX5_river_46 rfl ?_
    refine q_getR tO_X5 C (i := 2) i_X5 rfl rfl (by decide) rfl f_26 dX5_river_47 ?_
    obtain ⟨z8, hz8, hz⟩ := sat_bind hz
    refine q_callVv ZC_st C [] [] (c_X0_forget z6 hz8) tO_X0 rfl gX5_river_X0_forget rfl ⟨rfl, rfl⟩ hdX0_forget ⟨by decide, by decide⟩ rfl (Nat.le_of_ble_eq_true rfl) dX5_river_50 rfl (fun _ => ?_)
    refine q_aload_n C 1 rfl dX5_river_53 rfl ?_
    refine q_getR tO_X5 C (i := 4) i_X5 rfl rfl (by decide) rfl f_40 dX5_river_54 ?_
    refine q_get (tO_X2 (by decide)) C (i := 1) i_X2 rfl rfl (by decide) rfl f_117 dX5_river_57 ?_
    exact q_iret C dX5_river_60 (sat_eq hz)
  · have hz := sat_t hz c4
    refine q_ldc (v := (-1000100)) (x := (-1000100)) C (by decide +kernel) dX5_river_24 ⟨by decide +kernel, by decide, by decide⟩ ?_
    refine q_aload_n C 1 rfl dX5_river_26 rfl ?_
    refine q_getR tO_X5 C (i := 1) i_X5 rfl rfl (by decide) rfl f_19 dX5_river_27 ?_
    refine q_get tO_X4 C (i := 3) i_X4 rfl rfl (by decide) rfl f_107 dX5_river_30 ?_
    refine q_isub C dX5_river_33 ?_
    exact q_iret C dX5_river_34 (sat_eq hz)
theorem hdX5_fault : yX5_fault.cls = RX5 ∧ yX5_fault.cls ≠ "java/lang/invoke/MethodHandle" ∧ yX5_fault.cls ≠ "java/lang/invoke/VarHandle" ∧ (parseMethodDescriptor yX5_fault.desc).map (fun d => d.parameters.length) = some 0 := by decide +kernel
set_option maxHeartbeats 4000000 in
set_option maxRecDepth 100000 in
theorem c_X5_fault {l : Launch} {D : va_G} {ad : Nat → Nat} {cI cII cR : ClassId} (μ : Mm) : CT l D vwCl (tyC cI cII cR) 194 ad (EC ad cI cII cR) (ZC ad) yX5_fault wsX5_fault ({ frames := 0, cells := 0, slots := 0, locals := 0 } : Room) (some .int) [Vr 174] μ (f_X5_fault μ, μ) := by
  refine CT_of [(0, Vr 174)] ZC_st (by decide) rfl rfl (Nat.le_of_ble_eq_true rfl) rfl (fun G C => ?_)
  have i_X4 : ∀ w ∈ u_ws RX4 TX4 8, w ∈ wsX5_fault := by decide +kernel
  have i_X5 : ∀ w ∈ u_ws RX5 TX5 9, w ∈ wsX5_fault := by decide +kernel
  have f_19 : Cond.fieldLink (yX5_fault).cls 19 "SwanDeeds" "tape" "LSwanDeeds$Tape;" ∈ wsX5_fault := by decide +kernel
  have f_120 : Cond.fieldLink (yX5_fault).cls 120 "SwanDeeds$Tape" "faultNumber" "I" ∈ wsX5_fault := by decide +kernel
  generalize hz : f_X5_fault μ = v at C
  unfold f_X5_fault at hz
  refine q_aload_n C 0 rfl dX5_fault_0 rfl ?_
  refine q_getR tO_X5 C (i := 1) i_X5 rfl rfl (by decide) rfl f_19 dX5_fault_1 ?_
  refine q_get tO_X4 C (i := 2) i_X4 rfl rfl (by decide) rfl f_120 dX5_fault_4 ?_
  exact q_iret C dX5_fault_7 (congrArg (fun q => (q, μ)) hz)
theorem hdX0_takeBack : yX0_takeBack.cls = RX0 ∧ yX0_takeBack.cls ≠ "java/lang/invoke/MethodHandle" ∧ yX0_takeBack.cls ≠ "java/lang/invoke/VarHandle" ∧ (parseMethodDescriptor yX0_takeBack.desc).map (fun d => d.parameters.length) = some 1 := by decide +kernel
set_option maxHeartbeats 4000000 in
set_option maxRecDepth 100000 in
theorem c_X0_takeBack {l : Launch} {D : va_G} {ad : Nat → Nat} {cI cII cR : ClassId} (μ : Mm) (q : Nat) (hq : q < 29) {v : Int × Mm} (hz : f_X0_takeBack μ q = some v) : CT l D vwCl (tyC cI cII cR) 194 ad (EC ad cI cII cR) (ZC ad) yX0_takeBack wsX0_takeBack ({ frames := 1, cells := 0, slots := 0, locals := 22 } : Room) (some .boolean) [Vr 177, Vr (6 * q)] μ (v.1, v.2) := by
  refine CT_of [(0, Vr 177), (1, Vr (6 * q))] ZC_st (by decide) rfl rfl (Nat.le_of_ble_eq_true rfl) rfl (fun G C => ?_)
  have i_X0 : ∀ w ∈ u_ws RX0 TX0 3, w ∈ wsX0_takeBack := by decide +kernel
  have f_11 : Cond.fieldLink (yX0_takeBack).cls 11 "SwanDeeds$Acts" "kept" "[LSwanDeeds$River;" ∈ wsX0_takeBack := by decide +kernel
  have f_18 : Cond.fieldLink (yX0_takeBack).cls 18 "SwanDeeds$Acts" "next" "I" ∈ wsX0_takeBack := by decide +kernel
  have f_26 : Cond.fieldLink (yX0_takeBack).cls 26 "SwanDeeds$Acts" "size" "I" ∈ wsX0_takeBack := by decide +kernel
  have hz := sat_of hz
  unfold f_X0_takeBack at hz
  refine q_aload_n C 0 rfl dX0_takeBack_0 rfl ?_
  refine q_get tO_X0 C (i := 2) i_X0 rfl rfl (by decide) rfl f_26 dX0_takeBack_1 ?_
  refine q_if_ne C dX0_takeBack_4 (tgt := 9) (by decide) (fun c1 => ?_) (fun c1 => ?_)
  · have hz := sat_f hz c1
    refine q_aload_n C 0 rfl dX0_takeBack_9 rfl ?_
    refine q_aload_n C 0 rfl dX0_takeBack_10 rfl ?_
    refine q_get tO_X0 C (i := 1) i_X0 rfl rfl (by decide) rfl f_18 dX0_takeBack_11 ?_
    obtain ⟨v2, hv2, hz⟩ := sat_bnd hz
    have Jv2 : G μ 28 [(0, Vr 177), (1, Vr (6 * q))] [Vi v2, Vr 177] := by
      obtain ⟨m3, hm3, hz⟩ := sat_bnd hz
      refine q_put tO_X0 C hm3 (i := 1) i_X0 tyX0_ok nmX0 rfl rfl (by decide) rfl f_18 dX0_takeBack_28 ?_
      refine q_aload_n C 0 rfl dX0_takeBack_31 rfl ?_
      refine q_dup C dX0_takeBack_32 rfl ?_
      refine q_get tO_X0 C (i := 2) i_X0 rfl rfl (by decide) rfl f_26 dX0_takeBack_33 ?_
      refine q_iconst C dX0_takeBack_36 ⟨by decide, by decide⟩ ?_
      refine q_isub C dX0_takeBack_37 ?_
      obtain ⟨m4, hm4, hz⟩ := sat_bnd hz
      refine q_put tO_X0 C hm4 (i := 2) i_X0 tyX0_ok nmX0 rfl rfl (by decide) rfl f_26 dX0_takeBack_38 ?_
      refine q_aload_n C 1 rfl dX0_takeBack_41 rfl ?_
      refine q_aload_n C 0 rfl dX0_takeBack_42 rfl ?_
      refine q_getR tO_X0 C (i := 0) i_X0 rfl rfl (by decide) rfl f_11 dX0_takeBack_43 ?_
      refine q_aload_n C 0 rfl dX0_takeBack_46 rfl ?_
      refine q_get tO_X0 C (i := 1) i_X0 rfl rfl (by decide) rfl f_18 dX0_takeBack_47 ?_
      obtain ⟨c5, hz⟩ := sat_chk hz
      refine q_aald tQ_kept C 2 rfl rfl c5 (k' := 6 * (5 + (m4 31 0).toNat)) rfl dX0_takeBack_50 ?_
      obtain ⟨z7, hz7, hz⟩ := sat_bind hz
      refine q_callVv ZC_st C [Vr (6 * (5 + (m4 31 0).toNat))] [] (c_X2_become m4 q hq (5 + (m4 31 0).toNat) (show 5 + (m4 31 0).toNat < 29 by omega) hz7) (tO_X2 hq) rfl gX0_takeBack_X2_become rfl ⟨rfl, rfl⟩ hdX2_become ⟨by decide, by decide⟩ rfl (Nat.le_of_ble_eq_true rfl) dX0_takeBack_51 rfl (fun _ => ?_)
      refine q_iconst C dX0_takeBack_54 ⟨by decide, by decide⟩ ?_
      exact q_zret C (Or.inr rfl) dX0_takeBack_55 (sat_eq hz)
    have hz := hv2.symm
    refine q_if_le C dX0_takeBack_14 (tgt := 26) (by decide) (fun c8 => ?_) (fun c8 => ?_)
    · have hz := eq_t hz c8
      refine q_bipush C dX0_takeBack_26 ⟨rfl, by decide, by decide⟩ ?_
      have hz : _ = v2 := hz
      subst hz
      exact Jv2
    · have hz := eq_f hz c8
      refine q_aload_n C 0 rfl dX0_takeBack_17 rfl ?_
      refine q_get tO_X0 C (i := 1) i_X0 rfl rfl (by decide) rfl f_18 dX0_takeBack_18 ?_
      refine q_iconst C dX0_takeBack_21 ⟨by decide, by decide⟩ ?_
      refine q_isub C dX0_takeBack_22 ?_
      refine q_goto C dX0_takeBack_23 (tgt := 28) (by decide) ?_
      have hz : _ = v2 := hz
      subst hz
      exact Jv2
  · have hz := sat_t hz c1
    refine q_iconst C dX0_takeBack_7 ⟨by decide, by decide⟩ ?_
    exact q_zret C (Or.inl rfl) dX0_takeBack_8 (sat_eq hz)
theorem hdX5_undo : yX5_undo.cls = RX5 ∧ yX5_undo.cls ≠ "java/lang/invoke/MethodHandle" ∧ yX5_undo.cls ≠ "java/lang/invoke/VarHandle" ∧ (parseMethodDescriptor yX5_undo.desc).map (fun d => d.parameters.length) = some 0 := by decide +kernel
set_option maxHeartbeats 4000000 in
set_option maxRecDepth 100000 in
theorem c_X5_undo {l : Launch} {D : va_G} {ad : Nat → Nat} {cI cII cR : ClassId} (μ : Mm) {v : Int × Mm} (hz : f_X5_undo μ = some v) : CT l D vwCl (tyC cI cII cR) 194 ad (EC ad cI cII cR) (ZC ad) yX5_undo wsX5_undo ({ frames := 2, cells := 0, slots := 0, locals := 43 } : Room) (some .int) [Vr 174] μ (v.1, v.2) := by
  refine CT_of [(0, Vr 174)] ZC_st (by decide) rfl rfl (Nat.le_of_ble_eq_true rfl) rfl (fun G C => ?_)
  have i_X0 : ∀ w ∈ u_ws RX0 TX0 3, w ∈ wsX5_undo := by decide +kernel
  have i_X5 : ∀ w ∈ u_ws RX5 TX5 9, w ∈ wsX5_undo := by decide +kernel
  have f_26 : Cond.fieldLink (yX5_undo).cls 26 "SwanDeeds" "acts" "LSwanDeeds$Acts;" ∈ wsX5_undo := by decide +kernel
  have f_40 : Cond.fieldLink (yX5_undo).cls 40 "SwanDeeds" "now" "LSwanDeeds$River;" ∈ wsX5_undo := by decide +kernel
  have f_126 : Cond.fieldLink (yX5_undo).cls 126 "SwanDeeds$Acts" "size" "I" ∈ wsX5_undo := by decide +kernel
  have hz := sat_of hz
  unfold f_X5_undo at hz
  refine q_aload_n C 0 rfl dX5_undo_0 rfl ?_
  refine q_getR tO_X5 C (i := 2) i_X5 rfl rfl (by decide) rfl f_26 dX5_undo_1 ?_
  refine q_aload_n C 0 rfl dX5_undo_4 rfl ?_
  refine q_getR tO_X5 C (i := 4) i_X5 rfl rfl (by decide) rfl f_40 dX5_undo_5 ?_
  obtain ⟨z2, hz2, hz⟩ := sat_bind hz
  refine q_callVz ZC_st C [Vr (6 * 0)] [] (c_X0_takeBack μ 0 (by decide) hz2) tO_X0 rfl gX5_undo_X0_takeBack rfl ⟨rfl, rfl⟩ hdX0_takeBack ⟨by decide, by decide⟩ rfl (Nat.le_of_ble_eq_true rfl) dX5_undo_8 rfl (fun hb1 _ => ?_)
  refine q_if_eq C dX5_undo_11 (tgt := 24) (by decide) (fun c3 => ?_) (fun c3 => ?_)
  · have hz := sat_t hz c3
    refine q_ldc (v := (-1000002)) (x := (-1000002)) C (by decide +kernel) dX5_undo_24 ⟨by decide +kernel, by decide, by decide⟩ ?_
    exact q_iret C dX5_undo_26 (sat_eq hz)
  · have hz := sat_f hz c3
    refine q_aload_n C 0 rfl dX5_undo_14 rfl ?_
    refine q_getR tO_X5 C (i := 2) i_X5 rfl rfl (by decide) rfl f_26 dX5_undo_15 ?_
    refine q_get tO_X0 C (i := 2) i_X0 rfl rfl (by decide) rfl f_126 dX5_undo_18 ?_
    refine q_goto C dX5_undo_21 (tgt := 26) (by decide) ?_
    exact q_iret C dX5_undo_26 (sat_eq hz)
theorem hdX5_hasRiver : yX5_hasRiver.cls = RX5 ∧ yX5_hasRiver.cls ≠ "java/lang/invoke/MethodHandle" ∧ yX5_hasRiver.cls ≠ "java/lang/invoke/VarHandle" ∧ (parseMethodDescriptor yX5_hasRiver.desc).map (fun d => d.parameters.length) = some 0 := by decide +kernel
set_option maxHeartbeats 4000000 in
set_option maxRecDepth 100000 in
theorem c_X5_hasRiver {l : Launch} {D : va_G} {ad : Nat → Nat} {cI cII cR : ClassId} (μ : Mm) : CT l D vwCl (tyC cI cII cR) 194 ad (EC ad cI cII cR) (ZC ad) yX5_hasRiver wsX5_hasRiver ({ frames := 0, cells := 0, slots := 0, locals := 0 } : Room) (some .boolean) [Vr 174] μ (f_X5_hasRiver μ, μ) := by
  refine CT_of [(0, Vr 174)] ZC_st (by decide) rfl rfl (Nat.le_of_ble_eq_true rfl) rfl (fun G C => ?_)
  have i_X2 : ∀ w ∈ u_ws RX2 TX2 11, w ∈ wsX5_hasRiver := by decide +kernel
  have i_X5 : ∀ w ∈ u_ws RX5 TX5 9, w ∈ wsX5_hasRiver := by decide +kernel
  have f_40 : Cond.fieldLink (yX5_hasRiver).cls 40 "SwanDeeds" "now" "LSwanDeeds$River;" ∈ wsX5_hasRiver := by decide +kernel
  have f_207 : Cond.fieldLink (yX5_hasRiver).cls 207 "SwanDeeds$River" "lawnCount" "I" ∈ wsX5_hasRiver := by decide +kernel
  generalize hz : f_X5_hasRiver μ = v at C
  unfold f_X5_hasRiver at hz
  refine q_aload_n C 0 rfl dX5_hasRiver_0 rfl ?_
  refine q_getR tO_X5 C (i := 4) i_X5 rfl rfl (by decide) rfl f_40 dX5_hasRiver_1 ?_
  refine q_get (tO_X2 (by decide)) C (i := 0) i_X2 rfl rfl (by decide) rfl f_207 dX5_hasRiver_4 ?_
  refine q_if_le C dX5_hasRiver_7 (tgt := 14) (by decide) (fun c1 => ?_) (fun c1 => ?_)
  · have hz := eq_t hz c1
    refine q_iconst C dX5_hasRiver_14 ⟨by decide, by decide⟩ ?_
    exact q_zret C (Or.inl rfl) dX5_hasRiver_15 (congrArg (fun q => (q, μ)) hz)
  · have hz := eq_f hz c1
    refine q_iconst C dX5_hasRiver_10 ⟨by decide, by decide⟩ ?_
    refine q_goto C dX5_hasRiver_11 (tgt := 15) (by decide) ?_
    exact q_zret C (Or.inr rfl) dX5_hasRiver_15 (congrArg (fun q => (q, μ)) hz)
theorem hdX0_keep : yX0_keep.cls = RX0 ∧ yX0_keep.cls ≠ "java/lang/invoke/MethodHandle" ∧ yX0_keep.cls ≠ "java/lang/invoke/VarHandle" ∧ (parseMethodDescriptor yX0_keep.desc).map (fun d => d.parameters.length) = some 1 := by decide +kernel
set_option maxHeartbeats 4000000 in
set_option maxRecDepth 100000 in
theorem c_X0_keep {l : Launch} {D : va_G} {ad : Nat → Nat} {cI cII cR : ClassId} (μ : Mm) (q : Nat) (hq : q < 29) {v : Mm} (hz : f_X0_keep μ q = some v) : CT l D vwCl (tyC cI cII cR) 194 ad (EC ad cI cII cR) (ZC ad) yX0_keep wsX0_keep ({ frames := 1, cells := 0, slots := 0, locals := 22 } : Room) none [Vr 177, Vr (6 * q)] μ ((0 : Int), v) := by
  refine CT_of [(0, Vr 177), (1, Vr (6 * q))] ZC_st (by decide) rfl rfl (Nat.le_of_ble_eq_true rfl) rfl (fun G C => ?_)
  have i_X0 : ∀ w ∈ u_ws RX0 TX0 3, w ∈ wsX0_keep := by decide +kernel
  have f_11 : Cond.fieldLink (yX0_keep).cls 11 "SwanDeeds$Acts" "kept" "[LSwanDeeds$River;" ∈ wsX0_keep := by decide +kernel
  have f_18 : Cond.fieldLink (yX0_keep).cls 18 "SwanDeeds$Acts" "next" "I" ∈ wsX0_keep := by decide +kernel
  have f_26 : Cond.fieldLink (yX0_keep).cls 26 "SwanDeeds$Acts" "size" "I" ∈ wsX0_keep := by decide +kernel
  have hz := sat_of hz
  unfold f_X0_keep at hz
  refine q_aload_n C 0 rfl dX0_keep_0 rfl ?_
  refine q_getR tO_X0 C (i := 0) i_X0 rfl rfl (by decide) rfl f_11 dX0_keep_1 ?_
  refine q_aload_n C 0 rfl dX0_keep_4 rfl ?_
  refine q_get tO_X0 C (i := 1) i_X0 rfl rfl (by decide) rfl f_18 dX0_keep_5 ?_
  obtain ⟨c1, hz⟩ := sat_chk hz
  refine q_aald tQ_kept C 2 rfl rfl c1 (k' := 6 * (5 + (μ 31 0).toNat)) rfl dX0_keep_8 ?_
  refine q_aload_n C 1 rfl dX0_keep_9 rfl ?_
  obtain ⟨z3, hz3, hz⟩ := sat_bind hz
  refine q_callVv ZC_st C [Vr (6 * q)] [] (c_X2_become μ (5 + (μ 31 0).toNat) (show 5 + (μ 31 0).toNat < 29 by omega) q hq hz3) (tO_X2 (show 5 + (μ 31 0).toNat < 29 by omega)) rfl gX0_keep_X2_become rfl ⟨rfl, rfl⟩ hdX2_become ⟨by decide, by decide⟩ rfl (Nat.le_of_ble_eq_true rfl) dX0_keep_10 rfl (fun _ => ?_)
  refine q_aload_n C 0 rfl dX0_keep_13 rfl ?_
  refine q_aload_n C 0 rfl dX0_keep_14 rfl ?_
  refine q_get tO_X0 C (i := 1) i_X0 rfl rfl (by decide) rfl f_18 dX0_keep_15 ?_
  refine q_bipush C dX0_keep_18 ⟨rfl, by decide, by decide⟩ ?_
  obtain ⟨v4, hv4, hz⟩ := sat_bnd hz
  have Jv4 : G z3 33 [(0, Vr 177)] [Vi v4, Vr 177] := by
    obtain ⟨m5, hm5, hz⟩ := sat_bnd hz
    refine q_put tO_X0 C hm5 (i := 1) i_X0 tyX0_ok nmX0 rfl rfl (by decide) rfl f_18 dX0_keep_33 ?_
    refine q_aload_n C 0 rfl dX0_keep_36 rfl ?_
    refine q_bipush C dX0_keep_37 ⟨rfl, by decide, by decide⟩ ?_
    refine q_aload_n C 0 rfl dX0_keep_39 rfl ?_
    refine q_get tO_X0 C (i := 2) i_X0 rfl rfl (by decide) rfl f_26 dX0_keep_40 ?_
    refine q_iconst C dX0_keep_43 ⟨by decide, by decide⟩ ?_
    refine q_iadd C dX0_keep_44 ?_
    refine q_mmin C (v := f_J9_min_7cf53 m5 24 (w3 ((m5 31 1) + 1))) rfl (by decide +kernel) (by decide +kernel) (by decide +kernel) (by decide +kernel) ⟨by decide, Nat.le_of_ble_eq_true rfl⟩ dX0_keep_45 ?_
    obtain ⟨m6, hm6, hz⟩ := sat_bnd hz
    refine q_put tO_X0 C hm6 (i := 2) i_X0 tyX0_ok nmX0 rfl rfl (by decide) rfl f_26 dX0_keep_48 ?_
    exact q_vret C dX0_keep_51 (congrArg (fun q => ((0 : Int), q)) (sat_eq hz))
  have hz := hv4.symm
  refine q_icmp_ge C dX0_keep_20 (tgt := 32) (by decide) (fun c7 => ?_) (fun c7 => ?_)
  · have hz := eq_t hz c7
    refine q_iconst C dX0_keep_32 ⟨by decide, by decide⟩ ?_
    have hz : _ = v4 := hz
    refine q_sub C [0] [(0, Vr 177)] rfl ?_
    subst hz
    exact Jv4
  · have hz := eq_f hz c7
    refine q_aload_n C 0 rfl dX0_keep_23 rfl ?_
    refine q_get tO_X0 C (i := 1) i_X0 rfl rfl (by decide) rfl f_18 dX0_keep_24 ?_
    refine q_iconst C dX0_keep_27 ⟨by decide, by decide⟩ ?_
    refine q_iadd C dX0_keep_28 ?_
    refine q_goto C dX0_keep_29 (tgt := 33) (by decide) ?_
    have hz : _ = v4 := hz
    refine q_sub C [0] [(0, Vr 177)] rfl ?_
    subst hz
    exact Jv4
theorem hdX2_beside : yX2_beside.cls = RX2 ∧ yX2_beside.cls ≠ "java/lang/invoke/MethodHandle" ∧ yX2_beside.cls ≠ "java/lang/invoke/VarHandle" ∧ (parseMethodDescriptor yX2_beside.desc).map (fun d => d.parameters.length) = some 2 := by decide +kernel
set_option maxHeartbeats 4000000 in
set_option maxRecDepth 100000 in
theorem c_X2_beside {l : Launch} {D : va_G} {ad : Nat → Nat} {cI cII cR : ClassId} (μ : Mm) (r : Nat) (hr : r < 29) (p1 p2 : Int) : CT l D vwCl (tyC cI cII cR) 194 ad (EC ad cI cII cR) (ZC ad) yX2_beside wsX2_beside ({ frames := 0, cells := 0, slots := 0, locals := 0 } : Room) (some .int) [Vr (6 * r), Vi p1, Vi p2] μ (f_X2_beside μ r p1 p2, μ) := by
  refine CT_of [(0, Vr (6 * r)), (1, Vi p1), (2, Vi p2)] ZC_st (by decide) rfl rfl (Nat.le_of_ble_eq_true rfl) rfl (fun G C => ?_)
  have i_X2 : ∀ w ∈ u_ws RX2 TX2 11, w ∈ wsX2_beside := by decide +kernel
  have f_27 : Cond.fieldLink (yX2_beside).cls 27 "SwanDeeds$River" "lawnCount" "I" ∈ wsX2_beside := by decide +kernel
  have f_37 : Cond.fieldLink (yX2_beside).cls 37 "SwanDeeds$River" "weirBits" "I" ∈ wsX2_beside := by decide +kernel
  generalize hz : f_X2_beside μ r p1 p2 = v at C
  unfold f_X2_beside at hz
  refine q_iload_n C 1 rfl dX2_beside_0 rfl ?_
  refine q_iload_n C 2 rfl dX2_beside_1 rfl ?_
  refine q_iadd C dX2_beside_2 ?_
  refine q_istore_n C [(3, Vi (w3 (p1 + p2))), (0, Vr (6 * r)), (1, Vi p1), (2, Vi p2)] rfl (by decide) dX2_beside_3 rfl ?_
  refine q_iload_n C 0 rfl dX2_beside_4 rfl ?_
  refine q_if_lt C dX2_beside_5 (tgt := 16) (by decide) (fun c1 => ?_) (fun c1 => ?_)
  · have hz := eq_t hz c1
    refine q_iload_n C 2 rfl dX2_beside_16 rfl ?_
    exact q_iret C dX2_beside_17 (congrArg (fun q => (q, μ)) hz)
  · have hz := eq_f hz c1
    refine q_iload_n C 0 rfl dX2_beside_8 rfl ?_
    refine q_aload_n C 1 rfl dX2_beside_9 rfl ?_
    refine q_get (tO_X2 hr) C (i := 0) i_X2 rfl rfl (by decide) rfl f_27 dX2_beside_10 ?_
    refine q_icmp_lt C dX2_beside_13 (tgt := 18) (by decide) (fun c2 => ?_) (fun c2 => ?_)
    · have hz := eq_t hz c2
      refine q_iload_n C 3 rfl dX2_beside_18 rfl ?_
      obtain ⟨v3, hv3, hz⟩ := eq_bnd hz
      have Jv3 : G μ 27 [(0, Vr (6 * r)), (1, Vi p1), (3, Vi (w3 (p1 + p2)))] [Vi v3] := by
        refine q_istore C [(4, Vi v3), (0, Vr (6 * r)), (1, Vi p1), (3, Vi (w3 (p1 + p2)))] rfl (by decide) dX2_beside_27 ?_
        refine q_aload_n C 1 rfl dX2_beside_29 rfl ?_
        refine q_get (tO_X2 hr) C (i := 3) i_X2 rfl rfl (by decide) rfl f_37 dX2_beside_30 ?_
        refine q_iload C 0 rfl dX2_beside_33 ?_
        refine q_ishr C dX2_beside_35 ?_
        refine q_iconst C dX2_beside_36 ⟨by decide, by decide⟩ ?_
        refine q_iand C dX2_beside_37 ?_
        refine q_iconst C dX2_beside_38 ⟨by decide, by decide⟩ ?_
        refine q_icmp_ne C dX2_beside_39 (tgt := 46) (by decide) (fun c4 => ?_) (fun c4 => ?_)
        · have hz := eq_f hz c4
          refine q_iload_n C 3 rfl dX2_beside_46 rfl ?_
          exact q_iret C dX2_beside_47 (congrArg (fun q => (q, μ)) hz)
        · have hz := eq_t hz c4
          refine q_iload_n C 2 rfl dX2_beside_42 rfl ?_
          refine q_goto C dX2_beside_43 (tgt := 47) (by decide) ?_
          exact q_iret C dX2_beside_47 (congrArg (fun q => (q, μ)) hz)
      have hz := hv3.symm
      refine q_if_ge C dX2_beside_19 (tgt := 26) (by decide) (fun c5 => ?_) (fun c5 => ?_)
      · have hz := eq_t hz c5
        refine q_iload_n C 2 rfl dX2_beside_26 rfl ?_
        have hz : _ = v3 := hz
        refine q_sub C [1, 2, 0] [(0, Vr (6 * r)), (1, Vi p1), (3, Vi (w3 (p1 + p2)))] rfl ?_
        subst hz
        exact Jv3
      · have hz := eq_f hz c5
        refine q_iload_n C 0 rfl dX2_beside_22 rfl ?_
        refine q_goto C dX2_beside_23 (tgt := 27) (by decide) ?_
        have hz : _ = v3 := hz
        refine q_sub C [1, 2, 0] [(0, Vr (6 * r)), (1, Vi p1), (3, Vi (w3 (p1 + p2)))] rfl ?_
        subst hz
        exact Jv3
    · have hz := eq_f hz c2
      refine q_iload_n C 2 rfl dX2_beside_16 rfl ?_
      exact q_iret C dX2_beside_17 (congrArg (fun q => (q, μ)) hz)
theorem hdX2_crumbsSeen : yX2_crumbsSeen.cls = RX2 ∧ yX2_crumbsSeen.cls ≠ "java/lang/invoke/MethodHandle" ∧ yX2_crumbsSeen.cls ≠ "java/lang/invoke/VarHandle" ∧ (parseMethodDescriptor yX2_crumbsSeen.desc).map (fun d => d.parameters.length) = some 2 := by decide +kernel
set_option maxHeartbeats 4000000 in
set_option maxRecDepth 100000 in
theorem c_X2_crumbsSeen {l : Launch} {D : va_G} {ad : Nat → Nat} {cI cII cR : ClassId} (μ : Mm) (r : Nat) (hr : r < 29) (p1 p2 : Int) {v : Int} (hz : f_X2_crumbsSeen μ r p1 p2 = some v) : CT l D vwCl (tyC cI cII cR) 194 ad (EC ad cI cII cR) (ZC ad) yX2_crumbsSeen wsX2_crumbsSeen ({ frames := 0, cells := 0, slots := 0, locals := 0 } : Room) (some .int) [Vr (6 * r), Vi p1, Vi p2] μ (v, μ) := by
  refine CT_of [(0, Vr (6 * r)), (1, Vi p1), (2, Vi p2)] ZC_st (by decide) rfl rfl (Nat.le_of_ble_eq_true rfl) rfl (fun G C => ?_)
  have i_X2 : ∀ w ∈ u_ws RX2 TX2 11, w ∈ wsX2_crumbsSeen := by decide +kernel
  have f_9 : Cond.fieldLink (yX2_crumbsSeen).cls 9 "SwanDeeds$River" "crumbs" "[I" ∈ wsX2_crumbsSeen := by decide +kernel
  have hz := sat_of hz
  unfold f_X2_crumbsSeen at hz
  refine q_iload_n C 2 rfl dX2_crumbsSeen_0 rfl ?_
  refine q_iload_n C 1 rfl dX2_crumbsSeen_1 rfl ?_
  refine q_ishr C dX2_crumbsSeen_2 ?_
  refine q_iconst C dX2_crumbsSeen_3 ⟨by decide, by decide⟩ ?_
  refine q_iand C dX2_crumbsSeen_4 ?_
  refine q_iconst C dX2_crumbsSeen_5 ⟨by decide, by decide⟩ ?_
  refine q_icmp_ne C dX2_crumbsSeen_6 (tgt := 13) (by decide) (fun c1 => ?_) (fun c1 => ?_)
  · have hz := sat_f hz c1
    refine q_aload_n C 0 rfl dX2_crumbsSeen_13 rfl ?_
    refine q_getR (tO_X2 hr) C (i := 4) i_X2 rfl rfl (by decide) rfl f_9 dX2_crumbsSeen_14 ?_
    refine q_iload_n C 1 rfl dX2_crumbsSeen_17 rfl ?_
    obtain ⟨c2, hz⟩ := sat_chk hz
    refine q_iald (tA_crumbs hr) C 0 rfl c2 dX2_crumbsSeen_18 ?_
    exact q_iret C dX2_crumbsSeen_19 (congrArg (fun q => (q, μ)) (sat_eq hz))
  · have hz := sat_t hz c1
    refine q_iconst C dX2_crumbsSeen_9 ⟨by decide, by decide⟩ ?_
    refine q_goto C dX2_crumbsSeen_10 (tgt := 19) (by decide) ?_
    exact q_iret C dX2_crumbsSeen_19 (congrArg (fun q => (q, μ)) (sat_eq hz))
