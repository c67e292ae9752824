theorem hdX5_suppose : yX5_suppose.cls = RX5 ∧ yX5_suppose.cls ≠ "java/lang/invoke/MethodHandle" ∧ yX5_suppose.cls ≠ "java/lang/invoke/VarHandle" ∧ (parseMethodDescriptor yX5_suppose.desc).map (fun d => d.parameters.length) = some 3 := by decide +kernel
set_option maxHeartbeats 4000000 in
set_option maxRecDepth 100000 in
theorem c_X5_suppose {l : Launch} {D : va_G} {ad : Nat → Nat} {cI cII cR : ClassId} (μ : Mm) (p1 p2 p3 : Int) {v : Mm} (hz : f_X5_suppose μ p1 p2 p3 = some v) : CT l D vwCl (tyC cI cII cR) 194 ad (EC ad cI cII cR) (ZC ad) yX5_suppose wsX5_suppose ({ frames := 1, cells := 0, slots := 0, locals := 22 } : Room) none [Vr 174, Vi p1, Vi p2, Vi p3] μ ((0 : Int), v) := by
  refine CT_of [(0, Vr 174), (1, Vi p1), (2, Vi p2), (3, Vi p3)] ZC_st (by decide) rfl rfl (Nat.le_of_ble_eq_true rfl) rfl (fun G C => ?_)
  have i_X2 : ∀ w ∈ u_ws RX2 TX2 11, w ∈ wsX5_suppose := by decide +kernel
  have i_X5 : ∀ w ∈ u_ws RX5 TX5 9, w ∈ wsX5_suppose := by decide +kernel
  have f_40 : Cond.fieldLink (yX5_suppose).cls 40 "SwanDeeds" "now" "LSwanDeeds$River;" ∈ wsX5_suppose := by decide +kernel
  have f_44 : Cond.fieldLink (yX5_suppose).cls 44 "SwanDeeds" "trial" "LSwanDeeds$River;" ∈ wsX5_suppose := by decide +kernel
  have f_167 : Cond.fieldLink (yX5_suppose).cls 167 "SwanDeeds$River" "places" "[I" ∈ wsX5_suppose := by decide +kernel
  have f_174 : Cond.fieldLink (yX5_suppose).cls 174 "SwanDeeds$River" "weights" "[I" ∈ wsX5_suppose := by decide +kernel
  have f_266 : Cond.fieldLink (yX5_suppose).cls 266 "SwanDeeds$River" "kinds" "[I" ∈ wsX5_suppose := by decide +kernel
  have hz := sat_of hz
  unfold f_X5_suppose at hz
  refine q_aload_n C 0 rfl dX5_suppose_0 rfl ?_
  refine q_getR tO_X5 C (i := 5) i_X5 rfl rfl (by decide) rfl f_44 dX5_suppose_1 ?_
  refine q_aload_n C 0 rfl dX5_suppose_4 rfl ?_
  refine q_getR tO_X5 C (i := 4) i_X5 rfl rfl (by decide) rfl f_40 dX5_suppose_5 ?_
  obtain ⟨z2, hz2, hz⟩ := sat_bind hz
  refine q_callVv ZC_st C [Vr (6 * 0)] [] (c_X2_become μ 3 (by decide) 0 (by decide) hz2) (tO_X2 (by decide)) rfl gX5_suppose_X2_become rfl ⟨rfl, rfl⟩ hdX2_become ⟨by decide, by decide⟩ rfl (Nat.le_of_ble_eq_true rfl) dX5_suppose_8 rfl (fun _ => ?_)
  refine q_iload_n C 2 rfl dX5_suppose_11 rfl ?_
  refine sat_ite hz (fun c3 hz => ?_) (fun c3 hz => ?_)
  · have c3 : p2 = 0 := c3
    refine q_lookup C dX5_suppose_12 rfl (off := 28) (by rw [c3]; rfl) (tgt := 40) (by decide) ?_
    refine q_aload_n C 0 rfl dX5_suppose_40 rfl ?_
    refine q_getR tO_X5 C (i := 5) i_X5 rfl rfl (by decide) rfl f_44 dX5_suppose_41 ?_
    refine q_getR (tO_X2 (by decide)) C (i := 5) i_X2 rfl rfl (by decide) rfl f_266 dX5_suppose_44 ?_
    refine q_iload_n C 1 rfl dX5_suppose_47 rfl ?_
    refine q_iload_n C 3 rfl dX5_suppose_48 rfl ?_
    obtain ⟨c4, hz⟩ := sat_chk hz
    obtain ⟨m5, hm5, hz⟩ := sat_bnd hz
    refine q_iast (tA_kinds (by decide)) C 0 rfl c4 hm5 dX5_suppose_49 ?_
    refine q_goto C dX5_suppose_50 (tgt := 76) (by decide) ?_
    exact q_vret C dX5_suppose_76 (congrArg (fun q => ((0 : Int), q)) (sat_eq hz))
  · have c3 : ¬ p2 = 0 := c3
    refine sat_ite hz (fun c6 hz => ?_) (fun c6 hz => ?_)
    · have c6 : p2 = 1 := c6
      refine q_lookup C dX5_suppose_12 rfl (off := 41) (by rw [c6]; rfl) (tgt := 53) (by decide) ?_
      refine q_aload_n C 0 rfl dX5_suppose_53 rfl ?_
      refine q_getR tO_X5 C (i := 5) i_X5 rfl rfl (by decide) rfl f_44 dX5_suppose_54 ?_
      refine q_getR (tO_X2 (by decide)) C (i := 7) i_X2 rfl rfl (by decide) rfl f_167 dX5_suppose_57 ?_
      refine q_iload_n C 1 rfl dX5_suppose_60 rfl ?_
      refine q_iload_n C 3 rfl dX5_suppose_61 rfl ?_
      obtain ⟨c7, hz⟩ := sat_chk hz
      obtain ⟨m8, hm8, hz⟩ := sat_bnd hz
      refine q_iast (tA_places (by decide)) C 0 rfl c7 hm8 dX5_suppose_62 ?_
      refine q_goto C dX5_suppose_63 (tgt := 76) (by decide) ?_
      exact q_vret C dX5_suppose_76 (congrArg (fun q => ((0 : Int), q)) (sat_eq hz))
    · have c6 : ¬ p2 = 1 := c6
      refine q_lookup C dX5_suppose_12 rfl (off := 54) ((osw c3).trans ((osw c6).trans (rfl))) (tgt := 66) (by decide) ?_
      refine q_aload_n C 0 rfl dX5_suppose_66 rfl ?_
      refine q_getR tO_X5 C (i := 5) i_X5 rfl rfl (by decide) rfl f_44 dX5_suppose_67 ?_
      refine q_getR (tO_X2 (by decide)) C (i := 8) i_X2 rfl rfl (by decide) rfl f_174 dX5_suppose_70 ?_
      refine q_iload_n C 1 rfl dX5_suppose_73 rfl ?_
      refine q_iload_n C 3 rfl dX5_suppose_74 rfl ?_
      obtain ⟨c9, hz⟩ := sat_chk hz
      obtain ⟨m10, hm10, hz⟩ := sat_bnd hz
      refine q_iast (tA_weights (by decide)) C 0 rfl c9 hm10 dX5_suppose_75 ?_
      exact q_vret C dX5_suppose_76 (congrArg (fun q => ((0 : Int), q)) (sat_eq hz))
theorem hdX3_itemAt : yX3_itemAt.cls = RX3 ∧ yX3_itemAt.cls ≠ "java/lang/invoke/MethodHandle" ∧ yX3_itemAt.cls ≠ "java/lang/invoke/VarHandle" ∧ (parseMethodDescriptor yX3_itemAt.desc).map (fun d => d.parameters.length) = some 2 := by decide +kernel
set_option maxHeartbeats 4000000 in
set_option maxRecDepth 100000 in
theorem c_X3_itemAt {l : Launch} {D : va_G} {ad : Nat → Nat} {cI cII cR : ClassId} (μ : Mm) (p1 p2 : Int) {v : Int} (hz : f_X3_itemAt μ p1 p2 = some v) : CT l D vwCl (tyC cI cII cR) 194 ad (EC ad cI cII cR) (ZC ad) yX3_itemAt wsX3_itemAt ({ frames := 0, cells := 0, slots := 0, locals := 0 } : Room) (some .int) [Vr 175, Vi p1, Vi p2] μ (v, μ) := by
  refine CT_of [(0, Vr 175), (1, Vi p1), (2, Vi p2)] ZC_st (by decide) rfl rfl (Nat.le_of_ble_eq_true rfl) rfl (fun G C => ?_)
  have i_X3 : ∀ w ∈ u_ws RX3 TX3 3, w ∈ wsX3_itemAt := by decide +kernel
  have f_11 : Cond.fieldLink (yX3_itemAt).cls 11 "SwanDeeds$Rows" "items" "[[I" ∈ wsX3_itemAt := by decide +kernel
  have hz := sat_of hz
  unfold f_X3_itemAt at hz
  refine q_aload_n C 0 rfl dX3_itemAt_0 rfl ?_
  refine q_getR tO_X3 C (i := 0) i_X3 rfl rfl (by decide) rfl f_11 dX3_itemAt_1 ?_
  refine q_iload_n C 1 rfl dX3_itemAt_4 rfl ?_
  obtain ⟨c1, hz⟩ := sat_chk hz
  refine q_aald tQ_items C 1 rfl rfl c1 (k' := 186 + p1.toNat) rfl dX3_itemAt_5 ?_
  refine q_iload_n C 2 rfl dX3_itemAt_6 rfl ?_
  obtain ⟨c2, hz⟩ := sat_chk hz
  refine q_iald (tA_items (show p1.toNat < 8 by omega)) C 0 rfl c2 dX3_itemAt_7 ?_
  exact q_iret C dX3_itemAt_8 (congrArg (fun q => (q, μ)) (sat_eq hz))
theorem hdX5_trialFits : yX5_trialFits.cls = RX5 ∧ yX5_trialFits.cls ≠ "java/lang/invoke/MethodHandle" ∧ yX5_trialFits.cls ≠ "java/lang/invoke/VarHandle" ∧ (parseMethodDescriptor yX5_trialFits.desc).map (fun d => d.parameters.length) = some 4 := by decide +kernel
set_option maxHeartbeats 4000000 in
set_option maxRecDepth 100000 in
theorem c_X5_trialFits {l : Launch} {D : va_G} {ad : Nat → Nat} {cI cII cR : ClassId} (μ : Mm) (p1 p2 p3 p4 : Int) {v : Int × Mm} (hz : f_X5_trialFits μ p1 p2 p3 p4 = some v) : CT l D vwCl (tyC cI cII cR) 194 ad (EC ad cI cII cR) (ZC ad) yX5_trialFits wsX5_trialFits ({ frames := 4, cells := 0, slots := 0, locals := 96 } : Room) (some .boolean) [Vr 174, Vi p1, Vi p2, Vi p3, Vi p4] μ (v.1, v.2) := by
  refine CT_of [(0, Vr 174), (1, Vi p1), (2, Vi p2), (3, Vi p3), (4, Vi p4)] ZC_st (by decide) rfl rfl (Nat.le_of_ble_eq_true rfl) rfl (fun G C => ?_)
  have i_X2 : ∀ w ∈ u_ws RX2 TX2 11, w ∈ wsX5_trialFits := by decide +kernel
  have i_X5 : ∀ w ∈ u_ws RX5 TX5 9, w ∈ wsX5_trialFits := by decide +kernel
  have f_10 : Cond.fieldLink (yX5_trialFits).cls 10 "SwanDeeds" "rows" "LSwanDeeds$Rows;" ∈ wsX5_trialFits := by decide +kernel
  have f_44 : Cond.fieldLink (yX5_trialFits).cls 44 "SwanDeeds" "trial" "LSwanDeeds$River;" ∈ wsX5_trialFits := by decide +kernel
  have f_167 : Cond.fieldLink (yX5_trialFits).cls 167 "SwanDeeds$River" "places" "[I" ∈ wsX5_trialFits := by decide +kernel
  have hz := sat_of hz
  unfold f_X5_trialFits at hz
  refine q_iconst C dX5_trialFits_0 ⟨by decide, by decide⟩ ?_
  refine q_istore C [(5, Vi 0), (0, Vr 174), (1, Vi p1), (2, Vi p2), (3, Vi p3), (4, Vi p4)] rfl (by decide) dX5_trialFits_1 ?_
  refine q_sub C [1, 2, 3, 4, 5, 0] [(0, Vr 174), (1, Vi p1), (2, Vi p2), (3, Vi p3), (4, Vi p4), (5, Vi 0)] rfl ?_
  refine loop_go (fun x1 => G x1.2 3 [(0, Vr 174), (1, Vi p1), (2, Vi p2), (3, Vi p3), (4, Vi p4), (5, Vi (x1.1))] []) (sat_bind2 hz) (fun h => h) (fun x1 hz => ?_)
  refine q_iload C 5 rfl dX5_trialFits_3 ?_
  refine q_iload C 4 rfl dX5_trialFits_5 ?_
  refine q_icmp_ge C dX5_trialFits_7 (tgt := 49) (by decide) (fun c2 => ?_) (fun c2 => ?_)
  · have hz := sat_t hz c2
    have hz := sat_some hz
    refine q_sub C [] [] rfl ?_
    refine q_iconst C dX5_trialFits_49 ⟨by decide, by decide⟩ ?_
    exact q_zret C (Or.inr rfl) dX5_trialFits_50 (sat_eq hz)
  · have hz := sat_f hz c2
    refine q_aload_n C 0 rfl dX5_trialFits_10 rfl ?_
    refine q_getR tO_X5 C (i := 5) i_X5 rfl rfl (by decide) rfl f_44 dX5_trialFits_11 ?_
    obtain ⟨z4, hz4, hz⟩ := sat_bind hz
    refine q_callVv ZC_st C [] [] (c_X2_passDay x1.2 3 (by decide) hz4) (tO_X2 (by decide)) rfl gX5_trialFits_X2_passDay rfl ⟨rfl, rfl⟩ hdX2_passDay ⟨by decide, by decide⟩ rfl (Nat.le_of_ble_eq_true rfl) dX5_trialFits_14 rfl (fun _ => ?_)
    refine q_aload_n C 0 rfl dX5_trialFits_17 rfl ?_
    refine q_getR tO_X5 C (i := 5) i_X5 rfl rfl (by decide) rfl f_44 dX5_trialFits_18 ?_
    refine q_getR (tO_X2 (by decide)) C (i := 7) i_X2 rfl rfl (by decide) rfl f_167 dX5_trialFits_21 ?_
    refine q_iload_n C 1 rfl dX5_trialFits_24 rfl ?_
    obtain ⟨c5, hz⟩ := sat_chk hz
    refine q_iald (tA_places (by decide)) C 0 rfl c5 dX5_trialFits_25 ?_
    refine q_aload_n C 0 rfl dX5_trialFits_26 rfl ?_
    refine q_getR tO_X5 C (i := 0) i_X5 rfl rfl (by decide) rfl f_10 dX5_trialFits_27 ?_
    refine q_iload_n C 2 rfl dX5_trialFits_30 rfl ?_
    refine q_iload_n C 3 rfl dX5_trialFits_31 rfl ?_
    refine q_iload C 5 rfl dX5_trialFits_32 ?_
    refine q_iadd C dX5_trialFits_34 ?_
    obtain ⟨z7, hz7, hz⟩ := sat_bind hz
    refine q_callVi ZC_st C [Vi p2, Vi (w3 (p3 + x1.1))] [Vi (z4 3 (11 + p1))] (c_X3_itemAt z4 p2 (w3 (p3 + x1.1)) hz7) tO_X3 rfl gX5_trialFits_X3_itemAt rfl ⟨rfl, rfl⟩ hdX3_itemAt ⟨by decide, by decide⟩ rfl (Nat.le_of_ble_eq_true rfl) dX5_trialFits_35 rfl (fun _ _ => ?_)
    refine q_icmp_eq C dX5_trialFits_38 (tgt := 43) (by decide) (fun c8 => ?_) (fun c8 => ?_)
    · have hz := sat_t hz c8
      refine q_iinc C 5 rfl [(5, Vi (w3 (x1.1 + 1))), (0, Vr 174), (1, Vi p1), (2, Vi p2), (3, Vi p3), (4, Vi p4)] rfl (by decide) dX5_trialFits_43 ?_
      refine q_goto C dX5_trialFits_46 (tgt := 3) (by decide) ?_
      refine q_sub C [1, 2, 3, 4, 5, 0] [(0, Vr 174), (1, Vi p1), (2, Vi p2), (3, Vi p3), (4, Vi p4), (5, Vi (w3 (x1.1 + 1)))] rfl ?_
      have hz := sat_some hz
      exact hz
    · have hz := sat_f hz c8
      refine q_iconst C dX5_trialFits_41 ⟨by decide, by decide⟩ ?_
      have hz := sat_some hz
      exact q_zret C (Or.inl rfl) dX5_trialFits_42 (sat_eq hz)
theorem hdX5_who : yX5_who.cls = RX5 ∧ yX5_who.cls ≠ "java/lang/invoke/MethodHandle" ∧ yX5_who.cls ≠ "java/lang/invoke/VarHandle" ∧ (parseMethodDescriptor yX5_who.desc).map (fun d => d.parameters.length) = some 6 := by decide +kernel
set_option maxHeartbeats 4000000 in
set_option maxRecDepth 100000 in
theorem c_X5_who {l : Launch} {D : va_G} {ad : Nat → Nat} {cI cII cR : ClassId} (μ : Mm) (p1 p2 p3 p4 p5 p6 : Int) {v : Int × Mm} (hz : f_X5_who μ p1 p2 p3 p4 p5 p6 = some v) : CT l D vwCl (tyC cI cII cR) 194 ad (EC ad cI cII cR) (ZC ad) yX5_who wsX5_who ({ frames := 5, cells := 0, slots := 0, locals := 121 } : Room) (some .int) [Vr 174, Vi p1, Vi p2, Vi p3, Vi p4, Vi p5, Vi p6] μ (v.1, v.2) := by
  refine CT_of [(0, Vr 174), (1, Vi p1), (2, Vi p2), (3, Vi p3), (4, Vi p4), (5, Vi p5), (6, Vi p6)] ZC_st (by decide) rfl rfl (Nat.le_of_ble_eq_true rfl) rfl (fun G C => ?_)
  have i_X2 : ∀ w ∈ u_ws RX2 TX2 11, w ∈ wsX5_who := by decide +kernel
  have i_X5 : ∀ w ∈ u_ws RX5 TX5 9, w ∈ wsX5_who := by decide +kernel
  have f_10 : Cond.fieldLink (yX5_who).cls 10 "SwanDeeds" "rows" "LSwanDeeds$Rows;" ∈ wsX5_who := by decide +kernel
  have f_40 : Cond.fieldLink (yX5_who).cls 40 "SwanDeeds" "now" "LSwanDeeds$River;" ∈ wsX5_who := by decide +kernel
  have f_63 : Cond.fieldLink (yX5_who).cls 63 "SwanDeeds" "status" "I" ∈ wsX5_who := by decide +kernel
  have f_207 : Cond.fieldLink (yX5_who).cls 207 "SwanDeeds$River" "lawnCount" "I" ∈ wsX5_who := by decide +kernel
  have hz := sat_of hz
  unfold f_X5_who at hz
  refine q_aload_n C 0 rfl dX5_who_0 rfl ?_
  refine q_iload_n C 1 rfl dX5_who_1 rfl ?_
  refine q_callVz ZC_st C [Vi p1] [] (c_X5_isSwan μ p1) tO_X5 rfl gX5_who_X5_isSwan rfl ⟨rfl, rfl⟩ hdX5_isSwan ⟨by decide, by decide⟩ rfl (Nat.le_of_ble_eq_true rfl) dX5_who_2 rfl (fun hb1 _ => ?_)
  refine q_if_eq C dX5_who_5 (tgt := 25) (by decide) (fun c2 => ?_) (fun c2 => ?_)
  · have hz := sat_t hz c2
    refine q_ldc (v := (-1000001)) (x := (-1000001)) C (by decide +kernel) dX5_who_25 ⟨by decide +kernel, by decide, by decide⟩ ?_
    exact q_iret C dX5_who_27 (sat_eq hz)
  · have hz := sat_f hz c2
    refine q_iload_n C 2 rfl dX5_who_8 rfl ?_
    refine q_iconst C dX5_who_9 ⟨by decide, by decide⟩ ?_
    refine q_iconst C dX5_who_10 ⟨by decide, by decide⟩ ?_
    refine q_callSz ZC_st C [Vi p2, Vi 0, Vi 2] [] (c_X5_within μ p2 0 2) gX5_who_X5_within rfl ⟨rfl, rfl⟩ hdX5_within ⟨by decide, by decide⟩ rfl (Nat.le_of_ble_eq_true rfl) dX5_who_11 rfl (fun hb3 _ => ?_)
    refine q_if_eq C dX5_who_14 (tgt := 25) (by decide) (fun c4 => ?_) (fun c4 => ?_)
    · have hz := sat_t hz c4
      refine q_ldc (v := (-1000001)) (x := (-1000001)) C (by decide +kernel) dX5_who_25 ⟨by decide +kernel, by decide, by decide⟩ ?_
      exact q_iret C dX5_who_27 (sat_eq hz)
    · have hz := sat_f hz c4
      refine q_aload_n C 0 rfl dX5_who_17 rfl ?_
      refine q_iload_n C 3 rfl dX5_who_18 rfl ?_
      refine q_callVz ZC_st C [Vi p3] [] (c_X5_isSwan μ p3) tO_X5 rfl gX5_who_X5_isSwan rfl ⟨rfl, rfl⟩ hdX5_isSwan ⟨by decide, by decide⟩ rfl (Nat.le_of_ble_eq_true rfl) dX5_who_19 rfl (fun hb5 _ => ?_)
      refine q_if_ne C dX5_who_22 (tgt := 28) (by decide) (fun c6 => ?_) (fun c6 => ?_)
      · have hz := sat_f hz c6
        refine q_iload C 4 rfl dX5_who_28 ?_
        refine q_iconst C dX5_who_30 ⟨by decide, by decide⟩ ?_
        refine q_bipush C dX5_who_31 ⟨rfl, by decide, by decide⟩ ?_
        refine q_callSz ZC_st C [Vi p4, Vi 0, Vi 7] [] (c_X5_within μ p4 0 7) gX5_who_X5_within rfl ⟨rfl, rfl⟩ hdX5_within ⟨by decide, by decide⟩ rfl (Nat.le_of_ble_eq_true rfl) dX5_who_33 rfl (fun hb7 _ => ?_)
        refine q_if_eq C dX5_who_36 (tgt := 50) (by decide) (fun c8 => ?_) (fun c8 => ?_)
        · have hz := sat_t hz c8
          refine q_ldc (v := (-1000001)) (x := (-1000001)) C (by decide +kernel) dX5_who_50 ⟨by decide +kernel, by decide, by decide⟩ ?_
          exact q_iret C dX5_who_52 (sat_eq hz)
        · have hz := sat_f hz c8
          refine q_iload C 6 rfl dX5_who_39 ?_
          refine q_iconst C dX5_who_41 ⟨by decide, by decide⟩ ?_
          refine q_bipush C dX5_who_42 ⟨rfl, by decide, by decide⟩ ?_
          refine q_callSz ZC_st C [Vi p6, Vi 1, Vi 12] [] (c_X5_within μ p6 1 12) gX5_who_X5_within rfl ⟨rfl, rfl⟩ hdX5_within ⟨by decide, by decide⟩ rfl (Nat.le_of_ble_eq_true rfl) dX5_who_44 rfl (fun hb9 _ => ?_)
          refine q_if_ne C dX5_who_47 (tgt := 53) (by decide) (fun c10 => ?_) (fun c10 => ?_)
          · have hz := sat_f hz c10
            refine q_aload_n C 0 rfl dX5_who_53 rfl ?_
            refine q_getR tO_X5 C (i := 0) i_X5 rfl rfl (by decide) rfl f_10 dX5_who_54 ?_
            refine q_iload C 4 rfl dX5_who_57 ?_
            refine q_iload C 5 rfl dX5_who_59 ?_
            refine q_iload C 6 rfl dX5_who_61 ?_
            obtain ⟨z12, hz12, hz⟩ := sat_bind hz
            refine q_callVi ZC_st C [Vi p4, Vi p5, Vi p6] [] (c_X3_findingAt μ p4 p5 p6 hz12) tO_X3 rfl gX5_who_X3_findingAt rfl ⟨rfl, rfl⟩ hdX3_findingAt ⟨by decide, by decide⟩ rfl (Nat.le_of_ble_eq_true rfl) dX5_who_63 rfl (fun _ _ => ?_)
            refine q_istore C [(7, Vi z12), (0, Vr 174), (1, Vi p1), (2, Vi p2), (3, Vi p3), (4, Vi p4), (5, Vi p5), (6, Vi p6)] rfl (by decide) dX5_who_66 ?_
            refine q_iload C 0 rfl dX5_who_68 ?_
            refine q_if_eq C dX5_who_70 (tgt := 80) (by decide) (fun c13 => ?_) (fun c13 => ?_)
            · have hz := sat_t hz c13
              refine q_aload_n C 1 rfl dX5_who_80 rfl ?_
              refine q_iconst C dX5_who_81 ⟨by decide, by decide⟩ ?_
              obtain ⟨m14, hm14, hz⟩ := sat_bnd hz
              refine q_put tO_X5 C hm14 (i := 8) i_X5 tyX5_ok nmX5 rfl rfl (by decide) rfl f_63 dX5_who_82 ?_
              refine q_iload_n C 3 rfl dX5_who_85 rfl ?_
              refine q_iconst C dX5_who_86 ⟨by decide, by decide⟩ ?_
              obtain ⟨v15, hv15, hz⟩ := sat_bnd hz
              have Jv15 : G m14 95 [(0, Vr 174), (1, Vi p1), (2, Vi p2), (3, Vi p3), (4, Vi p4), (5, Vi p5), (6, Vi p6)] [Vi v15] := by
                refine q_istore C [(8, Vi v15), (0, Vr 174), (1, Vi p1), (2, Vi p2), (3, Vi p3), (4, Vi p4), (5, Vi p5), (6, Vi p6)] rfl (by decide) dX5_who_95 ?_
                refine q_iload_n C 3 rfl dX5_who_97 rfl ?_
                obtain ⟨v16, hv16, hz⟩ := sat_bnd hz
                have Jv16 : G m14 124 [(0, Vr 174), (1, Vi p1), (2, Vi p2), (3, Vi p3), (4, Vi p4), (5, Vi p5), (6, Vi p6), (8, Vi v15)] [Vi v16] := by
                  refine q_istore C [(9, Vi v16), (0, Vr 174), (1, Vi p1), (2, Vi p2), (3, Vi p3), (4, Vi p4), (5, Vi p5), (6, Vi p6), (8, Vi v15)] rfl (by decide) dX5_who_124 ?_
                  refine q_iconst C dX5_who_126 ⟨by decide, by decide⟩ ?_
                  refine q_istore C [(10, Vi 0), (9, Vi v16), (0, Vr 174), (1, Vi p1), (2, Vi p2), (3, Vi p3), (4, Vi p4), (5, Vi p5), (6, Vi p6), (8, Vi v15)] rfl (by decide) dX5_who_127 ?_
                  refine q_iload C 9 rfl dX5_who_129 ?_
                  refine q_istore C [(11, Vi v15), (10, Vi 0), (9, Vi v16), (0, Vr 174), (1, Vi p1), (2, Vi p2), (3, Vi p3), (4, Vi p4), (5, Vi p5), (6, Vi p6), (8, Vi v15)] rfl (by decide) dX5_who_131 ?_
                  refine q_sub C [3, 4, 5, 6, 7, 8, 9, 2, 1, 0] [(0, Vr 174), (1, Vi p1), (2, Vi p2), (3, Vi p3), (4, Vi p4), (5, Vi p5), (6, Vi p6), (9, Vi v16), (10, Vi 0), (11, Vi v15)] rfl ?_
                  refine loop_go (fun x17 => G x17.2.2 133 [(0, Vr 174), (1, Vi p1), (2, Vi p2), (3, Vi p3), (4, Vi p4), (5, Vi p5), (6, Vi p6), (9, Vi v16), (10, Vi (x17.1)), (11, Vi (x17.2.1))] []) (sat_bind2 hz) (fun h => h) (fun x17 hz => ?_)
                  refine q_iload C 9 rfl dX5_who_133 ?_
                  refine q_iload C 7 rfl dX5_who_135 ?_
                  refine q_icmp_gt C dX5_who_137 (tgt := 177) (by decide) (fun c18 => ?_) (fun c18 => ?_)
                  · have hz := sat_t hz c18
                    have hz := sat_some hz
                    refine q_sub C [8] [(10, Vi (x17.1))] rfl ?_
                    refine q_iload C 0 rfl dX5_who_177 ?_
                    exact q_iret C dX5_who_179 (sat_eq hz)
                  · have hz := sat_f hz c18
                    refine q_aload_n C 0 rfl dX5_who_140 rfl ?_
                    refine q_iload_n C 1 rfl dX5_who_141 rfl ?_
                    refine q_iload_n C 2 rfl dX5_who_142 rfl ?_
                    refine q_iload C 9 rfl dX5_who_143 ?_
                    obtain ⟨z20, hz20, hz⟩ := sat_bind hz
                    refine q_callVv ZC_st C [Vi p1, Vi p2, Vi (x17.2.1)] [] (c_X5_suppose x17.2.2 p1 p2 x17.2.1 hz20) tO_X5 rfl gX5_who_X5_suppose rfl ⟨rfl, rfl⟩ hdX5_suppose ⟨by decide, by decide⟩ rfl (Nat.le_of_ble_eq_true rfl) dX5_who_145 rfl (fun _ => ?_)
                    refine q_aload_n C 0 rfl dX5_who_148 rfl ?_
                    refine q_iload_n C 3 rfl dX5_who_149 rfl ?_
                    refine q_iload C 4 rfl dX5_who_150 ?_
                    refine q_iload C 5 rfl dX5_who_152 ?_
                    refine q_iload C 6 rfl dX5_who_154 ?_
                    obtain ⟨z22, hz22, hz⟩ := sat_bind hz
                    refine q_callVz ZC_st C [Vi p3, Vi p4, Vi p5, Vi p6] [] (c_X5_trialFits z20 p3 p4 p5 p6 hz22) tO_X5 rfl gX5_who_X5_trialFits rfl ⟨rfl, rfl⟩ hdX5_trialFits ⟨by decide, by decide⟩ rfl (Nat.le_of_ble_eq_true rfl) dX5_who_156 rfl (fun hb21 _ => ?_)
                    refine q_if_eq C dX5_who_159 (tgt := 171) (by decide) (fun c23 => ?_) (fun c23 => ?_)
                    · have hz := sat_t hz c23
                      refine q_iinc C 9 rfl [(11, Vi (w3 (x17.2.1 + 1))), (0, Vr 174), (1, Vi p1), (2, Vi p2), (3, Vi p3), (4, Vi p4), (5, Vi p5), (6, Vi p6), (9, Vi v16), (10, Vi (x17.1))] rfl (by decide) dX5_who_171 ?_
                      refine q_goto C dX5_who_174 (tgt := 133) (by decide) ?_
                      refine q_sub C [1, 2, 3, 4, 5, 6, 7, 8, 9, 0] [(0, Vr 174), (1, Vi p1), (2, Vi p2), (3, Vi p3), (4, Vi p4), (5, Vi p5), (6, Vi p6), (9, Vi v16), (10, Vi (x17.1)), (11, Vi (w3 (x17.2.1 + 1)))] rfl ?_
                      have hz := sat_some hz
                      exact hz
                    · have hz := sat_f hz c23
                      refine q_iload C 8 rfl dX5_who_162 ?_
                      refine q_iconst C dX5_who_164 ⟨by decide, by decide⟩ ?_
                      refine q_iload C 9 rfl dX5_who_165 ?_
                      refine q_ishl C dX5_who_167 ?_
                      refine q_ior C dX5_who_168 ?_
                      obtain ⟨a24, ha24, hz⟩ := sat_bnd hz
                      refine q_nmi ha24 ?_
                      refine q_istore C [(10, Vi a24), (0, Vr 174), (1, Vi p1), (2, Vi p2), (3, Vi p3), (4, Vi p4), (5, Vi p5), (6, Vi p6), (9, Vi v16), (11, Vi (x17.2.1))] rfl (by decide) dX5_who_169 ?_
                      refine q_iinc C 9 rfl [(11, Vi (w3 (x17.2.1 + 1))), (10, Vi a24), (0, Vr 174), (1, Vi p1), (2, Vi p2), (3, Vi p3), (4, Vi p4), (5, Vi p5), (6, Vi p6), (9, Vi v16)] rfl (by decide) dX5_who_171 ?_
                      refine q_goto C dX5_who_174 (tgt := 133) (by decide) ?_
                      refine q_sub C [2, 3, 4, 5, 6, 7, 8, 9, 1, 0] [(0, Vr 174), (1, Vi p1), (2, Vi p2), (3, Vi p3), (4, Vi p4), (5, Vi p5), (6, Vi p6), (9, Vi v16), (10, Vi a24), (11, Vi (w3 (x17.2.1 + 1)))] rfl ?_
                      have hz := sat_some hz
                      exact hz
                have hz := hv16.symm
                refine q_if_ne C dX5_who_98 (tgt := 105) (by decide) (fun c26 => ?_) (fun c26 => ?_)
                · have hz := eq_f hz c26
                  refine q_iload_n C 3 rfl dX5_who_105 rfl ?_
                  refine q_iconst C dX5_who_106 ⟨by decide, by decide⟩ ?_
                  refine q_icmp_ne C dX5_who_107 (tgt := 122) (by decide) (fun c27 => ?_) (fun c27 => ?_)
                  · have hz := eq_f hz c27
                    refine q_bipush C dX5_who_122 ⟨rfl, by decide, by decide⟩ ?_
                    have hz : _ = v16 := hz
                    refine q_sub C [1, 2, 3, 4, 5, 6, 7, 0] [(0, Vr 174), (1, Vi p1), (2, Vi p2), (3, Vi p3), (4, Vi p4), (5, Vi p5), (6, Vi p6), (8, Vi v15)] rfl ?_
                    subst hz
                    exact Jv16
                  · have hz := eq_t hz c27
                    refine q_aload_n C 1 rfl dX5_who_110 rfl ?_
                    refine q_getR tO_X5 C (i := 4) i_X5 rfl rfl (by decide) rfl f_40 dX5_who_111 ?_
                    refine q_get (tO_X2 (by decide)) C (i := 0) i_X2 rfl rfl (by decide) rfl f_207 dX5_who_114 ?_
                    refine q_iconst C dX5_who_117 ⟨by decide, by decide⟩ ?_
                    refine q_isub C dX5_who_118 ?_
                    refine q_goto C dX5_who_119 (tgt := 124) (by decide) ?_
                    have hz : _ = v16 := hz
                    refine q_sub C [1, 2, 3, 4, 5, 6, 7, 0] [(0, Vr 174), (1, Vi p1), (2, Vi p2), (3, Vi p3), (4, Vi p4), (5, Vi p5), (6, Vi p6), (8, Vi v15)] rfl ?_
                    subst hz
                    exact Jv16
                · have hz := eq_t hz c26
                  refine q_iconst C dX5_who_101 ⟨by decide, by decide⟩ ?_
                  refine q_goto C dX5_who_102 (tgt := 124) (by decide) ?_
                  have hz : _ = v16 := hz
                  refine q_sub C [1, 2, 3, 4, 5, 6, 7, 0] [(0, Vr 174), (1, Vi p1), (2, Vi p2), (3, Vi p3), (4, Vi p4), (5, Vi p5), (6, Vi p6), (8, Vi v15)] rfl ?_
                  subst hz
                  exact Jv16
              have hz := hv15.symm
              refine q_icmp_ne C dX5_who_87 (tgt := 94) (by decide) (fun c28 => ?_) (fun c28 => ?_)
              · have hz := eq_f hz c28
                refine q_iconst C dX5_who_94 ⟨by decide, by decide⟩ ?_
                have hz : _ = v15 := hz
                refine q_sub C [1, 2, 3, 4, 5, 6, 7] [(0, Vr 174), (1, Vi p1), (2, Vi p2), (3, Vi p3), (4, Vi p4), (5, Vi p5), (6, Vi p6)] rfl ?_
                subst hz
                exact Jv15
              · have hz := eq_t hz c28
                refine q_iconst C dX5_who_90 ⟨by decide, by decide⟩ ?_
                refine q_goto C dX5_who_91 (tgt := 95) (by decide) ?_
                have hz : _ = v15 := hz
                refine q_sub C [1, 2, 3, 4, 5, 6, 7] [(0, Vr 174), (1, Vi p1), (2, Vi p2), (3, Vi p3), (4, Vi p4), (5, Vi p5), (6, Vi p6)] rfl ?_
                subst hz
                exact Jv15
            · have hz := sat_f hz c13
              refine q_aload_n C 1 rfl dX5_who_73 rfl ?_
              refine q_iload C 0 rfl dX5_who_74 ?_
              obtain ⟨z30, hz30, hz⟩ := sat_bind hz
              refine q_callVi ZC_st C [Vi z12] [] (c_X5_found μ z12 hz30) tO_X5 rfl gX5_who_X5_found rfl ⟨rfl, rfl⟩ hdX5_found ⟨by decide, by decide⟩ rfl (Nat.le_of_ble_eq_true rfl) dX5_who_76 rfl (fun _ _ => ?_)
              exact q_iret C dX5_who_79 (sat_eq hz)
          · have hz := sat_t hz c10
            refine q_ldc (v := (-1000001)) (x := (-1000001)) C (by decide +kernel) dX5_who_50 ⟨by decide +kernel, by decide, by decide⟩ ?_
            exact q_iret C dX5_who_52 (sat_eq hz)
      · have hz := sat_t hz c6
        refine q_ldc (v := (-1000001)) (x := (-1000001)) C (by decide +kernel) dX5_who_25 ⟨by decide +kernel, by decide, by decide⟩ ?_
        exact q_iret C dX5_who_27 (sat_eq hz)
theorem hdX5_which : yX5_which.cls = RX5 ∧ yX5_which.cls ≠ "java/lang/invoke/MethodHandle" ∧ yX5_which.cls ≠ "java/lang/invoke/VarHandle" ∧ (parseMethodDescriptor yX5_which.desc).map (fun d => d.parameters.length) = some 3 := by decide +kernel
set_option maxHeartbeats 4000000 in
set_option maxRecDepth 100000 in
theorem c_X5_which {l : Launch} {D : va_G} {ad : Nat → Nat} {cI cII cR : ClassId} (μ : Mm) (p1 p2 p3 : Int) {v : Int × Mm} (hz : f_X5_which μ p1 p2 p3 = some v) : CT l D vwCl (tyC cI cII cR) 194 ad (EC ad cI cII cR) (ZC ad) yX5_which wsX5_which ({ frames := 5, cells := 0, slots := 0, locals := 121 } : Room) (some .int) [Vr 174, Vi p1, Vi p2, Vi p3] μ (v.1, v.2) := by
  refine CT_of [(0, Vr 174), (1, Vi p1), (2, Vi p2), (3, Vi p3)] ZC_st (by decide) rfl rfl (Nat.le_of_ble_eq_true rfl) rfl (fun G C => ?_)
  have i_X2 : ∀ w ∈ u_ws RX2 TX2 11, w ∈ wsX5_which := by decide +kernel
  have i_X5 : ∀ w ∈ u_ws RX5 TX5 9, w ∈ wsX5_which := by decide +kernel
  have f_10 : Cond.fieldLink (yX5_which).cls 10 "SwanDeeds" "rows" "LSwanDeeds$Rows;" ∈ wsX5_which := by decide +kernel
  have f_40 : Cond.fieldLink (yX5_which).cls 40 "SwanDeeds" "now" "LSwanDeeds$River;" ∈ wsX5_which := by decide +kernel
  have f_44 : Cond.fieldLink (yX5_which).cls 44 "SwanDeeds" "trial" "LSwanDeeds$River;" ∈ wsX5_which := by decide +kernel
  have f_63 : Cond.fieldLink (yX5_which).cls 63 "SwanDeeds" "status" "I" ∈ wsX5_which := by decide +kernel
  have f_117 : Cond.fieldLink (yX5_which).cls 117 "SwanDeeds$River" "swanCount" "I" ∈ wsX5_which := by decide +kernel
  have hz := sat_of hz
  unfold f_X5_which at hz
  refine q_aload_n C 0 rfl dX5_which_0 rfl ?_
  refine q_callVz ZC_st C [] [] (c_X5_hasRiver μ) tO_X5 rfl gX5_which_X5_hasRiver rfl ⟨rfl, rfl⟩ hdX5_hasRiver ⟨by decide, by decide⟩ rfl (Nat.le_of_ble_eq_true rfl) dX5_which_1 rfl (fun hb1 _ => ?_)
  refine q_if_ne C dX5_which_4 (tgt := 10) (by decide) (fun c2 => ?_) (fun c2 => ?_)
  · have hz := sat_f hz c2
    refine q_iload_n C 1 rfl dX5_which_10 rfl ?_
    refine q_iconst C dX5_which_11 ⟨by decide, by decide⟩ ?_
    refine q_bipush C dX5_which_12 ⟨rfl, by decide, by decide⟩ ?_
    refine q_callSz ZC_st C [Vi p1, Vi 0, Vi 7] [] (c_X5_within μ p1 0 7) gX5_which_X5_within rfl ⟨rfl, rfl⟩ hdX5_within ⟨by decide, by decide⟩ rfl (Nat.le_of_ble_eq_true rfl) dX5_which_14 rfl (fun hb3 _ => ?_)
    refine q_if_eq C dX5_which_17 (tgt := 30) (by decide) (fun c4 => ?_) (fun c4 => ?_)
    · have hz := sat_t hz c4
      refine q_ldc (v := (-1000001)) (x := (-1000001)) C (by decide +kernel) dX5_which_30 ⟨by decide +kernel, by decide, by decide⟩ ?_
      exact q_iret C dX5_which_32 (sat_eq hz)
    · have hz := sat_f hz c4
      refine q_iload_n C 3 rfl dX5_which_20 rfl ?_
      refine q_iconst C dX5_which_21 ⟨by decide, by decide⟩ ?_
      refine q_bipush C dX5_which_22 ⟨rfl, by decide, by decide⟩ ?_
      refine q_callSz ZC_st C [Vi p3, Vi 1, Vi 12] [] (c_X5_within μ p3 1 12) gX5_which_X5_within rfl ⟨rfl, rfl⟩ hdX5_within ⟨by decide, by decide⟩ rfl (Nat.le_of_ble_eq_true rfl) dX5_which_24 rfl (fun hb5 _ => ?_)
      refine q_if_ne C dX5_which_27 (tgt := 33) (by decide) (fun c6 => ?_) (fun c6 => ?_)
      · have hz := sat_f hz c6
        refine q_aload_n C 0 rfl dX5_which_33 rfl ?_
        refine q_getR tO_X5 C (i := 0) i_X5 rfl rfl (by decide) rfl f_10 dX5_which_34 ?_
        refine q_iload_n C 1 rfl dX5_which_37 rfl ?_
        refine q_iload_n C 2 rfl dX5_which_38 rfl ?_
        refine q_iload_n C 3 rfl dX5_which_39 rfl ?_
        obtain ⟨z8, hz8, hz⟩ := sat_bind hz
        refine q_callVi ZC_st C [Vi p1, Vi p2, Vi p3] [] (c_X3_findingAt μ p1 p2 p3 hz8) tO_X3 rfl gX5_which_X3_findingAt rfl ⟨rfl, rfl⟩ hdX3_findingAt ⟨by decide, by decide⟩ rfl (Nat.le_of_ble_eq_true rfl) dX5_which_40 rfl (fun _ _ => ?_)
        refine q_istore C [(4, Vi z8), (0, Vr 174), (1, Vi p1), (2, Vi p2), (3, Vi p3)] rfl (by decide) dX5_which_43 ?_
        refine q_iload C 0 rfl dX5_which_45 ?_
        refine q_if_eq C dX5_which_47 (tgt := 57) (by decide) (fun c9 => ?_) (fun c9 => ?_)
        · have hz := sat_t hz c9
          refine q_aload_n C 1 rfl dX5_which_57 rfl ?_
          refine q_iconst C dX5_which_58 ⟨by decide, by decide⟩ ?_
          obtain ⟨m10, hm10, hz⟩ := sat_bnd hz
          refine q_put tO_X5 C hm10 (i := 8) i_X5 tyX5_ok nmX5 rfl rfl (by decide) rfl f_63 dX5_which_59 ?_
          refine q_iconst C dX5_which_62 ⟨by decide, by decide⟩ ?_
          refine q_istore C [(5, Vi 0), (4, Vi z8), (0, Vr 174), (1, Vi p1), (2, Vi p2), (3, Vi p3)] rfl (by decide) dX5_which_63 ?_
          refine q_iconst C dX5_which_65 ⟨by decide, by decide⟩ ?_
          refine q_istore C [(6, Vi 0), (5, Vi 0), (4, Vi z8), (0, Vr 174), (1, Vi p1), (2, Vi p2), (3, Vi p3)] rfl (by decide) dX5_which_66 ?_
          refine q_sub C [3, 4, 5, 6, 1, 0] [(0, Vr 174), (1, Vi p1), (2, Vi p2), (3, Vi p3), (5, Vi 0), (6, Vi 0)] rfl ?_
          refine loop_go (fun x11 => G x11.2.2 68 [(0, Vr 174), (1, Vi p1), (2, Vi p2), (3, Vi p3), (5, Vi (x11.1)), (6, Vi (x11.2.1))] []) (sat_bind2 hz) (fun h => h) (fun x11 hz => ?_)
          refine q_iload C 5 rfl dX5_which_68 ?_
          refine q_aload_n C 0 rfl dX5_which_70 rfl ?_
          refine q_getR tO_X5 C (i := 4) i_X5 rfl rfl (by decide) rfl f_40 dX5_which_71 ?_
          refine q_get (tO_X2 (by decide)) C (i := 1) i_X2 rfl rfl (by decide) rfl f_117 dX5_which_74 ?_
          refine q_icmp_ge C dX5_which_77 (tgt := 118) (by decide) (fun c12 => ?_) (fun c12 => ?_)
          · have hz := sat_t hz c12
            have hz := sat_some hz
            refine q_sub C [4] [(5, Vi (x11.1))] rfl ?_
            refine q_iload C 0 rfl dX5_which_118 ?_
            exact q_iret C dX5_which_120 (sat_eq hz)
          · have hz := sat_f hz c12
            refine q_aload_n C 0 rfl dX5_which_80 rfl ?_
            refine q_getR tO_X5 C (i := 5) i_X5 rfl rfl (by decide) rfl f_44 dX5_which_81 ?_
            refine q_aload_n C 0 rfl dX5_which_84 rfl ?_
            refine q_getR tO_X5 C (i := 4) i_X5 rfl rfl (by decide) rfl f_40 dX5_which_85 ?_
            obtain ⟨z14, hz14, hz⟩ := sat_bind hz
            refine q_callVv ZC_st C [Vr (6 * 0)] [] (c_X2_become x11.2.2 3 (by decide) 0 (by decide) hz14) (tO_X2 (by decide)) rfl gX5_which_X2_become rfl ⟨rfl, rfl⟩ hdX2_become ⟨by decide, by decide⟩ rfl (Nat.le_of_ble_eq_true rfl) dX5_which_88 rfl (fun _ => ?_)
            refine q_aload_n C 0 rfl dX5_which_91 rfl ?_
            refine q_iload C 5 rfl dX5_which_92 ?_
            refine q_iload_n C 1 rfl dX5_which_94 rfl ?_
            refine q_iload_n C 2 rfl dX5_which_95 rfl ?_
            refine q_iload_n C 3 rfl dX5_which_96 rfl ?_
            obtain ⟨z16, hz16, hz⟩ := sat_bind hz
            refine q_callVz ZC_st C [Vi (x11.2.1), Vi p1, Vi p2, Vi p3] [] (c_X5_trialFits z14 x11.2.1 p1 p2 p3 hz16) tO_X5 rfl gX5_which_X5_trialFits rfl ⟨rfl, rfl⟩ hdX5_trialFits ⟨by decide, by decide⟩ rfl (Nat.le_of_ble_eq_true rfl) dX5_which_97 rfl (fun hb15 _ => ?_)
            refine q_if_eq C dX5_which_100 (tgt := 112) (by decide) (fun c17 => ?_) (fun c17 => ?_)
            · have hz := sat_t hz c17
              refine q_iinc C 5 rfl [(6, Vi (w3 (x11.2.1 + 1))), (0, Vr 174), (1, Vi p1), (2, Vi p2), (3, Vi p3), (5, Vi (x11.1))] rfl (by decide) dX5_which_112 ?_
              refine q_goto C dX5_which_115 (tgt := 68) (by decide) ?_
              refine q_sub C [1, 2, 3, 4, 5, 0] [(0, Vr 174), (1, Vi p1), (2, Vi p2), (3, Vi p3), (5, Vi (x11.1)), (6, Vi (w3 (x11.2.1 + 1)))] rfl ?_
              have hz := sat_some hz
              exact hz
            · have hz := sat_f hz c17
              refine q_iload C 4 rfl dX5_which_103 ?_
              refine q_iconst C dX5_which_105 ⟨by decide, by decide⟩ ?_
              refine q_iload C 5 rfl dX5_which_106 ?_
              refine q_ishl C dX5_which_108 ?_
              refine q_ior C dX5_which_109 ?_
              obtain ⟨a18, ha18, hz⟩ := sat_bnd hz
              refine q_nmi ha18 ?_
              refine q_istore C [(5, Vi a18), (0, Vr 174), (1, Vi p1), (2, Vi p2), (3, Vi p3), (6, Vi (x11.2.1))] rfl (by decide) dX5_which_110 ?_
              refine q_iinc C 5 rfl [(6, Vi (w3 (x11.2.1 + 1))), (5, Vi a18), (0, Vr 174), (1, Vi p1), (2, Vi p2), (3, Vi p3)] rfl (by decide) dX5_which_112 ?_
              refine q_goto C dX5_which_115 (tgt := 68) (by decide) ?_
              refine q_sub C [2, 3, 4, 5, 1, 0] [(0, Vr 174), (1, Vi p1), (2, Vi p2), (3, Vi p3), (5, Vi a18), (6, Vi (w3 (x11.2.1 + 1)))] rfl ?_
              have hz := sat_some hz
              exact hz
        · have hz := sat_f hz c9
          refine q_aload_n C 1 rfl dX5_which_50 rfl ?_
          refine q_iload C 0 rfl dX5_which_51 ?_
          obtain ⟨z21, hz21, hz⟩ := sat_bind hz
          refine q_callVi ZC_st C [Vi z8] [] (c_X5_found μ z8 hz21) tO_X5 rfl gX5_which_X5_found rfl ⟨rfl, rfl⟩ hdX5_found ⟨by decide, by decide⟩ rfl (Nat.le_of_ble_eq_true rfl) dX5_which_53 rfl (fun _ _ => ?_)
          exact q_iret C dX5_which_56 (sat_eq hz)
      · have hz := sat_t hz c6
        refine q_ldc (v := (-1000001)) (x := (-1000001)) C (by decide +kernel) dX5_which_30 ⟨by decide +kernel, by decide, by decide⟩ ?_
        exact q_iret C dX5_which_32 (sat_eq hz)
  · have hz := sat_t hz c2
    refine q_ldc (v := (-1000002)) (x := (-1000002)) C (by decide +kernel) dX5_which_7 ⟨by decide +kernel, by decide, by decide⟩ ?_
    exact q_iret C dX5_which_9 (sat_eq hz)
theorem hdX5_hungry : yX5_hungry.cls = RX5 ∧ yX5_hungry.cls ≠ "java/lang/invoke/MethodHandle" ∧ yX5_hungry.cls ≠ "java/lang/invoke/VarHandle" ∧ (parseMethodDescriptor yX5_hungry.desc).map (fun d => d.parameters.length) = some 1 := by decide +kernel
set_option maxHeartbeats 4000000 in
set_option maxRecDepth 100000 in
theorem c_X5_hungry {l : Launch} {D : va_G} {ad : Nat → Nat} {cI cII cR : ClassId} (μ : Mm) (p1 : Int) {v : Int × Mm} (hz : f_X5_hungry μ p1 = some v) : CT l D vwCl (tyC cI cII cR) 194 ad (EC ad cI cII cR) (ZC ad) yX5_hungry wsX5_hungry ({ frames := 6, cells := 0, slots := 0, locals := 139 } : Room) (some .int) [Vr 174, Vi p1] μ (v.1, v.2) := by
  refine CT_of [(0, Vr 174), (1, Vi p1)] ZC_st (by decide) rfl rfl (Nat.le_of_ble_eq_true rfl) rfl (fun G C => ?_)
  have i_X2 : ∀ w ∈ u_ws RX2 TX2 11, w ∈ wsX5_hungry := by decide +kernel
  have i_X5 : ∀ w ∈ u_ws RX5 TX5 9, w ∈ wsX5_hungry := by decide +kernel
  have f_44 : Cond.fieldLink (yX5_hungry).cls 44 "SwanDeeds" "trial" "LSwanDeeds$River;" ∈ wsX5_hungry := by decide +kernel
  have f_117 : Cond.fieldLink (yX5_hungry).cls 117 "SwanDeeds$River" "swanCount" "I" ∈ wsX5_hungry := by decide +kernel
  have f_220 : Cond.fieldLink (yX5_hungry).cls 220 "SwanDeeds$River" "eaters" "I" ∈ wsX5_hungry := by decide +kernel
  have hz := sat_of hz
  unfold f_X5_hungry at hz
  refine q_aload_n C 0 rfl dX5_hungry_0 rfl ?_
  refine q_callVz ZC_st C [] [] (c_X5_hasRiver μ) tO_X5 rfl gX5_hungry_X5_hasRiver rfl ⟨rfl, rfl⟩ hdX5_hasRiver ⟨by decide, by decide⟩ rfl (Nat.le_of_ble_eq_true rfl) dX5_hungry_1 rfl (fun hb1 _ => ?_)
  refine q_if_ne C dX5_hungry_4 (tgt := 10) (by decide) (fun c2 => ?_) (fun c2 => ?_)
  · have hz := sat_f hz c2
    refine q_iload_n C 1 rfl dX5_hungry_10 rfl ?_
    refine q_iconst C dX5_hungry_11 ⟨by decide, by decide⟩ ?_
    refine q_bipush C dX5_hungry_12 ⟨rfl, by decide, by decide⟩ ?_
    refine q_callSz ZC_st C [Vi p1, Vi 1, Vi 60] [] (c_X5_within μ p1 1 60) gX5_hungry_X5_within rfl ⟨rfl, rfl⟩ hdX5_within ⟨by decide, by decide⟩ rfl (Nat.le_of_ble_eq_true rfl) dX5_hungry_14 rfl (fun hb3 _ => ?_)
    refine q_if_ne C dX5_hungry_17 (tgt := 23) (by decide) (fun c4 => ?_) (fun c4 => ?_)
    · have hz := sat_f hz c4
      refine q_aload_n C 0 rfl dX5_hungry_23 rfl ?_
      refine q_iload_n C 1 rfl dX5_hungry_24 rfl ?_
      obtain ⟨z6, hz6, hz⟩ := sat_bind hz
      refine q_callVv ZC_st C [Vi p1] [] (c_X5_foretell μ p1 hz6) tO_X5 rfl gX5_hungry_X5_foretell rfl ⟨rfl, rfl⟩ hdX5_foretell ⟨by decide, by decide⟩ rfl (Nat.le_of_ble_eq_true rfl) dX5_hungry_25 rfl (fun _ => ?_)
      refine q_iconst C dX5_hungry_28 ⟨by decide, by decide⟩ ?_
      refine q_aload_n C 0 rfl dX5_hungry_29 rfl ?_
      refine q_getR tO_X5 C (i := 5) i_X5 rfl rfl (by decide) rfl f_44 dX5_hungry_30 ?_
      refine q_get (tO_X2 (by decide)) C (i := 1) i_X2 rfl rfl (by decide) rfl f_117 dX5_hungry_33 ?_
      refine q_ishl C dX5_hungry_36 ?_
      refine q_iconst C dX5_hungry_37 ⟨by decide, by decide⟩ ?_
      refine q_isub C dX5_hungry_38 ?_
      refine q_aload_n C 0 rfl dX5_hungry_39 rfl ?_
      refine q_getR tO_X5 C (i := 5) i_X5 rfl rfl (by decide) rfl f_44 dX5_hungry_40 ?_
      refine q_get (tO_X2 (by decide)) C (i := 10) i_X2 rfl rfl (by decide) rfl f_220 dX5_hungry_43 ?_
      refine q_iconst C dX5_hungry_46 ⟨by decide, by decide⟩ ?_
      refine q_ixor C dX5_hungry_47 ?_
      refine q_iand C dX5_hungry_48 ?_
      exact q_iret C dX5_hungry_49 (sat_eq hz)
    · have hz := sat_t hz c4
      refine q_ldc (v := (-1000001)) (x := (-1000001)) C (by decide +kernel) dX5_hungry_20 ⟨by decide +kernel, by decide, by decide⟩ ?_
      exact q_iret C dX5_hungry_22 (sat_eq hz)
  · have hz := sat_t hz c2
    refine q_ldc (v := (-1000002)) (x := (-1000002)) C (by decide +kernel) dX5_hungry_7 ⟨by decide +kernel, by decide, by decide⟩ ?_
    exact q_iret C dX5_hungry_9 (sat_eq hz)
theorem hdX2_breadLawns : yX2_breadLawns.cls = RX2 ∧ yX2_breadLawns.cls ≠ "java/lang/invoke/MethodHandle" ∧ yX2_breadLawns.cls ≠ "java/lang/invoke/VarHandle" ∧ (parseMethodDescriptor yX2_breadLawns.desc).map (fun d => d.parameters.length) = some 0 := by decide +kernel
set_option maxHeartbeats 4000000 in
set_option maxRecDepth 100000 in
theorem c_X2_breadLawns {l : Launch} {D : va_G} {ad : Nat → Nat} {cI cII cR : ClassId} (μ : Mm) (r : Nat) (hr : r < 29) {v : Int} (hz : f_X2_breadLawns μ r = some v) : CT l D vwCl (tyC cI cII cR) 194 ad (EC ad cI cII cR) (ZC ad) yX2_breadLawns wsX2_breadLawns ({ frames := 0, cells := 0, slots := 0, locals := 0 } : Room) (some .int) [Vr (6 * r)] μ (v, μ) := by
  refine CT_of [(0, Vr (6 * r))] ZC_st (by decide) rfl rfl (Nat.le_of_ble_eq_true rfl) rfl (fun G C => ?_)
  have i_X2 : ∀ w ∈ u_ws RX2 TX2 11, w ∈ wsX2_breadLawns := by decide +kernel
  have f_9 : Cond.fieldLink (yX2_breadLawns).cls 9 "SwanDeeds$River" "crumbs" "[I" ∈ wsX2_breadLawns := by decide +kernel
  have f_27 : Cond.fieldLink (yX2_breadLawns).cls 27 "SwanDeeds$River" "lawnCount" "I" ∈ wsX2_breadLawns := by decide +kernel
  have hz := sat_of hz
  unfold f_X2_breadLawns at hz
  refine q_iconst C dX2_breadLawns_0 ⟨by decide, by decide⟩ ?_
  refine q_istore_n C [(1, Vi 0), (0, Vr (6 * r))] rfl (by decide) dX2_breadLawns_1 rfl ?_
  refine q_iconst C dX2_breadLawns_2 ⟨by decide, by decide⟩ ?_
  refine q_istore_n C [(2, Vi 0), (1, Vi 0), (0, Vr (6 * r))] rfl (by decide) dX2_breadLawns_3 rfl ?_
  refine q_sub C [2, 1, 0] [(0, Vr (6 * r)), (1, Vi 0), (2, Vi 0)] rfl ?_
  refine loop_go (fun x1 => G μ 4 [(0, Vr (6 * r)), (1, Vi (x1.1)), (2, Vi (x1.2))] []) (sat_bind2 hz) (fun h => h) (fun x1 hz => ?_)
  refine q_iload_n C 2 rfl dX2_breadLawns_4 rfl ?_
  refine q_aload_n C 0 rfl dX2_breadLawns_5 rfl ?_
  refine q_get (tO_X2 hr) C (i := 0) i_X2 rfl rfl (by decide) rfl f_27 dX2_breadLawns_6 ?_
  refine q_icmp_ge C dX2_breadLawns_9 (tgt := 33) (by decide) (fun c2 => ?_) (fun c2 => ?_)
  · have hz := sat_t hz c2
    have hz := sat_some hz
    refine q_sub C [1] [(1, Vi (x1.1))] rfl ?_
    refine q_iload_n C 0 rfl dX2_breadLawns_33 rfl ?_
    exact q_iret C dX2_breadLawns_34 (congrArg (fun q => (q, μ)) (sat_eq hz))
  · have hz := sat_f hz c2
    refine q_aload_n C 0 rfl dX2_breadLawns_12 rfl ?_
    refine q_getR (tO_X2 hr) C (i := 4) i_X2 rfl rfl (by decide) rfl f_9 dX2_breadLawns_13 ?_
    refine q_iload_n C 2 rfl dX2_breadLawns_16 rfl ?_
    obtain ⟨c3, hz⟩ := sat_chk hz
    refine q_iald (tA_crumbs hr) C 0 rfl c3 dX2_breadLawns_17 ?_
    refine q_if_le C dX2_breadLawns_18 (tgt := 27) (by decide) (fun c4 => ?_) (fun c4 => ?_)
    · have hz := sat_t hz c4
      refine q_iinc C 2 rfl [(2, Vi (w3 (x1.2 + 1))), (0, Vr (6 * r)), (1, Vi (x1.1))] rfl (by decide) dX2_breadLawns_27 ?_
      refine q_goto C dX2_breadLawns_30 (tgt := 4) (by decide) ?_
      refine q_sub C [1, 2, 0] [(0, Vr (6 * r)), (1, Vi (x1.1)), (2, Vi (w3 (x1.2 + 1)))] rfl ?_
      have hz := sat_some hz
      exact hz
    · have hz := sat_f hz c4
      refine q_iload_n C 1 rfl dX2_breadLawns_21 rfl ?_
      refine q_iconst C dX2_breadLawns_22 ⟨by decide, by decide⟩ ?_
      refine q_iload_n C 2 rfl dX2_breadLawns_23 rfl ?_
      refine q_ishl C dX2_breadLawns_24 ?_
      refine q_ior C dX2_breadLawns_25 ?_
      refine q_istore_n C [(1, Vi (bOr x1.1 (bShl 1 x1.2))), (0, Vr (6 * r)), (2, Vi (x1.2))] rfl (by decide) dX2_breadLawns_26 rfl ?_
      refine q_iinc C 2 rfl [(2, Vi (w3 (x1.2 + 1))), (1, Vi (bOr x1.1 (bShl 1 x1.2))), (0, Vr (6 * r))] rfl (by decide) dX2_breadLawns_27 ?_
      refine q_goto C dX2_breadLawns_30 (tgt := 4) (by decide) ?_
      refine q_sub C [2, 1, 0] [(0, Vr (6 * r)), (1, Vi (bOr x1.1 (bShl 1 x1.2))), (2, Vi (w3 (x1.2 + 1)))] rfl ?_
      have hz := sat_some hz
      exact hz
theorem hdX5_comesBySinking : yX5_comesBySinking.cls = RX5 ∧ yX5_comesBySinking.cls ≠ "java/lang/invoke/MethodHandle" ∧ yX5_comesBySinking.cls ≠ "java/lang/invoke/VarHandle" ∧ (parseMethodDescriptor yX5_comesBySinking.desc).map (fun d => d.parameters.length) = some 3 := by decide +kernel
set_option maxHeartbeats 4000000 in
set_option maxRecDepth 100000 in
theorem c_X5_comesBySinking {l : Launch} {D : va_G} {ad : Nat → Nat} {cI cII cR : ClassId} (μ : Mm) (p1 p2 p3 : Int) {v : Int × Mm} (hz : f_X5_comesBySinking μ p1 p2 p3 = some v) : CT l D vwCl (tyC cI cII cR) 194 ad (EC ad cI cII cR) (ZC ad) yX5_comesBySinking wsX5_comesBySinking ({ frames := 4, cells := 0, slots := 0, locals := 96 } : Room) (some .boolean) [Vr 174, Vi p1, Vi p2, Vi p3] μ (v.1, v.2) := by
  refine CT_of [(0, Vr 174), (1, Vi p1), (2, Vi p2), (3, Vi p3)] ZC_st (by decide) rfl rfl (Nat.le_of_ble_eq_true rfl) rfl (fun G C => ?_)
  have i_X2 : ∀ w ∈ u_ws RX2 TX2 11, w ∈ wsX5_comesBySinking := by decide +kernel
  have i_X5 : ∀ w ∈ u_ws RX5 TX5 9, w ∈ wsX5_comesBySinking := by decide +kernel
  have f_40 : Cond.fieldLink (yX5_comesBySinking).cls 40 "SwanDeeds" "now" "LSwanDeeds$River;" ∈ wsX5_comesBySinking := by decide +kernel
  have f_44 : Cond.fieldLink (yX5_comesBySinking).cls 44 "SwanDeeds" "trial" "LSwanDeeds$River;" ∈ wsX5_comesBySinking := by decide +kernel
  have f_154 : Cond.fieldLink (yX5_comesBySinking).cls 154 "SwanDeeds$River" "crumbs" "[I" ∈ wsX5_comesBySinking := by decide +kernel
  have f_167 : Cond.fieldLink (yX5_comesBySinking).cls 167 "SwanDeeds$River" "places" "[I" ∈ wsX5_comesBySinking := by decide +kernel
  have f_207 : Cond.fieldLink (yX5_comesBySinking).cls 207 "SwanDeeds$River" "lawnCount" "I" ∈ wsX5_comesBySinking := by decide +kernel
  have hz := sat_of hz
  unfold f_X5_comesBySinking at hz
  refine q_iload_n C 1 rfl dX5_comesBySinking_0 rfl ?_
  refine q_aload_n C 0 rfl dX5_comesBySinking_1 rfl ?_
  refine q_getR tO_X5 C (i := 4) i_X5 rfl rfl (by decide) rfl f_40 dX5_comesBySinking_2 ?_
  obtain ⟨z2, hz2, hz⟩ := sat_bind hz
  refine q_callVi ZC_st C [] [Vi p1] (c_X2_breadLawns μ 0 (by decide) hz2) (tO_X2 (by decide)) rfl gX5_comesBySinking_X2_breadLawns rfl ⟨rfl, rfl⟩ hdX2_breadLawns ⟨by decide, by decide⟩ rfl (Nat.le_of_ble_eq_true rfl) dX5_comesBySinking_5 rfl (fun _ _ => ?_)
  refine q_iconst C dX5_comesBySinking_8 ⟨by decide, by decide⟩ ?_
  refine q_ixor C dX5_comesBySinking_9 ?_
  refine q_iand C dX5_comesBySinking_10 ?_
  refine q_if_eq C dX5_comesBySinking_11 (tgt := 16) (by decide) (fun c3 => ?_) (fun c3 => ?_)
  · have hz := sat_t hz c3
    refine q_aload_n C 0 rfl dX5_comesBySinking_16 rfl ?_
    refine q_getR tO_X5 C (i := 5) i_X5 rfl rfl (by decide) rfl f_44 dX5_comesBySinking_17 ?_
    refine q_aload_n C 0 rfl dX5_comesBySinking_20 rfl ?_
    refine q_getR tO_X5 C (i := 4) i_X5 rfl rfl (by decide) rfl f_40 dX5_comesBySinking_21 ?_
    obtain ⟨z5, hz5, hz⟩ := sat_bind hz
    refine q_callVv ZC_st C [Vr (6 * 0)] [] (c_X2_become μ 3 (by decide) 0 (by decide) hz5) (tO_X2 (by decide)) rfl gX5_comesBySinking_X2_become rfl ⟨rfl, rfl⟩ hdX2_become ⟨by decide, by decide⟩ rfl (Nat.le_of_ble_eq_true rfl) dX5_comesBySinking_24 rfl (fun _ => ?_)
    refine q_iconst C dX5_comesBySinking_27 ⟨by decide, by decide⟩ ?_
    refine q_istore C [(4, Vi 0), (0, Vr 174), (1, Vi p1), (2, Vi p2), (3, Vi p3)] rfl (by decide) dX5_comesBySinking_28 ?_
    refine q_sub C [1, 2, 3, 4, 0] [(0, Vr 174), (1, Vi p1), (2, Vi p2), (3, Vi p3), (4, Vi 0)] rfl ?_
    refine loop_go (fun x6 => G x6.2 30 [(0, Vr 174), (1, Vi p1), (2, Vi p2), (3, Vi p3), (4, Vi (x6.1))] []) (sat_bind2 hz) (fun h => h) (fun x6 hz => ?_)
    refine q_iload C 4 rfl dX5_comesBySinking_30 ?_
    refine q_aload_n C 0 rfl dX5_comesBySinking_32 rfl ?_
    refine q_getR tO_X5 C (i := 4) i_X5 rfl rfl (by decide) rfl f_40 dX5_comesBySinking_33 ?_
    refine q_get (tO_X2 (by decide)) C (i := 0) i_X2 rfl rfl (by decide) rfl f_207 dX5_comesBySinking_36 ?_
    refine q_icmp_ge C dX5_comesBySinking_39 (tgt := 69) (by decide) (fun c7 => ?_) (fun c7 => ?_)
    · have hz := sat_t hz c7
      have hz := sat_some hz
      refine q_sub C [0, 2, 3] [(0, Vr 174), (2, Vi p2), (3, Vi p3)] rfl ?_
      refine q_aload_n C 0 rfl dX5_comesBySinking_69 rfl ?_
      refine q_getR tO_X5 C (i := 5) i_X5 rfl rfl (by decide) rfl f_44 dX5_comesBySinking_70 ?_
      obtain ⟨z9, hz9, hz⟩ := sat_bind hz
      refine q_callVv ZC_st C [] [] (c_X2_passDay x6.2 3 (by decide) hz9) (tO_X2 (by decide)) rfl gX5_comesBySinking_X2_passDay rfl ⟨rfl, rfl⟩ hdX2_passDay ⟨by decide, by decide⟩ rfl (Nat.le_of_ble_eq_true rfl) dX5_comesBySinking_73 rfl (fun _ => ?_)
      refine q_aload_n C 0 rfl dX5_comesBySinking_76 rfl ?_
      refine q_getR tO_X5 C (i := 5) i_X5 rfl rfl (by decide) rfl f_44 dX5_comesBySinking_77 ?_
      refine q_getR (tO_X2 (by decide)) C (i := 7) i_X2 rfl rfl (by decide) rfl f_167 dX5_comesBySinking_80 ?_
      refine q_iload_n C 1 rfl dX5_comesBySinking_83 rfl ?_
      obtain ⟨c10, hz⟩ := sat_chk hz
      refine q_iald (tA_places (by decide)) C 0 rfl c10 dX5_comesBySinking_84 ?_
      refine q_iload_n C 2 rfl dX5_comesBySinking_85 rfl ?_
      refine q_icmp_ne C dX5_comesBySinking_86 (tgt := 93) (by decide) (fun c11 => ?_) (fun c11 => ?_)
      · have hz := sat_f hz c11
        refine q_iconst C dX5_comesBySinking_93 ⟨by decide, by decide⟩ ?_
        exact q_zret C (Or.inl rfl) dX5_comesBySinking_94 (sat_eq hz)
      · have hz := sat_t hz c11
        refine q_iconst C dX5_comesBySinking_89 ⟨by decide, by decide⟩ ?_
        refine q_goto C dX5_comesBySinking_90 (tgt := 94) (by decide) ?_
        exact q_zret C (Or.inr rfl) dX5_comesBySinking_94 (sat_eq hz)
    · have hz := sat_f hz c7
      refine q_iload_n C 1 rfl dX5_comesBySinking_42 rfl ?_
      refine q_iload C 4 rfl dX5_comesBySinking_43 ?_
      refine q_ishr C dX5_comesBySinking_45 ?_
      refine q_iconst C dX5_comesBySinking_46 ⟨by decide, by decide⟩ ?_
      refine q_iand C dX5_comesBySinking_47 ?_
      refine q_iconst C dX5_comesBySinking_48 ⟨by decide, by decide⟩ ?_
      refine q_icmp_ne C dX5_comesBySinking_49 (tgt := 63) (by decide) (fun c12 => ?_) (fun c12 => ?_)
      · have hz := sat_f hz c12
        refine q_iinc C 4 rfl [(4, Vi (w3 (x6.1 + 1))), (0, Vr 174), (1, Vi p1), (2, Vi p2), (3, Vi p3)] rfl (by decide) dX5_comesBySinking_63 ?_
        refine q_goto C dX5_comesBySinking_66 (tgt := 30) (by decide) ?_
        refine q_sub C [1, 2, 3, 4, 0] [(0, Vr 174), (1, Vi p1), (2, Vi p2), (3, Vi p3), (4, Vi (w3 (x6.1 + 1)))] rfl ?_
        have hz := sat_some hz
        exact hz
      · have hz := sat_t hz c12
        refine q_aload_n C 0 rfl dX5_comesBySinking_52 rfl ?_
        refine q_getR tO_X5 C (i := 5) i_X5 rfl rfl (by decide) rfl f_44 dX5_comesBySinking_53 ?_
        refine q_getR (tO_X2 (by decide)) C (i := 4) i_X2 rfl rfl (by decide) rfl f_154 dX5_comesBySinking_56 ?_
        refine q_iload C 4 rfl dX5_comesBySinking_59 ?_
        refine q_iconst C dX5_comesBySinking_61 ⟨by decide, by decide⟩ ?_
        obtain ⟨c13, hz⟩ := sat_chk hz
        obtain ⟨m14, hm14, hz⟩ := sat_bnd hz
        refine q_iast (tA_crumbs (by decide)) C 0 rfl c13 hm14 dX5_comesBySinking_62 ?_
        refine q_iinc C 4 rfl [(4, Vi (w3 (x6.1 + 1))), (0, Vr 174), (1, Vi p1), (2, Vi p2), (3, Vi p3)] rfl (by decide) dX5_comesBySinking_63 ?_
        refine q_goto C dX5_comesBySinking_66 (tgt := 30) (by decide) ?_
        refine q_sub C [1, 2, 3, 4, 0] [(0, Vr 174), (1, Vi p1), (2, Vi p2), (3, Vi p3), (4, Vi (w3 (x6.1 + 1)))] rfl ?_
        have hz := sat_some hz
        exact hz
  · have hz := sat_f hz c3
    refine q_iconst C dX5_comesBySinking_14 ⟨by decide, by decide⟩ ?_
    exact q_zret C (Or.inl rfl) dX5_comesBySinking_15 (sat_eq hz)
theorem hdX5_power : yX5_power.cls ≠ "java/lang/invoke/MethodHandle" ∧ yX5_power.cls ≠ "java/lang/invoke/VarHandle" ∧ (parseMethodDescriptor yX5_power.desc).map (fun d => d.parameters.length) = some 2 := by decide +kernel
set_option maxHeartbeats 4000000 in
set_option maxRecDepth 100000 in
theorem c_X5_power {l : Launch} {D : va_G} {ad : Nat → Nat} {cI cII cR : ClassId} (μ : Mm) (p0 p2 : Int) {v : Int} (hz : f_X5_power μ p0 p2 = some v) : CT l D vwCl (tyC cI cII cR) 194 ad (EC ad cI cII cR) (ZC ad) yX5_power wsX5_power ({ frames := 0, cells := 0, slots := 0, locals := 0 } : Room) (some .long) [Vl p0, Vi p2] μ (v, μ) := by
  refine CT_of [(0, Vl p0), (2, Vi p2)] ZC_st (by decide) rfl rfl (Nat.le_of_ble_eq_true rfl) rfl (fun G C => ?_)
  have hz := sat_of hz
  unfold f_X5_power at hz
  refine q_lconst (x := 1) C dX5_power_0 ⟨rfl, by decide, by decide⟩ ?_
  refine q_lstore_n C [(3, Vl 1), (0, Vl p0), (2, Vi p2)] rfl (by decide) dX5_power_1 rfl ?_
  refine q_iconst C dX5_power_2 ⟨by decide, by decide⟩ ?_
  refine q_istore C [(5, Vi 0), (3, Vl 1), (0, Vl p0), (2, Vi p2)] rfl (by decide) dX5_power_3 ?_
  refine q_sub C [2, 3, 1, 0] [(0, Vl p0), (2, Vi p2), (3, Vl 1), (5, Vi 0)] rfl ?_
  refine loop_go (fun x1 => G μ 5 [(0, Vl p0), (2, Vi p2), (3, Vl (x1.1)), (5, Vi (x1.2))] []) (sat_bind2 hz) (fun h => h) (fun x1 hz => ?_)
  refine q_iload C 3 rfl dX5_power_5 ?_
  refine q_iload_n C 1 rfl dX5_power_7 rfl ?_
  refine q_icmp_ge C dX5_power_8 (tgt := 21) (by decide) (fun c2 => ?_) (fun c2 => ?_)
  · have hz := sat_t hz c2
    have hz := sat_some hz
    refine q_sub C [2] [(3, Vl (x1.1))] rfl ?_
    refine q_lload_n C 0 rfl dX5_power_21 rfl ?_
    exact q_lret C dX5_power_22 (congrArg (fun q => (q, μ)) (sat_eq hz))
  · have hz := sat_f hz c2
    refine q_lload_n C 2 rfl dX5_power_11 rfl ?_
    refine q_lload_n C 0 rfl dX5_power_12 rfl ?_
    refine q_lmul C dX5_power_13 ?_
    refine q_lstore_n C [(3, Vl (w6 (x1.1 * p0))), (0, Vl p0), (2, Vi p2), (5, Vi (x1.2))] rfl (by decide) dX5_power_14 rfl ?_
    refine q_iinc C 3 rfl [(5, Vi (w3 (x1.2 + 1))), (3, Vl (w6 (x1.1 * p0))), (0, Vl p0), (2, Vi p2)] rfl (by decide) dX5_power_15 ?_
    refine q_goto C dX5_power_18 (tgt := 5) (by decide) ?_
    refine q_sub C [2, 3, 1, 0] [(0, Vl p0), (2, Vi p2), (3, Vl (w6 (x1.1 * p0))), (5, Vi (w3 (x1.2 + 1)))] rfl ?_
    have hz := sat_some hz
    exact hz
theorem hdX5_casesOf : yX5_casesOf.cls = RX5 ∧ yX5_casesOf.cls ≠ "java/lang/invoke/MethodHandle" ∧ yX5_casesOf.cls ≠ "java/lang/invoke/VarHandle" ∧ (parseMethodDescriptor yX5_casesOf.desc).map (fun d => d.parameters.length) = some 2 := by decide +kernel
set_option maxHeartbeats 4000000 in
set_option maxRecDepth 100000 in
theorem c_X5_casesOf {l : Launch} {D : va_G} {ad : Nat → Nat} {cI cII cR : ClassId} (μ : Mm) (p1 p2 : Int) {v : Int} (hz : f_X5_casesOf μ p1 p2 = some v) : CT l D vwCl (tyC cI cII cR) 194 ad (EC ad cI cII cR) (ZC ad) yX5_casesOf wsX5_casesOf ({ frames := 1, cells := 0, slots := 0, locals := 25 } : Room) (some .long) [Vr 174, Vi p1, Vi p2] μ (v, μ) := by
  refine CT_of [(0, Vr 174), (1, Vi p1), (2, Vi p2)] ZC_st (by decide) rfl rfl (Nat.le_of_ble_eq_true rfl) rfl (fun G C => ?_)
  have i_X5 : ∀ w ∈ u_ws RX5 TX5 9, w ∈ wsX5_casesOf := by decide +kernel
  have f_40 : Cond.fieldLink (yX5_casesOf).cls 40 "SwanDeeds" "now" "LSwanDeeds$River;" ∈ wsX5_casesOf := by decide +kernel
  have hz := sat_of hz
  unfold f_X5_casesOf at hz
  refine q_iload_n C 1 rfl dX5_casesOf_0 rfl ?_
  refine q_callSi ZC_st C [Vi p1] [] (c_J6_bitCount_0f7a4 μ p1) gX5_casesOf_J6_bitCount_0f7a4 rfl ⟨rfl, rfl⟩ hdJ6_bitCount_0f7a4 ⟨by decide, by decide⟩ rfl (Nat.le_of_ble_eq_true rfl) dX5_casesOf_1 rfl (fun _ _ => ?_)
  obtain ⟨a2, ha2, hz⟩ := sat_bnd hz
  refine q_nmi ha2 ?_
  refine q_istore_n C [(3, Vi a2), (0, Vr 174), (1, Vi p1), (2, Vi p2)] rfl (by decide) dX5_casesOf_4 rfl ?_
  refine q_aload_n C 1 rfl dX5_casesOf_5 rfl ?_
  refine q_getR tO_X5 C (i := 4) i_X5 rfl rfl (by decide) rfl f_40 dX5_casesOf_6 ?_
  obtain ⟨z4, hz4, hz⟩ := sat_bind hz
  refine q_callVi ZC_st C [] [] (c_X2_breadLawns μ 0 (by decide) hz4) (tO_X2 (by decide)) rfl gX5_casesOf_X2_breadLawns rfl ⟨rfl, rfl⟩ hdX2_breadLawns ⟨by decide, by decide⟩ rfl (Nat.le_of_ble_eq_true rfl) dX5_casesOf_9 rfl (fun _ _ => ?_)
  refine q_callSi ZC_st C [Vi z4] [] (c_J6_bitCount_0f7a4 μ z4) gX5_casesOf_J6_bitCount_0f7a4 rfl ⟨rfl, rfl⟩ hdJ6_bitCount_0f7a4 ⟨by decide, by decide⟩ rfl (Nat.le_of_ble_eq_true rfl) dX5_casesOf_12 rfl (fun _ _ => ?_)
  refine q_iload_n C 0 rfl dX5_casesOf_15 rfl ?_
  refine q_isub C dX5_casesOf_16 ?_
  obtain ⟨a6, ha6, hz⟩ := sat_bnd hz
  refine q_nmi ha6 ?_
  refine q_istore C [(4, Vi a6), (3, Vi a2), (0, Vr 174), (1, Vi p1), (2, Vi p2)] rfl (by decide) dX5_casesOf_17 ?_
  refine q_iload_n C 4 rfl dX5_casesOf_19 rfl ?_
  refine q_i2l C dX5_casesOf_20 ?_
  refine q_iload_n C 1 rfl dX5_casesOf_21 rfl ?_
  obtain ⟨z8, hz8, hz⟩ := sat_bind hz
  refine q_callSl ZC_st C [Vl p2, Vi a2] [] (c_X5_power μ p2 a2 hz8) gX5_casesOf_X5_power rfl ⟨rfl, rfl⟩ hdX5_power ⟨by decide, by decide⟩ rfl (Nat.le_of_ble_eq_true rfl) dX5_casesOf_22 rfl (fun _ _ => ?_)
  refine q_bipush C dX5_casesOf_25 ⟨rfl, by decide, by decide⟩ ?_
  refine q_iload_n C 4 rfl dX5_casesOf_27 rfl ?_
  refine q_isub C dX5_casesOf_28 ?_
  refine q_i2l C dX5_casesOf_29 ?_
  refine q_iload C 0 rfl dX5_casesOf_30 ?_
  obtain ⟨z10, hz10, hz⟩ := sat_bind hz
  refine q_callSl ZC_st C [Vl (w3 (10 - p2)), Vi a6] [Vl z8] (c_X5_power μ (w3 (10 - p2)) a6 hz10) gX5_casesOf_X5_power rfl ⟨rfl, rfl⟩ hdX5_power ⟨by decide, by decide⟩ rfl (Nat.le_of_ble_eq_true rfl) dX5_casesOf_32 rfl (fun _ _ => ?_)
  refine q_lmul C dX5_casesOf_35 ?_
  exact q_lret C dX5_casesOf_36 (congrArg (fun q => (q, μ)) (sat_eq hz))
theorem hdX5_sharedDivisor : yX5_sharedDivisor.cls ≠ "java/lang/invoke/MethodHandle" ∧ yX5_sharedDivisor.cls ≠ "java/lang/invoke/VarHandle" ∧ (parseMethodDescriptor yX5_sharedDivisor.desc).map (fun d => d.parameters.length) = some 2 := by decide +kernel
set_option maxHeartbeats 4000000 in
set_option maxRecDepth 100000 in
theorem c_X5_sharedDivisor {l : Launch} {D : va_G} {ad : Nat → Nat} {cI cII cR : ClassId} (μ : Mm) (p0 p2 : Int) {v : Int} (hz : f_X5_sharedDivisor μ p0 p2 = some v) : CT l D vwCl (tyC cI cII cR) 194 ad (EC ad cI cII cR) (ZC ad) yX5_sharedDivisor wsX5_sharedDivisor ({ frames := 0, cells := 0, slots := 0, locals := 0 } : Room) (some .long) [Vl p0, Vl p2] μ (v, μ) := by
  refine CT_of [(0, Vl p0), (2, Vl p2)] ZC_st (by decide) rfl rfl (Nat.le_of_ble_eq_true rfl) rfl (fun G C => ?_)
  have hz := sat_of hz
  unfold f_X5_sharedDivisor at hz
  refine q_lload_n C 0 rfl dX5_sharedDivisor_0 rfl ?_
  refine q_lstore C [(4, Vl p0), (0, Vl p0), (2, Vl p2)] rfl (by decide) dX5_sharedDivisor_1 ?_
  refine q_lload_n C 2 rfl dX5_sharedDivisor_3 rfl ?_
  refine q_lstore C [(6, Vl p2), (4, Vl p0), (0, Vl p0), (2, Vl p2)] rfl (by decide) dX5_sharedDivisor_4 ?_
  refine q_iconst C dX5_sharedDivisor_6 ⟨by decide, by decide⟩ ?_
  refine q_istore C [(8, Vi 0), (6, Vl p2), (4, Vl p0), (0, Vl p0), (2, Vl p2)] rfl (by decide) dX5_sharedDivisor_7 ?_
  refine q_sub C [2, 1, 0] [(4, Vl p0), (6, Vl p2), (8, Vi 0)] rfl ?_
  refine loop_go (fun x1 => G μ 9 [(4, Vl (x1.1)), (6, Vl (x1.2.1)), (8, Vi (x1.2.2))] []) (sat_bind2 hz) (fun h => h) (fun x1 hz => ?_)
  refine q_iload C 2 rfl dX5_sharedDivisor_9 ?_
  refine q_bipush C dX5_sharedDivisor_11 ⟨rfl, by decide, by decide⟩ ?_
  refine q_icmp_ge C dX5_sharedDivisor_13 (tgt := 44) (by decide) (fun c2 => ?_) (fun c2 => ?_)
  · have hz := sat_t hz c2
    have hz := sat_some hz
    refine q_sub C [0] [(4, Vl (x1.1))] rfl ?_
    refine q_lload C 0 rfl dX5_sharedDivisor_44 ?_
    exact q_lret C dX5_sharedDivisor_46 (congrArg (fun q => (q, μ)) (sat_eq hz))
  · have hz := sat_f hz c2
    refine q_lload C 1 rfl dX5_sharedDivisor_16 ?_
    refine q_lconst (x := 0) C dX5_sharedDivisor_18 ⟨rfl, by decide, by decide⟩ ?_
    refine q_lcmp C dX5_sharedDivisor_19 ?_
    refine q_if_eq C dX5_sharedDivisor_20 (tgt := 44) (by decide) (fun c3 => ?_) (fun c3 => ?_)
    · have hz := sat_t hz c3
      have hz := sat_some hz
      refine q_sub C [0] [(4, Vl (x1.1))] rfl ?_
      refine q_lload C 0 rfl dX5_sharedDivisor_44 ?_
      exact q_lret C dX5_sharedDivisor_46 (congrArg (fun q => (q, μ)) (sat_eq hz))
    · have hz := sat_f hz c3
      refine q_lload C 0 rfl dX5_sharedDivisor_23 ?_
      refine q_lload C 1 rfl dX5_sharedDivisor_25 ?_
      obtain ⟨c4, hz⟩ := sat_chk hz
      refine q_lrem C c4 dX5_sharedDivisor_27 ?_
      refine q_lstore C [(9, Vl (lRem x1.1 x1.2.1)), (4, Vl (x1.1)), (6, Vl (x1.2.1)), (8, Vi (x1.2.2))] rfl (by decide) dX5_sharedDivisor_28 ?_
      refine q_lload C 2 rfl dX5_sharedDivisor_30 ?_
      refine q_lstore C [(4, Vl (x1.2.1)), (9, Vl (lRem x1.1 x1.2.1)), (6, Vl (x1.2.1)), (8, Vi (x1.2.2))] rfl (by decide) dX5_sharedDivisor_32 ?_
      refine q_lload C 1 rfl dX5_sharedDivisor_34 ?_
      refine q_lstore C [(6, Vl (lRem x1.1 x1.2.1)), (4, Vl (x1.2.1)), (9, Vl (lRem x1.1 x1.2.1)), (8, Vi (x1.2.2))] rfl (by decide) dX5_sharedDivisor_36 ?_
      refine q_iinc C 3 rfl [(8, Vi (w3 (x1.2.2 + 1))), (6, Vl (lRem x1.1 x1.2.1)), (4, Vl (x1.2.1)), (9, Vl (lRem x1.1 x1.2.1))] rfl (by decide) dX5_sharedDivisor_38 ?_
      refine q_goto C dX5_sharedDivisor_41 (tgt := 9) (by decide) ?_
      refine q_sub C [2, 1, 0] [(4, Vl (x1.2.1)), (6, Vl (lRem x1.1 x1.2.1)), (8, Vi (w3 (x1.2.2 + 1)))] rfl ?_
      have hz := sat_some hz
      exact hz
theorem hdX5_sink : yX5_sink.cls = RX5 ∧ yX5_sink.cls ≠ "java/lang/invoke/MethodHandle" ∧ yX5_sink.cls ≠ "java/lang/invoke/VarHandle" ∧ (parseMethodDescriptor yX5_sink.desc).map (fun d => d.parameters.length) = some 4 := by decide +kernel
set_option maxHeartbeats 4000000 in
set_option maxRecDepth 100000 in
theorem c_X5_sink {l : Launch} {D : va_G} {ad : Nat → Nat} {cI cII cR : ClassId} (μ : Mm) (p1 p2 p3 p4 : Int) {v : Int × Mm} (hz : f_X5_sink μ p1 p2 p3 p4 = some v) : CT l D vwCl (tyC cI cII cR) 194 ad (EC ad cI cII cR) (ZC ad) yX5_sink wsX5_sink ({ frames := 5, cells := 0, slots := 0, locals := 120 } : Room) (some .long) [Vr 174, Vi p1, Vi p2, Vi p3, Vi p4] μ (v.1, v.2) := by
  refine CT_of [(0, Vr 174), (1, Vi p1), (2, Vi p2), (3, Vi p3), (4, Vi p4)] ZC_st (by decide) rfl rfl (Nat.le_of_ble_eq_true rfl) rfl (fun G C => ?_)
  have i_X2 : ∀ w ∈ u_ws RX2 TX2 11, w ∈ wsX5_sink := by decide +kernel
  have i_X5 : ∀ w ∈ u_ws RX5 TX5 9, w ∈ wsX5_sink := by decide +kernel
  have f_40 : Cond.fieldLink (yX5_sink).cls 40 "SwanDeeds" "now" "LSwanDeeds$River;" ∈ wsX5_sink := by decide +kernel
  have f_207 : Cond.fieldLink (yX5_sink).cls 207 "SwanDeeds$River" "lawnCount" "I" ∈ wsX5_sink := by decide +kernel
  have hz := sat_of hz
  unfold f_X5_sink at hz
  refine q_aload_n C 0 rfl dX5_sink_0 rfl ?_
  refine q_iload_n C 1 rfl dX5_sink_1 rfl ?_
  refine q_callVz ZC_st C [Vi p1] [] (c_X5_isSwan μ p1) tO_X5 rfl gX5_sink_X5_isSwan rfl ⟨rfl, rfl⟩ hdX5_isSwan ⟨by decide, by decide⟩ rfl (Nat.le_of_ble_eq_true rfl) dX5_sink_2 rfl (fun hb1 _ => ?_)
  refine q_if_eq C dX5_sink_5 (tgt := 36) (by decide) (fun c2 => ?_) (fun c2 => ?_)
  · have hz := sat_t hz c2
    refine q_ldc2 (v := (-1000001)) (x := (-1000001)) C (by decide +kernel) dX5_sink_36 ⟨by decide +kernel, by decide, by decide⟩ ?_
    exact q_lret C dX5_sink_39 (sat_eq hz)
  · have hz := sat_f hz c2
    refine q_aload_n C 0 rfl dX5_sink_8 rfl ?_
    refine q_iload_n C 2 rfl dX5_sink_9 rfl ?_
    refine q_callVz ZC_st C [Vi p2] [] (c_X5_isLawn μ p2) tO_X5 rfl gX5_sink_X5_isLawn rfl ⟨rfl, rfl⟩ hdX5_isLawn ⟨by decide, by decide⟩ rfl (Nat.le_of_ble_eq_true rfl) dX5_sink_10 rfl (fun hb3 _ => ?_)
    refine q_if_eq C dX5_sink_13 (tgt := 36) (by decide) (fun c4 => ?_) (fun c4 => ?_)
    · have hz := sat_t hz c4
      refine q_ldc2 (v := (-1000001)) (x := (-1000001)) C (by decide +kernel) dX5_sink_36 ⟨by decide +kernel, by decide, by decide⟩ ?_
      exact q_lret C dX5_sink_39 (sat_eq hz)
    · have hz := sat_f hz c4
      refine q_iload_n C 3 rfl dX5_sink_16 rfl ?_
      refine q_iconst C dX5_sink_17 ⟨by decide, by decide⟩ ?_
      refine q_bipush C dX5_sink_18 ⟨rfl, by decide, by decide⟩ ?_
      refine q_callSz ZC_st C [Vi p3, Vi 0, Vi 10] [] (c_X5_within μ p3 0 10) gX5_sink_X5_within rfl ⟨rfl, rfl⟩ hdX5_within ⟨by decide, by decide⟩ rfl (Nat.le_of_ble_eq_true rfl) dX5_sink_20 rfl (fun hb5 _ => ?_)
      refine q_if_eq C dX5_sink_23 (tgt := 36) (by decide) (fun c6 => ?_) (fun c6 => ?_)
      · have hz := sat_t hz c6
        refine q_ldc2 (v := (-1000001)) (x := (-1000001)) C (by decide +kernel) dX5_sink_36 ⟨by decide +kernel, by decide, by decide⟩ ?_
        exact q_lret C dX5_sink_39 (sat_eq hz)
      · have hz := sat_f hz c6
        refine q_iload C 4 rfl dX5_sink_26 ?_
        refine q_iconst C dX5_sink_28 ⟨by decide, by decide⟩ ?_
        refine q_iconst C dX5_sink_29 ⟨by decide, by decide⟩ ?_
        refine q_callSz ZC_st C [Vi p4, Vi 0, Vi 1] [] (c_X5_within μ p4 0 1) gX5_sink_X5_within rfl ⟨rfl, rfl⟩ hdX5_within ⟨by decide, by decide⟩ rfl (Nat.le_of_ble_eq_true rfl) dX5_sink_30 rfl (fun hb7 _ => ?_)
        refine q_if_ne C dX5_sink_33 (tgt := 40) (by decide) (fun c8 => ?_) (fun c8 => ?_)
        · have hz := sat_f hz c8
          refine q_lconst (x := 0) C dX5_sink_40 ⟨rfl, by decide, by decide⟩ ?_
          refine q_lstore C [(5, Vl 0), (0, Vr 174), (1, Vi p1), (2, Vi p2), (3, Vi p3), (4, Vi p4)] rfl (by decide) dX5_sink_41 ?_
          refine q_iconst C dX5_sink_43 ⟨by decide, by decide⟩ ?_
          refine q_istore C [(7, Vi 0), (5, Vl 0), (0, Vr 174), (1, Vi p1), (2, Vi p2), (3, Vi p3), (4, Vi p4)] rfl (by decide) dX5_sink_44 ?_
          refine q_sub C [2, 3, 4, 5, 6, 1, 0] [(0, Vr 174), (1, Vi p1), (2, Vi p2), (3, Vi p3), (4, Vi p4), (5, Vl 0), (7, Vi 0)] rfl ?_
          refine loop_go (fun x9 => G x9.2.2 46 [(0, Vr 174), (1, Vi p1), (2, Vi p2), (3, Vi p3), (4, Vi p4), (5, Vl (x9.1)), (7, Vi (x9.2.1))] []) (sat_bind2 hz) (fun h => h) (fun x9 hz => ?_)
          refine q_iload C 6 rfl dX5_sink_46 ?_
          refine q_iconst C dX5_sink_48 ⟨by decide, by decide⟩ ?_
          refine q_aload_n C 0 rfl dX5_sink_49 rfl ?_
          refine q_getR tO_X5 C (i := 4) i_X5 rfl rfl (by decide) rfl f_40 dX5_sink_50 ?_
          refine q_get (tO_X2 (by decide)) C (i := 0) i_X2 rfl rfl (by decide) rfl f_207 dX5_sink_53 ?_
          refine q_ishl C dX5_sink_56 ?_
          refine q_icmp_ge C dX5_sink_57 (tgt := 89) (by decide) (fun c10 => ?_) (fun c10 => ?_)
          · have hz := sat_t hz c10
            have hz := sat_some hz
            refine q_sub C [0, 4, 5] [(0, Vr 174), (4, Vi p4), (5, Vl (x9.1))] rfl ?_
            refine q_ldc2 (v := 10) (x := 10) C (by decide +kernel) dX5_sink_89 ⟨by decide +kernel, by decide, by decide⟩ ?_
            refine q_aload_n C 0 rfl dX5_sink_92 rfl ?_
            refine q_getR tO_X5 C (i := 4) i_X5 rfl rfl (by decide) rfl f_40 dX5_sink_93 ?_
            obtain ⟨z12, hz12, hz⟩ := sat_bind hz
            refine q_callVi ZC_st C [] [Vl 10] (c_X2_breadLawns x9.2.2 0 (by decide) hz12) (tO_X2 (by decide)) rfl gX5_sink_X2_breadLawns rfl ⟨rfl, rfl⟩ hdX2_breadLawns ⟨by decide, by decide⟩ rfl (Nat.le_of_ble_eq_true rfl) dX5_sink_96 rfl (fun _ _ => ?_)
            refine q_callSi ZC_st C [Vi z12] [Vl 10] (c_J6_bitCount_0f7a4 x9.2.2 z12) gX5_sink_J6_bitCount_0f7a4 rfl ⟨rfl, rfl⟩ hdJ6_bitCount_0f7a4 ⟨by decide, by decide⟩ rfl (Nat.le_of_ble_eq_true rfl) dX5_sink_99 rfl (fun _ _ => ?_)
            obtain ⟨z15, hz15, hz⟩ := sat_bind hz
            refine q_callSl ZC_st C [Vl 10, Vi (f_J6_bitCount_0f7a4 x9.2.2 z12)] [] (c_X5_power x9.2.2 10 (f_J6_bitCount_0f7a4 x9.2.2 z12) hz15) gX5_sink_X5_power rfl ⟨rfl, rfl⟩ hdX5_power ⟨by decide, by decide⟩ rfl (Nat.le_of_ble_eq_true rfl) dX5_sink_102 rfl (fun _ _ => ?_)
            refine q_lstore C [(7, Vl z15), (0, Vr 174), (4, Vi p4), (5, Vl (x9.1))] rfl (by decide) dX5_sink_105 ?_
            refine q_lconst (x := 1) C dX5_sink_107 ⟨rfl, by decide, by decide⟩ ?_
            refine q_lload C 3 rfl dX5_sink_108 ?_
            refine q_lload C 0 rfl dX5_sink_110 ?_
            obtain ⟨z17, hz17, hz⟩ := sat_bind hz
            refine q_callSl ZC_st C [Vl (x9.1), Vl z15] [Vl 1] (c_X5_sharedDivisor x9.2.2 x9.1 z15 hz17) gX5_sink_X5_sharedDivisor rfl ⟨rfl, rfl⟩ hdX5_sharedDivisor ⟨by decide, by decide⟩ rfl (Nat.le_of_ble_eq_true rfl) dX5_sink_112 rfl (fun _ _ => ?_)
            refine q_mmaxl C (v := f_J9_max_f86c9 x9.2.2 1 z17) rfl (by decide +kernel) (by decide +kernel) (by decide +kernel) (by decide +kernel) ⟨by decide, Nat.le_of_ble_eq_true rfl⟩ dX5_sink_115 ?_
            obtain ⟨a18, ha18, hz⟩ := sat_bnd hz
            refine q_nml ha18 ?_
            refine q_lstore C [(9, Vl a18), (7, Vl z15), (0, Vr 174), (4, Vi p4), (5, Vl (x9.1))] rfl (by decide) dX5_sink_118 ?_
            refine q_iload C 3 rfl dX5_sink_120 ?_
            refine q_if_ne C dX5_sink_122 (tgt := 133) (by decide) (fun c19 => ?_) (fun c19 => ?_)
            · have hz := sat_f hz c19
              refine q_lload C 1 rfl dX5_sink_133 ?_
              refine q_lload C 0 rfl dX5_sink_135 ?_
              obtain ⟨c20, hz⟩ := sat_chk hz
              refine q_ldiv C c20 dX5_sink_137 ?_
              exact q_lret C dX5_sink_138 (sat_eq hz)
            · have hz := sat_t hz c19
              refine q_lload C 4 rfl dX5_sink_125 ?_
              refine q_lload C 0 rfl dX5_sink_127 ?_
              obtain ⟨c21, hz⟩ := sat_chk hz
              refine q_ldiv C c21 dX5_sink_129 ?_
              refine q_goto C dX5_sink_130 (tgt := 138) (by decide) ?_
              exact q_lret C dX5_sink_138 (sat_eq hz)
          · have hz := sat_f hz c10
            refine q_aload_n C 0 rfl dX5_sink_60 rfl ?_
            refine q_iload C 6 rfl dX5_sink_61 ?_
            refine q_iload_n C 1 rfl dX5_sink_63 rfl ?_
            refine q_iload_n C 2 rfl dX5_sink_64 rfl ?_
            obtain ⟨z23, hz23, hz⟩ := sat_bind hz
            refine q_callVz ZC_st C [Vi (x9.2.1), Vi p1, Vi p2] [] (c_X5_comesBySinking x9.2.2 x9.2.1 p1 p2 hz23) tO_X5 rfl gX5_sink_X5_comesBySinking rfl ⟨rfl, rfl⟩ hdX5_comesBySinking ⟨by decide, by decide⟩ rfl (Nat.le_of_ble_eq_true rfl) dX5_sink_65 rfl (fun hb22 _ => ?_)
            refine q_if_eq C dX5_sink_68 (tgt := 83) (by decide) (fun c24 => ?_) (fun c24 => ?_)
            · have hz := sat_t hz c24
              refine q_iinc C 6 rfl [(7, Vi (w3 (x9.2.1 + 1))), (0, Vr 174), (1, Vi p1), (2, Vi p2), (3, Vi p3), (4, Vi p4), (5, Vl (x9.1))] rfl (by decide) dX5_sink_83 ?_
              refine q_goto C dX5_sink_86 (tgt := 46) (by decide) ?_
              refine q_sub C [1, 2, 3, 4, 5, 6, 0] [(0, Vr 174), (1, Vi p1), (2, Vi p2), (3, Vi p3), (4, Vi p4), (5, Vl (x9.1)), (7, Vi (w3 (x9.2.1 + 1)))] rfl ?_
              have hz := sat_some hz
              exact hz
            · have hz := sat_f hz c24
              refine q_lload C 5 rfl dX5_sink_71 ?_
              refine q_aload_n C 0 rfl dX5_sink_73 rfl ?_
              refine q_iload C 6 rfl dX5_sink_74 ?_
              refine q_iload_n C 3 rfl dX5_sink_76 rfl ?_
              obtain ⟨z26, hz26, hz⟩ := sat_bind hz
              refine q_callVl ZC_st C [Vi (x9.2.1), Vi p3] [Vl (x9.1)] (c_X5_casesOf z23.2 x9.2.1 p3 hz26) tO_X5 rfl gX5_sink_X5_casesOf rfl ⟨rfl, rfl⟩ hdX5_casesOf ⟨by decide, by decide⟩ rfl (Nat.le_of_ble_eq_true rfl) dX5_sink_77 rfl (fun _ _ => ?_)
              refine q_ladd C dX5_sink_80 ?_
              refine q_lstore C [(5, Vl (w6 (x9.1 + z26))), (0, Vr 174), (1, Vi p1), (2, Vi p2), (3, Vi p3), (4, Vi p4), (7, Vi (x9.2.1))] rfl (by decide) dX5_sink_81 ?_
              refine q_iinc C 6 rfl [(7, Vi (w3 (x9.2.1 + 1))), (5, Vl (w6 (x9.1 + z26))), (0, Vr 174), (1, Vi p1), (2, Vi p2), (3, Vi p3), (4, Vi p4)] rfl (by decide) dX5_sink_83 ?_
              refine q_goto C dX5_sink_86 (tgt := 46) (by decide) ?_
              refine q_sub C [2, 3, 4, 5, 6, 1, 0] [(0, Vr 174), (1, Vi p1), (2, Vi p2), (3, Vi p3), (4, Vi p4), (5, Vl (w6 (x9.1 + z26))), (7, Vi (w3 (x9.2.1 + 1)))] rfl ?_
              have hz := sat_some hz
              exact hz
        · have hz := sat_t hz c8
          refine q_ldc2 (v := (-1000001)) (x := (-1000001)) C (by decide +kernel) dX5_sink_36 ⟨by decide +kernel, by decide, by decide⟩ ?_
          exact q_lret C dX5_sink_39 (sat_eq hz)
