theorem hdX5_comesByWeirs : yX5_comesByWeirs.cls = RX5 ∧ yX5_comesByWeirs.cls ≠ "java/lang/invoke/MethodHandle" ∧ yX5_comesByWeirs.cls ≠ "java/lang/invoke/VarHandle" ∧ (parseMethodDescriptor yX5_comesByWeirs.desc).map (fun d => d.parameters.length) = some 4 := by decide +kernel
set_option maxHeartbeats 4000000 in
set_option maxRecDepth 100000 in
theorem c_X5_comesByWeirs {l : Launch} {D : va_G} {ad : Nat → Nat} {cI cII cR : ClassId} (μ : Mm) (p1 p2 p3 p4 : Int) {v : Int × Mm} (hz : f_X5_comesByWeirs μ p1 p2 p3 p4 = some v) : CT l D vwCl (tyC cI cII cR) 194 ad (EC ad cI cII cR) yX5_comesByWeirs wsX5_comesByWeirs ({ frames := 5, cells := 0, slots := 0, locals := 118 } : Room) (some .boolean) [Vr 174, Vi p1, Vi p2, Vi p3, Vi p4] μ v := by
  refine CT_of [(0, Vr 174), (1, Vi p1), (2, Vi p2), (3, Vi p3), (4, Vi p4)] (by decide) rfl rfl (Nat.le_of_ble_eq_true rfl) rfl (fun G C => ?_)
  have i_X2 : ∀ w ∈ u_ws RX2 TX2 11, w ∈ wsX5_comesByWeirs := by decide +kernel
  have i_X5 : ∀ w ∈ u_ws RX5 TX5 9, w ∈ wsX5_comesByWeirs := by decide +kernel
  have f_40 : Cond.fieldLink (yX5_comesByWeirs).cls 40 "SwanDeeds" "now" "LSwanDeeds$River;" ∈ wsX5_comesByWeirs := by decide +kernel
  have f_44 : Cond.fieldLink (yX5_comesByWeirs).cls 44 "SwanDeeds" "trial" "LSwanDeeds$River;" ∈ wsX5_comesByWeirs := by decide +kernel
  have f_161 : Cond.fieldLink (yX5_comesByWeirs).cls 161 "SwanDeeds$River" "weirBits" "I" ∈ wsX5_comesByWeirs := by decide +kernel
  have f_167 : Cond.fieldLink (yX5_comesByWeirs).cls 167 "SwanDeeds$River" "places" "[I" ∈ wsX5_comesByWeirs := by decide +kernel
  have hz := sat_of hz
  unfold f_X5_comesByWeirs at hz
  refine q_iload_n C 1 rfl dX5_comesByWeirs_0 rfl ?_
  refine q_aload_n C 0 rfl dX5_comesByWeirs_1 rfl ?_
  refine q_getR tO_X5 C i_X5 rfl rfl (by decide) rfl f_40 dX5_comesByWeirs_2 ?_
  refine q_get (tO_X2 (by decide)) C i_X2 rfl rfl (by decide) rfl f_161 dX5_comesByWeirs_5 ?_
  refine q_iand C dX5_comesByWeirs_8 ?_
  refine q_if_eq C dX5_comesByWeirs_9 (by decide) (fun c1 => ?_) (fun c1 => ?_)
  · have hz := sat_t hz c1
    refine q_aload_n C 0 rfl dX5_comesByWeirs_14 rfl ?_
    refine q_getR tO_X5 C i_X5 rfl rfl (by decide) rfl f_44 dX5_comesByWeirs_15 ?_
    refine q_aload_n C 0 rfl dX5_comesByWeirs_18 rfl ?_
    refine q_getR tO_X5 C i_X5 rfl rfl (by decide) rfl f_40 dX5_comesByWeirs_19 ?_
    obtain ⟨z3, hz3, hz⟩ := sat_bind hz
    refine q_callVv C [Vr (6 * 0)] [] (c_X2_become μ 3 (by decide) 0 (by decide) hz3) (tO_X2 (by decide)) rfl gX5_comesByWeirs_X2_become rfl ⟨rfl, rfl⟩ hdX2_become ⟨by decide, by decide⟩ rfl (by decide) dX5_comesByWeirs_22 rfl (fun _ => ?_)
    refine q_aload_n C 0 rfl dX5_comesByWeirs_25 rfl ?_
    refine q_getR tO_X5 C i_X5 rfl rfl (by decide) rfl f_44 dX5_comesByWeirs_26 ?_
    refine q_dup C dX5_comesByWeirs_29 rfl ?_
    refine q_get (tO_X2 (by decide)) C i_X2 rfl rfl (by decide) rfl f_161 dX5_comesByWeirs_30 ?_
    refine q_iload_n C 1 rfl dX5_comesByWeirs_33 rfl ?_
    refine q_ior C dX5_comesByWeirs_34 ?_
    obtain ⟨m4, hm4, hz⟩ := sat_bnd hz
    refine q_put (tO_X2 (by decide)) C hm4 i_X2 tyX2_ok nmX2 rfl rfl (by decide) rfl f_161 dX5_comesByWeirs_35 ?_
    refine q_aload_n C 0 rfl dX5_comesByWeirs_38 rfl ?_
    refine q_getR tO_X5 C i_X5 rfl rfl (by decide) rfl f_44 dX5_comesByWeirs_39 ?_
    refine q_iload C 4 rfl dX5_comesByWeirs_42 ?_
    obtain ⟨z6, hz6, hz⟩ := sat_bind hz
    refine q_callVv C [Vi p4] [] (c_X2_passDays m4 3 (by decide) p4 hz6) (tO_X2 (by decide)) rfl gX5_comesByWeirs_X2_passDays rfl ⟨rfl, rfl⟩ hdX2_passDays ⟨by decide, by decide⟩ rfl (by decide) dX5_comesByWeirs_44 rfl (fun _ => ?_)
    refine q_aload_n C 0 rfl dX5_comesByWeirs_47 rfl ?_
    refine q_getR tO_X5 C i_X5 rfl rfl (by decide) rfl f_44 dX5_comesByWeirs_48 ?_
    refine q_getR (tO_X2 (by decide)) C i_X2 rfl rfl (by decide) rfl f_167 dX5_comesByWeirs_51 ?_
    refine q_iload_n C 2 rfl dX5_comesByWeirs_54 rfl ?_
    obtain ⟨c7, hz⟩ := sat_chk hz
    refine q_iald (tA_places (by decide)) C 0 rfl c7 dX5_comesByWeirs_55 ?_
    refine q_iload_n C 3 rfl dX5_comesByWeirs_56 rfl ?_
    refine q_icmp_ne C dX5_comesByWeirs_57 (by decide) (fun c8 => ?_) (fun c8 => ?_)
    · have hz := sat_f hz c8
      refine q_iconst C dX5_comesByWeirs_64 ⟨by decide, by decide⟩ ?_
      exact q_zret C (Or.inl rfl) dX5_comesByWeirs_65 (sat_some hz)
    · have hz := sat_t hz c8
      refine q_iconst C dX5_comesByWeirs_60 ⟨by decide, by decide⟩ ?_
      refine q_goto C dX5_comesByWeirs_61 (by decide) ?_
      exact q_zret C (Or.inr rfl) dX5_comesByWeirs_65 (sat_some hz)
  · have hz := sat_f hz c1
    refine q_iconst C dX5_comesByWeirs_12 ⟨by decide, by decide⟩ ?_
    exact q_zret C (Or.inl rfl) dX5_comesByWeirs_13 (sat_some hz)
theorem hdX5_comesByCrusts : yX5_comesByCrusts.cls = RX5 ∧ yX5_comesByCrusts.cls ≠ "java/lang/invoke/MethodHandle" ∧ yX5_comesByCrusts.cls ≠ "java/lang/invoke/VarHandle" ∧ (parseMethodDescriptor yX5_comesByCrusts.desc).map (fun d => d.parameters.length) = some 4 := by decide +kernel
set_option maxHeartbeats 4000000 in
set_option maxRecDepth 100000 in
theorem c_X5_comesByCrusts {l : Launch} {D : va_G} {ad : Nat → Nat} {cI cII cR : ClassId} (μ : Mm) (p1 p2 p3 p4 : Int) {v : Int × Mm} (hz : f_X5_comesByCrusts μ p1 p2 p3 p4 = some v) : CT l D vwCl (tyC cI cII cR) 194 ad (EC ad cI cII cR) yX5_comesByCrusts wsX5_comesByCrusts ({ frames := 5, cells := 0, slots := 0, locals := 118 } : Room) (some .boolean) [Vr 174, Vi p1, Vi p2, Vi p3, Vi p4] μ v := by
  refine CT_of [(0, Vr 174), (1, Vi p1), (2, Vi p2), (3, Vi p3), (4, Vi p4)] (by decide) rfl rfl (Nat.le_of_ble_eq_true rfl) rfl (fun G C => ?_)
  have i_X2 : ∀ w ∈ u_ws RX2 TX2 11, w ∈ wsX5_comesByCrusts := by decide +kernel
  have i_X5 : ∀ w ∈ u_ws RX5 TX5 9, w ∈ wsX5_comesByCrusts := by decide +kernel
  have f_40 : Cond.fieldLink (yX5_comesByCrusts).cls 40 "SwanDeeds" "now" "LSwanDeeds$River;" ∈ wsX5_comesByCrusts := by decide +kernel
  have f_44 : Cond.fieldLink (yX5_comesByCrusts).cls 44 "SwanDeeds" "trial" "LSwanDeeds$River;" ∈ wsX5_comesByCrusts := by decide +kernel
  have f_167 : Cond.fieldLink (yX5_comesByCrusts).cls 167 "SwanDeeds$River" "places" "[I" ∈ wsX5_comesByCrusts := by decide +kernel
  have f_207 : Cond.fieldLink (yX5_comesByCrusts).cls 207 "SwanDeeds$River" "lawnCount" "I" ∈ wsX5_comesByCrusts := by decide +kernel
  have hz := sat_of hz
  unfold f_X5_comesByCrusts at hz
  refine q_aload_n C 0 rfl dX5_comesByCrusts_0 rfl ?_
  refine q_getR tO_X5 C i_X5 rfl rfl (by decide) rfl f_44 dX5_comesByCrusts_1 ?_
  refine q_aload_n C 0 rfl dX5_comesByCrusts_4 rfl ?_
  refine q_getR tO_X5 C i_X5 rfl rfl (by decide) rfl f_40 dX5_comesByCrusts_5 ?_
  obtain ⟨z2, hz2, hz⟩ := sat_bind hz
  refine q_callVv C [Vr (6 * 0)] [] (c_X2_become μ 3 (by decide) 0 (by decide) hz2) (tO_X2 (by decide)) rfl gX5_comesByCrusts_X2_become rfl ⟨rfl, rfl⟩ hdX2_become ⟨by decide, by decide⟩ rfl (by decide) dX5_comesByCrusts_8 rfl (fun _ => ?_)
  refine q_iconst C dX5_comesByCrusts_11 ⟨by decide, by decide⟩ ?_
  refine q_istore C [(5, Vi 0), (0, Vr 174), (1, Vi p1), (2, Vi p2), (3, Vi p3), (4, Vi p4)] rfl (by decide) dX5_comesByCrusts_12 ?_
  refine q_sub C [1, 2, 3, 4, 5, 0] [(0, Vr 174), (1, Vi p1), (2, Vi p2), (3, Vi p3), (4, Vi p4), (5, Vi 0)] rfl ?_
  refine loop_go (fun x3 => G x3.2 14 [(0, Vr 174), (1, Vi p1), (2, Vi p2), (3, Vi p3), (4, Vi p4), (5, Vi (x3.1))] []) (sat_bind2 hz) (fun h => h) (fun x3 hz => ?_)
  refine q_iload C 5 rfl dX5_comesByCrusts_14 ?_
  refine q_aload_n C 0 rfl dX5_comesByCrusts_16 rfl ?_
  refine q_getR tO_X5 C i_X5 rfl rfl (by decide) rfl f_40 dX5_comesByCrusts_17 ?_
  refine q_get (tO_X2 (by decide)) C i_X2 rfl rfl (by decide) rfl f_207 dX5_comesByCrusts_20 ?_
  refine q_icmp_ge C dX5_comesByCrusts_23 (by decide) (fun c4 => ?_) (fun c4 => ?_)
  · have hz := sat_t hz c4
    have hz := sat_some hz
    refine q_sub C [0, 2, 3, 4] [(0, Vr 174), (2, Vi p2), (3, Vi p3), (4, Vi p4)] rfl ?_
    refine q_aload_n C 0 rfl dX5_comesByCrusts_53 rfl ?_
    refine q_getR tO_X5 C i_X5 rfl rfl (by decide) rfl f_44 dX5_comesByCrusts_54 ?_
    refine q_iload C 3 rfl dX5_comesByCrusts_57 ?_
    obtain ⟨z6, hz6, hz⟩ := sat_bind hz
    refine q_callVv C [Vi p4] [] (c_X2_passDays x3.2 3 (by decide) p4 hz6) (tO_X2 (by decide)) rfl gX5_comesByCrusts_X2_passDays rfl ⟨rfl, rfl⟩ hdX2_passDays ⟨by decide, by decide⟩ rfl (by decide) dX5_comesByCrusts_59 rfl (fun _ => ?_)
    refine q_aload_n C 0 rfl dX5_comesByCrusts_62 rfl ?_
    refine q_getR tO_X5 C i_X5 rfl rfl (by decide) rfl f_44 dX5_comesByCrusts_63 ?_
    refine q_getR (tO_X2 (by decide)) C i_X2 rfl rfl (by decide) rfl f_167 dX5_comesByCrusts_66 ?_
    refine q_iload_n C 1 rfl dX5_comesByCrusts_69 rfl ?_
    obtain ⟨c7, hz⟩ := sat_chk hz
    refine q_iald (tA_places (by decide)) C 0 rfl c7 dX5_comesByCrusts_70 ?_
    refine q_iload_n C 2 rfl dX5_comesByCrusts_71 rfl ?_
    refine q_icmp_ne C dX5_comesByCrusts_72 (by decide) (fun c8 => ?_) (fun c8 => ?_)
    · have hz := sat_f hz c8
      refine q_iconst C dX5_comesByCrusts_79 ⟨by decide, by decide⟩ ?_
      exact q_zret C (Or.inl rfl) dX5_comesByCrusts_80 (sat_some hz)
    · have hz := sat_t hz c8
      refine q_iconst C dX5_comesByCrusts_75 ⟨by decide, by decide⟩ ?_
      refine q_goto C dX5_comesByCrusts_76 (by decide) ?_
      exact q_zret C (Or.inr rfl) dX5_comesByCrusts_80 (sat_some hz)
  · have hz := sat_f hz c4
    refine q_iload_n C 1 rfl dX5_comesByCrusts_26 rfl ?_
    refine q_iload C 5 rfl dX5_comesByCrusts_27 ?_
    refine q_ishr C dX5_comesByCrusts_29 ?_
    refine q_iconst C dX5_comesByCrusts_30 ⟨by decide, by decide⟩ ?_
    refine q_iand C dX5_comesByCrusts_31 ?_
    refine q_iconst C dX5_comesByCrusts_32 ⟨by decide, by decide⟩ ?_
    refine q_icmp_ne C dX5_comesByCrusts_33 (by decide) (fun c9 => ?_) (fun c9 => ?_)
    · have hz := sat_f hz c9
      refine q_iinc C 5 rfl [(5, Vi (w3 (x3.1 + 1))), (0, Vr 174), (1, Vi p1), (2, Vi p2), (3, Vi p3), (4, Vi p4)] rfl (by decide) dX5_comesByCrusts_47 ?_
      refine q_goto C dX5_comesByCrusts_50 (by decide) ?_
      refine q_sub C [1, 2, 3, 4, 5, 0] [(0, Vr 174), (1, Vi p1), (2, Vi p2), (3, Vi p3), (4, Vi p4), (5, Vi (w3 (x3.1 + 1)))] rfl ?_
      exact sat_some hz
    · have hz := sat_t hz c9
      refine q_aload_n C 0 rfl dX5_comesByCrusts_36 rfl ?_
      refine q_getR tO_X5 C i_X5 rfl rfl (by decide) rfl f_44 dX5_comesByCrusts_37 ?_
      refine q_iload C 5 rfl dX5_comesByCrusts_40 ?_
      refine q_bipush C dX5_comesByCrusts_42 ⟨rfl, by decide, by decide⟩ ?_
      obtain ⟨z11, hz11, hz⟩ := sat_bind hz
      refine q_callVv C [Vi (x3.1), Vi 9] [] (c_X2_scatter x3.2 3 (by decide) x3.1 9 hz11) (tO_X2 (by decide)) rfl gX5_comesByCrusts_X2_scatter rfl ⟨rfl, rfl⟩ hdX2_scatter ⟨by decide, by decide⟩ rfl (by decide) dX5_comesByCrusts_44 rfl (fun _ => ?_)
      refine q_iinc C 5 rfl [(5, Vi (w3 (x3.1 + 1))), (0, Vr 174), (1, Vi p1), (2, Vi p2), (3, Vi p3), (4, Vi p4)] rfl (by decide) dX5_comesByCrusts_47 ?_
      refine q_goto C dX5_comesByCrusts_50 (by decide) ?_
      refine q_sub C [1, 2, 3, 4, 5, 0] [(0, Vr 174), (1, Vi p1), (2, Vi p2), (3, Vi p3), (4, Vi p4), (5, Vi (w3 (x3.1 + 1)))] rfl ?_
      exact sat_some hz
theorem hdX5_fewest : yX5_fewest.cls = RX5 ∧ yX5_fewest.cls ≠ "java/lang/invoke/MethodHandle" ∧ yX5_fewest.cls ≠ "java/lang/invoke/VarHandle" ∧ (parseMethodDescriptor yX5_fewest.desc).map (fun d => d.parameters.length) = some 4 := by decide +kernel
set_option maxHeartbeats 4000000 in
set_option maxRecDepth 100000 in
theorem c_X5_fewest {l : Launch} {D : va_G} {ad : Nat → Nat} {cI cII cR : ClassId} (μ : Mm) (p1 p2 p3 p4 : Int) {v : Int × Mm} (hz : f_X5_fewest μ p1 p2 p3 p4 = some v) : CT l D vwCl (tyC cI cII cR) 194 ad (EC ad cI cII cR) yX5_fewest wsX5_fewest ({ frames := 6, cells := 0, slots := 0, locals := 143 } : Room) (some .int) [Vr 174, Vi p1, Vi p2, Vi p3, Vi p4] μ v := by
  refine CT_of [(0, Vr 174), (1, Vi p1), (2, Vi p2), (3, Vi p3), (4, Vi p4)] (by decide) rfl rfl (Nat.le_of_ble_eq_true rfl) rfl (fun G C => ?_)
  have i_X2 : ∀ w ∈ u_ws RX2 TX2 11, w ∈ wsX5_fewest := by decide +kernel
  have i_X5 : ∀ w ∈ u_ws RX5 TX5 9, w ∈ wsX5_fewest := by decide +kernel
  have f_40 : Cond.fieldLink (yX5_fewest).cls 40 "SwanDeeds" "now" "LSwanDeeds$River;" ∈ wsX5_fewest := by decide +kernel
  have f_207 : Cond.fieldLink (yX5_fewest).cls 207 "SwanDeeds$River" "lawnCount" "I" ∈ wsX5_fewest := by decide +kernel
  have hz := sat_of hz
  unfold f_X5_fewest at hz
  refine q_iload_n C 1 rfl dX5_fewest_0 rfl ?_
  obtain ⟨v1, hv1, hz⟩ := sat_bnd hz
  have Jv1 : G μ 23 [(0, Vr 174), (1, Vi p1), (2, Vi p2), (3, Vi p3), (4, Vi p4)] [Vi v1] := by
    refine q_istore C [(5, Vi v1), (0, Vr 174), (1, Vi p1), (2, Vi p2), (3, Vi p3), (4, Vi p4)] rfl (by decide) dX5_fewest_23 ?_
    refine q_iconst C dX5_fewest_25 ⟨by decide, by decide⟩ ?_
    refine q_istore C [(6, Vi 0), (5, Vi v1), (0, Vr 174), (1, Vi p1), (2, Vi p2), (3, Vi p3), (4, Vi p4)] rfl (by decide) dX5_fewest_26 ?_
    refine q_sub C [2, 3, 4, 5, 6, 1, 0] [(0, Vr 174), (1, Vi p1), (2, Vi p2), (3, Vi p3), (4, Vi p4), (5, Vi v1), (6, Vi 0)] rfl ?_
    refine loop_go (fun x2 => G x2.2 28 [(0, Vr 174), (1, Vi p1), (2, Vi p2), (3, Vi p3), (4, Vi p4), (5, Vi v1), (6, Vi (x2.1))] []) (sat_bind2 hz) (fun h => h) (fun x2 hz => ?_)
    refine q_iload C 6 rfl dX5_fewest_28 ?_
    refine q_iload C 5 rfl dX5_fewest_30 ?_
    refine q_icmp_gt C dX5_fewest_32 (by decide) (fun c3 => ?_) (fun c3 => ?_)
    · have hz := sat_t hz c3
      have hz := sat_some hz
      refine q_sub C [] [] rfl ?_
      refine q_ldc (v := (-1000000)) (x := (-1000000)) C (by decide +kernel) dX5_fewest_108 ⟨by decide +kernel, by decide, by decide⟩ ?_
      exact q_iret C dX5_fewest_110 (sat_some hz)
    · have hz := sat_f hz c3
      refine q_iconst C dX5_fewest_35 ⟨by decide, by decide⟩ ?_
      refine q_istore C [(7, Vi 0), (0, Vr 174), (1, Vi p1), (2, Vi p2), (3, Vi p3), (4, Vi p4), (5, Vi v1), (6, Vi (x2.1))] rfl (by decide) dX5_fewest_36 ?_
      refine q_sub C [1, 2, 3, 4, 5, 6, 7, 0] [(0, Vr 174), (1, Vi p1), (2, Vi p2), (3, Vi p3), (4, Vi p4), (5, Vi v1), (6, Vi (x2.1)), (7, Vi 0)] rfl ?_
      refine loop_go (fun x4 => G x4.2 38 [(0, Vr 174), (1, Vi p1), (2, Vi p2), (3, Vi p3), (4, Vi p4), (5, Vi v1), (6, Vi (x2.1)), (7, Vi (x4.1))] []) (sat_bind2 hz) (fun h => h) (fun x4 hz => ?_)
      refine q_iload C 7 rfl dX5_fewest_38 ?_
      refine q_iconst C dX5_fewest_40 ⟨by decide, by decide⟩ ?_
      refine q_iload C 5 rfl dX5_fewest_41 ?_
      refine q_ishl C dX5_fewest_43 ?_
      refine q_icmp_ge C dX5_fewest_44 (by decide) (fun c5 => ?_) (fun c5 => ?_)
      · have hz := sat_t hz c5
        have hz := sat_some hz
        refine q_sub C [0, 1, 2, 3, 4, 5, 6] [(0, Vr 174), (1, Vi p1), (2, Vi p2), (3, Vi p3), (4, Vi p4), (5, Vi v1), (6, Vi (x2.1))] rfl ?_
        refine q_iinc C 6 rfl [(6, Vi (w3 (x2.1 + 1))), (0, Vr 174), (1, Vi p1), (2, Vi p2), (3, Vi p3), (4, Vi p4), (5, Vi v1)] rfl (by decide) dX5_fewest_102 ?_
        refine q_goto C dX5_fewest_105 (by decide) ?_
        refine q_sub C [1, 2, 3, 4, 5, 6, 0] [(0, Vr 174), (1, Vi p1), (2, Vi p2), (3, Vi p3), (4, Vi p4), (5, Vi v1), (6, Vi (w3 (x2.1 + 1)))] rfl ?_
        exact sat_some hz
      · have hz := sat_f hz c5
        refine q_iload C 7 rfl dX5_fewest_47 ?_
        refine q_callSi C [Vi (x4.1)] [] (c_J6_bitCount_0f7a4 x4.2 x4.1) gX5_fewest_J6_bitCount_0f7a4 rfl ⟨rfl, rfl⟩ hdJ6_bitCount_0f7a4 ⟨by decide, by decide⟩ rfl (by decide) dX5_fewest_49 rfl (fun _ _ => ?_)
        refine q_iload C 6 rfl dX5_fewest_52 ?_
        refine q_icmp_eq C dX5_fewest_54 (by decide) (fun c7 => ?_) (fun c7 => ?_)
        · have hz := sat_t hz c7
          refine q_iload_n C 1 rfl dX5_fewest_60 rfl ?_
          refine q_if_eq C dX5_fewest_61 (by decide) (fun c8 => ?_) (fun c8 => ?_)
          · have hz := sat_t hz c8
            refine q_aload_n C 0 rfl dX5_fewest_80 rfl ?_
            refine q_iload C 7 rfl dX5_fewest_81 ?_
            refine q_iload_n C 2 rfl dX5_fewest_83 rfl ?_
            refine q_iload_n C 3 rfl dX5_fewest_84 rfl ?_
            refine q_iload C 4 rfl dX5_fewest_85 ?_
            obtain ⟨z10, hz10, hz⟩ := sat_bind hz
            refine q_callVz C [Vi (x4.1), Vi p2, Vi p3, Vi p4] [] (c_X5_comesByCrusts x4.2 x4.1 p2 p3 p4 hz10) tO_X5 rfl gX5_fewest_X5_comesByCrusts rfl ⟨rfl, rfl⟩ hdX5_comesByCrusts ⟨by decide, by decide⟩ rfl (by decide) dX5_fewest_87 rfl (fun hb9 _ => ?_)
            refine q_if_eq C dX5_fewest_90 (by decide) (fun c11 => ?_) (fun c11 => ?_)
            · have hz := sat_t hz c11
              refine q_iinc C 7 rfl [(7, Vi (w3 (x4.1 + 1))), (0, Vr 174), (1, Vi p1), (2, Vi p2), (3, Vi p3), (4, Vi p4), (5, Vi v1), (6, Vi (x2.1))] rfl (by decide) dX5_fewest_96 ?_
              refine q_goto C dX5_fewest_99 (by decide) ?_
              refine q_sub C [1, 2, 3, 4, 5, 6, 7, 0] [(0, Vr 174), (1, Vi p1), (2, Vi p2), (3, Vi p3), (4, Vi p4), (5, Vi v1), (6, Vi (x2.1)), (7, Vi (w3 (x4.1 + 1)))] rfl ?_
              exact sat_some hz
            · have hz := sat_f hz c11
              refine q_iload C 7 rfl dX5_fewest_93 ?_
              exact q_iret C dX5_fewest_95 (sat_some (sat_some (sat_some hz)))
          · have hz := sat_f hz c8
            refine q_aload_n C 0 rfl dX5_fewest_64 rfl ?_
            refine q_iload C 7 rfl dX5_fewest_65 ?_
            refine q_iload_n C 2 rfl dX5_fewest_67 rfl ?_
            refine q_iload_n C 3 rfl dX5_fewest_68 rfl ?_
            refine q_iload C 4 rfl dX5_fewest_69 ?_
            obtain ⟨z13, hz13, hz⟩ := sat_bind hz
            refine q_callVz C [Vi (x4.1), Vi p2, Vi p3, Vi p4] [] (c_X5_comesByWeirs x4.2 x4.1 p2 p3 p4 hz13) tO_X5 rfl gX5_fewest_X5_comesByWeirs rfl ⟨rfl, rfl⟩ hdX5_comesByWeirs ⟨by decide, by decide⟩ rfl (by decide) dX5_fewest_71 rfl (fun hb12 _ => ?_)
            refine q_if_eq C dX5_fewest_74 (by decide) (fun c14 => ?_) (fun c14 => ?_)
            · have hz := sat_t hz c14
              refine q_iinc C 7 rfl [(7, Vi (w3 (x4.1 + 1))), (0, Vr 174), (1, Vi p1), (2, Vi p2), (3, Vi p3), (4, Vi p4), (5, Vi v1), (6, Vi (x2.1))] rfl (by decide) dX5_fewest_96 ?_
              refine q_goto C dX5_fewest_99 (by decide) ?_
              refine q_sub C [1, 2, 3, 4, 5, 6, 7, 0] [(0, Vr 174), (1, Vi p1), (2, Vi p2), (3, Vi p3), (4, Vi p4), (5, Vi v1), (6, Vi (x2.1)), (7, Vi (w3 (x4.1 + 1)))] rfl ?_
              exact sat_some hz
            · have hz := sat_f hz c14
              refine q_goto C dX5_fewest_77 (by decide) ?_
              refine q_iload C 7 rfl dX5_fewest_93 ?_
              exact q_iret C dX5_fewest_95 (sat_some (sat_some (sat_some hz)))
        · have hz := sat_f hz c7
          refine q_goto C dX5_fewest_57 (by decide) ?_
          refine q_iinc C 7 rfl [(7, Vi (w3 (x4.1 + 1))), (0, Vr 174), (1, Vi p1), (2, Vi p2), (3, Vi p3), (4, Vi p4), (5, Vi v1), (6, Vi (x2.1))] rfl (by decide) dX5_fewest_96 ?_
          refine q_goto C dX5_fewest_99 (by decide) ?_
          refine q_sub C [1, 2, 3, 4, 5, 6, 7, 0] [(0, Vr 174), (1, Vi p1), (2, Vi p2), (3, Vi p3), (4, Vi p4), (5, Vi v1), (6, Vi (x2.1)), (7, Vi (w3 (x4.1 + 1)))] rfl ?_
          exact sat_some hz
  have hz := hv1.symm
  refine q_if_eq C dX5_fewest_1 (by decide) (fun c17 => ?_) (fun c17 => ?_)
  · have hz := eq_t hz c17
    refine q_aload_n C 0 rfl dX5_fewest_16 rfl ?_
    refine q_getR tO_X5 C i_X5 rfl rfl (by decide) rfl f_40 dX5_fewest_17 ?_
    refine q_get (tO_X2 (by decide)) C i_X2 rfl rfl (by decide) rfl f_207 dX5_fewest_20 ?_
    have hz : _ = v1 := hz
    subst hz
    exact Jv1
  · have hz := eq_f hz c17
    refine q_aload_n C 0 rfl dX5_fewest_4 rfl ?_
    refine q_getR tO_X5 C i_X5 rfl rfl (by decide) rfl f_40 dX5_fewest_5 ?_
    refine q_get (tO_X2 (by decide)) C i_X2 rfl rfl (by decide) rfl f_207 dX5_fewest_8 ?_
    refine q_iconst C dX5_fewest_11 ⟨by decide, by decide⟩ ?_
    refine q_isub C dX5_fewest_12 ?_
    refine q_goto C dX5_fewest_13 (by decide) ?_
    have hz : _ = v1 := hz
    subst hz
    exact Jv1
theorem hdX5_sizeOrSet : yX5_sizeOrSet.cls ≠ "java/lang/invoke/MethodHandle" ∧ yX5_sizeOrSet.cls ≠ "java/lang/invoke/VarHandle" ∧ (parseMethodDescriptor yX5_sizeOrSet.desc).map (fun d => d.parameters.length) = some 2 := by decide +kernel
set_option maxHeartbeats 4000000 in
set_option maxRecDepth 100000 in
theorem c_X5_sizeOrSet {l : Launch} {D : va_G} {ad : Nat → Nat} {cI cII cR : ClassId} (μ : Mm) (p0 p1 : Int) : CT l D vwCl (tyC cI cII cR) 194 ad (EC ad cI cII cR) yX5_sizeOrSet wsX5_sizeOrSet ({ frames := 1, cells := 0, slots := 0, locals := 20 } : Room) (some .int) [Vi p0, Vi p1] μ (f_X5_sizeOrSet μ p0 p1, μ) := by
  refine CT_of [(0, Vi p0), (1, Vi p1)] (by decide) rfl rfl (Nat.le_of_ble_eq_true rfl) rfl (fun G C => ?_)
  generalize hz : f_X5_sizeOrSet μ p0 p1 = v at C
  unfold f_X5_sizeOrSet at hz
  refine q_iload_n C 0 rfl dX5_sizeOrSet_0 rfl ?_
  refine q_ldc (v := (-1000000)) (x := (-1000000)) C (by decide +kernel) dX5_sizeOrSet_1 ⟨by decide +kernel, by decide, by decide⟩ ?_
  refine q_icmp_eq C dX5_sizeOrSet_3 (by decide) (fun c1 => ?_) (fun c1 => ?_)
  · have hz := eq_t hz c1
    refine q_iload_n C 0 rfl dX5_sizeOrSet_11 rfl ?_
    refine q_goto C dX5_sizeOrSet_12 (by decide) ?_
    exact q_iret C dX5_sizeOrSet_19 (congrArg (fun q => (q, μ)) hz)
  · have hz := eq_f hz c1
    refine q_iload_n C 1 rfl dX5_sizeOrSet_6 rfl ?_
    refine q_iconst C dX5_sizeOrSet_7 ⟨by decide, by decide⟩ ?_
    refine q_icmp_ne C dX5_sizeOrSet_8 (by decide) (fun c2 => ?_) (fun c2 => ?_)
    · have hz := eq_f hz c2
      refine q_iload_n C 0 rfl dX5_sizeOrSet_15 rfl ?_
      refine q_callSi C [Vi p0] [] (c_J6_bitCount_0f7a4 μ p0) gX5_sizeOrSet_J6_bitCount_0f7a4 rfl ⟨rfl, rfl⟩ hdJ6_bitCount_0f7a4 ⟨by decide, by decide⟩ rfl (by decide) dX5_sizeOrSet_16 rfl (fun _ _ => ?_)
      exact q_iret C dX5_sizeOrSet_19 (congrArg (fun q => (q, μ)) hz)
    · have hz := eq_t hz c2
      refine q_iload_n C 0 rfl dX5_sizeOrSet_11 rfl ?_
      refine q_goto C dX5_sizeOrSet_12 (by decide) ?_
      exact q_iret C dX5_sizeOrSet_19 (congrArg (fun q => (q, μ)) hz)
theorem hdX5_crusts : yX5_crusts.cls = RX5 ∧ yX5_crusts.cls ≠ "java/lang/invoke/MethodHandle" ∧ yX5_crusts.cls ≠ "java/lang/invoke/VarHandle" ∧ (parseMethodDescriptor yX5_crusts.desc).map (fun d => d.parameters.length) = some 4 := by decide +kernel
set_option maxHeartbeats 4000000 in
set_option maxRecDepth 100000 in
theorem c_X5_crusts {l : Launch} {D : va_G} {ad : Nat → Nat} {cI cII cR : ClassId} (μ : Mm) (p1 p2 p3 p4 : Int) {v : Int × Mm} (hz : f_X5_crusts μ p1 p2 p3 p4 = some v) : CT l D vwCl (tyC cI cII cR) 194 ad (EC ad cI cII cR) yX5_crusts wsX5_crusts ({ frames := 7, cells := 0, slots := 0, locals := 170 } : Room) (some .int) [Vr 174, Vi p1, Vi p2, Vi p3, Vi p4] μ v := by
  refine CT_of [(0, Vr 174), (1, Vi p1), (2, Vi p2), (3, Vi p3), (4, Vi p4)] (by decide) rfl rfl (Nat.le_of_ble_eq_true rfl) rfl (fun G C => ?_)
  have hz := sat_of hz
  unfold f_X5_crusts at hz
  refine q_aload_n C 0 rfl dX5_crusts_0 rfl ?_
  refine q_iload_n C 1 rfl dX5_crusts_1 rfl ?_
  refine q_callVz C [Vi p1] [] (c_X5_isSwan μ p1) tO_X5 rfl gX5_crusts_X5_isSwan rfl ⟨rfl, rfl⟩ hdX5_isSwan ⟨by decide, by decide⟩ rfl (by decide) dX5_crusts_2 rfl (fun hb1 _ => ?_)
  refine q_if_eq C dX5_crusts_5 (by decide) (fun c2 => ?_) (fun c2 => ?_)
  · have hz := sat_t hz c2
    refine q_ldc (v := (-1000001)) (x := (-1000001)) C (by decide +kernel) dX5_crusts_36 ⟨by decide +kernel, by decide, by decide⟩ ?_
    exact q_iret C dX5_crusts_38 (sat_some hz)
  · have hz := sat_f hz c2
    refine q_aload_n C 0 rfl dX5_crusts_8 rfl ?_
    refine q_iload_n C 2 rfl dX5_crusts_9 rfl ?_
    refine q_callVz C [Vi p2] [] (c_X5_isLawn μ p2) tO_X5 rfl gX5_crusts_X5_isLawn rfl ⟨rfl, rfl⟩ hdX5_isLawn ⟨by decide, by decide⟩ rfl (by decide) dX5_crusts_10 rfl (fun hb3 _ => ?_)
    refine q_if_eq C dX5_crusts_13 (by decide) (fun c4 => ?_) (fun c4 => ?_)
    · have hz := sat_t hz c4
      refine q_ldc (v := (-1000001)) (x := (-1000001)) C (by decide +kernel) dX5_crusts_36 ⟨by decide +kernel, by decide, by decide⟩ ?_
      exact q_iret C dX5_crusts_38 (sat_some hz)
    · have hz := sat_f hz c4
      refine q_iload_n C 3 rfl dX5_crusts_16 rfl ?_
      refine q_iconst C dX5_crusts_17 ⟨by decide, by decide⟩ ?_
      refine q_bipush C dX5_crusts_18 ⟨rfl, by decide, by decide⟩ ?_
      refine q_callSz C [Vi p3, Vi 1, Vi 20] [] (c_X5_within μ p3 1 20) gX5_crusts_X5_within rfl ⟨rfl, rfl⟩ hdX5_within ⟨by decide, by decide⟩ rfl (by decide) dX5_crusts_20 rfl (fun hb5 _ => ?_)
      refine q_if_eq C dX5_crusts_23 (by decide) (fun c6 => ?_) (fun c6 => ?_)
      · have hz := sat_t hz c6
        refine q_ldc (v := (-1000001)) (x := (-1000001)) C (by decide +kernel) dX5_crusts_36 ⟨by decide +kernel, by decide, by decide⟩ ?_
        exact q_iret C dX5_crusts_38 (sat_some hz)
      · have hz := sat_f hz c6
        refine q_iload C 4 rfl dX5_crusts_26 ?_
        refine q_iconst C dX5_crusts_28 ⟨by decide, by decide⟩ ?_
        refine q_iconst C dX5_crusts_29 ⟨by decide, by decide⟩ ?_
        refine q_callSz C [Vi p4, Vi 0, Vi 1] [] (c_X5_within μ p4 0 1) gX5_crusts_X5_within rfl ⟨rfl, rfl⟩ hdX5_within ⟨by decide, by decide⟩ rfl (by decide) dX5_crusts_30 rfl (fun hb7 _ => ?_)
        refine q_if_ne C dX5_crusts_33 (by decide) (fun c8 => ?_) (fun c8 => ?_)
        · have hz := sat_f hz c8
          refine q_aload_n C 0 rfl dX5_crusts_39 rfl ?_
          refine q_iconst C dX5_crusts_40 ⟨by decide, by decide⟩ ?_
          refine q_iload_n C 1 rfl dX5_crusts_41 rfl ?_
          refine q_iload_n C 2 rfl dX5_crusts_42 rfl ?_
          refine q_iload_n C 3 rfl dX5_crusts_43 rfl ?_
          obtain ⟨z10, hz10, hz⟩ := sat_bind hz
          refine q_callVi C [Vi 0, Vi p1, Vi p2, Vi p3] [] (c_X5_fewest μ 0 p1 p2 p3 hz10) tO_X5 rfl gX5_crusts_X5_fewest rfl ⟨rfl, rfl⟩ hdX5_fewest ⟨by decide, by decide⟩ rfl (by decide) dX5_crusts_44 rfl (fun _ _ => ?_)
          refine q_iload C 4 rfl dX5_crusts_47 ?_
          refine q_callSi C [Vi (z10.1), Vi p4] [] (c_X5_sizeOrSet z10.2 z10.1 p4) gX5_crusts_X5_sizeOrSet rfl ⟨rfl, rfl⟩ hdX5_sizeOrSet ⟨by decide, by decide⟩ rfl (by decide) dX5_crusts_49 rfl (fun _ _ => ?_)
          exact q_iret C dX5_crusts_52 (sat_some hz)
        · have hz := sat_t hz c8
          refine q_ldc (v := (-1000001)) (x := (-1000001)) C (by decide +kernel) dX5_crusts_36 ⟨by decide +kernel, by decide, by decide⟩ ?_
          exact q_iret C dX5_crusts_38 (sat_some hz)
theorem hdX5_weirs : yX5_weirs.cls = RX5 ∧ yX5_weirs.cls ≠ "java/lang/invoke/MethodHandle" ∧ yX5_weirs.cls ≠ "java/lang/invoke/VarHandle" ∧ (parseMethodDescriptor yX5_weirs.desc).map (fun d => d.parameters.length) = some 4 := by decide +kernel
set_option maxHeartbeats 4000000 in
set_option maxRecDepth 100000 in
theorem c_X5_weirs {l : Launch} {D : va_G} {ad : Nat → Nat} {cI cII cR : ClassId} (μ : Mm) (p1 p2 p3 p4 : Int) {v : Int × Mm} (hz : f_X5_weirs μ p1 p2 p3 p4 = some v) : CT l D vwCl (tyC cI cII cR) 194 ad (EC ad cI cII cR) yX5_weirs wsX5_weirs ({ frames := 7, cells := 0, slots := 0, locals := 170 } : Room) (some .int) [Vr 174, Vi p1, Vi p2, Vi p3, Vi p4] μ v := by
  refine CT_of [(0, Vr 174), (1, Vi p1), (2, Vi p2), (3, Vi p3), (4, Vi p4)] (by decide) rfl rfl (Nat.le_of_ble_eq_true rfl) rfl (fun G C => ?_)
  have hz := sat_of hz
  unfold f_X5_weirs at hz
  refine q_aload_n C 0 rfl dX5_weirs_0 rfl ?_
  refine q_iload_n C 1 rfl dX5_weirs_1 rfl ?_
  refine q_callVz C [Vi p1] [] (c_X5_isSwan μ p1) tO_X5 rfl gX5_weirs_X5_isSwan rfl ⟨rfl, rfl⟩ hdX5_isSwan ⟨by decide, by decide⟩ rfl (by decide) dX5_weirs_2 rfl (fun hb1 _ => ?_)
  refine q_if_eq C dX5_weirs_5 (by decide) (fun c2 => ?_) (fun c2 => ?_)
  · have hz := sat_t hz c2
    refine q_ldc (v := (-1000001)) (x := (-1000001)) C (by decide +kernel) dX5_weirs_36 ⟨by decide +kernel, by decide, by decide⟩ ?_
    exact q_iret C dX5_weirs_38 (sat_some hz)
  · have hz := sat_f hz c2
    refine q_aload_n C 0 rfl dX5_weirs_8 rfl ?_
    refine q_iload_n C 2 rfl dX5_weirs_9 rfl ?_
    refine q_callVz C [Vi p2] [] (c_X5_isLawn μ p2) tO_X5 rfl gX5_weirs_X5_isLawn rfl ⟨rfl, rfl⟩ hdX5_isLawn ⟨by decide, by decide⟩ rfl (by decide) dX5_weirs_10 rfl (fun hb3 _ => ?_)
    refine q_if_eq C dX5_weirs_13 (by decide) (fun c4 => ?_) (fun c4 => ?_)
    · have hz := sat_t hz c4
      refine q_ldc (v := (-1000001)) (x := (-1000001)) C (by decide +kernel) dX5_weirs_36 ⟨by decide +kernel, by decide, by decide⟩ ?_
      exact q_iret C dX5_weirs_38 (sat_some hz)
    · have hz := sat_f hz c4
      refine q_iload_n C 3 rfl dX5_weirs_16 rfl ?_
      refine q_iconst C dX5_weirs_17 ⟨by decide, by decide⟩ ?_
      refine q_bipush C dX5_weirs_18 ⟨rfl, by decide, by decide⟩ ?_
      refine q_callSz C [Vi p3, Vi 1, Vi 20] [] (c_X5_within μ p3 1 20) gX5_weirs_X5_within rfl ⟨rfl, rfl⟩ hdX5_within ⟨by decide, by decide⟩ rfl (by decide) dX5_weirs_20 rfl (fun hb5 _ => ?_)
      refine q_if_eq C dX5_weirs_23 (by decide) (fun c6 => ?_) (fun c6 => ?_)
      · have hz := sat_t hz c6
        refine q_ldc (v := (-1000001)) (x := (-1000001)) C (by decide +kernel) dX5_weirs_36 ⟨by decide +kernel, by decide, by decide⟩ ?_
        exact q_iret C dX5_weirs_38 (sat_some hz)
      · have hz := sat_f hz c6
        refine q_iload C 4 rfl dX5_weirs_26 ?_
        refine q_iconst C dX5_weirs_28 ⟨by decide, by decide⟩ ?_
        refine q_iconst C dX5_weirs_29 ⟨by decide, by decide⟩ ?_
        refine q_callSz C [Vi p4, Vi 0, Vi 1] [] (c_X5_within μ p4 0 1) gX5_weirs_X5_within rfl ⟨rfl, rfl⟩ hdX5_within ⟨by decide, by decide⟩ rfl (by decide) dX5_weirs_30 rfl (fun hb7 _ => ?_)
        refine q_if_ne C dX5_weirs_33 (by decide) (fun c8 => ?_) (fun c8 => ?_)
        · have hz := sat_f hz c8
          refine q_aload_n C 0 rfl dX5_weirs_39 rfl ?_
          refine q_iconst C dX5_weirs_40 ⟨by decide, by decide⟩ ?_
          refine q_iload_n C 1 rfl dX5_weirs_41 rfl ?_
          refine q_iload_n C 2 rfl dX5_weirs_42 rfl ?_
          refine q_iload_n C 3 rfl dX5_weirs_43 rfl ?_
          obtain ⟨z10, hz10, hz⟩ := sat_bind hz
          refine q_callVi C [Vi 1, Vi p1, Vi p2, Vi p3] [] (c_X5_fewest μ 1 p1 p2 p3 hz10) tO_X5 rfl gX5_weirs_X5_fewest rfl ⟨rfl, rfl⟩ hdX5_fewest ⟨by decide, by decide⟩ rfl (by decide) dX5_weirs_44 rfl (fun _ _ => ?_)
          refine q_iload C 4 rfl dX5_weirs_47 ?_
          refine q_callSi C [Vi (z10.1), Vi p4] [] (c_X5_sizeOrSet z10.2 z10.1 p4) gX5_weirs_X5_sizeOrSet rfl ⟨rfl, rfl⟩ hdX5_sizeOrSet ⟨by decide, by decide⟩ rfl (by decide) dX5_weirs_49 rfl (fun _ _ => ?_)
          exact q_iret C dX5_weirs_52 (sat_some hz)
        · have hz := sat_t hz c8
          refine q_ldc (v := (-1000001)) (x := (-1000001)) C (by decide +kernel) dX5_weirs_36 ⟨by decide +kernel, by decide, by decide⟩ ?_
          exact q_iret C dX5_weirs_38 (sat_some hz)
theorem hdX5_hold : yX5_hold.cls = RX5 ∧ yX5_hold.cls ≠ "java/lang/invoke/MethodHandle" ∧ yX5_hold.cls ≠ "java/lang/invoke/VarHandle" ∧ (parseMethodDescriptor yX5_hold.desc).map (fun d => d.parameters.length) = some 2 := by decide +kernel
set_option maxHeartbeats 4000000 in
set_option maxRecDepth 100000 in
theorem c_X5_hold {l : Launch} {D : va_G} {ad : Nat → Nat} {cI cII cR : ClassId} (μ : Mm) (p1 p2 : Int) {v : Int × Mm} (hz : f_X5_hold μ p1 p2 = some v) : CT l D vwCl (tyC cI cII cR) 194 ad (EC ad cI cII cR) yX5_hold wsX5_hold ({ frames := 5, cells := 0, slots := 0, locals := 119 } : Room) (some .int) [Vr 174, Vi p1, Vi p2] μ v := by
  refine CT_of [(0, Vr 174), (1, Vi p1), (2, Vi p2)] (by decide) rfl rfl (Nat.le_of_ble_eq_true rfl) rfl (fun G C => ?_)
  have i_X2 : ∀ w ∈ u_ws RX2 TX2 11, w ∈ wsX5_hold := by decide +kernel
  have i_X5 : ∀ w ∈ u_ws RX5 TX5 9, w ∈ wsX5_hold := by decide +kernel
  have f_40 : Cond.fieldLink (yX5_hold).cls 40 "SwanDeeds" "now" "LSwanDeeds$River;" ∈ wsX5_hold := by decide +kernel
  have f_44 : Cond.fieldLink (yX5_hold).cls 44 "SwanDeeds" "trial" "LSwanDeeds$River;" ∈ wsX5_hold := by decide +kernel
  have f_207 : Cond.fieldLink (yX5_hold).cls 207 "SwanDeeds$River" "lawnCount" "I" ∈ wsX5_hold := by decide +kernel
  have hz := sat_of hz
  unfold f_X5_hold at hz
  refine q_aload_n C 0 rfl dX5_hold_0 rfl ?_
  refine q_iload_n C 1 rfl dX5_hold_1 rfl ?_
  refine q_callVz C [Vi p1] [] (c_X5_isSwan μ p1) tO_X5 rfl gX5_hold_X5_isSwan rfl ⟨rfl, rfl⟩ hdX5_isSwan ⟨by decide, by decide⟩ rfl (by decide) dX5_hold_2 rfl (fun hb1 _ => ?_)
  refine q_if_eq C dX5_hold_5 (by decide) (fun c2 => ?_) (fun c2 => ?_)
  · have hz := sat_t hz c2
    refine q_ldc (v := (-1000001)) (x := (-1000001)) C (by decide +kernel) dX5_hold_17 ⟨by decide +kernel, by decide, by decide⟩ ?_
    exact q_iret C dX5_hold_19 (sat_some hz)
  · have hz := sat_f hz c2
    refine q_iload_n C 2 rfl dX5_hold_8 rfl ?_
    refine q_iconst C dX5_hold_9 ⟨by decide, by decide⟩ ?_
    refine q_iconst C dX5_hold_10 ⟨by decide, by decide⟩ ?_
    refine q_callSz C [Vi p2, Vi 0, Vi 1] [] (c_X5_within μ p2 0 1) gX5_hold_X5_within rfl ⟨rfl, rfl⟩ hdX5_within ⟨by decide, by decide⟩ rfl (by decide) dX5_hold_11 rfl (fun hb3 _ => ?_)
    refine q_if_ne C dX5_hold_14 (by decide) (fun c4 => ?_) (fun c4 => ?_)
    · have hz := sat_f hz c4
      refine q_iconst C dX5_hold_20 ⟨by decide, by decide⟩ ?_
      refine q_istore_n C [(3, Vi 0), (0, Vr 174), (1, Vi p1), (2, Vi p2)] rfl (by decide) dX5_hold_21 rfl ?_
      refine q_iconst C dX5_hold_22 ⟨by decide, by decide⟩ ?_
      refine q_istore C [(4, Vi (-1)), (3, Vi 0), (0, Vr 174), (1, Vi p1), (2, Vi p2)] rfl (by decide) dX5_hold_23 ?_
      refine q_iconst C dX5_hold_25 ⟨by decide, by decide⟩ ?_
      refine q_istore C [(5, Vi 0), (4, Vi (-1)), (3, Vi 0), (0, Vr 174), (1, Vi p1), (2, Vi p2)] rfl (by decide) dX5_hold_26 ?_
      refine q_sub C [3, 4, 5, 2, 1, 0] [(0, Vr 174), (1, Vi p1), (2, Vi p2), (3, Vi 0), (4, Vi (-1)), (5, Vi 0)] rfl ?_
      refine loop_go (fun x5 => G x5.2.2.2 28 [(0, Vr 174), (1, Vi p1), (2, Vi p2), (3, Vi (x5.1)), (4, Vi (x5.2.1)), (5, Vi (x5.2.2.1))] []) (sat_bind2 hz) (fun h => h) (fun x5 hz => ?_)
      refine q_iload C 5 rfl dX5_hold_28 ?_
      refine q_aload_n C 0 rfl dX5_hold_30 rfl ?_
      refine q_getR tO_X5 C i_X5 rfl rfl (by decide) rfl f_40 dX5_hold_31 ?_
      refine q_get (tO_X2 (by decide)) C i_X2 rfl rfl (by decide) rfl f_207 dX5_hold_34 ?_
      refine q_icmp_ge C dX5_hold_37 (by decide) (fun c6 => ?_) (fun c6 => ?_)
      · have hz := sat_t hz c6
        have hz := sat_some hz
        refine q_sub C [2, 3, 4] [(2, Vi p2), (3, Vi (x5.1)), (4, Vi (x5.2.1))] rfl ?_
        refine q_iload_n C 0 rfl dX5_hold_92 rfl ?_
        refine q_if_ne C dX5_hold_93 (by decide) (fun c7 => ?_) (fun c7 => ?_)
        · have hz := sat_f hz c7
          refine q_iload C 2 rfl dX5_hold_100 ?_
          exact q_iret C dX5_hold_102 (sat_some hz)
        · have hz := sat_t hz c7
          refine q_iload_n C 1 rfl dX5_hold_96 rfl ?_
          refine q_goto C dX5_hold_97 (by decide) ?_
          exact q_iret C dX5_hold_102 (sat_some hz)
      · have hz := sat_f hz c6
        refine q_aload_n C 0 rfl dX5_hold_40 rfl ?_
        refine q_getR tO_X5 C i_X5 rfl rfl (by decide) rfl f_44 dX5_hold_41 ?_
        refine q_aload_n C 0 rfl dX5_hold_44 rfl ?_
        refine q_getR tO_X5 C i_X5 rfl rfl (by decide) rfl f_40 dX5_hold_45 ?_
        obtain ⟨z9, hz9, hz⟩ := sat_bind hz
        refine q_callVv C [Vr (6 * 0)] [] (c_X2_become x5.2.2.2 3 (by decide) 0 (by decide) hz9) (tO_X2 (by decide)) rfl gX5_hold_X2_become rfl ⟨rfl, rfl⟩ hdX2_become ⟨by decide, by decide⟩ rfl (by decide) dX5_hold_48 rfl (fun _ => ?_)
        refine q_aload_n C 0 rfl dX5_hold_51 rfl ?_
        refine q_getR tO_X5 C i_X5 rfl rfl (by decide) rfl f_44 dX5_hold_52 ?_
        refine q_iload C 5 rfl dX5_hold_55 ?_
        refine q_bipush C dX5_hold_57 ⟨rfl, by decide, by decide⟩ ?_
        obtain ⟨z11, hz11, hz⟩ := sat_bind hz
        refine q_callVv C [Vi (x5.2.2.1), Vi 9] [] (c_X2_scatter z9 3 (by decide) x5.2.2.1 9 hz11) (tO_X2 (by decide)) rfl gX5_hold_X2_scatter rfl ⟨rfl, rfl⟩ hdX2_scatter ⟨by decide, by decide⟩ rfl (by decide) dX5_hold_59 rfl (fun _ => ?_)
        refine q_aload_n C 0 rfl dX5_hold_62 rfl ?_
        refine q_getR tO_X5 C i_X5 rfl rfl (by decide) rfl f_44 dX5_hold_63 ?_
        refine q_iload_n C 1 rfl dX5_hold_66 rfl ?_
        obtain ⟨z13, hz13, hz⟩ := sat_bind hz
        refine q_callVi C [Vi p1] [] (c_X2_daysHeld z11 3 (by decide) p1 hz13) (tO_X2 (by decide)) rfl gX5_hold_X2_daysHeld rfl ⟨rfl, rfl⟩ hdX2_daysHeld ⟨by decide, by decide⟩ rfl (by decide) dX5_hold_67 rfl (fun _ _ => ?_)
        refine q_istore C [(6, Vi (z13.1)), (0, Vr 174), (1, Vi p1), (2, Vi p2), (3, Vi (x5.1)), (4, Vi (x5.2.1)), (5, Vi (x5.2.2.1))] rfl (by decide) dX5_hold_70 ?_
        refine q_iload C 0 rfl dX5_hold_72 ?_
        refine q_iload C 5 rfl dX5_hold_74 ?_
        refine q_icmp_le C dX5_hold_76 (by decide) (fun c14 => ?_) (fun c14 => ?_)
        · have hz := sat_t hz c14
          refine q_iinc C 6 rfl [(5, Vi (w3 (x5.2.2.1 + 1))), (6, Vi (z13.1)), (0, Vr 174), (1, Vi p1), (2, Vi p2), (3, Vi (x5.1)), (4, Vi (x5.2.1))] rfl (by decide) dX5_hold_86 ?_
          refine q_goto C dX5_hold_89 (by decide) ?_
          refine q_sub C [2, 3, 4, 5, 6, 0] [(0, Vr 174), (1, Vi p1), (2, Vi p2), (3, Vi (x5.1)), (4, Vi (x5.2.1)), (5, Vi (w3 (x5.2.2.1 + 1)))] rfl ?_
          exact sat_some hz
        · have hz := sat_f hz c14
          refine q_iload C 0 rfl dX5_hold_79 ?_
          refine q_istore C [(4, Vi (z13.1)), (6, Vi (z13.1)), (0, Vr 174), (1, Vi p1), (2, Vi p2), (3, Vi (x5.1)), (5, Vi (x5.2.2.1))] rfl (by decide) dX5_hold_81 ?_
          refine q_iload C 6 rfl dX5_hold_83 ?_
          refine q_istore_n C [(3, Vi (x5.2.2.1)), (4, Vi (z13.1)), (6, Vi (z13.1)), (0, Vr 174), (1, Vi p1), (2, Vi p2), (5, Vi (x5.2.2.1))] rfl (by decide) dX5_hold_85 rfl ?_
          refine q_iinc C 6 rfl [(5, Vi (w3 (x5.2.2.1 + 1))), (3, Vi (x5.2.2.1)), (4, Vi (z13.1)), (6, Vi (z13.1)), (0, Vr 174), (1, Vi p1), (2, Vi p2)] rfl (by decide) dX5_hold_86 ?_
          refine q_goto C dX5_hold_89 (by decide) ?_
          refine q_sub C [4, 5, 6, 1, 2, 0] [(0, Vr 174), (1, Vi p1), (2, Vi p2), (3, Vi (x5.2.2.1)), (4, Vi (z13.1)), (5, Vi (w3 (x5.2.2.1 + 1)))] rfl ?_
          exact sat_some hz
    · have hz := sat_t hz c4
      refine q_ldc (v := (-1000001)) (x := (-1000001)) C (by decide +kernel) dX5_hold_17 ⟨by decide +kernel, by decide, by decide⟩ ?_
      exact q_iret C dX5_hold_19 (sat_some hz)
theorem hdX5_meet : yX5_meet.cls = RX5 ∧ yX5_meet.cls ≠ "java/lang/invoke/MethodHandle" ∧ yX5_meet.cls ≠ "java/lang/invoke/VarHandle" ∧ (parseMethodDescriptor yX5_meet.desc).map (fun d => d.parameters.length) = some 2 := by decide +kernel
set_option maxHeartbeats 4000000 in
set_option maxRecDepth 100000 in
theorem c_X5_meet {l : Launch} {D : va_G} {ad : Nat → Nat} {cI cII cR : ClassId} (μ : Mm) (p1 p2 : Int) {v : Int × Mm} (hz : f_X5_meet μ p1 p2 = some v) : CT l D vwCl (tyC cI cII cR) 194 ad (EC ad cI cII cR) yX5_meet wsX5_meet ({ frames := 4, cells := 0, slots := 0, locals := 96 } : Room) (some .int) [Vr 174, Vi p1, Vi p2] μ v := by
  refine CT_of [(0, Vr 174), (1, Vi p1), (2, Vi p2)] (by decide) rfl rfl (Nat.le_of_ble_eq_true rfl) rfl (fun G C => ?_)
  have i_X2 : ∀ w ∈ u_ws RX2 TX2 11, w ∈ wsX5_meet := by decide +kernel
  have i_X5 : ∀ w ∈ u_ws RX5 TX5 9, w ∈ wsX5_meet := by decide +kernel
  have f_40 : Cond.fieldLink (yX5_meet).cls 40 "SwanDeeds" "now" "LSwanDeeds$River;" ∈ wsX5_meet := by decide +kernel
  have f_44 : Cond.fieldLink (yX5_meet).cls 44 "SwanDeeds" "trial" "LSwanDeeds$River;" ∈ wsX5_meet := by decide +kernel
  have f_167 : Cond.fieldLink (yX5_meet).cls 167 "SwanDeeds$River" "places" "[I" ∈ wsX5_meet := by decide +kernel
  have hz := sat_of hz
  unfold f_X5_meet at hz
  refine q_aload_n C 0 rfl dX5_meet_0 rfl ?_
  refine q_iload_n C 1 rfl dX5_meet_1 rfl ?_
  refine q_callVz C [Vi p1] [] (c_X5_isSwan μ p1) tO_X5 rfl gX5_meet_X5_isSwan rfl ⟨rfl, rfl⟩ hdX5_isSwan ⟨by decide, by decide⟩ rfl (by decide) dX5_meet_2 rfl (fun hb1 _ => ?_)
  refine q_if_eq C dX5_meet_5 (by decide) (fun c2 => ?_) (fun c2 => ?_)
  · have hz := sat_t hz c2
    refine q_ldc (v := (-1000001)) (x := (-1000001)) C (by decide +kernel) dX5_meet_21 ⟨by decide +kernel, by decide, by decide⟩ ?_
    exact q_iret C dX5_meet_23 (sat_some hz)
  · have hz := sat_f hz c2
    refine q_aload_n C 0 rfl dX5_meet_8 rfl ?_
    refine q_iload_n C 2 rfl dX5_meet_9 rfl ?_
    refine q_callVz C [Vi p2] [] (c_X5_isSwan μ p2) tO_X5 rfl gX5_meet_X5_isSwan rfl ⟨rfl, rfl⟩ hdX5_isSwan ⟨by decide, by decide⟩ rfl (by decide) dX5_meet_10 rfl (fun hb3 _ => ?_)
    refine q_if_eq C dX5_meet_13 (by decide) (fun c4 => ?_) (fun c4 => ?_)
    · have hz := sat_t hz c4
      refine q_ldc (v := (-1000001)) (x := (-1000001)) C (by decide +kernel) dX5_meet_21 ⟨by decide +kernel, by decide, by decide⟩ ?_
      exact q_iret C dX5_meet_23 (sat_some hz)
    · have hz := sat_f hz c4
      refine q_iload_n C 1 rfl dX5_meet_16 rfl ?_
      refine q_iload_n C 2 rfl dX5_meet_17 rfl ?_
      refine q_icmp_ne C dX5_meet_18 (by decide) (fun c5 => ?_) (fun c5 => ?_)
      · have hz := sat_f hz c5
        refine q_aload_n C 0 rfl dX5_meet_24 rfl ?_
        refine q_getR tO_X5 C i_X5 rfl rfl (by decide) rfl f_44 dX5_meet_25 ?_
        refine q_aload_n C 0 rfl dX5_meet_28 rfl ?_
        refine q_getR tO_X5 C i_X5 rfl rfl (by decide) rfl f_40 dX5_meet_29 ?_
        obtain ⟨z7, hz7, hz⟩ := sat_bind hz
        refine q_callVv C [Vr (6 * 0)] [] (c_X2_become μ 3 (by decide) 0 (by decide) hz7) (tO_X2 (by decide)) rfl gX5_meet_X2_become rfl ⟨rfl, rfl⟩ hdX2_become ⟨by decide, by decide⟩ rfl (by decide) dX5_meet_32 rfl (fun _ => ?_)
        refine q_iconst C dX5_meet_35 ⟨by decide, by decide⟩ ?_
        refine q_istore_n C [(3, Vi 0), (0, Vr 174), (1, Vi p1), (2, Vi p2)] rfl (by decide) dX5_meet_36 rfl ?_
        refine q_sub C [1, 2, 3, 0] [(0, Vr 174), (1, Vi p1), (2, Vi p2), (3, Vi 0)] rfl ?_
        refine loop_go (fun x8 => G x8.2 37 [(0, Vr 174), (1, Vi p1), (2, Vi p2), (3, Vi (x8.1))] []) (sat_bind2 hz) (fun h => h) (fun x8 hz => ?_)
        refine q_iload_n C 3 rfl dX5_meet_37 rfl ?_
        refine q_bipush C dX5_meet_38 ⟨rfl, by decide, by decide⟩ ?_
        refine q_icmp_gt C dX5_meet_40 (by decide) (fun c9 => ?_) (fun c9 => ?_)
        · have hz := sat_t hz c9
          have hz := sat_some hz
          refine q_sub C [] [] rfl ?_
          refine q_ldc (v := (-1000000)) (x := (-1000000)) C (by decide +kernel) dX5_meet_79 ⟨by decide +kernel, by decide, by decide⟩ ?_
          exact q_iret C dX5_meet_81 (sat_some hz)
        · have hz := sat_f hz c9
          refine q_aload_n C 0 rfl dX5_meet_43 rfl ?_
          refine q_getR tO_X5 C i_X5 rfl rfl (by decide) rfl f_44 dX5_meet_44 ?_
          refine q_getR (tO_X2 (by decide)) C i_X2 rfl rfl (by decide) rfl f_167 dX5_meet_47 ?_
          refine q_iload_n C 1 rfl dX5_meet_50 rfl ?_
          obtain ⟨c10, hz⟩ := sat_chk hz
          refine q_iald (tA_places (by decide)) C 0 rfl c10 dX5_meet_51 ?_
          refine q_aload_n C 0 rfl dX5_meet_52 rfl ?_
          refine q_getR tO_X5 C i_X5 rfl rfl (by decide) rfl f_44 dX5_meet_53 ?_
          refine q_getR (tO_X2 (by decide)) C i_X2 rfl rfl (by decide) rfl f_167 dX5_meet_56 ?_
          refine q_iload_n C 2 rfl dX5_meet_59 rfl ?_
          obtain ⟨c11, hz⟩ := sat_chk hz
          refine q_iald (tA_places (by decide)) C 0 rfl c11 dX5_meet_60 ?_
          refine q_icmp_ne C dX5_meet_61 (by decide) (fun c12 => ?_) (fun c12 => ?_)
          · have hz := sat_f hz c12
            refine q_aload_n C 0 rfl dX5_meet_66 rfl ?_
            refine q_getR tO_X5 C i_X5 rfl rfl (by decide) rfl f_44 dX5_meet_67 ?_
            obtain ⟨z14, hz14, hz⟩ := sat_bind hz
            refine q_callVv C [] [] (c_X2_passDay x8.2 3 (by decide) hz14) (tO_X2 (by decide)) rfl gX5_meet_X2_passDay rfl ⟨rfl, rfl⟩ hdX2_passDay ⟨by decide, by decide⟩ rfl (by decide) dX5_meet_70 rfl (fun _ => ?_)
            refine q_iinc C 3 rfl [(3, Vi (w3 (x8.1 + 1))), (0, Vr 174), (1, Vi p1), (2, Vi p2)] rfl (by decide) dX5_meet_73 ?_
            refine q_goto C dX5_meet_76 (by decide) ?_
            refine q_sub C [1, 2, 3, 0] [(0, Vr 174), (1, Vi p1), (2, Vi p2), (3, Vi (w3 (x8.1 + 1)))] rfl ?_
            exact sat_some hz
          · have hz := sat_t hz c12
            refine q_iload_n C 3 rfl dX5_meet_64 rfl ?_
            exact q_iret C dX5_meet_65 (sat_some (sat_some hz))
      · have hz := sat_t hz c5
        refine q_ldc (v := (-1000001)) (x := (-1000001)) C (by decide +kernel) dX5_meet_21 ⟨by decide +kernel, by decide, by decide⟩ ?_
        exact q_iret C dX5_meet_23 (sat_some hz)
theorem hdX5_fights : yX5_fights.cls = RX5 ∧ yX5_fights.cls ≠ "java/lang/invoke/MethodHandle" ∧ yX5_fights.cls ≠ "java/lang/invoke/VarHandle" ∧ (parseMethodDescriptor yX5_fights.desc).map (fun d => d.parameters.length) = some 1 := by decide +kernel
set_option maxHeartbeats 4000000 in
set_option maxRecDepth 100000 in
theorem c_X5_fights {l : Launch} {D : va_G} {ad : Nat → Nat} {cI cII cR : ClassId} (μ : Mm) (p1 : Int) {v : Int × Mm} (hz : f_X5_fights μ p1 = some v) : CT l D vwCl (tyC cI cII cR) 194 ad (EC ad cI cII cR) yX5_fights wsX5_fights ({ frames := 6, cells := 0, slots := 0, locals := 139 } : Room) (some .int) [Vr 174, Vi p1] μ v := by
  refine CT_of [(0, Vr 174), (1, Vi p1)] (by decide) rfl rfl (Nat.le_of_ble_eq_true rfl) rfl (fun G C => ?_)
  have i_X2 : ∀ w ∈ u_ws RX2 TX2 11, w ∈ wsX5_fights := by decide +kernel
  have i_X5 : ∀ w ∈ u_ws RX5 TX5 9, w ∈ wsX5_fights := by decide +kernel
  have f_44 : Cond.fieldLink (yX5_fights).cls 44 "SwanDeeds" "trial" "LSwanDeeds$River;" ∈ wsX5_fights := by decide +kernel
  have f_210 : Cond.fieldLink (yX5_fights).cls 210 "SwanDeeds$River" "defeats" "I" ∈ wsX5_fights := by decide +kernel
  have hz := sat_of hz
  unfold f_X5_fights at hz
  refine q_aload_n C 0 rfl dX5_fights_0 rfl ?_
  refine q_callVz C [] [] (c_X5_hasRiver μ) tO_X5 rfl gX5_fights_X5_hasRiver rfl ⟨rfl, rfl⟩ hdX5_hasRiver ⟨by decide, by decide⟩ rfl (by decide) dX5_fights_1 rfl (fun hb1 _ => ?_)
  refine q_if_ne C dX5_fights_4 (by decide) (fun c2 => ?_) (fun c2 => ?_)
  · have hz := sat_f hz c2
    refine q_iload_n C 1 rfl dX5_fights_10 rfl ?_
    refine q_iconst C dX5_fights_11 ⟨by decide, by decide⟩ ?_
    refine q_bipush C dX5_fights_12 ⟨rfl, by decide, by decide⟩ ?_
    refine q_callSz C [Vi p1, Vi 1, Vi 60] [] (c_X5_within μ p1 1 60) gX5_fights_X5_within rfl ⟨rfl, rfl⟩ hdX5_within ⟨by decide, by decide⟩ rfl (by decide) dX5_fights_14 rfl (fun hb3 _ => ?_)
    refine q_if_ne C dX5_fights_17 (by decide) (fun c4 => ?_) (fun c4 => ?_)
    · have hz := sat_f hz c4
      refine q_aload_n C 0 rfl dX5_fights_23 rfl ?_
      refine q_iload_n C 1 rfl dX5_fights_24 rfl ?_
      obtain ⟨z6, hz6, hz⟩ := sat_bind hz
      refine q_callVv C [Vi p1] [] (c_X5_foretell μ p1 hz6) tO_X5 rfl gX5_fights_X5_foretell rfl ⟨rfl, rfl⟩ hdX5_foretell ⟨by decide, by decide⟩ rfl (by decide) dX5_fights_25 rfl (fun _ => ?_)
      refine q_aload_n C 0 rfl dX5_fights_28 rfl ?_
      refine q_getR tO_X5 C i_X5 rfl rfl (by decide) rfl f_44 dX5_fights_29 ?_
      refine q_get (tO_X2 (by decide)) C i_X2 rfl rfl (by decide) rfl f_210 dX5_fights_32 ?_
      exact q_iret C dX5_fights_35 (sat_some hz)
    · have hz := sat_t hz c4
      refine q_ldc (v := (-1000001)) (x := (-1000001)) C (by decide +kernel) dX5_fights_20 ⟨by decide +kernel, by decide, by decide⟩ ?_
      exact q_iret C dX5_fights_22 (sat_some hz)
  · have hz := sat_t hz c2
    refine q_ldc (v := (-1000002)) (x := (-1000002)) C (by decide +kernel) dX5_fights_7 ⟨by decide +kernel, by decide, by decide⟩ ?_
    exact q_iret C dX5_fights_9 (sat_some hz)
theorem hdX5_doubles : yX5_doubles.cls = RX5 ∧ yX5_doubles.cls ≠ "java/lang/invoke/MethodHandle" ∧ yX5_doubles.cls ≠ "java/lang/invoke/VarHandle" ∧ (parseMethodDescriptor yX5_doubles.desc).map (fun d => d.parameters.length) = some 1 := by decide +kernel
set_option maxHeartbeats 4000000 in
set_option maxRecDepth 100000 in
theorem c_X5_doubles {l : Launch} {D : va_G} {ad : Nat → Nat} {cI cII cR : ClassId} (μ : Mm) (p1 : Int) {v : Int} (hz : f_X5_doubles μ p1 = some v) : CT l D vwCl (tyC cI cII cR) 194 ad (EC ad cI cII cR) yX5_doubles wsX5_doubles ({ frames := 1, cells := 0, slots := 0, locals := 22 } : Room) (some .int) [Vr 174, Vi p1] μ (v, μ) := by
  refine CT_of [(0, Vr 174), (1, Vi p1)] (by decide) rfl rfl (Nat.le_of_ble_eq_true rfl) rfl (fun G C => ?_)
  have i_X2 : ∀ w ∈ u_ws RX2 TX2 11, w ∈ wsX5_doubles := by decide +kernel
  have i_X5 : ∀ w ∈ u_ws RX5 TX5 9, w ∈ wsX5_doubles := by decide +kernel
  have f_40 : Cond.fieldLink (yX5_doubles).cls 40 "SwanDeeds" "now" "LSwanDeeds$River;" ∈ wsX5_doubles := by decide +kernel
  have f_117 : Cond.fieldLink (yX5_doubles).cls 117 "SwanDeeds$River" "swanCount" "I" ∈ wsX5_doubles := by decide +kernel
  have f_177 : Cond.fieldLink (yX5_doubles).cls 177 "SwanDeeds$River" "plots" "[I" ∈ wsX5_doubles := by decide +kernel
  have hz := sat_of hz
  unfold f_X5_doubles at hz
  refine q_aload_n C 0 rfl dX5_doubles_0 rfl ?_
  refine q_callVz C [] [] (c_X5_hasRiver μ) tO_X5 rfl gX5_doubles_X5_hasRiver rfl ⟨rfl, rfl⟩ hdX5_hasRiver ⟨by decide, by decide⟩ rfl (by decide) dX5_doubles_1 rfl (fun hb1 _ => ?_)
  refine q_if_ne C dX5_doubles_4 (by decide) (fun c2 => ?_) (fun c2 => ?_)
  · have hz := sat_f hz c2
    refine q_iload_n C 1 rfl dX5_doubles_10 rfl ?_
    refine q_iconst C dX5_doubles_11 ⟨by decide, by decide⟩ ?_
    refine q_iconst C dX5_doubles_12 ⟨by decide, by decide⟩ ?_
    refine q_callSz C [Vi p1, Vi 0, Vi 1] [] (c_X5_within μ p1 0 1) gX5_doubles_X5_within rfl ⟨rfl, rfl⟩ hdX5_within ⟨by decide, by decide⟩ rfl (by decide) dX5_doubles_13 rfl (fun hb3 _ => ?_)
    refine q_if_ne C dX5_doubles_16 (by decide) (fun c4 => ?_) (fun c4 => ?_)
    · have hz := sat_f hz c4
      refine q_iconst C dX5_doubles_22 ⟨by decide, by decide⟩ ?_
      refine q_istore_n C [(2, Vi 0), (0, Vr 174), (1, Vi p1)] rfl (by decide) dX5_doubles_23 rfl ?_
      refine q_ldc (v := (-1000000)) (x := (-1000000)) C (by decide +kernel) dX5_doubles_24 ⟨by decide +kernel, by decide, by decide⟩ ?_
      refine q_istore_n C [(3, Vi (-1000000)), (2, Vi 0), (0, Vr 174), (1, Vi p1)] rfl (by decide) dX5_doubles_26 rfl ?_
      refine q_iconst C dX5_doubles_27 ⟨by decide, by decide⟩ ?_
      refine q_istore C [(4, Vi 0), (3, Vi (-1000000)), (2, Vi 0), (0, Vr 174), (1, Vi p1)] rfl (by decide) dX5_doubles_28 ?_
      refine q_sub C [3, 4, 2, 1, 0] [(0, Vr 174), (1, Vi p1), (2, Vi 0), (3, Vi (-1000000)), (4, Vi 0)] rfl ?_
      refine loop_go (fun x5 => G μ 30 [(0, Vr 174), (1, Vi p1), (2, Vi (x5.1)), (3, Vi (x5.2.1)), (4, Vi (x5.2.2))] []) (sat_bind2 hz) (fun h => h) (fun x5 hz => ?_)
      refine q_iload C 4 rfl dX5_doubles_30 ?_
      refine q_aload_n C 0 rfl dX5_doubles_32 rfl ?_
      refine q_getR tO_X5 C i_X5 rfl rfl (by decide) rfl f_40 dX5_doubles_33 ?_
      refine q_get (tO_X2 (by decide)) C i_X2 rfl rfl (by decide) rfl f_117 dX5_doubles_36 ?_
      refine q_icmp_ge C dX5_doubles_39 (by decide) (fun c6 => ?_) (fun c6 => ?_)
      · have hz := sat_t hz c6
        have hz := sat_some hz
        refine q_sub C [1, 2, 3] [(1, Vi p1), (2, Vi (x5.1)), (3, Vi (x5.2.1))] rfl ?_
        refine q_iload_n C 0 rfl dX5_doubles_117 rfl ?_
        refine q_if_ne C dX5_doubles_118 (by decide) (fun c7 => ?_) (fun c7 => ?_)
        · have hz := sat_f hz c7
          refine q_iload_n C 2 rfl dX5_doubles_125 rfl ?_
          exact q_iret C dX5_doubles_126 (congrArg (fun q => (q, μ)) (sat_some hz))
        · have hz := sat_t hz c7
          refine q_iload_n C 1 rfl dX5_doubles_121 rfl ?_
          refine q_goto C dX5_doubles_122 (by decide) ?_
          exact q_iret C dX5_doubles_126 (congrArg (fun q => (q, μ)) (sat_some hz))
      · have hz := sat_f hz c6
        refine q_iload C 4 rfl dX5_doubles_42 ?_
        refine q_iconst C dX5_doubles_44 ⟨by decide, by decide⟩ ?_
        refine q_iadd C dX5_doubles_45 ?_
        refine q_istore C [(5, Vi (w3 (x5.2.2 + 1))), (0, Vr 174), (1, Vi p1), (2, Vi (x5.1)), (3, Vi (x5.2.1)), (4, Vi (x5.2.2))] rfl (by decide) dX5_doubles_46 ?_
        refine q_sub C [1, 2, 3, 4, 5, 0] [(0, Vr 174), (1, Vi p1), (2, Vi (x5.1)), (3, Vi (x5.2.1)), (4, Vi (x5.2.2)), (5, Vi (w3 (x5.2.2 + 1)))] rfl ?_
        refine loop_go (fun x8 => G μ 48 [(0, Vr 174), (1, Vi p1), (2, Vi (x8.1)), (3, Vi (x8.2.1)), (4, Vi (x5.2.2)), (5, Vi (x8.2.2))] []) (sat_bind2 hz) (fun h => h) (fun x8 hz => ?_)
        refine q_iload C 5 rfl dX5_doubles_48 ?_
        refine q_aload_n C 0 rfl dX5_doubles_50 rfl ?_
        refine q_getR tO_X5 C i_X5 rfl rfl (by decide) rfl f_40 dX5_doubles_51 ?_
        refine q_get (tO_X2 (by decide)) C i_X2 rfl rfl (by decide) rfl f_117 dX5_doubles_54 ?_
        refine q_icmp_ge C dX5_doubles_57 (by decide) (fun c9 => ?_) (fun c9 => ?_)
        · have hz := sat_t hz c9
          have hz := sat_some hz
          refine q_sub C [0, 1, 2, 3, 4] [(0, Vr 174), (1, Vi p1), (2, Vi (x8.1)), (3, Vi (x8.2.1)), (4, Vi (x5.2.2))] rfl ?_
          refine q_iinc C 4 rfl [(4, Vi (w3 (x5.2.2 + 1))), (0, Vr 174), (1, Vi p1), (2, Vi (x8.1)), (3, Vi (x8.2.1))] rfl (by decide) dX5_doubles_111 ?_
          refine q_goto C dX5_doubles_114 (by decide) ?_
          refine q_sub C [1, 2, 3, 4, 0] [(0, Vr 174), (1, Vi p1), (2, Vi (x8.1)), (3, Vi (x8.2.1)), (4, Vi (w3 (x5.2.2 + 1)))] rfl ?_
          exact sat_some hz
        · have hz := sat_f hz c9
          refine q_aload_n C 0 rfl dX5_doubles_60 rfl ?_
          refine q_getR tO_X5 C i_X5 rfl rfl (by decide) rfl f_40 dX5_doubles_61 ?_
          refine q_getR (tO_X2 (by decide)) C i_X2 rfl rfl (by decide) rfl f_177 dX5_doubles_64 ?_
          refine q_iload C 4 rfl dX5_doubles_67 ?_
          obtain ⟨c10, hz⟩ := sat_chk hz
          refine q_iald (tA_plots (by decide)) C 0 rfl c10 dX5_doubles_69 ?_
          refine q_aload_n C 0 rfl dX5_doubles_70 rfl ?_
          refine q_getR tO_X5 C i_X5 rfl rfl (by decide) rfl f_40 dX5_doubles_71 ?_
          refine q_getR (tO_X2 (by decide)) C i_X2 rfl rfl (by decide) rfl f_177 dX5_doubles_74 ?_
          refine q_iload C 5 rfl dX5_doubles_77 ?_
          obtain ⟨c11, hz⟩ := sat_chk hz
          refine q_iald (tA_plots (by decide)) C 0 rfl c11 dX5_doubles_79 ?_
          refine q_icmp_ne C dX5_doubles_80 (by decide) (fun c12 => ?_) (fun c12 => ?_)
          · have hz := sat_f hz c12
            refine q_iinc C 5 rfl [(5, Vi (w3 (x8.2.2 + 1))), (0, Vr 174), (1, Vi p1), (2, Vi (x8.1)), (3, Vi (x8.2.1)), (4, Vi (x5.2.2))] rfl (by decide) dX5_doubles_105 ?_
            refine q_goto C dX5_doubles_108 (by decide) ?_
            refine q_sub C [1, 2, 3, 4, 5, 0] [(0, Vr 174), (1, Vi p1), (2, Vi (x8.1)), (3, Vi (x8.2.1)), (4, Vi (x5.2.2)), (5, Vi (w3 (x8.2.2 + 1)))] rfl ?_
            exact sat_some hz
          · have hz := sat_t hz c12
            refine q_iinc C 2 rfl [(2, Vi (w3 (x8.1 + 1))), (0, Vr 174), (1, Vi p1), (3, Vi (x8.2.1)), (4, Vi (x5.2.2)), (5, Vi (x8.2.2))] rfl (by decide) dX5_doubles_83 ?_
            refine q_iload_n C 3 rfl dX5_doubles_86 rfl ?_
            refine q_ldc (v := (-1000000)) (x := (-1000000)) C (by decide +kernel) dX5_doubles_87 ⟨by decide +kernel, by decide, by decide⟩ ?_
            refine q_icmp_ne C dX5_doubles_89 (by decide) (fun c13 => ?_) (fun c13 => ?_)
            · have hz := sat_f hz c13
              refine q_iload_n C 3 rfl dX5_doubles_103 rfl ?_
              refine q_istore_n C [(3, Vi (x8.2.1)), (2, Vi (w3 (x8.1 + 1))), (0, Vr 174), (1, Vi p1), (4, Vi (x5.2.2)), (5, Vi (x8.2.2))] rfl (by decide) dX5_doubles_104 rfl ?_
              refine q_iinc C 5 rfl [(5, Vi (w3 (x8.2.2 + 1))), (3, Vi (x8.2.1)), (2, Vi (w3 (x8.1 + 1))), (0, Vr 174), (1, Vi p1), (4, Vi (x5.2.2))] rfl (by decide) dX5_doubles_105 ?_
              refine q_goto C dX5_doubles_108 (by decide) ?_
              refine q_sub C [3, 4, 2, 1, 5, 0] [(0, Vr 174), (1, Vi p1), (2, Vi (w3 (x8.1 + 1))), (3, Vi (x8.2.1)), (4, Vi (x5.2.2)), (5, Vi (w3 (x8.2.2 + 1)))] rfl ?_
              exact sat_some hz
            · have hz := sat_t hz c13
              refine q_bipush C dX5_doubles_92 ⟨rfl, by decide, by decide⟩ ?_
              refine q_iload C 4 rfl dX5_doubles_94 ?_
              refine q_imul C dX5_doubles_96 ?_
              refine q_iload C 5 rfl dX5_doubles_97 ?_
              refine q_iadd C dX5_doubles_99 ?_
              refine q_goto C dX5_doubles_100 (by decide) ?_
              obtain ⟨a14, ha14, hz⟩ := sat_bnd hz
              refine q_nmi ha14 ?_
              refine q_istore_n C [(3, Vi a14), (2, Vi (w3 (x8.1 + 1))), (0, Vr 174), (1, Vi p1), (4, Vi (x5.2.2)), (5, Vi (x8.2.2))] rfl (by decide) dX5_doubles_104 rfl ?_
              refine q_iinc C 5 rfl [(5, Vi (w3 (x8.2.2 + 1))), (3, Vi a14), (2, Vi (w3 (x8.1 + 1))), (0, Vr 174), (1, Vi p1), (4, Vi (x5.2.2))] rfl (by decide) dX5_doubles_105 ?_
              refine q_goto C dX5_doubles_108 (by decide) ?_
              refine q_sub C [3, 4, 2, 1, 5, 0] [(0, Vr 174), (1, Vi p1), (2, Vi (w3 (x8.1 + 1))), (3, Vi a14), (4, Vi (x5.2.2)), (5, Vi (w3 (x8.2.2 + 1)))] rfl ?_
              exact sat_some hz
    · have hz := sat_t hz c4
      refine q_ldc (v := (-1000001)) (x := (-1000001)) C (by decide +kernel) dX5_doubles_19 ⟨by decide +kernel, by decide, by decide⟩ ?_
      exact q_iret C dX5_doubles_21 (congrArg (fun q => (q, μ)) (sat_some hz))
  · have hz := sat_t hz c2
    refine q_ldc (v := (-1000002)) (x := (-1000002)) C (by decide +kernel) dX5_doubles_7 ⟨by decide +kernel, by decide, by decide⟩ ?_
    exact q_iret C dX5_doubles_9 (congrArg (fun q => (q, μ)) (sat_some hz))
theorem hdX5_suppose : yX5_suppose.cls = RX5 ∧ yX5_suppose.cls ≠ "java/lang/invoke/MethodHandle" ∧ yX5_suppose.cls ≠ "java/lang/invoke/VarHandle" ∧ (parseMethodDescriptor yX5_suppose.desc).map (fun d => d.parameters.length) = some 3 := by decide +kernel
set_option maxHeartbeats 4000000 in
set_option maxRecDepth 100000 in
theorem c_X5_suppose {l : Launch} {D : va_G} {ad : Nat → Nat} {cI cII cR : ClassId} (μ : Mm) (p1 p2 p3 : Int) {v : Mm} (hz : f_X5_suppose μ p1 p2 p3 = some v) : CT l D vwCl (tyC cI cII cR) 194 ad (EC ad cI cII cR) yX5_suppose wsX5_suppose ({ frames := 1, cells := 0, slots := 0, locals := 22 } : Room) none [Vr 174, Vi p1, Vi p2, Vi p3] μ ((0 : Int), v) := by
  refine CT_of [(0, Vr 174), (1, Vi p1), (2, Vi p2), (3, Vi p3)] (by decide) rfl rfl (Nat.le_of_ble_eq_true rfl) rfl (fun G C => ?_)
  have i_X2 : ∀ w ∈ u_ws RX2 TX2 11, w ∈ wsX5_suppose := by decide +kernel
  have i_X5 : ∀ w ∈ u_ws RX5 TX5 9, w ∈ wsX5_suppose := by decide +kernel
  have f_40 : Cond.fieldLink (yX5_suppose).cls 40 "SwanDeeds" "now" "LSwanDeeds$River;" ∈ wsX5_suppose := by decide +kernel
  have f_44 : Cond.fieldLink (yX5_suppose).cls 44 "SwanDeeds" "trial" "LSwanDeeds$River;" ∈ wsX5_suppose := by decide +kernel
  have f_167 : Cond.fieldLink (yX5_suppose).cls 167 "SwanDeeds$River" "places" "[I" ∈ wsX5_suppose := by decide +kernel
  have f_174 : Cond.fieldLink (yX5_suppose).cls 174 "SwanDeeds$River" "weights" "[I" ∈ wsX5_suppose := by decide +kernel
  have f_266 : Cond.fieldLink (yX5_suppose).cls 266 "SwanDeeds$River" "kinds" "[I" ∈ wsX5_suppose := by decide +kernel
  have hz := sat_of hz
  unfold f_X5_suppose at hz
  refine q_aload_n C 0 rfl dX5_suppose_0 rfl ?_
  refine q_getR tO_X5 C i_X5 rfl rfl (by decide) rfl f_44 dX5_suppose_1 ?_
  refine q_aload_n C 0 rfl dX5_suppose_4 rfl ?_
  refine q_getR tO_X5 C i_X5 rfl rfl (by decide) rfl f_40 dX5_suppose_5 ?_
  obtain ⟨z2, hz2, hz⟩ := sat_bind hz
  refine q_callVv C [Vr (6 * 0)] [] (c_X2_become μ 3 (by decide) 0 (by decide) hz2) (tO_X2 (by decide)) rfl gX5_suppose_X2_become rfl ⟨rfl, rfl⟩ hdX2_become ⟨by decide, by decide⟩ rfl (by decide) dX5_suppose_8 rfl (fun _ => ?_)
  refine q_iload_n C 2 rfl dX5_suppose_11 rfl ?_
  refine sat_ite hz (fun c3 hz => ?_) (fun c3 hz => ?_)
  · have c3 : p2 = 0 := c3
    refine q_lookup C dX5_suppose_12 rfl (off := 28) (by rw [c3]; rfl) (by decide) ?_
    refine q_aload_n C 0 rfl dX5_suppose_40 rfl ?_
    refine q_getR tO_X5 C i_X5 rfl rfl (by decide) rfl f_44 dX5_suppose_41 ?_
    refine q_getR (tO_X2 (by decide)) C i_X2 rfl rfl (by decide) rfl f_266 dX5_suppose_44 ?_
    refine q_iload_n C 1 rfl dX5_suppose_47 rfl ?_
    refine q_iload_n C 3 rfl dX5_suppose_48 rfl ?_
    obtain ⟨c4, hz⟩ := sat_chk hz
    obtain ⟨m5, hm5, hz⟩ := sat_bnd hz
    refine q_iast (tA_kinds (by decide)) C 0 rfl c4 hm5 dX5_suppose_49 ?_
    refine q_goto C dX5_suppose_50 (by decide) ?_
    exact q_vret C dX5_suppose_76 (congrArg (fun q => ((0 : Int), q)) (sat_some hz))
  · have c3 : ¬ p2 = 0 := c3
    refine sat_ite hz (fun c6 hz => ?_) (fun c6 hz => ?_)
    · have c6 : p2 = 1 := c6
      refine q_lookup C dX5_suppose_12 rfl (off := 41) (by rw [c6]; rfl) (by decide) ?_
      refine q_aload_n C 0 rfl dX5_suppose_53 rfl ?_
      refine q_getR tO_X5 C i_X5 rfl rfl (by decide) rfl f_44 dX5_suppose_54 ?_
      refine q_getR (tO_X2 (by decide)) C i_X2 rfl rfl (by decide) rfl f_167 dX5_suppose_57 ?_
      refine q_iload_n C 1 rfl dX5_suppose_60 rfl ?_
      refine q_iload_n C 3 rfl dX5_suppose_61 rfl ?_
      obtain ⟨c7, hz⟩ := sat_chk hz
      obtain ⟨m8, hm8, hz⟩ := sat_bnd hz
      refine q_iast (tA_places (by decide)) C 0 rfl c7 hm8 dX5_suppose_62 ?_
      refine q_goto C dX5_suppose_63 (by decide) ?_
      exact q_vret C dX5_suppose_76 (congrArg (fun q => ((0 : Int), q)) (sat_some hz))
    · have c6 : ¬ p2 = 1 := c6
      refine q_lookup C dX5_suppose_12 rfl (off := 54) (by simp [Op.lookupswitch.offset, *]) (by decide) ?_
      refine q_aload_n C 0 rfl dX5_suppose_66 rfl ?_
      refine q_getR tO_X5 C i_X5 rfl rfl (by decide) rfl f_44 dX5_suppose_67 ?_
      refine q_getR (tO_X2 (by decide)) C i_X2 rfl rfl (by decide) rfl f_174 dX5_suppose_70 ?_
      refine q_iload_n C 1 rfl dX5_suppose_73 rfl ?_
      refine q_iload_n C 3 rfl dX5_suppose_74 rfl ?_
      obtain ⟨c9, hz⟩ := sat_chk hz
      obtain ⟨m10, hm10, hz⟩ := sat_bnd hz
      refine q_iast (tA_weights (by decide)) C 0 rfl c9 hm10 dX5_suppose_75 ?_
      exact q_vret C dX5_suppose_76 (congrArg (fun q => ((0 : Int), q)) (sat_some hz))
theorem hdX3_itemAt : yX3_itemAt.cls = RX3 ∧ yX3_itemAt.cls ≠ "java/lang/invoke/MethodHandle" ∧ yX3_itemAt.cls ≠ "java/lang/invoke/VarHandle" ∧ (parseMethodDescriptor yX3_itemAt.desc).map (fun d => d.parameters.length) = some 2 := by decide +kernel
set_option maxHeartbeats 4000000 in
set_option maxRecDepth 100000 in
theorem c_X3_itemAt {l : Launch} {D : va_G} {ad : Nat → Nat} {cI cII cR : ClassId} (μ : Mm) (p1 p2 : Int) {v : Int} (hz : f_X3_itemAt μ p1 p2 = some v) : CT l D vwCl (tyC cI cII cR) 194 ad (EC ad cI cII cR) yX3_itemAt wsX3_itemAt ({ frames := 0, cells := 0, slots := 0, locals := 0 } : Room) (some .int) [Vr 175, Vi p1, Vi p2] μ (v, μ) := by
  refine CT_of [(0, Vr 175), (1, Vi p1), (2, Vi p2)] (by decide) rfl rfl (Nat.le_of_ble_eq_true rfl) rfl (fun G C => ?_)
  have i_X3 : ∀ w ∈ u_ws RX3 TX3 3, w ∈ wsX3_itemAt := by decide +kernel
  have f_11 : Cond.fieldLink (yX3_itemAt).cls 11 "SwanDeeds$Rows" "items" "[[I" ∈ wsX3_itemAt := by decide +kernel
  have hz := sat_of hz
  unfold f_X3_itemAt at hz
  refine q_aload_n C 0 rfl dX3_itemAt_0 rfl ?_
  refine q_getR tO_X3 C i_X3 rfl rfl (by decide) rfl f_11 dX3_itemAt_1 ?_
  refine q_iload_n C 1 rfl dX3_itemAt_4 rfl ?_
  obtain ⟨c1, hz⟩ := sat_chk hz
  refine q_aald tQ_items C 1 rfl rfl c1 (k' := 186 + p1.toNat) rfl dX3_itemAt_5 ?_
  refine q_iload_n C 2 rfl dX3_itemAt_6 rfl ?_
  obtain ⟨c2, hz⟩ := sat_chk hz
  refine q_iald (tA_items (show p1.toNat < 8 by omega)) C 0 rfl c2 dX3_itemAt_7 ?_
  exact q_iret C dX3_itemAt_8 (congrArg (fun q => (q, μ)) (sat_some hz))
theorem hdX5_trialFits : yX5_trialFits.cls = RX5 ∧ yX5_trialFits.cls ≠ "java/lang/invoke/MethodHandle" ∧ yX5_trialFits.cls ≠ "java/lang/invoke/VarHandle" ∧ (parseMethodDescriptor yX5_trialFits.desc).map (fun d => d.parameters.length) = some 4 := by decide +kernel
set_option maxHeartbeats 4000000 in
set_option maxRecDepth 100000 in
theorem c_X5_trialFits {l : Launch} {D : va_G} {ad : Nat → Nat} {cI cII cR : ClassId} (μ : Mm) (p1 p2 p3 p4 : Int) {v : Int × Mm} (hz : f_X5_trialFits μ p1 p2 p3 p4 = some v) : CT l D vwCl (tyC cI cII cR) 194 ad (EC ad cI cII cR) yX5_trialFits wsX5_trialFits ({ frames := 4, cells := 0, slots := 0, locals := 96 } : Room) (some .boolean) [Vr 174, Vi p1, Vi p2, Vi p3, Vi p4] μ v := by
  refine CT_of [(0, Vr 174), (1, Vi p1), (2, Vi p2), (3, Vi p3), (4, Vi p4)] (by decide) rfl rfl (Nat.le_of_ble_eq_true rfl) rfl (fun G C => ?_)
  have i_X2 : ∀ w ∈ u_ws RX2 TX2 11, w ∈ wsX5_trialFits := by decide +kernel
  have i_X5 : ∀ w ∈ u_ws RX5 TX5 9, w ∈ wsX5_trialFits := by decide +kernel
  have f_10 : Cond.fieldLink (yX5_trialFits).cls 10 "SwanDeeds" "rows" "LSwanDeeds$Rows;" ∈ wsX5_trialFits := by decide +kernel
  have f_44 : Cond.fieldLink (yX5_trialFits).cls 44 "SwanDeeds" "trial" "LSwanDeeds$River;" ∈ wsX5_trialFits := by decide +kernel
  have f_167 : Cond.fieldLink (yX5_trialFits).cls 167 "SwanDeeds$River" "places" "[I" ∈ wsX5_trialFits := by decide +kernel
  have hz := sat_of hz
  unfold f_X5_trialFits at hz
  refine q_iconst C dX5_trialFits_0 ⟨by decide, by decide⟩ ?_
  refine q_istore C [(5, Vi 0), (0, Vr 174), (1, Vi p1), (2, Vi p2), (3, Vi p3), (4, Vi p4)] rfl (by decide) dX5_trialFits_1 ?_
  refine q_sub C [1, 2, 3, 4, 5, 0] [(0, Vr 174), (1, Vi p1), (2, Vi p2), (3, Vi p3), (4, Vi p4), (5, Vi 0)] rfl ?_
  refine loop_go (fun x1 => G x1.2 3 [(0, Vr 174), (1, Vi p1), (2, Vi p2), (3, Vi p3), (4, Vi p4), (5, Vi (x1.1))] []) (sat_bind2 hz) (fun h => h) (fun x1 hz => ?_)
  refine q_iload C 5 rfl dX5_trialFits_3 ?_
  refine q_iload C 4 rfl dX5_trialFits_5 ?_
  refine q_icmp_ge C dX5_trialFits_7 (by decide) (fun c2 => ?_) (fun c2 => ?_)
  · have hz := sat_t hz c2
    have hz := sat_some hz
    refine q_sub C [] [] rfl ?_
    refine q_iconst C dX5_trialFits_49 ⟨by decide, by decide⟩ ?_
    exact q_zret C (Or.inr rfl) dX5_trialFits_50 (sat_some hz)
  · have hz := sat_f hz c2
    refine q_aload_n C 0 rfl dX5_trialFits_10 rfl ?_
    refine q_getR tO_X5 C i_X5 rfl rfl (by decide) rfl f_44 dX5_trialFits_11 ?_
    obtain ⟨z4, hz4, hz⟩ := sat_bind hz
    refine q_callVv C [] [] (c_X2_passDay x1.2 3 (by decide) hz4) (tO_X2 (by decide)) rfl gX5_trialFits_X2_passDay rfl ⟨rfl, rfl⟩ hdX2_passDay ⟨by decide, by decide⟩ rfl (by decide) dX5_trialFits_14 rfl (fun _ => ?_)
    refine q_aload_n C 0 rfl dX5_trialFits_17 rfl ?_
    refine q_getR tO_X5 C i_X5 rfl rfl (by decide) rfl f_44 dX5_trialFits_18 ?_
    refine q_getR (tO_X2 (by decide)) C i_X2 rfl rfl (by decide) rfl f_167 dX5_trialFits_21 ?_
    refine q_iload_n C 1 rfl dX5_trialFits_24 rfl ?_
    obtain ⟨c5, hz⟩ := sat_chk hz
    refine q_iald (tA_places (by decide)) C 0 rfl c5 dX5_trialFits_25 ?_
    refine q_aload_n C 0 rfl dX5_trialFits_26 rfl ?_
    refine q_getR tO_X5 C i_X5 rfl rfl (by decide) rfl f_10 dX5_trialFits_27 ?_
    refine q_iload_n C 2 rfl dX5_trialFits_30 rfl ?_
    refine q_iload_n C 3 rfl dX5_trialFits_31 rfl ?_
    refine q_iload C 5 rfl dX5_trialFits_32 ?_
    refine q_iadd C dX5_trialFits_34 ?_
    obtain ⟨z7, hz7, hz⟩ := sat_bind hz
    refine q_callVi C [Vi p2, Vi (w3 (p3 + x1.1))] [Vi (z4 3 (11 + p1))] (c_X3_itemAt z4 p2 (w3 (p3 + x1.1)) hz7) tO_X3 rfl gX5_trialFits_X3_itemAt rfl ⟨rfl, rfl⟩ hdX3_itemAt ⟨by decide, by decide⟩ rfl (by decide) dX5_trialFits_35 rfl (fun _ _ => ?_)
    refine q_icmp_eq C dX5_trialFits_38 (by decide) (fun c8 => ?_) (fun c8 => ?_)
    · have hz := sat_t hz c8
      refine q_iinc C 5 rfl [(5, Vi (w3 (x1.1 + 1))), (0, Vr 174), (1, Vi p1), (2, Vi p2), (3, Vi p3), (4, Vi p4)] rfl (by decide) dX5_trialFits_43 ?_
      refine q_goto C dX5_trialFits_46 (by decide) ?_
      refine q_sub C [1, 2, 3, 4, 5, 0] [(0, Vr 174), (1, Vi p1), (2, Vi p2), (3, Vi p3), (4, Vi p4), (5, Vi (w3 (x1.1 + 1)))] rfl ?_
      exact sat_some hz
    · have hz := sat_f hz c8
      refine q_iconst C dX5_trialFits_41 ⟨by decide, by decide⟩ ?_
      exact q_zret C (Or.inl rfl) dX5_trialFits_42 (sat_some (sat_some hz))
