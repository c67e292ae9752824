theorem hdX5_isLawn : yX5_isLawn.cls = RX5 ∧ yX5_isLawn.cls ≠ "java/lang/invoke/MethodHandle" ∧ yX5_isLawn.cls ≠ "java/lang/invoke/VarHandle" ∧ (parseMethodDescriptor yX5_isLawn.desc).map (fun d => d.parameters.length) = some 1 := by decide +kernel
set_option maxHeartbeats 4000000 in
set_option maxRecDepth 100000 in
theorem c_X5_isLawn {l : Launch} {D : va_G} {ad : Nat → Nat} {cI cII cR : ClassId} (μ : Mm) (p1 : Int) : CT l D vwCl (tyC cI cII cR) 194 ad (EC ad cI cII cR) (ZC ad) yX5_isLawn wsX5_isLawn ({ frames := 1, cells := 0, slots := 0, locals := 22 } : Room) (some .boolean) [Vr 174, Vi p1] μ (f_X5_isLawn μ p1, μ) := by
  refine CT_of [(0, Vr 174), (1, Vi p1)] ZC_st (by decide) rfl rfl (Nat.le_of_ble_eq_true rfl) rfl (fun G C => ?_)
  have i_X2 : ∀ w ∈ u_ws RX2 TX2 11, w ∈ wsX5_isLawn := by decide +kernel
  have i_X5 : ∀ w ∈ u_ws RX5 TX5 9, w ∈ wsX5_isLawn := by decide +kernel
  have f_40 : Cond.fieldLink (yX5_isLawn).cls 40 "SwanDeeds" "now" "LSwanDeeds$River;" ∈ wsX5_isLawn := by decide +kernel
  have f_207 : Cond.fieldLink (yX5_isLawn).cls 207 "SwanDeeds$River" "lawnCount" "I" ∈ wsX5_isLawn := by decide +kernel
  generalize hz : f_X5_isLawn μ p1 = v at C
  unfold f_X5_isLawn at hz
  refine q_iload_n C 1 rfl dX5_isLawn_0 rfl ?_
  refine q_iconst C dX5_isLawn_1 ⟨by decide, by decide⟩ ?_
  refine q_aload_n C 0 rfl dX5_isLawn_2 rfl ?_
  refine q_getR tO_X5 C (i := 4) i_X5 rfl rfl (by decide) rfl f_40 dX5_isLawn_3 ?_
  refine q_get (tO_X2 (by decide)) C (i := 0) i_X2 rfl rfl (by decide) rfl f_207 dX5_isLawn_6 ?_
  refine q_iconst C dX5_isLawn_9 ⟨by decide, by decide⟩ ?_
  refine q_isub C dX5_isLawn_10 ?_
  refine q_callSz ZC_st C [Vi p1, Vi 0, Vi (w3 ((μ 0 24) - 1))] [] (c_X5_within μ p1 0 (w3 ((μ 0 24) - 1))) gX5_isLawn_X5_within rfl ⟨rfl, rfl⟩ hdX5_within ⟨by decide, by decide⟩ rfl (Nat.le_of_ble_eq_true rfl) dX5_isLawn_11 rfl (fun hb1 _ => ?_)
  exact q_zret C (hb1) dX5_isLawn_14 (congrArg (fun q => (q, μ)) hz)
theorem hdX2_scatter : yX2_scatter.cls = RX2 ∧ yX2_scatter.cls ≠ "java/lang/invoke/MethodHandle" ∧ yX2_scatter.cls ≠ "java/lang/invoke/VarHandle" ∧ (parseMethodDescriptor yX2_scatter.desc).map (fun d => d.parameters.length) = some 2 := by decide +kernel
set_option maxHeartbeats 4000000 in
set_option maxRecDepth 100000 in
theorem c_X2_scatter {l : Launch} {D : va_G} {ad : Nat → Nat} {cI cII cR : ClassId} (μ : Mm) (r : Nat) (hr : r < 29) (p1 p2 : Int) {v : Mm} (hz : f_X2_scatter μ r p1 p2 = some v) : CT l D vwCl (tyC cI cII cR) 194 ad (EC ad cI cII cR) (ZC ad) yX2_scatter wsX2_scatter ({ frames := 1, cells := 0, slots := 0, locals := 21 } : Room) none [Vr (6 * r), Vi p1, Vi p2] μ ((0 : Int), v) := by
  refine CT_of [(0, Vr (6 * r)), (1, Vi p1), (2, Vi p2)] ZC_st (by decide) rfl rfl (Nat.le_of_ble_eq_true rfl) rfl (fun G C => ?_)
  have i_X2 : ∀ w ∈ u_ws RX2 TX2 11, w ∈ wsX2_scatter := by decide +kernel
  have f_9 : Cond.fieldLink (yX2_scatter).cls 9 "SwanDeeds$River" "crumbs" "[I" ∈ wsX2_scatter := by decide +kernel
  have hz := sat_of hz
  unfold f_X2_scatter at hz
  refine q_aload_n C 0 rfl dX2_scatter_0 rfl ?_
  refine q_getR (tO_X2 hr) C (i := 4) i_X2 rfl rfl (by decide) rfl f_9 dX2_scatter_1 ?_
  refine q_iload_n C 1 rfl dX2_scatter_4 rfl ?_
  refine q_bipush C dX2_scatter_5 ⟨rfl, by decide, by decide⟩ ?_
  refine q_aload_n C 0 rfl dX2_scatter_7 rfl ?_
  refine q_getR (tO_X2 hr) C (i := 4) i_X2 rfl rfl (by decide) rfl f_9 dX2_scatter_8 ?_
  refine q_iload_n C 1 rfl dX2_scatter_11 rfl ?_
  obtain ⟨c1, hz⟩ := sat_chk hz
  refine q_iald (tA_crumbs hr) C 0 rfl c1 dX2_scatter_12 ?_
  refine q_iload_n C 2 rfl dX2_scatter_13 rfl ?_
  refine q_iadd C dX2_scatter_14 ?_
  refine q_mmin C (v := f_J9_min_7cf53 μ 99 (w3 ((μ r (1 + p1)) + p2))) rfl (by decide +kernel) (by decide +kernel) (by decide +kernel) (by decide +kernel) ⟨by decide, Nat.le_of_ble_eq_true rfl⟩ dX2_scatter_15 ?_
  obtain ⟨c2, hz⟩ := sat_chk hz
  obtain ⟨m3, hm3, hz⟩ := sat_bnd hz
  refine q_iast (tA_crumbs hr) C 0 rfl c2 hm3 dX2_scatter_18 ?_
  exact q_vret C dX2_scatter_19 (congrArg (fun q => ((0 : Int), q)) (sat_eq hz))
theorem hdX5_bread : yX5_bread.cls = RX5 ∧ yX5_bread.cls ≠ "java/lang/invoke/MethodHandle" ∧ yX5_bread.cls ≠ "java/lang/invoke/VarHandle" ∧ (parseMethodDescriptor yX5_bread.desc).map (fun d => d.parameters.length) = some 2 := by decide +kernel
set_option maxHeartbeats 4000000 in
set_option maxRecDepth 100000 in
theorem c_X5_bread {l : Launch} {D : va_G} {ad : Nat → Nat} {cI cII cR : ClassId} (μ : Mm) (p1 p2 : Int) {v : Int × Mm} (hz : f_X5_bread μ p1 p2 = some v) : CT l D vwCl (tyC cI cII cR) 194 ad (EC ad cI cII cR) (ZC ad) yX5_bread wsX5_bread ({ frames := 2, cells := 0, slots := 0, locals := 43 } : Room) (some .int) [Vr 174, Vi p1, Vi p2] μ (v.1, v.2) := by
  refine CT_of [(0, Vr 174), (1, Vi p1), (2, Vi p2)] ZC_st (by decide) rfl rfl (Nat.le_of_ble_eq_true rfl) rfl (fun G C => ?_)
  have i_X2 : ∀ w ∈ u_ws RX2 TX2 11, w ∈ wsX5_bread := by decide +kernel
  have i_X5 : ∀ w ∈ u_ws RX5 TX5 9, w ∈ wsX5_bread := by decide +kernel
  have f_26 : Cond.fieldLink (yX5_bread).cls 26 "SwanDeeds" "acts" "LSwanDeeds$Acts;" ∈ wsX5_bread := by decide +kernel
  have f_40 : Cond.fieldLink (yX5_bread).cls 40 "SwanDeeds" "now" "LSwanDeeds$River;" ∈ wsX5_bread := by decide +kernel
  have f_154 : Cond.fieldLink (yX5_bread).cls 154 "SwanDeeds$River" "crumbs" "[I" ∈ wsX5_bread := by decide +kernel
  have hz := sat_of hz
  unfold f_X5_bread at hz
  refine q_aload_n C 0 rfl dX5_bread_0 rfl ?_
  refine q_iload_n C 1 rfl dX5_bread_1 rfl ?_
  refine q_callVz ZC_st C [Vi p1] [] (c_X5_isLawn μ p1) tO_X5 rfl gX5_bread_X5_isLawn rfl ⟨rfl, rfl⟩ hdX5_isLawn ⟨by decide, by decide⟩ rfl (Nat.le_of_ble_eq_true rfl) dX5_bread_2 rfl (fun hb1 _ => ?_)
  refine q_if_eq C dX5_bread_5 (tgt := 18) (by decide) (fun c2 => ?_) (fun c2 => ?_)
  · have hz := sat_t hz c2
    refine q_ldc (v := (-1000001)) (x := (-1000001)) C (by decide +kernel) dX5_bread_18 ⟨by decide +kernel, by decide, by decide⟩ ?_
    exact q_iret C dX5_bread_20 (sat_eq hz)
  · have hz := sat_f hz c2
    refine q_iload_n C 2 rfl dX5_bread_8 rfl ?_
    refine q_iconst C dX5_bread_9 ⟨by decide, by decide⟩ ?_
    refine q_bipush C dX5_bread_10 ⟨rfl, by decide, by decide⟩ ?_
    refine q_callSz ZC_st C [Vi p2, Vi 1, Vi 9] [] (c_X5_within μ p2 1 9) gX5_bread_X5_within rfl ⟨rfl, rfl⟩ hdX5_within ⟨by decide, by decide⟩ rfl (Nat.le_of_ble_eq_true rfl) dX5_bread_12 rfl (fun hb3 _ => ?_)
    refine q_if_ne C dX5_bread_15 (tgt := 21) (by decide) (fun c4 => ?_) (fun c4 => ?_)
    · have hz := sat_f hz c4
      refine q_aload_n C 0 rfl dX5_bread_21 rfl ?_
      refine q_getR tO_X5 C (i := 2) i_X5 rfl rfl (by decide) rfl f_26 dX5_bread_22 ?_
      refine q_aload_n C 0 rfl dX5_bread_25 rfl ?_
      refine q_getR tO_X5 C (i := 4) i_X5 rfl rfl (by decide) rfl f_40 dX5_bread_26 ?_
      obtain ⟨z6, hz6, hz⟩ := sat_bind hz
      refine q_callVv ZC_st C [Vr (6 * 0)] [] (c_X0_keep μ 0 (by decide) hz6) tO_X0 rfl gX5_bread_X0_keep rfl ⟨rfl, rfl⟩ hdX0_keep ⟨by decide, by decide⟩ rfl (Nat.le_of_ble_eq_true rfl) dX5_bread_29 rfl (fun _ => ?_)
      refine q_aload_n C 0 rfl dX5_bread_32 rfl ?_
      refine q_getR tO_X5 C (i := 4) i_X5 rfl rfl (by decide) rfl f_40 dX5_bread_33 ?_
      refine q_iload_n C 1 rfl dX5_bread_36 rfl ?_
      refine q_iload_n C 2 rfl dX5_bread_37 rfl ?_
      obtain ⟨z8, hz8, hz⟩ := sat_bind hz
      refine q_callVv ZC_st C [Vi p1, Vi p2] [] (c_X2_scatter z6 0 (by decide) p1 p2 hz8) (tO_X2 (by decide)) rfl gX5_bread_X2_scatter rfl ⟨rfl, rfl⟩ hdX2_scatter ⟨by decide, by decide⟩ rfl (Nat.le_of_ble_eq_true rfl) dX5_bread_38 rfl (fun _ => ?_)
      refine q_aload_n C 0 rfl dX5_bread_41 rfl ?_
      refine q_getR tO_X5 C (i := 4) i_X5 rfl rfl (by decide) rfl f_40 dX5_bread_42 ?_
      refine q_getR (tO_X2 (by decide)) C (i := 4) i_X2 rfl rfl (by decide) rfl f_154 dX5_bread_45 ?_
      refine q_iload_n C 1 rfl dX5_bread_48 rfl ?_
      obtain ⟨c9, hz⟩ := sat_chk hz
      refine q_iald (tA_crumbs (by decide)) C 0 rfl c9 dX5_bread_49 ?_
      exact q_iret C dX5_bread_50 (sat_eq hz)
    · have hz := sat_t hz c4
      refine q_ldc (v := (-1000001)) (x := (-1000001)) C (by decide +kernel) dX5_bread_18 ⟨by decide +kernel, by decide, by decide⟩ ?_
      exact q_iret C dX5_bread_20 (sat_eq hz)
theorem hdX2_weirBehind : yX2_weirBehind.cls = RX2 ∧ yX2_weirBehind.cls ≠ "java/lang/invoke/MethodHandle" ∧ yX2_weirBehind.cls ≠ "java/lang/invoke/VarHandle" ∧ (parseMethodDescriptor yX2_weirBehind.desc).map (fun d => d.parameters.length) = some 1 := by decide +kernel
set_option maxHeartbeats 4000000 in
set_option maxRecDepth 100000 in
theorem c_X2_weirBehind {l : Launch} {D : va_G} {ad : Nat → Nat} {cI cII cR : ClassId} (μ : Mm) (r : Nat) (hr : r < 29) (p1 : Int) : CT l D vwCl (tyC cI cII cR) 194 ad (EC ad cI cII cR) (ZC ad) yX2_weirBehind wsX2_weirBehind ({ frames := 0, cells := 0, slots := 0, locals := 0 } : Room) (some .int) [Vr (6 * r), Vi p1] μ (f_X2_weirBehind μ r p1, μ) := by
  refine CT_of [(0, Vr (6 * r)), (1, Vi p1)] ZC_st (by decide) rfl rfl (Nat.le_of_ble_eq_true rfl) rfl (fun G C => ?_)
  have i_X2 : ∀ w ∈ u_ws RX2 TX2 11, w ∈ wsX2_weirBehind := by decide +kernel
  have f_37 : Cond.fieldLink (yX2_weirBehind).cls 37 "SwanDeeds$River" "weirBits" "I" ∈ wsX2_weirBehind := by decide +kernel
  generalize hz : f_X2_weirBehind μ r p1 = v at C
  unfold f_X2_weirBehind at hz
  refine q_aload_n C 0 rfl dX2_weirBehind_0 rfl ?_
  refine q_get (tO_X2 hr) C (i := 3) i_X2 rfl rfl (by decide) rfl f_37 dX2_weirBehind_1 ?_
  refine q_iload_n C 1 rfl dX2_weirBehind_4 rfl ?_
  refine q_ishr C dX2_weirBehind_5 ?_
  refine q_iconst C dX2_weirBehind_6 ⟨by decide, by decide⟩ ?_
  refine q_iand C dX2_weirBehind_7 ?_
  exact q_iret C dX2_weirBehind_8 (congrArg (fun q => (q, μ)) hz)
theorem hdX5_weir : yX5_weir.cls = RX5 ∧ yX5_weir.cls ≠ "java/lang/invoke/MethodHandle" ∧ yX5_weir.cls ≠ "java/lang/invoke/VarHandle" ∧ (parseMethodDescriptor yX5_weir.desc).map (fun d => d.parameters.length) = some 2 := by decide +kernel
set_option maxHeartbeats 4000000 in
set_option maxRecDepth 100000 in
theorem c_X5_weir {l : Launch} {D : va_G} {ad : Nat → Nat} {cI cII cR : ClassId} (μ : Mm) (p1 p2 : Int) {v : Int × Mm} (hz : f_X5_weir μ p1 p2 = some v) : CT l D vwCl (tyC cI cII cR) 194 ad (EC ad cI cII cR) (ZC ad) yX5_weir wsX5_weir ({ frames := 2, cells := 0, slots := 0, locals := 43 } : Room) (some .int) [Vr 174, Vi p1, Vi p2] μ (v.1, v.2) := by
  refine CT_of [(0, Vr 174), (1, Vi p1), (2, Vi p2)] ZC_st (by decide) rfl rfl (Nat.le_of_ble_eq_true rfl) rfl (fun G C => ?_)
  have i_X2 : ∀ w ∈ u_ws RX2 TX2 11, w ∈ wsX5_weir := by decide +kernel
  have i_X5 : ∀ w ∈ u_ws RX5 TX5 9, w ∈ wsX5_weir := by decide +kernel
  have f_26 : Cond.fieldLink (yX5_weir).cls 26 "SwanDeeds" "acts" "LSwanDeeds$Acts;" ∈ wsX5_weir := by decide +kernel
  have f_40 : Cond.fieldLink (yX5_weir).cls 40 "SwanDeeds" "now" "LSwanDeeds$River;" ∈ wsX5_weir := by decide +kernel
  have f_161 : Cond.fieldLink (yX5_weir).cls 161 "SwanDeeds$River" "weirBits" "I" ∈ wsX5_weir := by decide +kernel
  have hz := sat_of hz
  unfold f_X5_weir at hz
  refine q_aload_n C 0 rfl dX5_weir_0 rfl ?_
  refine q_iload_n C 1 rfl dX5_weir_1 rfl ?_
  refine q_callVz ZC_st C [Vi p1] [] (c_X5_isLawn μ p1) tO_X5 rfl gX5_weir_X5_isLawn rfl ⟨rfl, rfl⟩ hdX5_isLawn ⟨by decide, by decide⟩ rfl (Nat.le_of_ble_eq_true rfl) dX5_weir_2 rfl (fun hb1 _ => ?_)
  refine q_if_eq C dX5_weir_5 (tgt := 27) (by decide) (fun c2 => ?_) (fun c2 => ?_)
  · have hz := sat_t hz c2
    refine q_ldc (v := (-1000001)) (x := (-1000001)) C (by decide +kernel) dX5_weir_27 ⟨by decide +kernel, by decide, by decide⟩ ?_
    exact q_iret C dX5_weir_29 (sat_eq hz)
  · have hz := sat_f hz c2
    refine q_aload_n C 0 rfl dX5_weir_8 rfl ?_
    refine q_iload_n C 1 rfl dX5_weir_9 rfl ?_
    refine q_iconst C dX5_weir_10 ⟨by decide, by decide⟩ ?_
    refine q_iadd C dX5_weir_11 ?_
    refine q_callVz ZC_st C [Vi (w3 (p1 + 1))] [] (c_X5_isLawn μ (w3 (p1 + 1))) tO_X5 rfl gX5_weir_X5_isLawn rfl ⟨rfl, rfl⟩ hdX5_isLawn ⟨by decide, by decide⟩ rfl (Nat.le_of_ble_eq_true rfl) dX5_weir_12 rfl (fun hb3 _ => ?_)
    refine q_if_eq C dX5_weir_15 (tgt := 27) (by decide) (fun c4 => ?_) (fun c4 => ?_)
    · have hz := sat_t hz c4
      refine q_ldc (v := (-1000001)) (x := (-1000001)) C (by decide +kernel) dX5_weir_27 ⟨by decide +kernel, by decide, by decide⟩ ?_
      exact q_iret C dX5_weir_29 (sat_eq hz)
    · have hz := sat_f hz c4
      refine q_iload_n C 2 rfl dX5_weir_18 rfl ?_
      refine q_iconst C dX5_weir_19 ⟨by decide, by decide⟩ ?_
      refine q_iconst C dX5_weir_20 ⟨by decide, by decide⟩ ?_
      refine q_callSz ZC_st C [Vi p2, Vi 0, Vi 1] [] (c_X5_within μ p2 0 1) gX5_weir_X5_within rfl ⟨rfl, rfl⟩ hdX5_within ⟨by decide, by decide⟩ rfl (Nat.le_of_ble_eq_true rfl) dX5_weir_21 rfl (fun hb5 _ => ?_)
      refine q_if_ne C dX5_weir_24 (tgt := 30) (by decide) (fun c6 => ?_) (fun c6 => ?_)
      · have hz := sat_f hz c6
        refine q_aload_n C 0 rfl dX5_weir_30 rfl ?_
        refine q_getR tO_X5 C (i := 4) i_X5 rfl rfl (by decide) rfl f_40 dX5_weir_31 ?_
        refine q_iload_n C 1 rfl dX5_weir_34 rfl ?_
        refine q_callVi ZC_st C [Vi p1] [] (c_X2_weirBehind μ 0 (by decide) p1) (tO_X2 (by decide)) rfl gX5_weir_X2_weirBehind rfl ⟨rfl, rfl⟩ hdX2_weirBehind ⟨by decide, by decide⟩ rfl (Nat.le_of_ble_eq_true rfl) dX5_weir_35 rfl (fun _ _ => ?_)
        refine q_iload_n C 2 rfl dX5_weir_38 rfl ?_
        refine q_icmp_ne C dX5_weir_39 (tgt := 45) (by decide) (fun c8 => ?_) (fun c8 => ?_)
        · have hz := sat_f hz c8
          refine q_aload_n C 0 rfl dX5_weir_45 rfl ?_
          refine q_getR tO_X5 C (i := 2) i_X5 rfl rfl (by decide) rfl f_26 dX5_weir_46 ?_
          refine q_aload_n C 0 rfl dX5_weir_49 rfl ?_
          refine q_getR tO_X5 C (i := 4) i_X5 rfl rfl (by decide) rfl f_40 dX5_weir_50 ?_
          obtain ⟨z10, hz10, hz⟩ := sat_bind hz
          refine q_callVv ZC_st C [Vr (6 * 0)] [] (c_X0_keep μ 0 (by decide) hz10) tO_X0 rfl gX5_weir_X0_keep rfl ⟨rfl, rfl⟩ hdX0_keep ⟨by decide, by decide⟩ rfl (Nat.le_of_ble_eq_true rfl) dX5_weir_53 rfl (fun _ => ?_)
          refine q_aload_n C 0 rfl dX5_weir_56 rfl ?_
          refine q_getR tO_X5 C (i := 4) i_X5 rfl rfl (by decide) rfl f_40 dX5_weir_57 ?_
          refine q_dup C dX5_weir_60 rfl ?_
          refine q_get (tO_X2 (by decide)) C (i := 3) i_X2 rfl rfl (by decide) rfl f_161 dX5_weir_61 ?_
          refine q_iconst C dX5_weir_64 ⟨by decide, by decide⟩ ?_
          refine q_iload_n C 1 rfl dX5_weir_65 rfl ?_
          refine q_ishl C dX5_weir_66 ?_
          refine q_ixor C dX5_weir_67 ?_
          obtain ⟨m11, hm11, hz⟩ := sat_bnd hz
          refine q_put (tO_X2 (by decide)) C hm11 (i := 3) i_X2 tyX2_ok nmX2 rfl rfl (by decide) rfl f_161 dX5_weir_68 ?_
          refine q_aload_n C 0 rfl dX5_weir_71 rfl ?_
          refine q_getR tO_X5 C (i := 4) i_X5 rfl rfl (by decide) rfl f_40 dX5_weir_72 ?_
          refine q_get (tO_X2 (by decide)) C (i := 3) i_X2 rfl rfl (by decide) rfl f_161 dX5_weir_75 ?_
          exact q_iret C dX5_weir_78 (sat_eq hz)
        · have hz := sat_t hz c8
          refine q_ldc (v := (-1000002)) (x := (-1000002)) C (by decide +kernel) dX5_weir_42 ⟨by decide +kernel, by decide, by decide⟩ ?_
          exact q_iret C dX5_weir_44 (sat_eq hz)
      · have hz := sat_t hz c6
        refine q_ldc (v := (-1000001)) (x := (-1000001)) C (by decide +kernel) dX5_weir_27 ⟨by decide +kernel, by decide, by decide⟩ ?_
        exact q_iret C dX5_weir_29 (sat_eq hz)
theorem hdX5_isSwan : yX5_isSwan.cls = RX5 ∧ yX5_isSwan.cls ≠ "java/lang/invoke/MethodHandle" ∧ yX5_isSwan.cls ≠ "java/lang/invoke/VarHandle" ∧ (parseMethodDescriptor yX5_isSwan.desc).map (fun d => d.parameters.length) = some 1 := by decide +kernel
set_option maxHeartbeats 4000000 in
set_option maxRecDepth 100000 in
theorem c_X5_isSwan {l : Launch} {D : va_G} {ad : Nat → Nat} {cI cII cR : ClassId} (μ : Mm) (p1 : Int) : CT l D vwCl (tyC cI cII cR) 194 ad (EC ad cI cII cR) (ZC ad) yX5_isSwan wsX5_isSwan ({ frames := 1, cells := 0, slots := 0, locals := 22 } : Room) (some .boolean) [Vr 174, Vi p1] μ (f_X5_isSwan μ p1, μ) := by
  refine CT_of [(0, Vr 174), (1, Vi p1)] ZC_st (by decide) rfl rfl (Nat.le_of_ble_eq_true rfl) rfl (fun G C => ?_)
  have i_X2 : ∀ w ∈ u_ws RX2 TX2 11, w ∈ wsX5_isSwan := by decide +kernel
  have i_X5 : ∀ w ∈ u_ws RX5 TX5 9, w ∈ wsX5_isSwan := by decide +kernel
  have f_40 : Cond.fieldLink (yX5_isSwan).cls 40 "SwanDeeds" "now" "LSwanDeeds$River;" ∈ wsX5_isSwan := by decide +kernel
  have f_117 : Cond.fieldLink (yX5_isSwan).cls 117 "SwanDeeds$River" "swanCount" "I" ∈ wsX5_isSwan := by decide +kernel
  generalize hz : f_X5_isSwan μ p1 = v at C
  unfold f_X5_isSwan at hz
  refine q_iload_n C 1 rfl dX5_isSwan_0 rfl ?_
  refine q_iconst C dX5_isSwan_1 ⟨by decide, by decide⟩ ?_
  refine q_aload_n C 0 rfl dX5_isSwan_2 rfl ?_
  refine q_getR tO_X5 C (i := 4) i_X5 rfl rfl (by decide) rfl f_40 dX5_isSwan_3 ?_
  refine q_get (tO_X2 (by decide)) C (i := 1) i_X2 rfl rfl (by decide) rfl f_117 dX5_isSwan_6 ?_
  refine q_iconst C dX5_isSwan_9 ⟨by decide, by decide⟩ ?_
  refine q_isub C dX5_isSwan_10 ?_
  refine q_callSz ZC_st C [Vi p1, Vi 0, Vi (w3 ((μ 0 25) - 1))] [] (c_X5_within μ p1 0 (w3 ((μ 0 25) - 1))) gX5_isSwan_X5_within rfl ⟨rfl, rfl⟩ hdX5_within ⟨by decide, by decide⟩ rfl (Nat.le_of_ble_eq_true rfl) dX5_isSwan_11 rfl (fun hb1 _ => ?_)
  exact q_zret C (hb1) dX5_isSwan_14 (congrArg (fun q => (q, μ)) hz)
theorem hdX5_frighten : yX5_frighten.cls = RX5 ∧ yX5_frighten.cls ≠ "java/lang/invoke/MethodHandle" ∧ yX5_frighten.cls ≠ "java/lang/invoke/VarHandle" ∧ (parseMethodDescriptor yX5_frighten.desc).map (fun d => d.parameters.length) = some 2 := by decide +kernel
set_option maxHeartbeats 4000000 in
set_option maxRecDepth 100000 in
theorem c_X5_frighten {l : Launch} {D : va_G} {ad : Nat → Nat} {cI cII cR : ClassId} (μ : Mm) (p1 p2 : Int) {v : Int × Mm} (hz : f_X5_frighten μ p1 p2 = some v) : CT l D vwCl (tyC cI cII cR) 194 ad (EC ad cI cII cR) (ZC ad) yX5_frighten wsX5_frighten ({ frames := 2, cells := 0, slots := 0, locals := 43 } : Room) (some .int) [Vr 174, Vi p1, Vi p2] μ (v.1, v.2) := by
  refine CT_of [(0, Vr 174), (1, Vi p1), (2, Vi p2)] ZC_st (by decide) rfl rfl (Nat.le_of_ble_eq_true rfl) rfl (fun G C => ?_)
  have i_X2 : ∀ w ∈ u_ws RX2 TX2 11, w ∈ wsX5_frighten := by decide +kernel
  have i_X5 : ∀ w ∈ u_ws RX5 TX5 9, w ∈ wsX5_frighten := by decide +kernel
  have f_26 : Cond.fieldLink (yX5_frighten).cls 26 "SwanDeeds" "acts" "LSwanDeeds$Acts;" ∈ wsX5_frighten := by decide +kernel
  have f_40 : Cond.fieldLink (yX5_frighten).cls 40 "SwanDeeds" "now" "LSwanDeeds$River;" ∈ wsX5_frighten := by decide +kernel
  have f_167 : Cond.fieldLink (yX5_frighten).cls 167 "SwanDeeds$River" "places" "[I" ∈ wsX5_frighten := by decide +kernel
  have hz := sat_of hz
  unfold f_X5_frighten at hz
  refine q_aload_n C 0 rfl dX5_frighten_0 rfl ?_
  refine q_iload_n C 1 rfl dX5_frighten_1 rfl ?_
  refine q_callVz ZC_st C [Vi p1] [] (c_X5_isSwan μ p1) tO_X5 rfl gX5_frighten_X5_isSwan rfl ⟨rfl, rfl⟩ hdX5_isSwan ⟨by decide, by decide⟩ rfl (Nat.le_of_ble_eq_true rfl) dX5_frighten_2 rfl (fun hb1 _ => ?_)
  refine q_if_eq C dX5_frighten_5 (tgt := 17) (by decide) (fun c2 => ?_) (fun c2 => ?_)
  · have hz := sat_t hz c2
    refine q_ldc (v := (-1000001)) (x := (-1000001)) C (by decide +kernel) dX5_frighten_17 ⟨by decide +kernel, by decide, by decide⟩ ?_
    exact q_iret C dX5_frighten_19 (sat_eq hz)
  · have hz := sat_f hz c2
    refine q_iload_n C 2 rfl dX5_frighten_8 rfl ?_
    refine q_iconst C dX5_frighten_9 ⟨by decide, by decide⟩ ?_
    refine q_iconst C dX5_frighten_10 ⟨by decide, by decide⟩ ?_
    refine q_callSz ZC_st C [Vi p2, Vi 0, Vi 1] [] (c_X5_within μ p2 0 1) gX5_frighten_X5_within rfl ⟨rfl, rfl⟩ hdX5_within ⟨by decide, by decide⟩ rfl (Nat.le_of_ble_eq_true rfl) dX5_frighten_11 rfl (fun hb3 _ => ?_)
    refine q_if_ne C dX5_frighten_14 (tgt := 20) (by decide) (fun c4 => ?_) (fun c4 => ?_)
    · have hz := sat_f hz c4
      refine q_aload_n C 0 rfl dX5_frighten_20 rfl ?_
      refine q_getR tO_X5 C (i := 4) i_X5 rfl rfl (by decide) rfl f_40 dX5_frighten_21 ?_
      refine q_aload_n C 0 rfl dX5_frighten_24 rfl ?_
      refine q_getR tO_X5 C (i := 4) i_X5 rfl rfl (by decide) rfl f_40 dX5_frighten_25 ?_
      refine q_getR (tO_X2 (by decide)) C (i := 7) i_X2 rfl rfl (by decide) rfl f_167 dX5_frighten_28 ?_
      refine q_iload_n C 1 rfl dX5_frighten_31 rfl ?_
      obtain ⟨c5, hz⟩ := sat_chk hz
      refine q_iald (tA_places (by decide)) C 0 rfl c5 dX5_frighten_32 ?_
      refine q_iload_n C 2 rfl dX5_frighten_33 rfl ?_
      refine q_iconst C dX5_frighten_34 ⟨by decide, by decide⟩ ?_
      obtain ⟨v6, hv6, hz⟩ := sat_bnd hz
      have Jv6 : G μ 43 [(0, Vr 174), (1, Vi p1)] [Vi v6, Vi (μ 0 (11 + p1)), Vr (6 * 0)] := by
        refine q_callVi ZC_st C [Vi (μ 0 (11 + p1)), Vi v6] [] (c_X2_beside μ 0 (by decide) (μ 0 (11 + p1)) v6) (tO_X2 (by decide)) rfl gX5_frighten_X2_beside rfl ⟨rfl, rfl⟩ hdX2_beside ⟨by decide, by decide⟩ rfl (Nat.le_of_ble_eq_true rfl) dX5_frighten_43 rfl (fun _ _ => ?_)
        obtain ⟨a8, ha8, hz⟩ := sat_bnd hz
        refine q_nmi ha8 ?_
        refine q_istore_n C [(3, Vi a8), (0, Vr 174), (1, Vi p1)] rfl (by decide) dX5_frighten_46 rfl ?_
        refine q_iload_n C 0 rfl dX5_frighten_47 rfl ?_
        refine q_aload_n C 1 rfl dX5_frighten_48 rfl ?_
        refine q_getR tO_X5 C (i := 4) i_X5 rfl rfl (by decide) rfl f_40 dX5_frighten_49 ?_
        refine q_getR (tO_X2 (by decide)) C (i := 7) i_X2 rfl rfl (by decide) rfl f_167 dX5_frighten_52 ?_
        refine q_iload_n C 2 rfl dX5_frighten_55 rfl ?_
        obtain ⟨c9, hz⟩ := sat_chk hz
        refine q_iald (tA_places (by decide)) C 0 rfl c9 dX5_frighten_56 ?_
        refine q_icmp_ne C dX5_frighten_57 (tgt := 63) (by decide) (fun c10 => ?_) (fun c10 => ?_)
        · have hz := sat_f hz c10
          refine q_aload_n C 1 rfl dX5_frighten_63 rfl ?_
          refine q_getR tO_X5 C (i := 2) i_X5 rfl rfl (by decide) rfl f_26 dX5_frighten_64 ?_
          refine q_aload_n C 1 rfl dX5_frighten_67 rfl ?_
          refine q_getR tO_X5 C (i := 4) i_X5 rfl rfl (by decide) rfl f_40 dX5_frighten_68 ?_
          obtain ⟨z12, hz12, hz⟩ := sat_bind hz
          refine q_callVv ZC_st C [Vr (6 * 0)] [] (c_X0_keep μ 0 (by decide) hz12) tO_X0 rfl gX5_frighten_X0_keep rfl ⟨rfl, rfl⟩ hdX0_keep ⟨by decide, by decide⟩ rfl (Nat.le_of_ble_eq_true rfl) dX5_frighten_71 rfl (fun _ => ?_)
          refine q_aload_n C 1 rfl dX5_frighten_74 rfl ?_
          refine q_getR tO_X5 C (i := 4) i_X5 rfl rfl (by decide) rfl f_40 dX5_frighten_75 ?_
          refine q_getR (tO_X2 (by decide)) C (i := 7) i_X2 rfl rfl (by decide) rfl f_167 dX5_frighten_78 ?_
          refine q_iload_n C 2 rfl dX5_frighten_81 rfl ?_
          refine q_iload_n C 0 rfl dX5_frighten_82 rfl ?_
          obtain ⟨c13, hz⟩ := sat_chk hz
          obtain ⟨m14, hm14, hz⟩ := sat_bnd hz
          refine q_iast (tA_places (by decide)) C 0 rfl c13 hm14 dX5_frighten_83 ?_
          refine q_iload_n C 0 rfl dX5_frighten_84 rfl ?_
          exact q_iret C dX5_frighten_85 (sat_eq hz)
        · have hz := sat_t hz c10
          refine q_ldc (v := (-1000002)) (x := (-1000002)) C (by decide +kernel) dX5_frighten_60 ⟨by decide +kernel, by decide, by decide⟩ ?_
          exact q_iret C dX5_frighten_62 (sat_eq hz)
      have hz := hv6.symm
      refine q_icmp_ne C dX5_frighten_35 (tgt := 42) (by decide) (fun c15 => ?_) (fun c15 => ?_)
      · have hz := eq_f hz c15
        refine q_iconst C dX5_frighten_42 ⟨by decide, by decide⟩ ?_
        have hz : _ = v6 := hz
        refine q_sub C [0, 1] [(0, Vr 174), (1, Vi p1)] rfl ?_
        subst hz
        exact Jv6
      · have hz := eq_t hz c15
        refine q_iconst C dX5_frighten_38 ⟨by decide, by decide⟩ ?_
        refine q_goto C dX5_frighten_39 (tgt := 43) (by decide) ?_
        have hz : _ = v6 := hz
        refine q_sub C [0, 1] [(0, Vr 174), (1, Vi p1)] rfl ?_
        subst hz
        exact Jv6
    · have hz := sat_t hz c4
      refine q_ldc (v := (-1000001)) (x := (-1000001)) C (by decide +kernel) dX5_frighten_17 ⟨by decide +kernel, by decide, by decide⟩ ?_
      exact q_iret C dX5_frighten_19 (sat_eq hz)
theorem hdX5_weight : yX5_weight.cls = RX5 ∧ yX5_weight.cls ≠ "java/lang/invoke/MethodHandle" ∧ yX5_weight.cls ≠ "java/lang/invoke/VarHandle" ∧ (parseMethodDescriptor yX5_weight.desc).map (fun d => d.parameters.length) = some 2 := by decide +kernel
set_option maxHeartbeats 4000000 in
set_option maxRecDepth 100000 in
theorem c_X5_weight {l : Launch} {D : va_G} {ad : Nat → Nat} {cI cII cR : ClassId} (μ : Mm) (p1 p2 : Int) {v : Int × Mm} (hz : f_X5_weight μ p1 p2 = some v) : CT l D vwCl (tyC cI cII cR) 194 ad (EC ad cI cII cR) (ZC ad) yX5_weight wsX5_weight ({ frames := 2, cells := 0, slots := 0, locals := 43 } : Room) (some .int) [Vr 174, Vi p1, Vi p2] μ (v.1, v.2) := by
  refine CT_of [(0, Vr 174), (1, Vi p1), (2, Vi p2)] ZC_st (by decide) rfl rfl (Nat.le_of_ble_eq_true rfl) rfl (fun G C => ?_)
  have i_X2 : ∀ w ∈ u_ws RX2 TX2 11, w ∈ wsX5_weight := by decide +kernel
  have i_X5 : ∀ w ∈ u_ws RX5 TX5 9, w ∈ wsX5_weight := by decide +kernel
  have f_26 : Cond.fieldLink (yX5_weight).cls 26 "SwanDeeds" "acts" "LSwanDeeds$Acts;" ∈ wsX5_weight := by decide +kernel
  have f_40 : Cond.fieldLink (yX5_weight).cls 40 "SwanDeeds" "now" "LSwanDeeds$River;" ∈ wsX5_weight := by decide +kernel
  have f_174 : Cond.fieldLink (yX5_weight).cls 174 "SwanDeeds$River" "weights" "[I" ∈ wsX5_weight := by decide +kernel
  have hz := sat_of hz
  unfold f_X5_weight at hz
  refine q_aload_n C 0 rfl dX5_weight_0 rfl ?_
  refine q_iload_n C 1 rfl dX5_weight_1 rfl ?_
  refine q_callVz ZC_st C [Vi p1] [] (c_X5_isSwan μ p1) tO_X5 rfl gX5_weight_X5_isSwan rfl ⟨rfl, rfl⟩ hdX5_isSwan ⟨by decide, by decide⟩ rfl (Nat.le_of_ble_eq_true rfl) dX5_weight_2 rfl (fun hb1 _ => ?_)
  refine q_if_eq C dX5_weight_5 (tgt := 18) (by decide) (fun c2 => ?_) (fun c2 => ?_)
  · have hz := sat_t hz c2
    refine q_ldc (v := (-1000001)) (x := (-1000001)) C (by decide +kernel) dX5_weight_18 ⟨by decide +kernel, by decide, by decide⟩ ?_
    exact q_iret C dX5_weight_20 (sat_eq hz)
  · have hz := sat_f hz c2
    refine q_iload_n C 2 rfl dX5_weight_8 rfl ?_
    refine q_iconst C dX5_weight_9 ⟨by decide, by decide⟩ ?_
    refine q_bipush C dX5_weight_10 ⟨rfl, by decide, by decide⟩ ?_
    refine q_callSz ZC_st C [Vi p2, Vi 1, Vi 9] [] (c_X5_within μ p2 1 9) gX5_weight_X5_within rfl ⟨rfl, rfl⟩ hdX5_within ⟨by decide, by decide⟩ rfl (Nat.le_of_ble_eq_true rfl) dX5_weight_12 rfl (fun hb3 _ => ?_)
    refine q_if_ne C dX5_weight_15 (tgt := 21) (by decide) (fun c4 => ?_) (fun c4 => ?_)
    · have hz := sat_f hz c4
      refine q_aload_n C 0 rfl dX5_weight_21 rfl ?_
      refine q_getR tO_X5 C (i := 2) i_X5 rfl rfl (by decide) rfl f_26 dX5_weight_22 ?_
      refine q_aload_n C 0 rfl dX5_weight_25 rfl ?_
      refine q_getR tO_X5 C (i := 4) i_X5 rfl rfl (by decide) rfl f_40 dX5_weight_26 ?_
      obtain ⟨z6, hz6, hz⟩ := sat_bind hz
      refine q_callVv ZC_st C [Vr (6 * 0)] [] (c_X0_keep μ 0 (by decide) hz6) tO_X0 rfl gX5_weight_X0_keep rfl ⟨rfl, rfl⟩ hdX0_keep ⟨by decide, by decide⟩ rfl (Nat.le_of_ble_eq_true rfl) dX5_weight_29 rfl (fun _ => ?_)
      refine q_aload_n C 0 rfl dX5_weight_32 rfl ?_
      refine q_getR tO_X5 C (i := 4) i_X5 rfl rfl (by decide) rfl f_40 dX5_weight_33 ?_
      refine q_getR (tO_X2 (by decide)) C (i := 8) i_X2 rfl rfl (by decide) rfl f_174 dX5_weight_36 ?_
      refine q_iload_n C 1 rfl dX5_weight_39 rfl ?_
      obtain ⟨c7, hz⟩ := sat_chk hz
      refine q_iald (tA_weights (by decide)) C 0 rfl c7 dX5_weight_40 ?_
      refine q_istore_n C [(3, Vi (z6 0 (17 + p1))), (0, Vr 174), (1, Vi p1), (2, Vi p2)] rfl (by decide) dX5_weight_41 rfl ?_
      refine q_aload_n C 1 rfl dX5_weight_42 rfl ?_
      refine q_getR tO_X5 C (i := 4) i_X5 rfl rfl (by decide) rfl f_40 dX5_weight_43 ?_
      refine q_getR (tO_X2 (by decide)) C (i := 8) i_X2 rfl rfl (by decide) rfl f_174 dX5_weight_46 ?_
      refine q_iload_n C 2 rfl dX5_weight_49 rfl ?_
      refine q_iload_n C 3 rfl dX5_weight_50 rfl ?_
      obtain ⟨c8, hz⟩ := sat_chk hz
      obtain ⟨m9, hm9, hz⟩ := sat_bnd hz
      refine q_iast (tA_weights (by decide)) C 0 rfl c8 hm9 dX5_weight_51 ?_
      refine q_iload_n C 0 rfl dX5_weight_52 rfl ?_
      exact q_iret C dX5_weight_53 (sat_eq hz)
    · have hz := sat_t hz c4
      refine q_ldc (v := (-1000001)) (x := (-1000001)) C (by decide +kernel) dX5_weight_18 ⟨by decide +kernel, by decide, by decide⟩ ?_
      exact q_iret C dX5_weight_20 (sat_eq hz)
theorem hdX5_swan : yX5_swan.cls = RX5 ∧ yX5_swan.cls ≠ "java/lang/invoke/MethodHandle" ∧ yX5_swan.cls ≠ "java/lang/invoke/VarHandle" ∧ (parseMethodDescriptor yX5_swan.desc).map (fun d => d.parameters.length) = some 2 := by decide +kernel
set_option maxHeartbeats 4000000 in
set_option maxRecDepth 100000 in
theorem c_X5_swan {l : Launch} {D : va_G} {ad : Nat → Nat} {cI cII cR : ClassId} (μ : Mm) (p1 p2 : Int) {v : Int} (hz : f_X5_swan μ p1 p2 = some v) : CT l D vwCl (tyC cI cII cR) 194 ad (EC ad cI cII cR) (ZC ad) yX5_swan wsX5_swan ({ frames := 3, cells := 0, slots := 0, locals := 74 } : Room) (some .int) [Vr 174, Vi p1, Vi p2] μ (v, μ) := by
  refine CT_of [(0, Vr 174), (1, Vi p1), (2, Vi p2)] ZC_st (by decide) rfl rfl (Nat.le_of_ble_eq_true rfl) rfl (fun G C => ?_)
  have i_X2 : ∀ w ∈ u_ws RX2 TX2 11, w ∈ wsX5_swan := by decide +kernel
  have i_X5 : ∀ w ∈ u_ws RX5 TX5 9, w ∈ wsX5_swan := by decide +kernel
  have f_40 : Cond.fieldLink (yX5_swan).cls 40 "SwanDeeds" "now" "LSwanDeeds$River;" ∈ wsX5_swan := by decide +kernel
  have f_167 : Cond.fieldLink (yX5_swan).cls 167 "SwanDeeds$River" "places" "[I" ∈ wsX5_swan := by decide +kernel
  have f_174 : Cond.fieldLink (yX5_swan).cls 174 "SwanDeeds$River" "weights" "[I" ∈ wsX5_swan := by decide +kernel
  have f_177 : Cond.fieldLink (yX5_swan).cls 177 "SwanDeeds$River" "plots" "[I" ∈ wsX5_swan := by decide +kernel
  have hz := sat_of hz
  unfold f_X5_swan at hz
  refine q_aload_n C 0 rfl dX5_swan_0 rfl ?_
  refine q_iload_n C 1 rfl dX5_swan_1 rfl ?_
  refine q_callVz ZC_st C [Vi p1] [] (c_X5_isSwan μ p1) tO_X5 rfl gX5_swan_X5_isSwan rfl ⟨rfl, rfl⟩ hdX5_isSwan ⟨by decide, by decide⟩ rfl (Nat.le_of_ble_eq_true rfl) dX5_swan_2 rfl (fun hb1 _ => ?_)
  refine q_if_ne C dX5_swan_5 (tgt := 11) (by decide) (fun c2 => ?_) (fun c2 => ?_)
  · have hz := sat_f hz c2
    refine q_iload_n C 2 rfl dX5_swan_11 rfl ?_
    refine sat_ite hz (fun c3 hz => ?_) (fun c3 hz => ?_)
    · have c3 : p2 = 0 := c3
      refine q_tab_in C dX5_swan_12 (by omega) (by omega) (off := 32) (by rw [c3]; rfl) (tgt := 44) (by decide) ?_
      refine q_aload_n C 0 rfl dX5_swan_44 rfl ?_
      refine q_getR tO_X5 C (i := 4) i_X5 rfl rfl (by decide) rfl f_40 dX5_swan_45 ?_
      refine q_getR (tO_X2 (by decide)) C (i := 7) i_X2 rfl rfl (by decide) rfl f_167 dX5_swan_48 ?_
      refine q_iload_n C 1 rfl dX5_swan_51 rfl ?_
      obtain ⟨c4, hz⟩ := sat_chk hz
      refine q_iald (tA_places (by decide)) C 0 rfl c4 dX5_swan_52 ?_
      exact q_iret C dX5_swan_53 (congrArg (fun q => (q, μ)) (sat_eq hz))
    · have c3 : ¬ p2 = 0 := c3
      refine sat_ite hz (fun c5 hz => ?_) (fun c5 hz => ?_)
      · have c5 : p2 = 1 := c5
        refine q_tab_in C dX5_swan_12 (by omega) (by omega) (off := 42) (by rw [c5]; rfl) (tgt := 54) (by decide) ?_
        refine q_aload_n C 0 rfl dX5_swan_54 rfl ?_
        refine q_getR tO_X5 C (i := 4) i_X5 rfl rfl (by decide) rfl f_40 dX5_swan_55 ?_
        refine q_getR (tO_X2 (by decide)) C (i := 6) i_X2 rfl rfl (by decide) rfl f_177 dX5_swan_58 ?_
        refine q_iload_n C 1 rfl dX5_swan_61 rfl ?_
        obtain ⟨c6, hz⟩ := sat_chk hz
        refine q_iald (tA_plots (by decide)) C 0 rfl c6 dX5_swan_62 ?_
        exact q_iret C dX5_swan_63 (congrArg (fun q => (q, μ)) (sat_eq hz))
      · have c5 : ¬ p2 = 1 := c5
        refine sat_ite hz (fun c7 hz => ?_) (fun c7 hz => ?_)
        · have c7 : p2 = 2 := c7
          refine q_tab_in C dX5_swan_12 (by omega) (by omega) (off := 52) (by rw [c7]; rfl) (tgt := 64) (by decide) ?_
          refine q_aload_n C 0 rfl dX5_swan_64 rfl ?_
          refine q_getR tO_X5 C (i := 4) i_X5 rfl rfl (by decide) rfl f_40 dX5_swan_65 ?_
          refine q_getR (tO_X2 (by decide)) C (i := 8) i_X2 rfl rfl (by decide) rfl f_174 dX5_swan_68 ?_
          refine q_iload_n C 1 rfl dX5_swan_71 rfl ?_
          obtain ⟨c8, hz⟩ := sat_chk hz
          refine q_iald (tA_weights (by decide)) C 0 rfl c8 dX5_swan_72 ?_
          exact q_iret C dX5_swan_73 (congrArg (fun q => (q, μ)) (sat_eq hz))
        · have c7 : ¬ p2 = 2 := c7
          refine sat_ite hz (fun c9 hz => ?_) (fun c9 hz => ?_)
          · have c9 : p2 = 3 := c9
            refine q_tab_in C dX5_swan_12 (by omega) (by omega) (off := 62) (by rw [c9]; rfl) (tgt := 74) (by decide) ?_
            refine q_aload_n C 0 rfl dX5_swan_74 rfl ?_
            refine q_getR tO_X5 C (i := 4) i_X5 rfl rfl (by decide) rfl f_40 dX5_swan_75 ?_
            refine q_iload_n C 1 rfl dX5_swan_78 rfl ?_
            obtain ⟨z11, hz11, hz⟩ := sat_bind hz
            refine q_callVi ZC_st C [Vi p1] [] (c_X2_goalOf μ 0 (by decide) p1 hz11) (tO_X2 (by decide)) rfl gX5_swan_X2_goalOf rfl ⟨rfl, rfl⟩ hdX2_goalOf ⟨by decide, by decide⟩ rfl (Nat.le_of_ble_eq_true rfl) dX5_swan_79 rfl (fun _ _ => ?_)
            exact q_iret C dX5_swan_82 (congrArg (fun q => (q, μ)) (sat_eq hz))
          · have c9 : ¬ p2 = 3 := c9
            refine q_tab_out C dX5_swan_12 (by omega) (tgt := 83) (by decide) ?_
            refine q_ldc (v := (-1000001)) (x := (-1000001)) C (by decide +kernel) dX5_swan_83 ⟨by decide +kernel, by decide, by decide⟩ ?_
            exact q_iret C dX5_swan_85 (congrArg (fun q => (q, μ)) (sat_eq hz))
  · have hz := sat_t hz c2
    refine q_ldc (v := (-1000001)) (x := (-1000001)) C (by decide +kernel) dX5_swan_8 ⟨by decide +kernel, by decide, by decide⟩ ?_
    exact q_iret C dX5_swan_10 (congrArg (fun q => (q, μ)) (sat_eq hz))
theorem hdX2_swansOn : yX2_swansOn.cls = RX2 ∧ yX2_swansOn.cls ≠ "java/lang/invoke/MethodHandle" ∧ yX2_swansOn.cls ≠ "java/lang/invoke/VarHandle" ∧ (parseMethodDescriptor yX2_swansOn.desc).map (fun d => d.parameters.length) = some 1 := by decide +kernel
set_option maxHeartbeats 4000000 in
set_option maxRecDepth 100000 in
theorem c_X2_swansOn {l : Launch} {D : va_G} {ad : Nat → Nat} {cI cII cR : ClassId} (μ : Mm) (r : Nat) (hr : r < 29) (p1 : Int) {v : Int} (hz : f_X2_swansOn μ r p1 = some v) : CT l D vwCl (tyC cI cII cR) 194 ad (EC ad cI cII cR) (ZC ad) yX2_swansOn wsX2_swansOn ({ frames := 0, cells := 0, slots := 0, locals := 0 } : Room) (some .int) [Vr (6 * r), Vi p1] μ (v, μ) := by
  refine CT_of [(0, Vr (6 * r)), (1, Vi p1)] ZC_st (by decide) rfl rfl (Nat.le_of_ble_eq_true rfl) rfl (fun G C => ?_)
  have i_X2 : ∀ w ∈ u_ws RX2 TX2 11, w ∈ wsX2_swansOn := by decide +kernel
  have f_21 : Cond.fieldLink (yX2_swansOn).cls 21 "SwanDeeds$River" "places" "[I" ∈ wsX2_swansOn := by decide +kernel
  have f_31 : Cond.fieldLink (yX2_swansOn).cls 31 "SwanDeeds$River" "swanCount" "I" ∈ wsX2_swansOn := by decide +kernel
  have hz := sat_of hz
  unfold f_X2_swansOn at hz
  refine q_iconst C dX2_swansOn_0 ⟨by decide, by decide⟩ ?_
  refine q_istore_n C [(2, Vi 0), (0, Vr (6 * r)), (1, Vi p1)] rfl (by decide) dX2_swansOn_1 rfl ?_
  refine q_iconst C dX2_swansOn_2 ⟨by decide, by decide⟩ ?_
  refine q_istore_n C [(3, Vi 0), (2, Vi 0), (0, Vr (6 * r)), (1, Vi p1)] rfl (by decide) dX2_swansOn_3 rfl ?_
  refine q_sub C [2, 3, 1, 0] [(0, Vr (6 * r)), (1, Vi p1), (2, Vi 0), (3, Vi 0)] rfl ?_
  refine loop_go (fun x1 => G μ 4 [(0, Vr (6 * r)), (1, Vi p1), (2, Vi (x1.1)), (3, Vi (x1.2))] []) (sat_bind2 hz) (fun h => h) (fun x1 hz => ?_)
  refine q_iload_n C 3 rfl dX2_swansOn_4 rfl ?_
  refine q_aload_n C 0 rfl dX2_swansOn_5 rfl ?_
  refine q_get (tO_X2 hr) C (i := 1) i_X2 rfl rfl (by decide) rfl f_31 dX2_swansOn_6 ?_
  refine q_icmp_ge C dX2_swansOn_9 (tgt := 34) (by decide) (fun c2 => ?_) (fun c2 => ?_)
  · have hz := sat_t hz c2
    have hz := sat_some hz
    refine q_sub C [2] [(2, Vi (x1.1))] rfl ?_
    refine q_iload_n C 0 rfl dX2_swansOn_34 rfl ?_
    exact q_iret C dX2_swansOn_35 (congrArg (fun q => (q, μ)) (sat_eq hz))
  · have hz := sat_f hz c2
    refine q_aload_n C 0 rfl dX2_swansOn_12 rfl ?_
    refine q_getR (tO_X2 hr) C (i := 7) i_X2 rfl rfl (by decide) rfl f_21 dX2_swansOn_13 ?_
    refine q_iload_n C 3 rfl dX2_swansOn_16 rfl ?_
    obtain ⟨c3, hz⟩ := sat_chk hz
    refine q_iald (tA_places hr) C 0 rfl c3 dX2_swansOn_17 ?_
    refine q_iload_n C 1 rfl dX2_swansOn_18 rfl ?_
    refine q_icmp_ne C dX2_swansOn_19 (tgt := 28) (by decide) (fun c4 => ?_) (fun c4 => ?_)
    · have hz := sat_f hz c4
      refine q_iinc C 3 rfl [(3, Vi (w3 (x1.2 + 1))), (0, Vr (6 * r)), (1, Vi p1), (2, Vi (x1.1))] rfl (by decide) dX2_swansOn_28 ?_
      refine q_goto C dX2_swansOn_31 (tgt := 4) (by decide) ?_
      refine q_sub C [1, 2, 3, 0] [(0, Vr (6 * r)), (1, Vi p1), (2, Vi (x1.1)), (3, Vi (w3 (x1.2 + 1)))] rfl ?_
      have hz := sat_some hz
      exact hz
    · have hz := sat_t hz c4
      refine q_iload_n C 2 rfl dX2_swansOn_22 rfl ?_
      refine q_iconst C dX2_swansOn_23 ⟨by decide, by decide⟩ ?_
      refine q_iload_n C 3 rfl dX2_swansOn_24 rfl ?_
      refine q_ishl C dX2_swansOn_25 ?_
      refine q_ior C dX2_swansOn_26 ?_
      refine q_istore_n C [(2, Vi (bOr x1.1 (bShl 1 x1.2))), (0, Vr (6 * r)), (1, Vi p1), (3, Vi (x1.2))] rfl (by decide) dX2_swansOn_27 rfl ?_
      refine q_iinc C 3 rfl [(3, Vi (w3 (x1.2 + 1))), (2, Vi (bOr x1.1 (bShl 1 x1.2))), (0, Vr (6 * r)), (1, Vi p1)] rfl (by decide) dX2_swansOn_28 ?_
      refine q_goto C dX2_swansOn_31 (tgt := 4) (by decide) ?_
      refine q_sub C [2, 3, 1, 0] [(0, Vr (6 * r)), (1, Vi p1), (2, Vi (bOr x1.1 (bShl 1 x1.2))), (3, Vi (w3 (x1.2 + 1)))] rfl ?_
      have hz := sat_some hz
      exact hz
theorem hdX2_plotsOwnedAt : yX2_plotsOwnedAt.cls = RX2 ∧ yX2_plotsOwnedAt.cls ≠ "java/lang/invoke/MethodHandle" ∧ yX2_plotsOwnedAt.cls ≠ "java/lang/invoke/VarHandle" ∧ (parseMethodDescriptor yX2_plotsOwnedAt.desc).map (fun d => d.parameters.length) = some 1 := by decide +kernel
set_option maxHeartbeats 4000000 in
set_option maxRecDepth 100000 in
theorem c_X2_plotsOwnedAt {l : Launch} {D : va_G} {ad : Nat → Nat} {cI cII cR : ClassId} (μ : Mm) (r : Nat) (hr : r < 29) (p1 : Int) {v : Int} (hz : f_X2_plotsOwnedAt μ r p1 = some v) : CT l D vwCl (tyC cI cII cR) 194 ad (EC ad cI cII cR) (ZC ad) yX2_plotsOwnedAt wsX2_plotsOwnedAt ({ frames := 0, cells := 0, slots := 0, locals := 0 } : Room) (some .int) [Vr (6 * r), Vi p1] μ (v, μ) := by
  refine CT_of [(0, Vr (6 * r)), (1, Vi p1)] ZC_st (by decide) rfl rfl (Nat.le_of_ble_eq_true rfl) rfl (fun G C => ?_)
  have i_X2 : ∀ w ∈ u_ws RX2 TX2 11, w ∈ wsX2_plotsOwnedAt := by decide +kernel
  have f_18 : Cond.fieldLink (yX2_plotsOwnedAt).cls 18 "SwanDeeds$River" "plots" "[I" ∈ wsX2_plotsOwnedAt := by decide +kernel
  have f_21 : Cond.fieldLink (yX2_plotsOwnedAt).cls 21 "SwanDeeds$River" "places" "[I" ∈ wsX2_plotsOwnedAt := by decide +kernel
  have f_31 : Cond.fieldLink (yX2_plotsOwnedAt).cls 31 "SwanDeeds$River" "swanCount" "I" ∈ wsX2_plotsOwnedAt := by decide +kernel
  have hz := sat_of hz
  unfold f_X2_plotsOwnedAt at hz
  refine q_iconst C dX2_plotsOwnedAt_0 ⟨by decide, by decide⟩ ?_
  refine q_istore_n C [(2, Vi 0), (0, Vr (6 * r)), (1, Vi p1)] rfl (by decide) dX2_plotsOwnedAt_1 rfl ?_
  refine q_iconst C dX2_plotsOwnedAt_2 ⟨by decide, by decide⟩ ?_
  refine q_istore_n C [(3, Vi 0), (2, Vi 0), (0, Vr (6 * r)), (1, Vi p1)] rfl (by decide) dX2_plotsOwnedAt_3 rfl ?_
  refine q_sub C [2, 3, 1, 0] [(0, Vr (6 * r)), (1, Vi p1), (2, Vi 0), (3, Vi 0)] rfl ?_
  refine loop_go (fun x1 => G μ 4 [(0, Vr (6 * r)), (1, Vi p1), (2, Vi (x1.1)), (3, Vi (x1.2))] []) (sat_bind2 hz) (fun h => h) (fun x1 hz => ?_)
  refine q_iload_n C 3 rfl dX2_plotsOwnedAt_4 rfl ?_
  refine q_aload_n C 0 rfl dX2_plotsOwnedAt_5 rfl ?_
  refine q_get (tO_X2 hr) C (i := 1) i_X2 rfl rfl (by decide) rfl f_31 dX2_plotsOwnedAt_6 ?_
  refine q_icmp_ge C dX2_plotsOwnedAt_9 (tgt := 39) (by decide) (fun c2 => ?_) (fun c2 => ?_)
  · have hz := sat_t hz c2
    have hz := sat_some hz
    refine q_sub C [2] [(2, Vi (x1.1))] rfl ?_
    refine q_iload_n C 0 rfl dX2_plotsOwnedAt_39 rfl ?_
    exact q_iret C dX2_plotsOwnedAt_40 (congrArg (fun q => (q, μ)) (sat_eq hz))
  · have hz := sat_f hz c2
    refine q_aload_n C 0 rfl dX2_plotsOwnedAt_12 rfl ?_
    refine q_getR (tO_X2 hr) C (i := 7) i_X2 rfl rfl (by decide) rfl f_21 dX2_plotsOwnedAt_13 ?_
    refine q_iload_n C 3 rfl dX2_plotsOwnedAt_16 rfl ?_
    obtain ⟨c3, hz⟩ := sat_chk hz
    refine q_iald (tA_places hr) C 0 rfl c3 dX2_plotsOwnedAt_17 ?_
    refine q_iload_n C 1 rfl dX2_plotsOwnedAt_18 rfl ?_
    refine q_icmp_ne C dX2_plotsOwnedAt_19 (tgt := 33) (by decide) (fun c4 => ?_) (fun c4 => ?_)
    · have hz := sat_f hz c4
      refine q_iinc C 3 rfl [(3, Vi (w3 (x1.2 + 1))), (0, Vr (6 * r)), (1, Vi p1), (2, Vi (x1.1))] rfl (by decide) dX2_plotsOwnedAt_33 ?_
      refine q_goto C dX2_plotsOwnedAt_36 (tgt := 4) (by decide) ?_
      refine q_sub C [1, 2, 3, 0] [(0, Vr (6 * r)), (1, Vi p1), (2, Vi (x1.1)), (3, Vi (w3 (x1.2 + 1)))] rfl ?_
      have hz := sat_some hz
      exact hz
    · have hz := sat_t hz c4
      refine q_iload_n C 2 rfl dX2_plotsOwnedAt_22 rfl ?_
      refine q_iconst C dX2_plotsOwnedAt_23 ⟨by decide, by decide⟩ ?_
      refine q_aload_n C 0 rfl dX2_plotsOwnedAt_24 rfl ?_
      refine q_getR (tO_X2 hr) C (i := 6) i_X2 rfl rfl (by decide) rfl f_18 dX2_plotsOwnedAt_25 ?_
      refine q_iload_n C 3 rfl dX2_plotsOwnedAt_28 rfl ?_
      obtain ⟨c5, hz⟩ := sat_chk hz
      refine q_iald (tA_plots hr) C 0 rfl c5 dX2_plotsOwnedAt_29 ?_
      refine q_ishl C dX2_plotsOwnedAt_30 ?_
      refine q_ior C dX2_plotsOwnedAt_31 ?_
      obtain ⟨a6, ha6, hz⟩ := sat_bnd hz
      refine q_nmi ha6 ?_
      refine q_istore_n C [(2, Vi a6), (0, Vr (6 * r)), (1, Vi p1), (3, Vi (x1.2))] rfl (by decide) dX2_plotsOwnedAt_32 rfl ?_
      refine q_iinc C 3 rfl [(3, Vi (w3 (x1.2 + 1))), (2, Vi a6), (0, Vr (6 * r)), (1, Vi p1)] rfl (by decide) dX2_plotsOwnedAt_33 ?_
      refine q_goto C dX2_plotsOwnedAt_36 (tgt := 4) (by decide) ?_
      refine q_sub C [2, 3, 1, 0] [(0, Vr (6 * r)), (1, Vi p1), (2, Vi a6), (3, Vi (w3 (x1.2 + 1)))] rfl ?_
      have hz := sat_some hz
      exact hz
theorem hdX5_lawn : yX5_lawn.cls = RX5 ∧ yX5_lawn.cls ≠ "java/lang/invoke/MethodHandle" ∧ yX5_lawn.cls ≠ "java/lang/invoke/VarHandle" ∧ (parseMethodDescriptor yX5_lawn.desc).map (fun d => d.parameters.length) = some 2 := by decide +kernel
set_option maxHeartbeats 4000000 in
set_option maxRecDepth 100000 in
theorem c_X5_lawn {l : Launch} {D : va_G} {ad : Nat → Nat} {cI cII cR : ClassId} (μ : Mm) (p1 p2 : Int) {v : Int} (hz : f_X5_lawn μ p1 p2 = some v) : CT l D vwCl (tyC cI cII cR) 194 ad (EC ad cI cII cR) (ZC ad) yX5_lawn wsX5_lawn ({ frames := 2, cells := 0, slots := 0, locals := 43 } : Room) (some .int) [Vr 174, Vi p1, Vi p2] μ (v, μ) := by
  refine CT_of [(0, Vr 174), (1, Vi p1), (2, Vi p2)] ZC_st (by decide) rfl rfl (Nat.le_of_ble_eq_true rfl) rfl (fun G C => ?_)
  have i_X2 : ∀ w ∈ u_ws RX2 TX2 11, w ∈ wsX5_lawn := by decide +kernel
  have i_X5 : ∀ w ∈ u_ws RX5 TX5 9, w ∈ wsX5_lawn := by decide +kernel
  have f_40 : Cond.fieldLink (yX5_lawn).cls 40 "SwanDeeds" "now" "LSwanDeeds$River;" ∈ wsX5_lawn := by decide +kernel
  have f_154 : Cond.fieldLink (yX5_lawn).cls 154 "SwanDeeds$River" "crumbs" "[I" ∈ wsX5_lawn := by decide +kernel
  have hz := sat_of hz
  unfold f_X5_lawn at hz
  refine q_aload_n C 0 rfl dX5_lawn_0 rfl ?_
  refine q_iload_n C 1 rfl dX5_lawn_1 rfl ?_
  refine q_callVz ZC_st C [Vi p1] [] (c_X5_isLawn μ p1) tO_X5 rfl gX5_lawn_X5_isLawn rfl ⟨rfl, rfl⟩ hdX5_isLawn ⟨by decide, by decide⟩ rfl (Nat.le_of_ble_eq_true rfl) dX5_lawn_2 rfl (fun hb1 _ => ?_)
  refine q_if_ne C dX5_lawn_5 (tgt := 11) (by decide) (fun c2 => ?_) (fun c2 => ?_)
  · have hz := sat_f hz c2
    refine q_iload_n C 2 rfl dX5_lawn_11 rfl ?_
    refine sat_ite hz (fun c3 hz => ?_) (fun c3 hz => ?_)
    · have c3 : p2 = 0 := c3
      refine q_tab_in C dX5_lawn_12 (by omega) (by omega) (off := 32) (by rw [c3]; rfl) (tgt := 44) (by decide) ?_
      refine q_aload_n C 0 rfl dX5_lawn_44 rfl ?_
      refine q_getR tO_X5 C (i := 4) i_X5 rfl rfl (by decide) rfl f_40 dX5_lawn_45 ?_
      refine q_getR (tO_X2 (by decide)) C (i := 4) i_X2 rfl rfl (by decide) rfl f_154 dX5_lawn_48 ?_
      refine q_iload_n C 1 rfl dX5_lawn_51 rfl ?_
      obtain ⟨c4, hz⟩ := sat_chk hz
      refine q_iald (tA_crumbs (by decide)) C 0 rfl c4 dX5_lawn_52 ?_
      exact q_iret C dX5_lawn_53 (congrArg (fun q => (q, μ)) (sat_eq hz))
    · have c3 : ¬ p2 = 0 := c3
      refine sat_ite hz (fun c5 hz => ?_) (fun c5 hz => ?_)
      · have c5 : p2 = 1 := c5
        refine q_tab_in C dX5_lawn_12 (by omega) (by omega) (off := 42) (by rw [c5]; rfl) (tgt := 54) (by decide) ?_
        refine q_aload_n C 0 rfl dX5_lawn_54 rfl ?_
        refine q_getR tO_X5 C (i := 4) i_X5 rfl rfl (by decide) rfl f_40 dX5_lawn_55 ?_
        refine q_iload_n C 1 rfl dX5_lawn_58 rfl ?_
        refine q_callVi ZC_st C [Vi p1] [] (c_X2_weirBehind μ 0 (by decide) p1) (tO_X2 (by decide)) rfl gX5_lawn_X2_weirBehind rfl ⟨rfl, rfl⟩ hdX2_weirBehind ⟨by decide, by decide⟩ rfl (Nat.le_of_ble_eq_true rfl) dX5_lawn_59 rfl (fun _ _ => ?_)
        exact q_iret C dX5_lawn_62 (congrArg (fun q => (q, μ)) (sat_eq hz))
      · have c5 : ¬ p2 = 1 := c5
        refine sat_ite hz (fun c7 hz => ?_) (fun c7 hz => ?_)
        · have c7 : p2 = 2 := c7
          refine q_tab_in C dX5_lawn_12 (by omega) (by omega) (off := 51) (by rw [c7]; rfl) (tgt := 63) (by decide) ?_
          refine q_aload_n C 0 rfl dX5_lawn_63 rfl ?_
          refine q_getR tO_X5 C (i := 4) i_X5 rfl rfl (by decide) rfl f_40 dX5_lawn_64 ?_
          refine q_iload_n C 1 rfl dX5_lawn_67 rfl ?_
          obtain ⟨z9, hz9, hz⟩ := sat_bind hz
          refine q_callVi ZC_st C [Vi p1] [] (c_X2_swansOn μ 0 (by decide) p1 hz9) (tO_X2 (by decide)) rfl gX5_lawn_X2_swansOn rfl ⟨rfl, rfl⟩ hdX2_swansOn ⟨by decide, by decide⟩ rfl (Nat.le_of_ble_eq_true rfl) dX5_lawn_68 rfl (fun _ _ => ?_)
          exact q_iret C dX5_lawn_71 (congrArg (fun q => (q, μ)) (sat_eq hz))
        · have c7 : ¬ p2 = 2 := c7
          refine sat_ite hz (fun c10 hz => ?_) (fun c10 hz => ?_)
          · have c10 : p2 = 3 := c10
            refine q_tab_in C dX5_lawn_12 (by omega) (by omega) (off := 60) (by rw [c10]; rfl) (tgt := 72) (by decide) ?_
            refine q_aload_n C 0 rfl dX5_lawn_72 rfl ?_
            refine q_getR tO_X5 C (i := 4) i_X5 rfl rfl (by decide) rfl f_40 dX5_lawn_73 ?_
            refine q_iload_n C 1 rfl dX5_lawn_76 rfl ?_
            obtain ⟨z12, hz12, hz⟩ := sat_bind hz
            refine q_callVi ZC_st C [Vi p1] [] (c_X2_plotsOwnedAt μ 0 (by decide) p1 hz12) (tO_X2 (by decide)) rfl gX5_lawn_X2_plotsOwnedAt rfl ⟨rfl, rfl⟩ hdX2_plotsOwnedAt ⟨by decide, by decide⟩ rfl (Nat.le_of_ble_eq_true rfl) dX5_lawn_77 rfl (fun _ _ => ?_)
            exact q_iret C dX5_lawn_80 (congrArg (fun q => (q, μ)) (sat_eq hz))
          · have c10 : ¬ p2 = 3 := c10
            refine q_tab_out C dX5_lawn_12 (by omega) (tgt := 81) (by decide) ?_
            refine q_ldc (v := (-1000001)) (x := (-1000001)) C (by decide +kernel) dX5_lawn_81 ⟨by decide +kernel, by decide, by decide⟩ ?_
            exact q_iret C dX5_lawn_83 (congrArg (fun q => (q, μ)) (sat_eq hz))
  · have hz := sat_t hz c2
    refine q_ldc (v := (-1000001)) (x := (-1000001)) C (by decide +kernel) dX5_lawn_8 ⟨by decide +kernel, by decide, by decide⟩ ?_
    exact q_iret C dX5_lawn_10 (congrArg (fun q => (q, μ)) (sat_eq hz))
theorem hdX2_passDays : yX2_passDays.cls = RX2 ∧ yX2_passDays.cls ≠ "java/lang/invoke/MethodHandle" ∧ yX2_passDays.cls ≠ "java/lang/invoke/VarHandle" ∧ (parseMethodDescriptor yX2_passDays.desc).map (fun d => d.parameters.length) = some 1 := by decide +kernel
set_option maxHeartbeats 4000000 in
set_option maxRecDepth 100000 in
theorem c_X2_passDays {l : Launch} {D : va_G} {ad : Nat → Nat} {cI cII cR : ClassId} (μ : Mm) (r : Nat) (hr : r < 29) (p1 : Int) {v : Mm} (hz : f_X2_passDays μ r p1 = some v) : CT l D vwCl (tyC cI cII cR) 194 ad (EC ad cI cII cR) (ZC ad) yX2_passDays wsX2_passDays ({ frames := 4, cells := 0, slots := 0, locals := 96 } : Room) none [Vr (6 * r), Vi p1] μ ((0 : Int), v) := by
  refine CT_of [(0, Vr (6 * r)), (1, Vi p1)] ZC_st (by decide) rfl rfl (Nat.le_of_ble_eq_true rfl) rfl (fun G C => ?_)
  have hz := sat_of hz
  unfold f_X2_passDays at hz
  refine q_iconst C dX2_passDays_0 ⟨by decide, by decide⟩ ?_
  refine q_istore_n C [(2, Vi 0), (0, Vr (6 * r)), (1, Vi p1)] rfl (by decide) dX2_passDays_1 rfl ?_
  refine q_sub C [1, 2, 0] [(0, Vr (6 * r)), (1, Vi p1), (2, Vi 0)] rfl ?_
  refine loop_go (fun x1 => G x1.2 2 [(0, Vr (6 * r)), (1, Vi p1), (2, Vi (x1.1))] []) (sat_bind2 hz) (fun h => h) (fun x1 hz => ?_)
  refine q_iload_n C 2 rfl dX2_passDays_2 rfl ?_
  refine q_iload_n C 1 rfl dX2_passDays_3 rfl ?_
  refine q_icmp_ge C dX2_passDays_4 (tgt := 17) (by decide) (fun c2 => ?_) (fun c2 => ?_)
  · have hz := sat_t hz c2
    have hz := sat_some hz
    refine q_sub C [] [] rfl ?_
    exact q_vret C dX2_passDays_17 (congrArg (fun q => ((0 : Int), q)) (sat_eq hz))
  · have hz := sat_f hz c2
    refine q_aload_n C 0 rfl dX2_passDays_7 rfl ?_
    obtain ⟨z4, hz4, hz⟩ := sat_bind hz
    refine q_callVv ZC_st C [] [] (c_X2_passDay x1.2 r hr hz4) (tO_X2 hr) rfl gX2_passDays_X2_passDay rfl ⟨rfl, rfl⟩ hdX2_passDay ⟨by decide, by decide⟩ rfl (Nat.le_of_ble_eq_true rfl) dX2_passDays_8 rfl (fun _ => ?_)
    refine q_iinc C 2 rfl [(2, Vi (w3 (x1.1 + 1))), (0, Vr (6 * r)), (1, Vi p1)] rfl (by decide) dX2_passDays_11 ?_
    refine q_goto C dX2_passDays_14 (tgt := 2) (by decide) ?_
    refine q_sub C [1, 2, 0] [(0, Vr (6 * r)), (1, Vi p1), (2, Vi (w3 (x1.1 + 1)))] rfl ?_
    have hz := sat_some hz
    exact hz
theorem hdX5_foretell : yX5_foretell.cls = RX5 ∧ yX5_foretell.cls ≠ "java/lang/invoke/MethodHandle" ∧ yX5_foretell.cls ≠ "java/lang/invoke/VarHandle" ∧ (parseMethodDescriptor yX5_foretell.desc).map (fun d => d.parameters.length) = some 1 := by decide +kernel
set_option maxHeartbeats 4000000 in
set_option maxRecDepth 100000 in
theorem c_X5_foretell {l : Launch} {D : va_G} {ad : Nat → Nat} {cI cII cR : ClassId} (μ : Mm) (p1 : Int) {v : Mm} (hz : f_X5_foretell μ p1 = some v) : CT l D vwCl (tyC cI cII cR) 194 ad (EC ad cI cII cR) (ZC ad) yX5_foretell wsX5_foretell ({ frames := 5, cells := 0, slots := 0, locals := 118 } : Room) none [Vr 174, Vi p1] μ ((0 : Int), v) := by
  refine CT_of [(0, Vr 174), (1, Vi p1)] ZC_st (by decide) rfl rfl (Nat.le_of_ble_eq_true rfl) rfl (fun G C => ?_)
  have i_X5 : ∀ w ∈ u_ws RX5 TX5 9, w ∈ wsX5_foretell := by decide +kernel
  have f_40 : Cond.fieldLink (yX5_foretell).cls 40 "SwanDeeds" "now" "LSwanDeeds$River;" ∈ wsX5_foretell := by decide +kernel
  have f_44 : Cond.fieldLink (yX5_foretell).cls 44 "SwanDeeds" "trial" "LSwanDeeds$River;" ∈ wsX5_foretell := by decide +kernel
  have hz := sat_of hz
  unfold f_X5_foretell at hz
  refine q_aload_n C 0 rfl dX5_foretell_0 rfl ?_
  refine q_getR tO_X5 C (i := 5) i_X5 rfl rfl (by decide) rfl f_44 dX5_foretell_1 ?_
  refine q_aload_n C 0 rfl dX5_foretell_4 rfl ?_
  refine q_getR tO_X5 C (i := 4) i_X5 rfl rfl (by decide) rfl f_40 dX5_foretell_5 ?_
  obtain ⟨z2, hz2, hz⟩ := sat_bind hz
  refine q_callVv ZC_st C [Vr (6 * 0)] [] (c_X2_become μ 3 (by decide) 0 (by decide) hz2) (tO_X2 (by decide)) rfl gX5_foretell_X2_become rfl ⟨rfl, rfl⟩ hdX2_become ⟨by decide, by decide⟩ rfl (Nat.le_of_ble_eq_true rfl) dX5_foretell_8 rfl (fun _ => ?_)
  refine q_aload_n C 0 rfl dX5_foretell_11 rfl ?_
  refine q_getR tO_X5 C (i := 5) i_X5 rfl rfl (by decide) rfl f_44 dX5_foretell_12 ?_
  refine q_iload_n C 1 rfl dX5_foretell_15 rfl ?_
  obtain ⟨z4, hz4, hz⟩ := sat_bind hz
  refine q_callVv ZC_st C [Vi p1] [] (c_X2_passDays z2 3 (by decide) p1 hz4) (tO_X2 (by decide)) rfl gX5_foretell_X2_passDays rfl ⟨rfl, rfl⟩ hdX2_passDays ⟨by decide, by decide⟩ rfl (Nat.le_of_ble_eq_true rfl) dX5_foretell_16 rfl (fun _ => ?_)
  exact q_vret C dX5_foretell_19 (congrArg (fun q => ((0 : Int), q)) (sat_eq hz))
theorem hdX5_ahead : yX5_ahead.cls = RX5 ∧ yX5_ahead.cls ≠ "java/lang/invoke/MethodHandle" ∧ yX5_ahead.cls ≠ "java/lang/invoke/VarHandle" ∧ (parseMethodDescriptor yX5_ahead.desc).map (fun d => d.parameters.length) = some 2 := by decide +kernel
set_option maxHeartbeats 4000000 in
set_option maxRecDepth 100000 in
theorem c_X5_ahead {l : Launch} {D : va_G} {ad : Nat → Nat} {cI cII cR : ClassId} (μ : Mm) (p1 p2 : Int) {v : Int × Mm} (hz : f_X5_ahead μ p1 p2 = some v) : CT l D vwCl (tyC cI cII cR) 194 ad (EC ad cI cII cR) (ZC ad) yX5_ahead wsX5_ahead ({ frames := 6, cells := 0, slots := 0, locals := 139 } : Room) (some .int) [Vr 174, Vi p1, Vi p2] μ (v.1, v.2) := by
  refine CT_of [(0, Vr 174), (1, Vi p1), (2, Vi p2)] ZC_st (by decide) rfl rfl (Nat.le_of_ble_eq_true rfl) rfl (fun G C => ?_)
  have i_X2 : ∀ w ∈ u_ws RX2 TX2 11, w ∈ wsX5_ahead := by decide +kernel
  have i_X5 : ∀ w ∈ u_ws RX5 TX5 9, w ∈ wsX5_ahead := by decide +kernel
  have f_44 : Cond.fieldLink (yX5_ahead).cls 44 "SwanDeeds" "trial" "LSwanDeeds$River;" ∈ wsX5_ahead := by decide +kernel
  have f_167 : Cond.fieldLink (yX5_ahead).cls 167 "SwanDeeds$River" "places" "[I" ∈ wsX5_ahead := by decide +kernel
  have hz := sat_of hz
  unfold f_X5_ahead at hz
  refine q_aload_n C 0 rfl dX5_ahead_0 rfl ?_
  refine q_iload_n C 1 rfl dX5_ahead_1 rfl ?_
  refine q_callVz ZC_st C [Vi p1] [] (c_X5_isSwan μ p1) tO_X5 rfl gX5_ahead_X5_isSwan rfl ⟨rfl, rfl⟩ hdX5_isSwan ⟨by decide, by decide⟩ rfl (Nat.le_of_ble_eq_true rfl) dX5_ahead_2 rfl (fun hb1 _ => ?_)
  refine q_if_eq C dX5_ahead_5 (tgt := 18) (by decide) (fun c2 => ?_) (fun c2 => ?_)
  · have hz := sat_t hz c2
    refine q_ldc (v := (-1000001)) (x := (-1000001)) C (by decide +kernel) dX5_ahead_18 ⟨by decide +kernel, by decide, by decide⟩ ?_
    exact q_iret C dX5_ahead_20 (sat_eq hz)
  · have hz := sat_f hz c2
    refine q_iload_n C 2 rfl dX5_ahead_8 rfl ?_
    refine q_iconst C dX5_ahead_9 ⟨by decide, by decide⟩ ?_
    refine q_bipush C dX5_ahead_10 ⟨rfl, by decide, by decide⟩ ?_
    refine q_callSz ZC_st C [Vi p2, Vi 0, Vi 60] [] (c_X5_within μ p2 0 60) gX5_ahead_X5_within rfl ⟨rfl, rfl⟩ hdX5_within ⟨by decide, by decide⟩ rfl (Nat.le_of_ble_eq_true rfl) dX5_ahead_12 rfl (fun hb3 _ => ?_)
    refine q_if_ne C dX5_ahead_15 (tgt := 21) (by decide) (fun c4 => ?_) (fun c4 => ?_)
    · have hz := sat_f hz c4
      refine q_aload_n C 0 rfl dX5_ahead_21 rfl ?_
      refine q_iload_n C 2 rfl dX5_ahead_22 rfl ?_
      obtain ⟨z6, hz6, hz⟩ := sat_bind hz
      refine q_callVv ZC_st C [Vi p2] [] (c_X5_foretell μ p2 hz6) tO_X5 rfl gX5_ahead_X5_foretell rfl ⟨rfl, rfl⟩ hdX5_foretell ⟨by decide, by decide⟩ rfl (Nat.le_of_ble_eq_true rfl) dX5_ahead_23 rfl (fun _ => ?_)
      refine q_aload_n C 0 rfl dX5_ahead_26 rfl ?_
      refine q_getR tO_X5 C (i := 5) i_X5 rfl rfl (by decide) rfl f_44 dX5_ahead_27 ?_
      refine q_getR (tO_X2 (by decide)) C (i := 7) i_X2 rfl rfl (by decide) rfl f_167 dX5_ahead_30 ?_
      refine q_iload_n C 1 rfl dX5_ahead_33 rfl ?_
      obtain ⟨c7, hz⟩ := sat_chk hz
      refine q_iald (tA_places (by decide)) C 0 rfl c7 dX5_ahead_34 ?_
      exact q_iret C dX5_ahead_35 (sat_eq hz)
    · have hz := sat_t hz c4
      refine q_ldc (v := (-1000001)) (x := (-1000001)) C (by decide +kernel) dX5_ahead_18 ⟨by decide +kernel, by decide, by decide⟩ ?_
      exact q_iret C dX5_ahead_20 (sat_eq hz)
theorem hdX5_owns : yX5_owns.cls = RX5 ∧ yX5_owns.cls ≠ "java/lang/invoke/MethodHandle" ∧ yX5_owns.cls ≠ "java/lang/invoke/VarHandle" ∧ (parseMethodDescriptor yX5_owns.desc).map (fun d => d.parameters.length) = some 2 := by decide +kernel
set_option maxHeartbeats 4000000 in
set_option maxRecDepth 100000 in
theorem c_X5_owns {l : Launch} {D : va_G} {ad : Nat → Nat} {cI cII cR : ClassId} (μ : Mm) (p1 p2 : Int) {v : Int × Mm} (hz : f_X5_owns μ p1 p2 = some v) : CT l D vwCl (tyC cI cII cR) 194 ad (EC ad cI cII cR) (ZC ad) yX5_owns wsX5_owns ({ frames := 6, cells := 0, slots := 0, locals := 139 } : Room) (some .int) [Vr 174, Vi p1, Vi p2] μ (v.1, v.2) := by
  refine CT_of [(0, Vr 174), (1, Vi p1), (2, Vi p2)] ZC_st (by decide) rfl rfl (Nat.le_of_ble_eq_true rfl) rfl (fun G C => ?_)
  have i_X5 : ∀ w ∈ u_ws RX5 TX5 9, w ∈ wsX5_owns := by decide +kernel
  have f_44 : Cond.fieldLink (yX5_owns).cls 44 "SwanDeeds" "trial" "LSwanDeeds$River;" ∈ wsX5_owns := by decide +kernel
  have hz := sat_of hz
  unfold f_X5_owns at hz
  refine q_aload_n C 0 rfl dX5_owns_0 rfl ?_
  refine q_iload_n C 1 rfl dX5_owns_1 rfl ?_
  refine q_callVz ZC_st C [Vi p1] [] (c_X5_isLawn μ p1) tO_X5 rfl gX5_owns_X5_isLawn rfl ⟨rfl, rfl⟩ hdX5_isLawn ⟨by decide, by decide⟩ rfl (Nat.le_of_ble_eq_true rfl) dX5_owns_2 rfl (fun hb1 _ => ?_)
  refine q_if_eq C dX5_owns_5 (tgt := 18) (by decide) (fun c2 => ?_) (fun c2 => ?_)
  · have hz := sat_t hz c2
    refine q_ldc (v := (-1000001)) (x := (-1000001)) C (by decide +kernel) dX5_owns_18 ⟨by decide +kernel, by decide, by decide⟩ ?_
    exact q_iret C dX5_owns_20 (sat_eq hz)
  · have hz := sat_f hz c2
    refine q_iload_n C 2 rfl dX5_owns_8 rfl ?_
    refine q_iconst C dX5_owns_9 ⟨by decide, by decide⟩ ?_
    refine q_bipush C dX5_owns_10 ⟨rfl, by decide, by decide⟩ ?_
    refine q_callSz ZC_st C [Vi p2, Vi 0, Vi 60] [] (c_X5_within μ p2 0 60) gX5_owns_X5_within rfl ⟨rfl, rfl⟩ hdX5_within ⟨by decide, by decide⟩ rfl (Nat.le_of_ble_eq_true rfl) dX5_owns_12 rfl (fun hb3 _ => ?_)
    refine q_if_ne C dX5_owns_15 (tgt := 21) (by decide) (fun c4 => ?_) (fun c4 => ?_)
    · have hz := sat_f hz c4
      refine q_aload_n C 0 rfl dX5_owns_21 rfl ?_
      refine q_iload_n C 2 rfl dX5_owns_22 rfl ?_
      obtain ⟨z6, hz6, hz⟩ := sat_bind hz
      refine q_callVv ZC_st C [Vi p2] [] (c_X5_foretell μ p2 hz6) tO_X5 rfl gX5_owns_X5_foretell rfl ⟨rfl, rfl⟩ hdX5_foretell ⟨by decide, by decide⟩ rfl (Nat.le_of_ble_eq_true rfl) dX5_owns_23 rfl (fun _ => ?_)
      refine q_aload_n C 0 rfl dX5_owns_26 rfl ?_
      refine q_getR tO_X5 C (i := 5) i_X5 rfl rfl (by decide) rfl f_44 dX5_owns_27 ?_
      refine q_iload_n C 1 rfl dX5_owns_30 rfl ?_
      obtain ⟨z8, hz8, hz⟩ := sat_bind hz
      refine q_callVi ZC_st C [Vi p1] [] (c_X2_plotsOwnedAt z6 3 (by decide) p1 hz8) (tO_X2 (by decide)) rfl gX5_owns_X2_plotsOwnedAt rfl ⟨rfl, rfl⟩ hdX2_plotsOwnedAt ⟨by decide, by decide⟩ rfl (Nat.le_of_ble_eq_true rfl) dX5_owns_31 rfl (fun _ _ => ?_)
      exact q_iret C dX5_owns_34 (sat_eq hz)
    · have hz := sat_t hz c4
      refine q_ldc (v := (-1000001)) (x := (-1000001)) C (by decide +kernel) dX5_owns_18 ⟨by decide +kernel, by decide, by decide⟩ ?_
      exact q_iret C dX5_owns_20 (sat_eq hz)
theorem hdX5_nobody : yX5_nobody.cls = RX5 ∧ yX5_nobody.cls ≠ "java/lang/invoke/MethodHandle" ∧ yX5_nobody.cls ≠ "java/lang/invoke/VarHandle" ∧ (parseMethodDescriptor yX5_nobody.desc).map (fun d => d.parameters.length) = some 1 := by decide +kernel
set_option maxHeartbeats 4000000 in
set_option maxRecDepth 100000 in
theorem c_X5_nobody {l : Launch} {D : va_G} {ad : Nat → Nat} {cI cII cR : ClassId} (μ : Mm) (p1 : Int) {v : Int × Mm} (hz : f_X5_nobody μ p1 = some v) : CT l D vwCl (tyC cI cII cR) 194 ad (EC ad cI cII cR) (ZC ad) yX5_nobody wsX5_nobody ({ frames := 6, cells := 0, slots := 0, locals := 139 } : Room) (some .int) [Vr 174, Vi p1] μ (v.1, v.2) := by
  refine CT_of [(0, Vr 174), (1, Vi p1)] ZC_st (by decide) rfl rfl (Nat.le_of_ble_eq_true rfl) rfl (fun G C => ?_)
  have i_X5 : ∀ w ∈ u_ws RX5 TX5 9, w ∈ wsX5_nobody := by decide +kernel
  have f_44 : Cond.fieldLink (yX5_nobody).cls 44 "SwanDeeds" "trial" "LSwanDeeds$River;" ∈ wsX5_nobody := by decide +kernel
  have hz := sat_of hz
  unfold f_X5_nobody at hz
  refine q_aload_n C 0 rfl dX5_nobody_0 rfl ?_
  refine q_callVz ZC_st C [] [] (c_X5_hasRiver μ) tO_X5 rfl gX5_nobody_X5_hasRiver rfl ⟨rfl, rfl⟩ hdX5_hasRiver ⟨by decide, by decide⟩ rfl (Nat.le_of_ble_eq_true rfl) dX5_nobody_1 rfl (fun hb1 _ => ?_)
  refine q_if_ne C dX5_nobody_4 (tgt := 10) (by decide) (fun c2 => ?_) (fun c2 => ?_)
  · have hz := sat_f hz c2
    refine q_iload_n C 1 rfl dX5_nobody_10 rfl ?_
    refine q_iconst C dX5_nobody_11 ⟨by decide, by decide⟩ ?_
    refine q_bipush C dX5_nobody_12 ⟨rfl, by decide, by decide⟩ ?_
    refine q_callSz ZC_st C [Vi p1, Vi 0, Vi 60] [] (c_X5_within μ p1 0 60) gX5_nobody_X5_within rfl ⟨rfl, rfl⟩ hdX5_within ⟨by decide, by decide⟩ rfl (Nat.le_of_ble_eq_true rfl) dX5_nobody_14 rfl (fun hb3 _ => ?_)
    refine q_if_ne C dX5_nobody_17 (tgt := 23) (by decide) (fun c4 => ?_) (fun c4 => ?_)
    · have hz := sat_f hz c4
      refine q_aload_n C 0 rfl dX5_nobody_23 rfl ?_
      refine q_iload_n C 1 rfl dX5_nobody_24 rfl ?_
      obtain ⟨z6, hz6, hz⟩ := sat_bind hz
      refine q_callVv ZC_st C [Vi p1] [] (c_X5_foretell μ p1 hz6) tO_X5 rfl gX5_nobody_X5_foretell rfl ⟨rfl, rfl⟩ hdX5_foretell ⟨by decide, by decide⟩ rfl (Nat.le_of_ble_eq_true rfl) dX5_nobody_25 rfl (fun _ => ?_)
      refine q_aload_n C 0 rfl dX5_nobody_28 rfl ?_
      refine q_getR tO_X5 C (i := 5) i_X5 rfl rfl (by decide) rfl f_44 dX5_nobody_29 ?_
      obtain ⟨z8, hz8, hz⟩ := sat_bind hz
      refine q_callVi ZC_st C [] [] (c_X2_emptyLawns z6 3 (by decide) hz8) (tO_X2 (by decide)) rfl gX5_nobody_X2_emptyLawns rfl ⟨rfl, rfl⟩ hdX2_emptyLawns ⟨by decide, by decide⟩ rfl (Nat.le_of_ble_eq_true rfl) dX5_nobody_32 rfl (fun _ _ => ?_)
      exact q_iret C dX5_nobody_35 (sat_eq hz)
    · have hz := sat_t hz c4
      refine q_ldc (v := (-1000001)) (x := (-1000001)) C (by decide +kernel) dX5_nobody_20 ⟨by decide +kernel, by decide, by decide⟩ ?_
      exact q_iret C dX5_nobody_22 (sat_eq hz)
  · have hz := sat_t hz c2
    refine q_ldc (v := (-1000002)) (x := (-1000002)) C (by decide +kernel) dX5_nobody_7 ⟨by decide +kernel, by decide, by decide⟩ ?_
    exact q_iret C dX5_nobody_9 (sat_eq hz)
theorem hdX2_daysHeld : yX2_daysHeld.cls = RX2 ∧ yX2_daysHeld.cls ≠ "java/lang/invoke/MethodHandle" ∧ yX2_daysHeld.cls ≠ "java/lang/invoke/VarHandle" ∧ (parseMethodDescriptor yX2_daysHeld.desc).map (fun d => d.parameters.length) = some 1 := by decide +kernel
set_option maxHeartbeats 4000000 in
set_option maxRecDepth 100000 in
theorem c_X2_daysHeld {l : Launch} {D : va_G} {ad : Nat → Nat} {cI cII cR : ClassId} (μ : Mm) (r : Nat) (hr : r < 29) (p1 : Int) {v : Int × Mm} (hz : f_X2_daysHeld μ r p1 = some v) : CT l D vwCl (tyC cI cII cR) 194 ad (EC ad cI cII cR) (ZC ad) yX2_daysHeld wsX2_daysHeld ({ frames := 4, cells := 0, slots := 0, locals := 96 } : Room) (some .int) [Vr (6 * r), Vi p1] μ (v.1, v.2) := by
  refine CT_of [(0, Vr (6 * r)), (1, Vi p1)] ZC_st (by decide) rfl rfl (Nat.le_of_ble_eq_true rfl) rfl (fun G C => ?_)
  have i_X2 : ∀ w ∈ u_ws RX2 TX2 11, w ∈ wsX2_daysHeld := by decide +kernel
  have f_21 : Cond.fieldLink (yX2_daysHeld).cls 21 "SwanDeeds$River" "places" "[I" ∈ wsX2_daysHeld := by decide +kernel
  have hz := sat_of hz
  unfold f_X2_daysHeld at hz
  refine q_aload_n C 0 rfl dX2_daysHeld_0 rfl ?_
  refine q_getR (tO_X2 hr) C (i := 7) i_X2 rfl rfl (by decide) rfl f_21 dX2_daysHeld_1 ?_
  refine q_iload_n C 1 rfl dX2_daysHeld_4 rfl ?_
  obtain ⟨c1, hz⟩ := sat_chk hz
  refine q_iald (tA_places hr) C 0 rfl c1 dX2_daysHeld_5 ?_
  refine q_istore_n C [(2, Vi (μ r (11 + p1))), (0, Vr (6 * r)), (1, Vi p1)] rfl (by decide) dX2_daysHeld_6 rfl ?_
  refine q_iconst C dX2_daysHeld_7 ⟨by decide, by decide⟩ ?_
  refine q_istore_n C [(3, Vi 0), (2, Vi (μ r (11 + p1))), (0, Vr (6 * r)), (1, Vi p1)] rfl (by decide) dX2_daysHeld_8 rfl ?_
  refine q_sub C [2, 3, 1, 0] [(0, Vr (6 * r)), (1, Vi p1), (2, Vi (μ r (11 + p1))), (3, Vi 0)] rfl ?_
  refine loop_go (fun x2 => G x2.2 9 [(0, Vr (6 * r)), (1, Vi p1), (2, Vi (μ r (11 + p1))), (3, Vi (x2.1))] []) (sat_bind2 hz) (fun h => h) (fun x2 hz => ?_)
  refine q_iload_n C 3 rfl dX2_daysHeld_9 rfl ?_
  refine q_bipush C dX2_daysHeld_10 ⟨rfl, by decide, by decide⟩ ?_
  refine q_icmp_ge C dX2_daysHeld_12 (tgt := 37) (by decide) (fun c3 => ?_) (fun c3 => ?_)
  · have hz := sat_t hz c3
    have hz := sat_some hz
    refine q_sub C [] [] rfl ?_
    refine q_bipush C dX2_daysHeld_37 ⟨rfl, by decide, by decide⟩ ?_
    exact q_iret C dX2_daysHeld_39 (sat_eq hz)
  · have hz := sat_f hz c3
    refine q_aload_n C 0 rfl dX2_daysHeld_15 rfl ?_
    obtain ⟨z5, hz5, hz⟩ := sat_bind hz
    refine q_callVv ZC_st C [] [] (c_X2_passDay x2.2 r hr hz5) (tO_X2 hr) rfl gX2_daysHeld_X2_passDay rfl ⟨rfl, rfl⟩ hdX2_passDay ⟨by decide, by decide⟩ rfl (Nat.le_of_ble_eq_true rfl) dX2_daysHeld_16 rfl (fun _ => ?_)
    refine q_aload_n C 0 rfl dX2_daysHeld_19 rfl ?_
    refine q_getR (tO_X2 hr) C (i := 7) i_X2 rfl rfl (by decide) rfl f_21 dX2_daysHeld_20 ?_
    refine q_iload_n C 1 rfl dX2_daysHeld_23 rfl ?_
    obtain ⟨c6, hz⟩ := sat_chk hz
    refine q_iald (tA_places hr) C 0 rfl c6 dX2_daysHeld_24 ?_
    refine q_iload_n C 2 rfl dX2_daysHeld_25 rfl ?_
    refine q_icmp_eq C dX2_daysHeld_26 (tgt := 31) (by decide) (fun c7 => ?_) (fun c7 => ?_)
    · have hz := sat_t hz c7
      refine q_iinc C 3 rfl [(3, Vi (w3 (x2.1 + 1))), (0, Vr (6 * r)), (1, Vi p1), (2, Vi (μ r (11 + p1)))] rfl (by decide) dX2_daysHeld_31 ?_
      refine q_goto C dX2_daysHeld_34 (tgt := 9) (by decide) ?_
      refine q_sub C [1, 2, 3, 0] [(0, Vr (6 * r)), (1, Vi p1), (2, Vi (μ r (11 + p1))), (3, Vi (w3 (x2.1 + 1)))] rfl ?_
      have hz := sat_some hz
      exact hz
    · have hz := sat_f hz c7
      refine q_iload_n C 3 rfl dX2_daysHeld_29 rfl ?_
      have hz := sat_some hz
      exact q_iret C dX2_daysHeld_30 (sat_eq hz)
theorem hdX5_moves : yX5_moves.cls = RX5 ∧ yX5_moves.cls ≠ "java/lang/invoke/MethodHandle" ∧ yX5_moves.cls ≠ "java/lang/invoke/VarHandle" ∧ (parseMethodDescriptor yX5_moves.desc).map (fun d => d.parameters.length) = some 1 := by decide +kernel
set_option maxHeartbeats 4000000 in
set_option maxRecDepth 100000 in
theorem c_X5_moves {l : Launch} {D : va_G} {ad : Nat → Nat} {cI cII cR : ClassId} (μ : Mm) (p1 : Int) {v : Int × Mm} (hz : f_X5_moves μ p1 = some v) : CT l D vwCl (tyC cI cII cR) 194 ad (EC ad cI cII cR) (ZC ad) yX5_moves wsX5_moves ({ frames := 5, cells := 0, slots := 0, locals := 119 } : Room) (some .int) [Vr 174, Vi p1] μ (v.1, v.2) := by
  refine CT_of [(0, Vr 174), (1, Vi p1)] ZC_st (by decide) rfl rfl (Nat.le_of_ble_eq_true rfl) rfl (fun G C => ?_)
  have i_X5 : ∀ w ∈ u_ws RX5 TX5 9, w ∈ wsX5_moves := by decide +kernel
  have f_40 : Cond.fieldLink (yX5_moves).cls 40 "SwanDeeds" "now" "LSwanDeeds$River;" ∈ wsX5_moves := by decide +kernel
  have f_44 : Cond.fieldLink (yX5_moves).cls 44 "SwanDeeds" "trial" "LSwanDeeds$River;" ∈ wsX5_moves := by decide +kernel
  have hz := sat_of hz
  unfold f_X5_moves at hz
  refine q_aload_n C 0 rfl dX5_moves_0 rfl ?_
  refine q_iload_n C 1 rfl dX5_moves_1 rfl ?_
  refine q_callVz ZC_st C [Vi p1] [] (c_X5_isSwan μ p1) tO_X5 rfl gX5_moves_X5_isSwan rfl ⟨rfl, rfl⟩ hdX5_isSwan ⟨by decide, by decide⟩ rfl (Nat.le_of_ble_eq_true rfl) dX5_moves_2 rfl (fun hb1 _ => ?_)
  refine q_if_ne C dX5_moves_5 (tgt := 11) (by decide) (fun c2 => ?_) (fun c2 => ?_)
  · have hz := sat_f hz c2
    refine q_aload_n C 0 rfl dX5_moves_11 rfl ?_
    refine q_getR tO_X5 C (i := 5) i_X5 rfl rfl (by decide) rfl f_44 dX5_moves_12 ?_
    refine q_aload_n C 0 rfl dX5_moves_15 rfl ?_
    refine q_getR tO_X5 C (i := 4) i_X5 rfl rfl (by decide) rfl f_40 dX5_moves_16 ?_
    obtain ⟨z4, hz4, hz⟩ := sat_bind hz
    refine q_callVv ZC_st C [Vr (6 * 0)] [] (c_X2_become μ 3 (by decide) 0 (by decide) hz4) (tO_X2 (by decide)) rfl gX5_moves_X2_become rfl ⟨rfl, rfl⟩ hdX2_become ⟨by decide, by decide⟩ rfl (Nat.le_of_ble_eq_true rfl) dX5_moves_19 rfl (fun _ => ?_)
    refine q_aload_n C 0 rfl dX5_moves_22 rfl ?_
    refine q_getR tO_X5 C (i := 5) i_X5 rfl rfl (by decide) rfl f_44 dX5_moves_23 ?_
    refine q_iload_n C 1 rfl dX5_moves_26 rfl ?_
    obtain ⟨z6, hz6, hz⟩ := sat_bind hz
    refine q_callVi ZC_st C [Vi p1] [] (c_X2_daysHeld z4 3 (by decide) p1 hz6) (tO_X2 (by decide)) rfl gX5_moves_X2_daysHeld rfl ⟨rfl, rfl⟩ hdX2_daysHeld ⟨by decide, by decide⟩ rfl (Nat.le_of_ble_eq_true rfl) dX5_moves_27 rfl (fun _ _ => ?_)
    refine q_istore_n C [(2, Vi (z6.1)), (0, Vr 174), (1, Vi p1)] rfl (by decide) dX5_moves_30 rfl ?_
    refine q_iload_n C 0 rfl dX5_moves_31 rfl ?_
    refine q_bipush C dX5_moves_32 ⟨rfl, by decide, by decide⟩ ?_
    refine q_icmp_ge C dX5_moves_34 (tgt := 43) (by decide) (fun c7 => ?_) (fun c7 => ?_)
    · have hz := sat_t hz c7
      refine q_ldc (v := (-1000000)) (x := (-1000000)) C (by decide +kernel) dX5_moves_43 ⟨by decide +kernel, by decide, by decide⟩ ?_
      exact q_iret C dX5_moves_45 (sat_eq hz)
    · have hz := sat_f hz c7
      refine q_iload_n C 0 rfl dX5_moves_37 rfl ?_
      refine q_iconst C dX5_moves_38 ⟨by decide, by decide⟩ ?_
      refine q_iadd C dX5_moves_39 ?_
      refine q_goto C dX5_moves_40 (tgt := 45) (by decide) ?_
      exact q_iret C dX5_moves_45 (sat_eq hz)
  · have hz := sat_t hz c2
    refine q_ldc (v := (-1000001)) (x := (-1000001)) C (by decide +kernel) dX5_moves_8 ⟨by decide +kernel, by decide, by decide⟩ ?_
    exact q_iret C dX5_moves_10 (sat_eq hz)
