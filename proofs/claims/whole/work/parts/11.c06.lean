theorem hdX5_image : yX5_image.cls = RX5 ∧ yX5_image.cls ≠ "java/lang/invoke/MethodHandle" ∧ yX5_image.cls ≠ "java/lang/invoke/VarHandle" ∧ (parseMethodDescriptor yX5_image.desc).map (fun d => d.parameters.length) = some 1 := by decide +kernel
set_option maxHeartbeats 4000000 in
set_option maxRecDepth 100000 in
theorem c_X5_image {l : Launch} {D : va_G} {ad : Nat → Nat} {cI cII cR : ClassId} (μ : Mm) (p1 : Int) {v : Int × Mm} (hz : f_X5_image μ p1 = some v) : CT l D vwCl (tyC cI cII cR) 194 ad (EC ad cI cII cR) yX5_image wsX5_image ({ frames := 1, cells := 0, slots := 0, locals := 22 } : Room) (some .int) [Vr 174, Vi p1] μ v := by
  refine CT_of [(0, Vr 174), (1, Vi p1)] (by decide) rfl rfl (Nat.le_of_ble_eq_true rfl) rfl (fun G C => ?_)
  have i_X5 : ∀ w ∈ u_ws RX5 TX5 9, w ∈ wsX5_image := by decide +kernel
  have f_40 : Cond.fieldLink (yX5_image).cls 40 "SwanDeeds" "now" "LSwanDeeds$River;" ∈ wsX5_image := by decide +kernel
  have f_50 : Cond.fieldLink (yX5_image).cls 50 "SwanDeeds" "images" "[LSwanDeeds$River;" ∈ wsX5_image := by decide +kernel
  have hz := sat_of hz
  unfold f_X5_image at hz
  refine q_iload_n C 1 rfl dX5_image_0 rfl ?_
  refine q_iconst C dX5_image_1 ⟨by decide, by decide⟩ ?_
  refine q_iconst C dX5_image_2 ⟨by decide, by decide⟩ ?_
  refine q_callSz C [Vi p1, Vi 0, Vi 1] [] (c_X5_within μ p1 0 1) gX5_image_X5_within rfl ⟨rfl, rfl⟩ hdX5_within ⟨by decide, by decide⟩ rfl (by decide) dX5_image_3 rfl (fun hb1 _ => ?_)
  refine q_if_ne C dX5_image_6 (by decide) (fun c2 => ?_) (fun c2 => ?_)
  · have hz := sat_f hz c2
    refine q_aload_n C 0 rfl dX5_image_12 rfl ?_
    refine q_callVz C [] [] (c_X5_hasRiver μ) tO_X5 rfl gX5_image_X5_hasRiver rfl ⟨rfl, rfl⟩ hdX5_hasRiver ⟨by decide, by decide⟩ rfl (by decide) dX5_image_13 rfl (fun hb3 _ => ?_)
    refine q_if_ne C dX5_image_16 (by decide) (fun c4 => ?_) (fun c4 => ?_)
    · have hz := sat_f hz c4
      refine q_aload_n C 0 rfl dX5_image_22 rfl ?_
      refine q_getR tO_X5 C i_X5 rfl rfl (by decide) rfl f_50 dX5_image_23 ?_
      refine q_iload_n C 1 rfl dX5_image_26 rfl ?_
      obtain ⟨c5, hz⟩ := sat_chk hz
      refine q_aald tQ_images C 2 rfl rfl c5 (k' := 6 * (1 + p1.toNat)) rfl dX5_image_27 ?_
      refine q_aload_n C 0 rfl dX5_image_28 rfl ?_
      refine q_getR tO_X5 C i_X5 rfl rfl (by decide) rfl f_40 dX5_image_29 ?_
      obtain ⟨z7, hz7, hz⟩ := sat_bind hz
      refine q_callVv C [Vr (6 * 0)] [] (c_X2_become μ (1 + p1.toNat) (show 1 + p1.toNat < 29 by omega) 0 (by decide) hz7) (tO_X2 (show 1 + p1.toNat < 29 by omega)) rfl gX5_image_X2_become rfl ⟨rfl, rfl⟩ hdX2_become ⟨by decide, by decide⟩ rfl (by decide) dX5_image_32 rfl (fun _ => ?_)
      refine q_iconst C dX5_image_35 ⟨by decide, by decide⟩ ?_
      exact q_iret C dX5_image_36 (sat_some hz)
    · have hz := sat_t hz c4
      refine q_ldc (v := (-1000002)) (x := (-1000002)) C (by decide +kernel) dX5_image_19 ⟨by decide +kernel, by decide, by decide⟩ ?_
      exact q_iret C dX5_image_21 (sat_some hz)
  · have hz := sat_t hz c2
    refine q_ldc (v := (-1000001)) (x := (-1000001)) C (by decide +kernel) dX5_image_9 ⟨by decide +kernel, by decide, by decide⟩ ?_
    exact q_iret C dX5_image_11 (sat_some hz)
theorem hdX5_restore : yX5_restore.cls = RX5 ∧ yX5_restore.cls ≠ "java/lang/invoke/MethodHandle" ∧ yX5_restore.cls ≠ "java/lang/invoke/VarHandle" ∧ (parseMethodDescriptor yX5_restore.desc).map (fun d => d.parameters.length) = some 1 := by decide +kernel
set_option maxHeartbeats 4000000 in
set_option maxRecDepth 100000 in
theorem c_X5_restore {l : Launch} {D : va_G} {ad : Nat → Nat} {cI cII cR : ClassId} (μ : Mm) (p1 : Int) {v : Int × Mm} (hz : f_X5_restore μ p1 = some v) : CT l D vwCl (tyC cI cII cR) 194 ad (EC ad cI cII cR) yX5_restore wsX5_restore ({ frames := 1, cells := 0, slots := 0, locals := 22 } : Room) (some .int) [Vr 174, Vi p1] μ v := by
  refine CT_of [(0, Vr 174), (1, Vi p1)] (by decide) rfl rfl (Nat.le_of_ble_eq_true rfl) rfl (fun G C => ?_)
  have i_X2 : ∀ w ∈ u_ws RX2 TX2 11, w ∈ wsX5_restore := by decide +kernel
  have i_X5 : ∀ w ∈ u_ws RX5 TX5 9, w ∈ wsX5_restore := by decide +kernel
  have f_26 : Cond.fieldLink (yX5_restore).cls 26 "SwanDeeds" "acts" "LSwanDeeds$Acts;" ∈ wsX5_restore := by decide +kernel
  have f_40 : Cond.fieldLink (yX5_restore).cls 40 "SwanDeeds" "now" "LSwanDeeds$River;" ∈ wsX5_restore := by decide +kernel
  have f_50 : Cond.fieldLink (yX5_restore).cls 50 "SwanDeeds" "images" "[LSwanDeeds$River;" ∈ wsX5_restore := by decide +kernel
  have f_207 : Cond.fieldLink (yX5_restore).cls 207 "SwanDeeds$River" "lawnCount" "I" ∈ wsX5_restore := by decide +kernel
  have hz := sat_of hz
  unfold f_X5_restore at hz
  refine q_iload_n C 1 rfl dX5_restore_0 rfl ?_
  refine q_iconst C dX5_restore_1 ⟨by decide, by decide⟩ ?_
  refine q_iconst C dX5_restore_2 ⟨by decide, by decide⟩ ?_
  refine q_callSz C [Vi p1, Vi 0, Vi 1] [] (c_X5_within μ p1 0 1) gX5_restore_X5_within rfl ⟨rfl, rfl⟩ hdX5_within ⟨by decide, by decide⟩ rfl (by decide) dX5_restore_3 rfl (fun hb1 _ => ?_)
  refine q_if_ne C dX5_restore_6 (by decide) (fun c2 => ?_) (fun c2 => ?_)
  · have hz := sat_f hz c2
    refine q_aload_n C 0 rfl dX5_restore_12 rfl ?_
    refine q_getR tO_X5 C i_X5 rfl rfl (by decide) rfl f_50 dX5_restore_13 ?_
    refine q_iload_n C 1 rfl dX5_restore_16 rfl ?_
    obtain ⟨c3, hz⟩ := sat_chk hz
    refine q_aald tQ_images C 2 rfl rfl c3 (k' := 6 * (1 + p1.toNat)) rfl dX5_restore_17 ?_
    refine q_get (tO_X2 (show 1 + p1.toNat < 29 by omega)) C i_X2 rfl rfl (by decide) rfl f_207 dX5_restore_18 ?_
    refine q_if_ne C dX5_restore_21 (by decide) (fun c4 => ?_) (fun c4 => ?_)
    · have hz := sat_f hz c4
      refine q_aload_n C 0 rfl dX5_restore_27 rfl ?_
      refine q_getR tO_X5 C i_X5 rfl rfl (by decide) rfl f_40 dX5_restore_28 ?_
      refine q_aload_n C 0 rfl dX5_restore_31 rfl ?_
      refine q_getR tO_X5 C i_X5 rfl rfl (by decide) rfl f_50 dX5_restore_32 ?_
      refine q_iload_n C 1 rfl dX5_restore_35 rfl ?_
      obtain ⟨c5, hz⟩ := sat_chk hz
      refine q_aald tQ_images C 2 rfl rfl c5 (k' := 6 * (1 + p1.toNat)) rfl dX5_restore_36 ?_
      obtain ⟨z7, hz7, hz⟩ := sat_bind hz
      refine q_callVv C [Vr (6 * (1 + p1.toNat))] [] (c_X2_become μ 0 (by decide) (1 + p1.toNat) (show 1 + p1.toNat < 29 by omega) hz7) (tO_X2 (by decide)) rfl gX5_restore_X2_become rfl ⟨rfl, rfl⟩ hdX2_become ⟨by decide, by decide⟩ rfl (by decide) dX5_restore_37 rfl (fun _ => ?_)
      refine q_aload_n C 0 rfl dX5_restore_40 rfl ?_
      refine q_getR tO_X5 C i_X5 rfl rfl (by decide) rfl f_26 dX5_restore_41 ?_
      obtain ⟨z9, hz9, hz⟩ := sat_bind hz
      refine q_callVv C [] [] (c_X0_forget z7 hz9) tO_X0 rfl gX5_restore_X0_forget rfl ⟨rfl, rfl⟩ hdX0_forget ⟨by decide, by decide⟩ rfl (by decide) dX5_restore_44 rfl (fun _ => ?_)
      refine q_iconst C dX5_restore_47 ⟨by decide, by decide⟩ ?_
      exact q_iret C dX5_restore_48 (sat_some hz)
    · have hz := sat_t hz c4
      refine q_ldc (v := (-1000002)) (x := (-1000002)) C (by decide +kernel) dX5_restore_24 ⟨by decide +kernel, by decide, by decide⟩ ?_
      exact q_iret C dX5_restore_26 (sat_some hz)
  · have hz := sat_t hz c2
    refine q_ldc (v := (-1000001)) (x := (-1000001)) C (by decide +kernel) dX5_restore_9 ⟨by decide +kernel, by decide, by decide⟩ ?_
    exact q_iret C dX5_restore_11 (sat_some hz)
theorem hdX5_kind : yX5_kind.cls = RX5 ∧ yX5_kind.cls ≠ "java/lang/invoke/MethodHandle" ∧ yX5_kind.cls ≠ "java/lang/invoke/VarHandle" ∧ (parseMethodDescriptor yX5_kind.desc).map (fun d => d.parameters.length) = some 1 := by decide +kernel
set_option maxHeartbeats 4000000 in
set_option maxRecDepth 100000 in
theorem c_X5_kind {l : Launch} {D : va_G} {ad : Nat → Nat} {cI cII cR : ClassId} (μ : Mm) (p1 : Int) {v : Int} (hz : f_X5_kind μ p1 = some v) : CT l D vwCl (tyC cI cII cR) 194 ad (EC ad cI cII cR) yX5_kind wsX5_kind ({ frames := 2, cells := 0, slots := 0, locals := 43 } : Room) (some .int) [Vr 174, Vi p1] μ (v, μ) := by
  refine CT_of [(0, Vr 174), (1, Vi p1)] (by decide) rfl rfl (Nat.le_of_ble_eq_true rfl) rfl (fun G C => ?_)
  have i_X2 : ∀ w ∈ u_ws RX2 TX2 11, w ∈ wsX5_kind := by decide +kernel
  have i_X5 : ∀ w ∈ u_ws RX5 TX5 9, w ∈ wsX5_kind := by decide +kernel
  have f_40 : Cond.fieldLink (yX5_kind).cls 40 "SwanDeeds" "now" "LSwanDeeds$River;" ∈ wsX5_kind := by decide +kernel
  have f_266 : Cond.fieldLink (yX5_kind).cls 266 "SwanDeeds$River" "kinds" "[I" ∈ wsX5_kind := by decide +kernel
  have hz := sat_of hz
  unfold f_X5_kind at hz
  refine q_aload_n C 0 rfl dX5_kind_0 rfl ?_
  refine q_iload_n C 1 rfl dX5_kind_1 rfl ?_
  refine q_callVz C [Vi p1] [] (c_X5_isSwan μ p1) tO_X5 rfl gX5_kind_X5_isSwan rfl ⟨rfl, rfl⟩ hdX5_isSwan ⟨by decide, by decide⟩ rfl (by decide) dX5_kind_2 rfl (fun hb1 _ => ?_)
  refine q_if_eq C dX5_kind_5 (by decide) (fun c2 => ?_) (fun c2 => ?_)
  · have hz := sat_t hz c2
    refine q_ldc (v := (-1000001)) (x := (-1000001)) C (by decide +kernel) dX5_kind_20 ⟨by decide +kernel, by decide, by decide⟩ ?_
    exact q_iret C dX5_kind_22 (congrArg (fun q => (q, μ)) (sat_some hz))
  · have hz := sat_f hz c2
    refine q_aload_n C 0 rfl dX5_kind_8 rfl ?_
    refine q_getR tO_X5 C i_X5 rfl rfl (by decide) rfl f_40 dX5_kind_9 ?_
    refine q_getR (tO_X2 (by decide)) C i_X2 rfl rfl (by decide) rfl f_266 dX5_kind_12 ?_
    refine q_iload_n C 1 rfl dX5_kind_15 rfl ?_
    obtain ⟨c3, hz⟩ := sat_chk hz
    refine q_iald (tA_kinds (by decide)) C 0 rfl c3 dX5_kind_16 ?_
    refine q_goto C dX5_kind_17 (by decide) ?_
    exact q_iret C dX5_kind_22 (congrArg (fun q => (q, μ)) (sat_some hz))
theorem hdX1_ready : yX1_ready.cls = RX1 ∧ yX1_ready.cls ≠ "java/lang/invoke/MethodHandle" ∧ yX1_ready.cls ≠ "java/lang/invoke/VarHandle" ∧ (parseMethodDescriptor yX1_ready.desc).map (fun d => d.parameters.length) = some 2 := by decide +kernel
set_option maxHeartbeats 4000000 in
set_option maxRecDepth 100000 in
theorem c_X1_ready {l : Launch} {D : va_G} {ad : Nat → Nat} {cI cII cR : ClassId} (μ : Mm) (q : Nat) (hq : q < 29) (p2 : Int) {v : Mm} (hz : f_X1_ready μ q p2 = some v) : CT l D vwCl (tyC cI cII cR) 194 ad (EC ad cI cII cR) yX1_ready wsX1_ready ({ frames := 0, cells := 0, slots := 0, locals := 0 } : Room) none [Vr 178, Vr (6 * q), Vi p2] μ ((0 : Int), v) := by
  refine CT_of [(0, Vr 178), (1, Vr (6 * q)), (2, Vi p2)] (by decide) rfl rfl (Nat.le_of_ble_eq_true rfl) rfl (fun G C => ?_)
  have i_X1 : ∀ w ∈ u_ws RX1 TX1 6, w ∈ wsX1_ready := by decide +kernel
  have i_X2 : ∀ w ∈ u_ws RX2 TX2 11, w ∈ wsX1_ready := by decide +kernel
  have f_15 : Cond.fieldLink (yX1_ready).cls 15 "SwanDeeds$Asks" "begun" "I" ∈ wsX1_ready := by decide +kernel
  have f_19 : Cond.fieldLink (yX1_ready).cls 19 "SwanDeeds$Asks" "number" "I" ∈ wsX1_ready := by decide +kernel
  have f_22 : Cond.fieldLink (yX1_ready).cls 22 "SwanDeeds$River" "kinds" "[I" ∈ wsX1_ready := by decide +kernel
  have f_27 : Cond.fieldLink (yX1_ready).cls 27 "SwanDeeds$Asks" "kind" "I" ∈ wsX1_ready := by decide +kernel
  have f_30 : Cond.fieldLink (yX1_ready).cls 30 "SwanDeeds$River" "places" "[I" ∈ wsX1_ready := by decide +kernel
  have f_33 : Cond.fieldLink (yX1_ready).cls 33 "SwanDeeds$Asks" "place" "I" ∈ wsX1_ready := by decide +kernel
  have f_36 : Cond.fieldLink (yX1_ready).cls 36 "SwanDeeds$River" "weights" "[I" ∈ wsX1_ready := by decide +kernel
  have f_39 : Cond.fieldLink (yX1_ready).cls 39 "SwanDeeds$Asks" "weight" "I" ∈ wsX1_ready := by decide +kernel
  have hz := sat_of hz
  unfold f_X1_ready at hz
  refine q_aload_n C 0 rfl dX1_ready_0 rfl ?_
  refine q_iconst C dX1_ready_1 ⟨by decide, by decide⟩ ?_
  obtain ⟨m1, hm1, hz⟩ := sat_bnd hz
  refine q_put tO_X1 C hm1 i_X1 tyX1_ok nmX1 rfl rfl (by decide) rfl f_15 dX1_ready_2 ?_
  refine q_aload_n C 0 rfl dX1_ready_5 rfl ?_
  refine q_iload_n C 2 rfl dX1_ready_6 rfl ?_
  obtain ⟨m2, hm2, hz⟩ := sat_bnd hz
  refine q_put tO_X1 C hm2 i_X1 tyX1_ok nmX1 rfl rfl (by decide) rfl f_19 dX1_ready_7 ?_
  refine q_aload_n C 0 rfl dX1_ready_10 rfl ?_
  refine q_aload_n C 1 rfl dX1_ready_11 rfl ?_
  refine q_getR (tO_X2 hq) C i_X2 rfl rfl (by decide) rfl f_22 dX1_ready_12 ?_
  refine q_iload_n C 2 rfl dX1_ready_15 rfl ?_
  obtain ⟨c3, hz⟩ := sat_chk hz
  refine q_iald (tA_kinds hq) C 0 rfl c3 dX1_ready_16 ?_
  obtain ⟨m4, hm4, hz⟩ := sat_bnd hz
  refine q_put tO_X1 C hm4 i_X1 tyX1_ok nmX1 rfl rfl (by decide) rfl f_27 dX1_ready_17 ?_
  refine q_aload_n C 0 rfl dX1_ready_20 rfl ?_
  refine q_aload_n C 1 rfl dX1_ready_21 rfl ?_
  refine q_getR (tO_X2 hq) C i_X2 rfl rfl (by decide) rfl f_30 dX1_ready_22 ?_
  refine q_iload_n C 2 rfl dX1_ready_25 rfl ?_
  obtain ⟨c5, hz⟩ := sat_chk hz
  refine q_iald (tA_places hq) C 0 rfl c5 dX1_ready_26 ?_
  obtain ⟨m6, hm6, hz⟩ := sat_bnd hz
  refine q_put tO_X1 C hm6 i_X1 tyX1_ok nmX1 rfl rfl (by decide) rfl f_33 dX1_ready_27 ?_
  refine q_aload_n C 0 rfl dX1_ready_30 rfl ?_
  refine q_aload_n C 1 rfl dX1_ready_31 rfl ?_
  refine q_getR (tO_X2 hq) C i_X2 rfl rfl (by decide) rfl f_36 dX1_ready_32 ?_
  refine q_iload_n C 2 rfl dX1_ready_35 rfl ?_
  obtain ⟨c7, hz⟩ := sat_chk hz
  refine q_iald (tA_weights hq) C 0 rfl c7 dX1_ready_36 ?_
  obtain ⟨m8, hm8, hz⟩ := sat_bnd hz
  refine q_put tO_X1 C hm8 i_X1 tyX1_ok nmX1 rfl rfl (by decide) rfl f_39 dX1_ready_37 ?_
  exact q_vret C dX1_ready_40 (congrArg (fun q => ((0 : Int), q)) (sat_some hz))
theorem hdX1_begin : yX1_begin.cls = RX1 ∧ yX1_begin.cls ≠ "java/lang/invoke/MethodHandle" ∧ yX1_begin.cls ≠ "java/lang/invoke/VarHandle" ∧ (parseMethodDescriptor yX1_begin.desc).map (fun d => d.parameters.length) = some 1 := by decide +kernel
set_option maxHeartbeats 4000000 in
set_option maxRecDepth 100000 in
theorem c_X1_begin {l : Launch} {D : va_G} {ad : Nat → Nat} {cI cII cR : ClassId} (μ : Mm) (p1 : Int) {v : Mm} (hz : f_X1_begin μ p1 = some v) : CT l D vwCl (tyC cI cII cR) 194 ad (EC ad cI cII cR) yX1_begin wsX1_begin ({ frames := 0, cells := 0, slots := 0, locals := 0 } : Room) none [Vr 178, Vi p1] μ ((0 : Int), v) := by
  refine CT_of [(0, Vr 178), (1, Vi p1)] (by decide) rfl rfl (Nat.le_of_ble_eq_true rfl) rfl (fun G C => ?_)
  have i_X1 : ∀ w ∈ u_ws RX1 TX1 6, w ∈ wsX1_begin := by decide +kernel
  have f_9 : Cond.fieldLink (yX1_begin).cls 9 "SwanDeeds$Asks" "bodies" "[I" ∈ wsX1_begin := by decide +kernel
  have f_15 : Cond.fieldLink (yX1_begin).cls 15 "SwanDeeds$Asks" "begun" "I" ∈ wsX1_begin := by decide +kernel
  have hz := sat_of hz
  unfold f_X1_begin at hz
  refine q_aload_n C 0 rfl dX1_begin_0 rfl ?_
  refine q_get tO_X1 C i_X1 rfl rfl (by decide) rfl f_15 dX1_begin_1 ?_
  refine q_bipush C dX1_begin_4 ⟨rfl, by decide, by decide⟩ ?_
  refine q_icmp_ge C dX1_begin_6 (by decide) (fun c1 => ?_) (fun c1 => ?_)
  · have hz := sat_t hz c1
    exact q_vret C dX1_begin_29 (congrArg (fun q => ((0 : Int), q)) (sat_some hz))
  · have hz := sat_f hz c1
    refine q_aload_n C 0 rfl dX1_begin_9 rfl ?_
    refine q_getR tO_X1 C i_X1 rfl rfl (by decide) rfl f_9 dX1_begin_10 ?_
    refine q_aload_n C 0 rfl dX1_begin_13 rfl ?_
    refine q_get tO_X1 C i_X1 rfl rfl (by decide) rfl f_15 dX1_begin_14 ?_
    refine q_iload_n C 1 rfl dX1_begin_17 rfl ?_
    obtain ⟨c2, hz⟩ := sat_chk hz
    obtain ⟨m3, hm3, hz⟩ := sat_bnd hz
    refine q_iast (tA_bodies) C 0 rfl c2 hm3 dX1_begin_18 ?_
    refine q_aload_n C 0 rfl dX1_begin_19 rfl ?_
    refine q_dup C dX1_begin_20 rfl ?_
    refine q_get tO_X1 C i_X1 rfl rfl (by decide) rfl f_15 dX1_begin_21 ?_
    refine q_iconst C dX1_begin_24 ⟨by decide, by decide⟩ ?_
    refine q_iadd C dX1_begin_25 ?_
    obtain ⟨m4, hm4, hz⟩ := sat_bnd hz
    refine q_put tO_X1 C hm4 i_X1 tyX1_ok nmX1 rfl rfl (by decide) rfl f_15 dX1_begin_26 ?_
    exact q_vret C dX1_begin_29 (congrArg (fun q => ((0 : Int), q)) (sat_some hz))
theorem hdX1_sizeOfAny : yX1_sizeOfAny.cls = RX1 ∧ yX1_sizeOfAny.cls ≠ "java/lang/invoke/MethodHandle" ∧ yX1_sizeOfAny.cls ≠ "java/lang/invoke/VarHandle" ∧ (parseMethodDescriptor yX1_sizeOfAny.desc).map (fun d => d.parameters.length) = some 0 := by decide +kernel
set_option maxHeartbeats 4000000 in
set_option maxRecDepth 100000 in
theorem c_X1_sizeOfAny {l : Launch} {D : va_G} {ad : Nat → Nat} {cI cII cR : ClassId} (μ : Mm) {v : Int × Mm} (hz : f_X1_sizeOfAny μ = some v) : CT l D vwCl (tyC cI cII cR) 194 ad (EC ad cI cII cR) yX1_sizeOfAny wsX1_sizeOfAny ({ frames := 1, cells := 0, slots := 0, locals := 21 } : Room) (some .int) [Vr 178] μ v := by
  refine CT_of [(0, Vr 178)] (by decide) rfl rfl (Nat.le_of_ble_eq_true rfl) rfl (fun G C => ?_)
  have i_X1 : ∀ w ∈ u_ws RX1 TX1 6, w ∈ wsX1_sizeOfAny := by decide +kernel
  have f_39 : Cond.fieldLink (yX1_sizeOfAny).cls 39 "SwanDeeds$Asks" "weight" "I" ∈ wsX1_sizeOfAny := by decide +kernel
  have hz := sat_of hz
  unfold f_X1_sizeOfAny at hz
  refine q_aload_n C 0 rfl dX1_sizeOfAny_0 rfl ?_
  refine q_bipush C dX1_sizeOfAny_1 ⟨rfl, by decide, by decide⟩ ?_
  obtain ⟨z2, hz2, hz⟩ := sat_bind hz
  refine q_callVv C [Vi 10] [] (c_X1_begin μ 10 hz2) tO_X1 rfl gX1_sizeOfAny_X1_begin rfl ⟨rfl, rfl⟩ hdX1_begin ⟨by decide, by decide⟩ rfl (by decide) dX1_sizeOfAny_3 rfl (fun _ => ?_)
  refine q_aload_n C 0 rfl dX1_sizeOfAny_6 rfl ?_
  refine q_get tO_X1 C i_X1 rfl rfl (by decide) rfl f_39 dX1_sizeOfAny_7 ?_
  exact q_iret C dX1_sizeOfAny_10 (sat_some hz)
theorem hdX1_markOfAny : yX1_markOfAny.cls = RX1 ∧ yX1_markOfAny.cls ≠ "java/lang/invoke/MethodHandle" ∧ yX1_markOfAny.cls ≠ "java/lang/invoke/VarHandle" ∧ (parseMethodDescriptor yX1_markOfAny.desc).map (fun d => d.parameters.length) = some 0 := by decide +kernel
set_option maxHeartbeats 4000000 in
set_option maxRecDepth 100000 in
theorem c_X1_markOfAny {l : Launch} {D : va_G} {ad : Nat → Nat} {cI cII cR : ClassId} (μ : Mm) {v : Int × Mm} (hz : f_X1_markOfAny μ = some v) : CT l D vwCl (tyC cI cII cR) 194 ad (EC ad cI cII cR) yX1_markOfAny wsX1_markOfAny ({ frames := 1, cells := 0, slots := 0, locals := 21 } : Room) (some .int) [Vr 178] μ v := by
  refine CT_of [(0, Vr 178)] (by decide) rfl rfl (Nat.le_of_ble_eq_true rfl) rfl (fun G C => ?_)
  have i_X1 : ∀ w ∈ u_ws RX1 TX1 6, w ∈ wsX1_markOfAny := by decide +kernel
  have f_19 : Cond.fieldLink (yX1_markOfAny).cls 19 "SwanDeeds$Asks" "number" "I" ∈ wsX1_markOfAny := by decide +kernel
  have hz := sat_of hz
  unfold f_X1_markOfAny at hz
  refine q_aload_n C 0 rfl dX1_markOfAny_0 rfl ?_
  refine q_bipush C dX1_markOfAny_1 ⟨rfl, by decide, by decide⟩ ?_
  obtain ⟨z2, hz2, hz⟩ := sat_bind hz
  refine q_callVv C [Vi 20] [] (c_X1_begin μ 20 hz2) tO_X1 rfl gX1_markOfAny_X1_begin rfl ⟨rfl, rfl⟩ hdX1_begin ⟨by decide, by decide⟩ rfl (by decide) dX1_markOfAny_3 rfl (fun _ => ?_)
  refine q_aload_n C 0 rfl dX1_markOfAny_6 rfl ?_
  refine q_get tO_X1 C i_X1 rfl rfl (by decide) rfl f_19 dX1_markOfAny_7 ?_
  exact q_iret C dX1_markOfAny_10 (sat_some hz)
theorem hdX1_markOfPen : yX1_markOfPen.cls = RX1 ∧ yX1_markOfPen.cls ≠ "java/lang/invoke/MethodHandle" ∧ yX1_markOfPen.cls ≠ "java/lang/invoke/VarHandle" ∧ (parseMethodDescriptor yX1_markOfPen.desc).map (fun d => d.parameters.length) = some 0 := by decide +kernel
set_option maxHeartbeats 4000000 in
set_option maxRecDepth 100000 in
theorem c_X1_markOfPen {l : Launch} {D : va_G} {ad : Nat → Nat} {cI cII cR : ClassId} (μ : Mm) {v : Int × Mm} (hz : f_X1_markOfPen μ = some v) : CT l D vwCl (tyC cI cII cR) 194 ad (EC ad cI cII cR) yX1_markOfPen wsX1_markOfPen ({ frames := 2, cells := 0, slots := 0, locals := 41 } : Room) (some .int) [Vr 178] μ v := by
  refine CT_of [(0, Vr 178)] (by decide) rfl rfl (Nat.le_of_ble_eq_true rfl) rfl (fun G C => ?_)
  have i_X1 : ∀ w ∈ u_ws RX1 TX1 6, w ∈ wsX1_markOfPen := by decide +kernel
  have f_33 : Cond.fieldLink (yX1_markOfPen).cls 33 "SwanDeeds$Asks" "place" "I" ∈ wsX1_markOfPen := by decide +kernel
  have hz := sat_of hz
  unfold f_X1_markOfPen at hz
  refine q_aload_n C 0 rfl dX1_markOfPen_0 rfl ?_
  refine q_bipush C dX1_markOfPen_1 ⟨rfl, by decide, by decide⟩ ?_
  obtain ⟨z2, hz2, hz⟩ := sat_bind hz
  refine q_callVv C [Vi 21] [] (c_X1_begin μ 21 hz2) tO_X1 rfl gX1_markOfPen_X1_begin rfl ⟨rfl, rfl⟩ hdX1_begin ⟨by decide, by decide⟩ rfl (by decide) dX1_markOfPen_3 rfl (fun _ => ?_)
  refine q_aload_n C 0 rfl dX1_markOfPen_6 rfl ?_
  obtain ⟨z4, hz4, hz⟩ := sat_bind hz
  refine q_callVi C [] [] (c_X1_markOfAny z2 hz4) tO_X1 rfl gX1_markOfPen_X1_markOfAny rfl ⟨rfl, rfl⟩ hdX1_markOfAny ⟨by decide, by decide⟩ rfl (by decide) dX1_markOfPen_7 rfl (fun _ _ => ?_)
  refine q_aload_n C 0 rfl dX1_markOfPen_10 rfl ?_
  refine q_get tO_X1 C i_X1 rfl rfl (by decide) rfl f_33 dX1_markOfPen_11 ?_
  refine q_iadd C dX1_markOfPen_14 ?_
  exact q_iret C dX1_markOfPen_15 (sat_some hz)
theorem hdX1_markOfCob : yX1_markOfCob.cls = RX1 ∧ yX1_markOfCob.cls ≠ "java/lang/invoke/MethodHandle" ∧ yX1_markOfCob.cls ≠ "java/lang/invoke/VarHandle" ∧ (parseMethodDescriptor yX1_markOfCob.desc).map (fun d => d.parameters.length) = some 0 := by decide +kernel
set_option maxHeartbeats 4000000 in
set_option maxRecDepth 100000 in
theorem c_X1_markOfCob {l : Launch} {D : va_G} {ad : Nat → Nat} {cI cII cR : ClassId} (μ : Mm) {v : Int × Mm} (hz : f_X1_markOfCob μ = some v) : CT l D vwCl (tyC cI cII cR) 194 ad (EC ad cI cII cR) yX1_markOfCob wsX1_markOfCob ({ frames := 3, cells := 0, slots := 0, locals := 61 } : Room) (some .int) [Vr 178] μ v := by
  refine CT_of [(0, Vr 178)] (by decide) rfl rfl (Nat.le_of_ble_eq_true rfl) rfl (fun G C => ?_)
  have hz := sat_of hz
  unfold f_X1_markOfCob at hz
  refine q_aload_n C 0 rfl dX1_markOfCob_0 rfl ?_
  refine q_bipush C dX1_markOfCob_1 ⟨rfl, by decide, by decide⟩ ?_
  obtain ⟨z2, hz2, hz⟩ := sat_bind hz
  refine q_callVv C [Vi 24] [] (c_X1_begin μ 24 hz2) tO_X1 rfl gX1_markOfCob_X1_begin rfl ⟨rfl, rfl⟩ hdX1_begin ⟨by decide, by decide⟩ rfl (by decide) dX1_markOfCob_3 rfl (fun _ => ?_)
  refine q_iconst C dX1_markOfCob_6 ⟨by decide, by decide⟩ ?_
  refine q_aload_n C 0 rfl dX1_markOfCob_7 rfl ?_
  obtain ⟨z4, hz4, hz⟩ := sat_bind hz
  refine q_callVi C [] [Vi 2] (c_X1_markOfPen z2 hz4) tO_X1 rfl gX1_markOfCob_X1_markOfPen rfl ⟨rfl, rfl⟩ hdX1_markOfPen ⟨by decide, by decide⟩ rfl (by decide) dX1_markOfCob_8 rfl (fun _ _ => ?_)
  refine q_imul C dX1_markOfCob_11 ?_
  exact q_iret C dX1_markOfCob_12 (sat_some hz)
theorem hdX1_markOfCygnet : yX1_markOfCygnet.cls = RX1 ∧ yX1_markOfCygnet.cls ≠ "java/lang/invoke/MethodHandle" ∧ yX1_markOfCygnet.cls ≠ "java/lang/invoke/VarHandle" ∧ (parseMethodDescriptor yX1_markOfCygnet.desc).map (fun d => d.parameters.length) = some 0 := by decide +kernel
set_option maxHeartbeats 4000000 in
set_option maxRecDepth 100000 in
theorem c_X1_markOfCygnet {l : Launch} {D : va_G} {ad : Nat → Nat} {cI cII cR : ClassId} (μ : Mm) {v : Int × Mm} (hz : f_X1_markOfCygnet μ = some v) : CT l D vwCl (tyC cI cII cR) 194 ad (EC ad cI cII cR) yX1_markOfCygnet wsX1_markOfCygnet ({ frames := 3, cells := 0, slots := 0, locals := 61 } : Room) (some .int) [Vr 178] μ v := by
  refine CT_of [(0, Vr 178)] (by decide) rfl rfl (Nat.le_of_ble_eq_true rfl) rfl (fun G C => ?_)
  have hz := sat_of hz
  unfold f_X1_markOfCygnet at hz
  refine q_aload_n C 0 rfl dX1_markOfCygnet_0 rfl ?_
  refine q_bipush C dX1_markOfCygnet_1 ⟨rfl, by decide, by decide⟩ ?_
  obtain ⟨z2, hz2, hz⟩ := sat_bind hz
  refine q_callVv C [Vi 22] [] (c_X1_begin μ 22 hz2) tO_X1 rfl gX1_markOfCygnet_X1_begin rfl ⟨rfl, rfl⟩ hdX1_begin ⟨by decide, by decide⟩ rfl (by decide) dX1_markOfCygnet_3 rfl (fun _ => ?_)
  refine q_aload_n C 0 rfl dX1_markOfCygnet_6 rfl ?_
  obtain ⟨z4, hz4, hz⟩ := sat_bind hz
  refine q_callVi C [] [] (c_X1_markOfPen z2 hz4) tO_X1 rfl gX1_markOfCygnet_X1_markOfPen rfl ⟨rfl, rfl⟩ hdX1_markOfPen ⟨by decide, by decide⟩ rfl (by decide) dX1_markOfCygnet_7 rfl (fun _ _ => ?_)
  refine q_sipush C dX1_markOfCygnet_10 ⟨rfl, by decide, by decide⟩ ?_
  refine q_isub C dX1_markOfCygnet_13 ?_
  exact q_iret C dX1_markOfCygnet_14 (sat_some hz)
theorem hdX1_sizeOfPen : yX1_sizeOfPen.cls = RX1 ∧ yX1_sizeOfPen.cls ≠ "java/lang/invoke/MethodHandle" ∧ yX1_sizeOfPen.cls ≠ "java/lang/invoke/VarHandle" ∧ (parseMethodDescriptor yX1_sizeOfPen.desc).map (fun d => d.parameters.length) = some 0 := by decide +kernel
set_option maxHeartbeats 4000000 in
set_option maxRecDepth 100000 in
theorem c_X1_sizeOfPen {l : Launch} {D : va_G} {ad : Nat → Nat} {cI cII cR : ClassId} (μ : Mm) {v : Int × Mm} (hz : f_X1_sizeOfPen μ = some v) : CT l D vwCl (tyC cI cII cR) 194 ad (EC ad cI cII cR) yX1_sizeOfPen wsX1_sizeOfPen ({ frames := 4, cells := 0, slots := 0, locals := 81 } : Room) (some .int) [Vr 178] μ v := by
  refine CT_of [(0, Vr 178)] (by decide) rfl rfl (Nat.le_of_ble_eq_true rfl) rfl (fun G C => ?_)
  have i_X1 : ∀ w ∈ u_ws RX1 TX1 6, w ∈ wsX1_sizeOfPen := by decide +kernel
  have f_27 : Cond.fieldLink (yX1_sizeOfPen).cls 27 "SwanDeeds$Asks" "kind" "I" ∈ wsX1_sizeOfPen := by decide +kernel
  have hz := sat_of hz
  unfold f_X1_sizeOfPen at hz
  refine q_aload_n C 0 rfl dX1_sizeOfPen_0 rfl ?_
  refine q_bipush C dX1_sizeOfPen_1 ⟨rfl, by decide, by decide⟩ ?_
  obtain ⟨z2, hz2, hz⟩ := sat_bind hz
  refine q_callVv C [Vi 11] [] (c_X1_begin μ 11 hz2) tO_X1 rfl gX1_sizeOfPen_X1_begin rfl ⟨rfl, rfl⟩ hdX1_begin ⟨by decide, by decide⟩ rfl (by decide) dX1_sizeOfPen_3 rfl (fun _ => ?_)
  refine q_aload_n C 0 rfl dX1_sizeOfPen_6 rfl ?_
  obtain ⟨z4, hz4, hz⟩ := sat_bind hz
  refine q_callVi C [] [] (c_X1_sizeOfAny z2 hz4) tO_X1 rfl gX1_sizeOfPen_X1_sizeOfAny rfl ⟨rfl, rfl⟩ hdX1_sizeOfAny ⟨by decide, by decide⟩ rfl (by decide) dX1_sizeOfPen_7 rfl (fun _ _ => ?_)
  refine q_istore_n C [(1, Vi (z4.1)), (0, Vr 178)] rfl (by decide) dX1_sizeOfPen_10 rfl ?_
  refine q_aload_n C 1 rfl dX1_sizeOfPen_11 rfl ?_
  refine q_get tO_X1 C i_X1 rfl rfl (by decide) rfl f_27 dX1_sizeOfPen_12 ?_
  refine sat_ite hz (fun c5 hz => ?_) (fun c5 hz => ?_)
  · have c5 : z4.2 33 2 = 2 := c5
    refine q_lookup C dX1_sizeOfPen_15 rfl (off := 25) (by rw [c5]; rfl) (by decide) ?_
    refine q_iload_n C 0 rfl dX1_sizeOfPen_40 rfl ?_
    refine q_aload_n C 1 rfl dX1_sizeOfPen_41 rfl ?_
    obtain ⟨z7, hz7, hz⟩ := sat_bind hz
    refine q_callVi C [] [Vi (z4.1)] (c_X1_markOfCob z4.2 hz7) tO_X1 rfl gX1_sizeOfPen_X1_markOfCob rfl ⟨rfl, rfl⟩ hdX1_markOfCob ⟨by decide, by decide⟩ rfl (by decide) dX1_sizeOfPen_42 rfl (fun _ _ => ?_)
    refine q_iadd C dX1_sizeOfPen_45 ?_
    exact q_iret C dX1_sizeOfPen_46 (sat_some hz)
  · have c5 : ¬ z4.2 33 2 = 2 := c5
    refine sat_ite hz (fun c8 hz => ?_) (fun c8 hz => ?_)
    · have c8 : z4.2 33 2 = 3 := c8
      refine q_lookup C dX1_sizeOfPen_15 rfl (off := 32) (by rw [c8]; rfl) (by decide) ?_
      refine q_iload_n C 0 rfl dX1_sizeOfPen_47 rfl ?_
      refine q_aload_n C 1 rfl dX1_sizeOfPen_48 rfl ?_
      obtain ⟨z10, hz10, hz⟩ := sat_bind hz
      refine q_callVi C [] [Vi (z4.1)] (c_X1_markOfCygnet z4.2 hz10) tO_X1 rfl gX1_sizeOfPen_X1_markOfCygnet rfl ⟨rfl, rfl⟩ hdX1_markOfCygnet ⟨by decide, by decide⟩ rfl (by decide) dX1_sizeOfPen_49 rfl (fun _ _ => ?_)
      refine q_iadd C dX1_sizeOfPen_52 ?_
      exact q_iret C dX1_sizeOfPen_53 (sat_some hz)
    · have c8 : ¬ z4.2 33 2 = 3 := c8
      refine q_lookup C dX1_sizeOfPen_15 rfl (off := 39) (by simp [Op.lookupswitch.offset, *]) (by decide) ?_
      refine q_iload_n C 0 rfl dX1_sizeOfPen_54 rfl ?_
      refine q_aload_n C 1 rfl dX1_sizeOfPen_55 rfl ?_
      obtain ⟨z12, hz12, hz⟩ := sat_bind hz
      refine q_callVi C [] [Vi (z4.1)] (c_X1_markOfPen z4.2 hz12) tO_X1 rfl gX1_sizeOfPen_X1_markOfPen rfl ⟨rfl, rfl⟩ hdX1_markOfPen ⟨by decide, by decide⟩ rfl (by decide) dX1_sizeOfPen_56 rfl (fun _ _ => ?_)
      refine q_iadd C dX1_sizeOfPen_59 ?_
      exact q_iret C dX1_sizeOfPen_60 (sat_some hz)
theorem hdX1_sizeOfCob : yX1_sizeOfCob.cls = RX1 ∧ yX1_sizeOfCob.cls ≠ "java/lang/invoke/MethodHandle" ∧ yX1_sizeOfCob.cls ≠ "java/lang/invoke/VarHandle" ∧ (parseMethodDescriptor yX1_sizeOfCob.desc).map (fun d => d.parameters.length) = some 0 := by decide +kernel
set_option maxHeartbeats 4000000 in
set_option maxRecDepth 100000 in
theorem c_X1_sizeOfCob {l : Launch} {D : va_G} {ad : Nat → Nat} {cI cII cR : ClassId} (μ : Mm) {v : Int × Mm} (hz : f_X1_sizeOfCob μ = some v) : CT l D vwCl (tyC cI cII cR) 194 ad (EC ad cI cII cR) yX1_sizeOfCob wsX1_sizeOfCob ({ frames := 5, cells := 0, slots := 0, locals := 102 } : Room) (some .int) [Vr 178] μ v := by
  refine CT_of [(0, Vr 178)] (by decide) rfl rfl (Nat.le_of_ble_eq_true rfl) rfl (fun G C => ?_)
  have hz := sat_of hz
  unfold f_X1_sizeOfCob at hz
  refine q_aload_n C 0 rfl dX1_sizeOfCob_0 rfl ?_
  refine q_bipush C dX1_sizeOfCob_1 ⟨rfl, by decide, by decide⟩ ?_
  obtain ⟨z2, hz2, hz⟩ := sat_bind hz
  refine q_callVv C [Vi 12] [] (c_X1_begin μ 12 hz2) tO_X1 rfl gX1_sizeOfCob_X1_begin rfl ⟨rfl, rfl⟩ hdX1_begin ⟨by decide, by decide⟩ rfl (by decide) dX1_sizeOfCob_3 rfl (fun _ => ?_)
  refine q_aload_n C 0 rfl dX1_sizeOfCob_6 rfl ?_
  obtain ⟨z4, hz4, hz⟩ := sat_bind hz
  refine q_callVi C [] [] (c_X1_sizeOfPen z2 hz4) tO_X1 rfl gX1_sizeOfCob_X1_sizeOfPen rfl ⟨rfl, rfl⟩ hdX1_sizeOfPen ⟨by decide, by decide⟩ rfl (by decide) dX1_sizeOfCob_7 rfl (fun _ _ => ?_)
  refine q_ineg C dX1_sizeOfCob_10 ?_
  exact q_iret C dX1_sizeOfCob_11 (sat_some hz)
theorem hdX1_sizeOfOld : yX1_sizeOfOld.cls = RX1 ∧ yX1_sizeOfOld.cls ≠ "java/lang/invoke/MethodHandle" ∧ yX1_sizeOfOld.cls ≠ "java/lang/invoke/VarHandle" ∧ (parseMethodDescriptor yX1_sizeOfOld.desc).map (fun d => d.parameters.length) = some 0 := by decide +kernel
set_option maxHeartbeats 4000000 in
set_option maxRecDepth 100000 in
theorem c_X1_sizeOfOld {l : Launch} {D : va_G} {ad : Nat → Nat} {cI cII cR : ClassId} (μ : Mm) {v : Int × Mm} (hz : f_X1_sizeOfOld μ = some v) : CT l D vwCl (tyC cI cII cR) 194 ad (EC ad cI cII cR) yX1_sizeOfOld wsX1_sizeOfOld ({ frames := 2, cells := 0, slots := 0, locals := 41 } : Room) (some .int) [Vr 178] μ v := by
  refine CT_of [(0, Vr 178)] (by decide) rfl rfl (Nat.le_of_ble_eq_true rfl) rfl (fun G C => ?_)
  have hz := sat_of hz
  unfold f_X1_sizeOfOld at hz
  refine q_aload_n C 0 rfl dX1_sizeOfOld_0 rfl ?_
  refine q_bipush C dX1_sizeOfOld_1 ⟨rfl, by decide, by decide⟩ ?_
  obtain ⟨z2, hz2, hz⟩ := sat_bind hz
  refine q_callVv C [Vi 13] [] (c_X1_begin μ 13 hz2) tO_X1 rfl gX1_sizeOfOld_X1_begin rfl ⟨rfl, rfl⟩ hdX1_begin ⟨by decide, by decide⟩ rfl (by decide) dX1_sizeOfOld_3 rfl (fun _ => ?_)
  refine q_aload_n C 0 rfl dX1_sizeOfOld_6 rfl ?_
  obtain ⟨z4, hz4, hz⟩ := sat_bind hz
  refine q_callVi C [] [] (c_X1_sizeOfAny z2 hz4) tO_X1 rfl gX1_sizeOfOld_X1_sizeOfAny rfl ⟨rfl, rfl⟩ hdX1_sizeOfAny ⟨by decide, by decide⟩ rfl (by decide) dX1_sizeOfOld_7 rfl (fun _ _ => ?_)
  refine q_bipush C dX1_sizeOfOld_10 ⟨rfl, by decide, by decide⟩ ?_
  refine q_isub C dX1_sizeOfOld_12 ?_
  exact q_iret C dX1_sizeOfOld_13 (sat_some hz)
theorem hdX1_sizeOfBlack : yX1_sizeOfBlack.cls = RX1 ∧ yX1_sizeOfBlack.cls ≠ "java/lang/invoke/MethodHandle" ∧ yX1_sizeOfBlack.cls ≠ "java/lang/invoke/VarHandle" ∧ (parseMethodDescriptor yX1_sizeOfBlack.desc).map (fun d => d.parameters.length) = some 0 := by decide +kernel
set_option maxHeartbeats 4000000 in
set_option maxRecDepth 100000 in
theorem c_X1_sizeOfBlack {l : Launch} {D : va_G} {ad : Nat → Nat} {cI cII cR : ClassId} (μ : Mm) {v : Int × Mm} (hz : f_X1_sizeOfBlack μ = some v) : CT l D vwCl (tyC cI cII cR) 194 ad (EC ad cI cII cR) yX1_sizeOfBlack wsX1_sizeOfBlack ({ frames := 3, cells := 0, slots := 0, locals := 61 } : Room) (some .int) [Vr 178] μ v := by
  refine CT_of [(0, Vr 178)] (by decide) rfl rfl (Nat.le_of_ble_eq_true rfl) rfl (fun G C => ?_)
  have hz := sat_of hz
  unfold f_X1_sizeOfBlack at hz
  refine q_aload_n C 0 rfl dX1_sizeOfBlack_0 rfl ?_
  refine q_bipush C dX1_sizeOfBlack_1 ⟨rfl, by decide, by decide⟩ ?_
  obtain ⟨z2, hz2, hz⟩ := sat_bind hz
  refine q_callVv C [Vi 14] [] (c_X1_begin μ 14 hz2) tO_X1 rfl gX1_sizeOfBlack_X1_begin rfl ⟨rfl, rfl⟩ hdX1_begin ⟨by decide, by decide⟩ rfl (by decide) dX1_sizeOfBlack_3 rfl (fun _ => ?_)
  refine q_iconst C dX1_sizeOfBlack_6 ⟨by decide, by decide⟩ ?_
  refine q_aload_n C 0 rfl dX1_sizeOfBlack_7 rfl ?_
  obtain ⟨z4, hz4, hz⟩ := sat_bind hz
  refine q_callVi C [] [Vi 2] (c_X1_sizeOfOld z2 hz4) tO_X1 rfl gX1_sizeOfBlack_X1_sizeOfOld rfl ⟨rfl, rfl⟩ hdX1_sizeOfOld ⟨by decide, by decide⟩ rfl (by decide) dX1_sizeOfBlack_8 rfl (fun _ _ => ?_)
  refine q_imul C dX1_sizeOfBlack_11 ?_
  exact q_iret C dX1_sizeOfBlack_12 (sat_some hz)
theorem hdX1_markOfOld : yX1_markOfOld.cls = RX1 ∧ yX1_markOfOld.cls ≠ "java/lang/invoke/MethodHandle" ∧ yX1_markOfOld.cls ≠ "java/lang/invoke/VarHandle" ∧ (parseMethodDescriptor yX1_markOfOld.desc).map (fun d => d.parameters.length) = some 0 := by decide +kernel
set_option maxHeartbeats 4000000 in
set_option maxRecDepth 100000 in
theorem c_X1_markOfOld {l : Launch} {D : va_G} {ad : Nat → Nat} {cI cII cR : ClassId} (μ : Mm) {v : Int × Mm} (hz : f_X1_markOfOld μ = some v) : CT l D vwCl (tyC cI cII cR) 194 ad (EC ad cI cII cR) yX1_markOfOld wsX1_markOfOld ({ frames := 4, cells := 0, slots := 0, locals := 81 } : Room) (some .int) [Vr 178] μ v := by
  refine CT_of [(0, Vr 178)] (by decide) rfl rfl (Nat.le_of_ble_eq_true rfl) rfl (fun G C => ?_)
  have i_X1 : ∀ w ∈ u_ws RX1 TX1 6, w ∈ wsX1_markOfOld := by decide +kernel
  have f_27 : Cond.fieldLink (yX1_markOfOld).cls 27 "SwanDeeds$Asks" "kind" "I" ∈ wsX1_markOfOld := by decide +kernel
  have hz := sat_of hz
  unfold f_X1_markOfOld at hz
  refine q_aload_n C 0 rfl dX1_markOfOld_0 rfl ?_
  refine q_bipush C dX1_markOfOld_1 ⟨rfl, by decide, by decide⟩ ?_
  obtain ⟨z2, hz2, hz⟩ := sat_bind hz
  refine q_callVv C [Vi 23] [] (c_X1_begin μ 23 hz2) tO_X1 rfl gX1_markOfOld_X1_begin rfl ⟨rfl, rfl⟩ hdX1_begin ⟨by decide, by decide⟩ rfl (by decide) dX1_markOfOld_3 rfl (fun _ => ?_)
  refine q_aload_n C 0 rfl dX1_markOfOld_6 rfl ?_
  obtain ⟨z4, hz4, hz⟩ := sat_bind hz
  refine q_callVi C [] [] (c_X1_markOfAny z2 hz4) tO_X1 rfl gX1_markOfOld_X1_markOfAny rfl ⟨rfl, rfl⟩ hdX1_markOfAny ⟨by decide, by decide⟩ rfl (by decide) dX1_markOfOld_7 rfl (fun _ _ => ?_)
  refine q_istore_n C [(1, Vi (z4.1)), (0, Vr 178)] rfl (by decide) dX1_markOfOld_10 rfl ?_
  refine q_iload_n C 0 rfl dX1_markOfOld_11 rfl ?_
  refine q_aload_n C 1 rfl dX1_markOfOld_12 rfl ?_
  refine q_get tO_X1 C i_X1 rfl rfl (by decide) rfl f_27 dX1_markOfOld_13 ?_
  refine q_iconst C dX1_markOfOld_16 ⟨by decide, by decide⟩ ?_
  refine q_icmp_ne C dX1_markOfOld_17 (by decide) (fun c5 => ?_) (fun c5 => ?_)
  · have hz := sat_f hz c5
    refine q_aload_n C 1 rfl dX1_markOfOld_27 rfl ?_
    obtain ⟨z7, hz7, hz⟩ := sat_bind hz
    refine q_callVi C [] [Vi (z4.1)] (c_X1_sizeOfOld z4.2 hz7) tO_X1 rfl gX1_markOfOld_X1_sizeOfOld rfl ⟨rfl, rfl⟩ hdX1_sizeOfOld ⟨by decide, by decide⟩ rfl (by decide) dX1_markOfOld_28 rfl (fun _ _ => ?_)
    refine q_isub C dX1_markOfOld_31 ?_
    exact q_iret C dX1_markOfOld_32 (sat_some hz)
  · have hz := sat_t hz c5
    refine q_aload_n C 1 rfl dX1_markOfOld_20 rfl ?_
    obtain ⟨z9, hz9, hz⟩ := sat_bind hz
    refine q_callVi C [] [Vi (z4.1)] (c_X1_sizeOfBlack z4.2 hz9) tO_X1 rfl gX1_markOfOld_X1_sizeOfBlack rfl ⟨rfl, rfl⟩ hdX1_sizeOfBlack ⟨by decide, by decide⟩ rfl (by decide) dX1_markOfOld_21 rfl (fun _ _ => ?_)
    refine q_goto C dX1_markOfOld_24 (by decide) ?_
    refine q_isub C dX1_markOfOld_31 ?_
    exact q_iret C dX1_markOfOld_32 (sat_some hz)
theorem hdX5_ask : yX5_ask.cls = RX5 ∧ yX5_ask.cls ≠ "java/lang/invoke/MethodHandle" ∧ yX5_ask.cls ≠ "java/lang/invoke/VarHandle" ∧ (parseMethodDescriptor yX5_ask.desc).map (fun d => d.parameters.length) = some 2 := by decide +kernel
set_option maxHeartbeats 4000000 in
set_option maxRecDepth 100000 in
theorem c_X5_ask {l : Launch} {D : va_G} {ad : Nat → Nat} {cI cII cR : ClassId} (μ : Mm) (p1 p2 : Int) {v : Int × Mm} (hz : f_X5_ask μ p1 p2 = some v) : CT l D vwCl (tyC cI cII cR) 194 ad (EC ad cI cII cR) yX5_ask wsX5_ask ({ frames := 6, cells := 0, slots := 0, locals := 122 } : Room) (some .int) [Vr 174, Vi p1, Vi p2] μ v := by
  refine CT_of [(0, Vr 174), (1, Vi p1), (2, Vi p2)] (by decide) rfl rfl (Nat.le_of_ble_eq_true rfl) rfl (fun G C => ?_)
  have i_X2 : ∀ w ∈ u_ws RX2 TX2 11, w ∈ wsX5_ask := by decide +kernel
  have i_X5 : ∀ w ∈ u_ws RX5 TX5 9, w ∈ wsX5_ask := by decide +kernel
  have f_33 : Cond.fieldLink (yX5_ask).cls 33 "SwanDeeds" "asks" "LSwanDeeds$Asks;" ∈ wsX5_ask := by decide +kernel
  have f_40 : Cond.fieldLink (yX5_ask).cls 40 "SwanDeeds" "now" "LSwanDeeds$River;" ∈ wsX5_ask := by decide +kernel
  have f_266 : Cond.fieldLink (yX5_ask).cls 266 "SwanDeeds$River" "kinds" "[I" ∈ wsX5_ask := by decide +kernel
  have hz := sat_of hz
  unfold f_X5_ask at hz
  refine q_aload_n C 0 rfl dX5_ask_0 rfl ?_
  refine q_iload_n C 1 rfl dX5_ask_1 rfl ?_
  refine q_callVz C [Vi p1] [] (c_X5_isSwan μ p1) tO_X5 rfl gX5_ask_X5_isSwan rfl ⟨rfl, rfl⟩ hdX5_isSwan ⟨by decide, by decide⟩ rfl (by decide) dX5_ask_2 rfl (fun hb1 _ => ?_)
  refine q_if_eq C dX5_ask_5 (by decide) (fun c2 => ?_) (fun c2 => ?_)
  · have hz := sat_t hz c2
    refine q_ldc (v := (-1000001)) (x := (-1000001)) C (by decide +kernel) dX5_ask_17 ⟨by decide +kernel, by decide, by decide⟩ ?_
    exact q_iret C dX5_ask_19 (sat_some hz)
  · have hz := sat_f hz c2
    refine q_iload_n C 2 rfl dX5_ask_8 rfl ?_
    refine q_iconst C dX5_ask_9 ⟨by decide, by decide⟩ ?_
    refine q_iconst C dX5_ask_10 ⟨by decide, by decide⟩ ?_
    refine q_callSz C [Vi p2, Vi 0, Vi 1] [] (c_X5_within μ p2 0 1) gX5_ask_X5_within rfl ⟨rfl, rfl⟩ hdX5_within ⟨by decide, by decide⟩ rfl (by decide) dX5_ask_11 rfl (fun hb3 _ => ?_)
    refine q_if_ne C dX5_ask_14 (by decide) (fun c4 => ?_) (fun c4 => ?_)
    · have hz := sat_f hz c4
      refine q_aload_n C 0 rfl dX5_ask_20 rfl ?_
      refine q_getR tO_X5 C i_X5 rfl rfl (by decide) rfl f_33 dX5_ask_21 ?_
      refine q_aload_n C 0 rfl dX5_ask_24 rfl ?_
      refine q_getR tO_X5 C i_X5 rfl rfl (by decide) rfl f_40 dX5_ask_25 ?_
      refine q_iload_n C 1 rfl dX5_ask_28 rfl ?_
      obtain ⟨z6, hz6, hz⟩ := sat_bind hz
      refine q_callVv C [Vr (6 * 0), Vi p1] [] (c_X1_ready μ 0 (by decide) p1 hz6) tO_X1 rfl gX5_ask_X1_ready rfl ⟨rfl, rfl⟩ hdX1_ready ⟨by decide, by decide⟩ rfl (by decide) dX5_ask_29 rfl (fun _ => ?_)
      refine q_iload_n C 2 rfl dX5_ask_32 rfl ?_
      obtain ⟨v7, hv7, hz⟩ := sat_bnd hz
      have Jv7 : G z6 41 [(0, Vr 174), (1, Vi p1)] [Vi v7] := by
        refine q_istore_n C [(3, Vi v7), (0, Vr 174), (1, Vi p1)] rfl (by decide) dX5_ask_41 rfl ?_
        refine q_aload_n C 1 rfl dX5_ask_42 rfl ?_
        refine q_getR tO_X5 C i_X5 rfl rfl (by decide) rfl f_40 dX5_ask_43 ?_
        refine q_getR (tO_X2 (by decide)) C i_X2 rfl rfl (by decide) rfl f_266 dX5_ask_46 ?_
        refine q_iload_n C 2 rfl dX5_ask_49 rfl ?_
        obtain ⟨c8, hz⟩ := sat_chk hz
        refine q_iald (tA_kinds (by decide)) C 0 rfl c8 dX5_ask_50 ?_
        refine sat_ite hz (fun c9 hz => ?_) (fun c9 hz => ?_)
        · have c9 : z6 0 (26 + p1) = 2 := c9
          refine q_tab_in C dX5_ask_51 (by omega) (by omega) (off := 29) (by rw [c9]; rfl) (by decide) ?_
          refine q_iload_n C 0 rfl dX5_ask_80 rfl ?_
          refine q_if_eq C dX5_ask_81 (by decide) (fun c10 => ?_) (fun c10 => ?_)
          · have hz := sat_t hz c10
            refine q_aload_n C 1 rfl dX5_ask_94 rfl ?_
            refine q_getR tO_X5 C i_X5 rfl rfl (by decide) rfl f_33 dX5_ask_95 ?_
            obtain ⟨z12, hz12, hz⟩ := sat_bind hz
            refine q_callVi C [] [] (c_X1_markOfCob z6 hz12) tO_X1 rfl gX5_ask_X1_markOfCob rfl ⟨rfl, rfl⟩ hdX1_markOfCob ⟨by decide, by decide⟩ rfl (by decide) dX5_ask_98 rfl (fun _ _ => ?_)
            exact q_iret C dX5_ask_101 (sat_some hz)
          · have hz := sat_f hz c10
            refine q_aload_n C 1 rfl dX5_ask_84 rfl ?_
            refine q_getR tO_X5 C i_X5 rfl rfl (by decide) rfl f_33 dX5_ask_85 ?_
            obtain ⟨z14, hz14, hz⟩ := sat_bind hz
            refine q_callVi C [] [] (c_X1_sizeOfCob z6 hz14) tO_X1 rfl gX5_ask_X1_sizeOfCob rfl ⟨rfl, rfl⟩ hdX1_sizeOfCob ⟨by decide, by decide⟩ rfl (by decide) dX5_ask_88 rfl (fun _ _ => ?_)
            refine q_goto C dX5_ask_91 (by decide) ?_
            exact q_iret C dX5_ask_101 (sat_some hz)
        · have c9 : ¬ z6 0 (26 + p1) = 2 := c9
          refine sat_ite hz (fun c15 hz => ?_) (fun c15 hz => ?_)
          · have c15 : z6 0 (26 + p1) = 3 := c15
            refine q_tab_in C dX5_ask_51 (by omega) (by omega) (off := 51) (by rw [c15]; rfl) (by decide) ?_
            refine q_iload_n C 0 rfl dX5_ask_102 rfl ?_
            refine q_if_eq C dX5_ask_103 (by decide) (fun c16 => ?_) (fun c16 => ?_)
            · have hz := sat_t hz c16
              refine q_aload_n C 1 rfl dX5_ask_116 rfl ?_
              refine q_getR tO_X5 C i_X5 rfl rfl (by decide) rfl f_33 dX5_ask_117 ?_
              obtain ⟨z18, hz18, hz⟩ := sat_bind hz
              refine q_callVi C [] [] (c_X1_markOfCygnet z6 hz18) tO_X1 rfl gX5_ask_X1_markOfCygnet rfl ⟨rfl, rfl⟩ hdX1_markOfCygnet ⟨by decide, by decide⟩ rfl (by decide) dX5_ask_120 rfl (fun _ _ => ?_)
              exact q_iret C dX5_ask_123 (sat_some hz)
            · have hz := sat_f hz c16
              refine q_aload_n C 1 rfl dX5_ask_106 rfl ?_
              refine q_getR tO_X5 C i_X5 rfl rfl (by decide) rfl f_33 dX5_ask_107 ?_
              obtain ⟨z20, hz20, hz⟩ := sat_bind hz
              refine q_callVi C [] [] (c_X1_sizeOfPen z6 hz20) tO_X1 rfl gX5_ask_X1_sizeOfPen rfl ⟨rfl, rfl⟩ hdX1_sizeOfPen ⟨by decide, by decide⟩ rfl (by decide) dX5_ask_110 rfl (fun _ _ => ?_)
              refine q_goto C dX5_ask_113 (by decide) ?_
              exact q_iret C dX5_ask_123 (sat_some hz)
          · have c15 : ¬ z6 0 (26 + p1) = 3 := c15
            refine sat_ite hz (fun c21 hz => ?_) (fun c21 hz => ?_)
            · have c21 : z6 0 (26 + p1) = 4 := c21
              refine q_tab_in C dX5_ask_51 (by omega) (by omega) (off := 73) (by rw [c21]; rfl) (by decide) ?_
              refine q_iload_n C 0 rfl dX5_ask_124 rfl ?_
              refine q_if_eq C dX5_ask_125 (by decide) (fun c22 => ?_) (fun c22 => ?_)
              · have hz := sat_t hz c22
                refine q_aload_n C 1 rfl dX5_ask_138 rfl ?_
                refine q_getR tO_X5 C i_X5 rfl rfl (by decide) rfl f_33 dX5_ask_139 ?_
                obtain ⟨z24, hz24, hz⟩ := sat_bind hz
                refine q_callVi C [] [] (c_X1_markOfOld z6 hz24) tO_X1 rfl gX5_ask_X1_markOfOld rfl ⟨rfl, rfl⟩ hdX1_markOfOld ⟨by decide, by decide⟩ rfl (by decide) dX5_ask_142 rfl (fun _ _ => ?_)
                exact q_iret C dX5_ask_145 (sat_some hz)
              · have hz := sat_f hz c22
                refine q_aload_n C 1 rfl dX5_ask_128 rfl ?_
                refine q_getR tO_X5 C i_X5 rfl rfl (by decide) rfl f_33 dX5_ask_129 ?_
                obtain ⟨z26, hz26, hz⟩ := sat_bind hz
                refine q_callVi C [] [] (c_X1_sizeOfOld z6 hz26) tO_X1 rfl gX5_ask_X1_sizeOfOld rfl ⟨rfl, rfl⟩ hdX1_sizeOfOld ⟨by decide, by decide⟩ rfl (by decide) dX5_ask_132 rfl (fun _ _ => ?_)
                refine q_goto C dX5_ask_135 (by decide) ?_
                exact q_iret C dX5_ask_145 (sat_some hz)
            · have c21 : ¬ z6 0 (26 + p1) = 4 := c21
              refine sat_ite hz (fun c27 hz => ?_) (fun c27 hz => ?_)
              · have c27 : z6 0 (26 + p1) = 5 := c27
                refine q_tab_in C dX5_ask_51 (by omega) (by omega) (off := 95) (by rw [c27]; rfl) (by decide) ?_
                refine q_iload_n C 0 rfl dX5_ask_146 rfl ?_
                refine q_if_eq C dX5_ask_147 (by decide) (fun c28 => ?_) (fun c28 => ?_)
                · have hz := sat_t hz c28
                  refine q_aload_n C 1 rfl dX5_ask_160 rfl ?_
                  refine q_getR tO_X5 C i_X5 rfl rfl (by decide) rfl f_33 dX5_ask_161 ?_
                  obtain ⟨z30, hz30, hz⟩ := sat_bind hz
                  refine q_callVi C [] [] (c_X1_markOfOld z6 hz30) tO_X1 rfl gX5_ask_X1_markOfOld rfl ⟨rfl, rfl⟩ hdX1_markOfOld ⟨by decide, by decide⟩ rfl (by decide) dX5_ask_164 rfl (fun _ _ => ?_)
                  exact q_iret C dX5_ask_167 (sat_some hz)
                · have hz := sat_f hz c28
                  refine q_aload_n C 1 rfl dX5_ask_150 rfl ?_
                  refine q_getR tO_X5 C i_X5 rfl rfl (by decide) rfl f_33 dX5_ask_151 ?_
                  obtain ⟨z32, hz32, hz⟩ := sat_bind hz
                  refine q_callVi C [] [] (c_X1_sizeOfBlack z6 hz32) tO_X1 rfl gX5_ask_X1_sizeOfBlack rfl ⟨rfl, rfl⟩ hdX1_sizeOfBlack ⟨by decide, by decide⟩ rfl (by decide) dX5_ask_154 rfl (fun _ _ => ?_)
                  refine q_goto C dX5_ask_157 (by decide) ?_
                  exact q_iret C dX5_ask_167 (sat_some hz)
              · have c27 : ¬ z6 0 (26 + p1) = 5 := c27
                refine q_tab_out C dX5_ask_51 (by omega) (by decide) ?_
                refine q_iload_n C 0 rfl dX5_ask_168 rfl ?_
                refine q_if_eq C dX5_ask_169 (by decide) (fun c33 => ?_) (fun c33 => ?_)
                · have hz := sat_t hz c33
                  refine q_aload_n C 1 rfl dX5_ask_182 rfl ?_
                  refine q_getR tO_X5 C i_X5 rfl rfl (by decide) rfl f_33 dX5_ask_183 ?_
                  obtain ⟨z35, hz35, hz⟩ := sat_bind hz
                  refine q_callVi C [] [] (c_X1_markOfPen z6 hz35) tO_X1 rfl gX5_ask_X1_markOfPen rfl ⟨rfl, rfl⟩ hdX1_markOfPen ⟨by decide, by decide⟩ rfl (by decide) dX5_ask_186 rfl (fun _ _ => ?_)
                  exact q_iret C dX5_ask_189 (sat_some hz)
                · have hz := sat_f hz c33
                  refine q_aload_n C 1 rfl dX5_ask_172 rfl ?_
                  refine q_getR tO_X5 C i_X5 rfl rfl (by decide) rfl f_33 dX5_ask_173 ?_
                  obtain ⟨z37, hz37, hz⟩ := sat_bind hz
                  refine q_callVi C [] [] (c_X1_sizeOfPen z6 hz37) tO_X1 rfl gX5_ask_X1_sizeOfPen rfl ⟨rfl, rfl⟩ hdX1_sizeOfPen ⟨by decide, by decide⟩ rfl (by decide) dX5_ask_176 rfl (fun _ _ => ?_)
                  refine q_goto C dX5_ask_179 (by decide) ?_
                  exact q_iret C dX5_ask_189 (sat_some hz)
      have hz := hv7.symm
      refine q_if_ne C dX5_ask_33 (by decide) (fun c38 => ?_) (fun c38 => ?_)
      · have hz := eq_f hz c38
        refine q_iconst C dX5_ask_40 ⟨by decide, by decide⟩ ?_
        have hz : _ = v7 := hz
        refine q_sub C [0, 1] [(0, Vr 174), (1, Vi p1)] rfl ?_
        subst hz
        exact Jv7
      · have hz := eq_t hz c38
        refine q_iconst C dX5_ask_36 ⟨by decide, by decide⟩ ?_
        refine q_goto C dX5_ask_37 (by decide) ?_
        have hz : _ = v7 := hz
        refine q_sub C [0, 1] [(0, Vr 174), (1, Vi p1)] rfl ?_
        subst hz
        exact Jv7
    · have hz := sat_t hz c4
      refine q_ldc (v := (-1000001)) (x := (-1000001)) C (by decide +kernel) dX5_ask_17 ⟨by decide +kernel, by decide, by decide⟩ ?_
      exact q_iret C dX5_ask_19 (sat_some hz)
theorem hdX5_trace : yX5_trace.cls = RX5 ∧ yX5_trace.cls ≠ "java/lang/invoke/MethodHandle" ∧ yX5_trace.cls ≠ "java/lang/invoke/VarHandle" ∧ (parseMethodDescriptor yX5_trace.desc).map (fun d => d.parameters.length) = some 1 := by decide +kernel
set_option maxHeartbeats 4000000 in
set_option maxRecDepth 100000 in
theorem c_X5_trace {l : Launch} {D : va_G} {ad : Nat → Nat} {cI cII cR : ClassId} (μ : Mm) (p1 : Int) {v : Int} (hz : f_X5_trace μ p1 = some v) : CT l D vwCl (tyC cI cII cR) 194 ad (EC ad cI cII cR) yX5_trace wsX5_trace ({ frames := 1, cells := 0, slots := 0, locals := 22 } : Room) (some .int) [Vr 174, Vi p1] μ (v, μ) := by
  refine CT_of [(0, Vr 174), (1, Vi p1)] (by decide) rfl rfl (Nat.le_of_ble_eq_true rfl) rfl (fun G C => ?_)
  have i_X1 : ∀ w ∈ u_ws RX1 TX1 6, w ∈ wsX5_trace := by decide +kernel
  have i_X5 : ∀ w ∈ u_ws RX5 TX5 9, w ∈ wsX5_trace := by decide +kernel
  have f_33 : Cond.fieldLink (yX5_trace).cls 33 "SwanDeeds" "asks" "LSwanDeeds$Asks;" ∈ wsX5_trace := by decide +kernel
  have f_301 : Cond.fieldLink (yX5_trace).cls 301 "SwanDeeds$Asks" "begun" "I" ∈ wsX5_trace := by decide +kernel
  have f_304 : Cond.fieldLink (yX5_trace).cls 304 "SwanDeeds$Asks" "bodies" "[I" ∈ wsX5_trace := by decide +kernel
  have hz := sat_of hz
  unfold f_X5_trace at hz
  refine q_iload_n C 1 rfl dX5_trace_0 rfl ?_
  refine q_iconst C dX5_trace_1 ⟨by decide, by decide⟩ ?_
  refine q_aload_n C 0 rfl dX5_trace_2 rfl ?_
  refine q_getR tO_X5 C i_X5 rfl rfl (by decide) rfl f_33 dX5_trace_3 ?_
  refine q_get tO_X1 C i_X1 rfl rfl (by decide) rfl f_301 dX5_trace_6 ?_
  refine q_iconst C dX5_trace_9 ⟨by decide, by decide⟩ ?_
  refine q_isub C dX5_trace_10 ?_
  refine q_callSz C [Vi p1, Vi 0, Vi (w3 ((μ 33 0) - 1))] [] (c_X5_within μ p1 0 (w3 ((μ 33 0) - 1))) gX5_trace_X5_within rfl ⟨rfl, rfl⟩ hdX5_within ⟨by decide, by decide⟩ rfl (by decide) dX5_trace_11 rfl (fun hb1 _ => ?_)
  refine q_if_eq C dX5_trace_14 (by decide) (fun c2 => ?_) (fun c2 => ?_)
  · have hz := sat_t hz c2
    refine q_ldc (v := (-1000000)) (x := (-1000000)) C (by decide +kernel) dX5_trace_29 ⟨by decide +kernel, by decide, by decide⟩ ?_
    exact q_iret C dX5_trace_31 (congrArg (fun q => (q, μ)) (sat_some hz))
  · have hz := sat_f hz c2
    refine q_aload_n C 0 rfl dX5_trace_17 rfl ?_
    refine q_getR tO_X5 C i_X5 rfl rfl (by decide) rfl f_33 dX5_trace_18 ?_
    refine q_getR tO_X1 C i_X1 rfl rfl (by decide) rfl f_304 dX5_trace_21 ?_
    refine q_iload_n C 1 rfl dX5_trace_24 rfl ?_
    obtain ⟨c3, hz⟩ := sat_chk hz
    refine q_iald (tA_bodies) C 0 rfl c3 dX5_trace_25 ?_
    refine q_goto C dX5_trace_26 (by decide) ?_
    exact q_iret C dX5_trace_31 (congrArg (fun q => (q, μ)) (sat_some hz))
theorem hdX3_countPresent : yX3_countPresent.cls = RX3 ∧ yX3_countPresent.cls ≠ "java/lang/invoke/MethodHandle" ∧ yX3_countPresent.cls ≠ "java/lang/invoke/VarHandle" ∧ (parseMethodDescriptor yX3_countPresent.desc).map (fun d => d.parameters.length) = some 0 := by decide +kernel
set_option maxHeartbeats 4000000 in
set_option maxRecDepth 100000 in
theorem c_X3_countPresent {l : Launch} {D : va_G} {ad : Nat → Nat} {cI cII cR : ClassId} (μ : Mm) {v : Int} (hz : f_X3_countPresent μ = some v) : CT l D vwCl (tyC cI cII cR) 194 ad (EC ad cI cII cR) yX3_countPresent wsX3_countPresent ({ frames := 1, cells := 0, slots := 0, locals := 21 } : Room) (some .int) [Vr 175] μ (v, μ) := by
  refine CT_of [(0, Vr 175)] (by decide) rfl rfl (Nat.le_of_ble_eq_true rfl) rfl (fun G C => ?_)
  have hz := sat_of hz
  unfold f_X3_countPresent at hz
  refine q_iconst C dX3_countPresent_0 ⟨by decide, by decide⟩ ?_
  refine q_istore_n C [(1, Vi 0), (0, Vr 175)] rfl (by decide) dX3_countPresent_1 rfl ?_
  refine q_iconst C dX3_countPresent_2 ⟨by decide, by decide⟩ ?_
  refine q_istore_n C [(2, Vi 0), (1, Vi 0), (0, Vr 175)] rfl (by decide) dX3_countPresent_3 rfl ?_
  refine q_sub C [2, 1, 0] [(0, Vr 175), (1, Vi 0), (2, Vi 0)] rfl ?_
  refine loop_go (fun x1 => G μ 4 [(0, Vr 175), (1, Vi (x1.1)), (2, Vi (x1.2))] []) (sat_bind2 hz) (fun h => h) (fun x1 hz => ?_)
  refine q_iload_n C 2 rfl dX3_countPresent_4 rfl ?_
  refine q_bipush C dX3_countPresent_5 ⟨rfl, by decide, by decide⟩ ?_
  refine q_icmp_ge C dX3_countPresent_7 (by decide) (fun c2 => ?_) (fun c2 => ?_)
  · have hz := sat_t hz c2
    have hz := sat_some hz
    refine q_sub C [1] [(1, Vi (x1.1))] rfl ?_
    refine q_iload_n C 0 rfl dX3_countPresent_27 rfl ?_
    exact q_iret C dX3_countPresent_28 (congrArg (fun q => (q, μ)) (sat_some hz))
  · have hz := sat_f hz c2
    refine q_aload_n C 0 rfl dX3_countPresent_10 rfl ?_
    refine q_iload_n C 2 rfl dX3_countPresent_11 rfl ?_
    obtain ⟨z4, hz4, hz⟩ := sat_bind hz
    refine q_callVz C [Vi (x1.2)] [] (c_X3_isMissing μ x1.2 hz4) tO_X3 rfl gX3_countPresent_X3_isMissing rfl ⟨rfl, rfl⟩ hdX3_isMissing ⟨by decide, by decide⟩ rfl (by decide) dX3_countPresent_12 rfl (fun hb3 _ => ?_)
    refine q_if_ne C dX3_countPresent_15 (by decide) (fun c5 => ?_) (fun c5 => ?_)
    · have hz := sat_f hz c5
      refine q_iinc C 2 rfl [(2, Vi (w3 (x1.2 + 1))), (0, Vr 175), (1, Vi (x1.1))] rfl (by decide) dX3_countPresent_21 ?_
      refine q_goto C dX3_countPresent_24 (by decide) ?_
      refine q_sub C [1, 2, 0] [(0, Vr 175), (1, Vi (x1.1)), (2, Vi (w3 (x1.2 + 1)))] rfl ?_
      exact sat_some hz
    · have hz := sat_t hz c5
      refine q_iinc C 1 rfl [(1, Vi (w3 (x1.1 + 1))), (0, Vr 175), (2, Vi (x1.2))] rfl (by decide) dX3_countPresent_18 ?_
      refine q_iinc C 2 rfl [(2, Vi (w3 (x1.2 + 1))), (1, Vi (w3 (x1.1 + 1))), (0, Vr 175)] rfl (by decide) dX3_countPresent_21 ?_
      refine q_goto C dX3_countPresent_24 (by decide) ?_
      refine q_sub C [2, 1, 0] [(0, Vr 175), (1, Vi (w3 (x1.1 + 1))), (2, Vi (w3 (x1.2 + 1)))] rfl ?_
      exact sat_some hz
theorem hdX2_crumbSum : yX2_crumbSum.cls = RX2 ∧ yX2_crumbSum.cls ≠ "java/lang/invoke/MethodHandle" ∧ yX2_crumbSum.cls ≠ "java/lang/invoke/VarHandle" ∧ (parseMethodDescriptor yX2_crumbSum.desc).map (fun d => d.parameters.length) = some 0 := by decide +kernel
set_option maxHeartbeats 4000000 in
set_option maxRecDepth 100000 in
theorem c_X2_crumbSum {l : Launch} {D : va_G} {ad : Nat → Nat} {cI cII cR : ClassId} (μ : Mm) (r : Nat) (hr : r < 29) {v : Int} (hz : f_X2_crumbSum μ r = some v) : CT l D vwCl (tyC cI cII cR) 194 ad (EC ad cI cII cR) yX2_crumbSum wsX2_crumbSum ({ frames := 0, cells := 0, slots := 0, locals := 0 } : Room) (some .int) [Vr (6 * r)] μ (v, μ) := by
  refine CT_of [(0, Vr (6 * r))] (by decide) rfl rfl (Nat.le_of_ble_eq_true rfl) rfl (fun G C => ?_)
  have i_X2 : ∀ w ∈ u_ws RX2 TX2 11, w ∈ wsX2_crumbSum := by decide +kernel
  have f_9 : Cond.fieldLink (yX2_crumbSum).cls 9 "SwanDeeds$River" "crumbs" "[I" ∈ wsX2_crumbSum := by decide +kernel
  have f_27 : Cond.fieldLink (yX2_crumbSum).cls 27 "SwanDeeds$River" "lawnCount" "I" ∈ wsX2_crumbSum := by decide +kernel
  have hz := sat_of hz
  unfold f_X2_crumbSum at hz
  refine q_iconst C dX2_crumbSum_0 ⟨by decide, by decide⟩ ?_
  refine q_istore_n C [(1, Vi 0), (0, Vr (6 * r))] rfl (by decide) dX2_crumbSum_1 rfl ?_
  refine q_iconst C dX2_crumbSum_2 ⟨by decide, by decide⟩ ?_
  refine q_istore_n C [(2, Vi 0), (1, Vi 0), (0, Vr (6 * r))] rfl (by decide) dX2_crumbSum_3 rfl ?_
  refine q_sub C [2, 1, 0] [(0, Vr (6 * r)), (1, Vi 0), (2, Vi 0)] rfl ?_
  refine loop_go (fun x1 => G μ 4 [(0, Vr (6 * r)), (1, Vi (x1.1)), (2, Vi (x1.2))] []) (sat_bind2 hz) (fun h => h) (fun x1 hz => ?_)
  refine q_iload_n C 2 rfl dX2_crumbSum_4 rfl ?_
  refine q_aload_n C 0 rfl dX2_crumbSum_5 rfl ?_
  refine q_get (tO_X2 hr) C i_X2 rfl rfl (by decide) rfl f_27 dX2_crumbSum_6 ?_
  refine q_icmp_ge C dX2_crumbSum_9 (by decide) (fun c2 => ?_) (fun c2 => ?_)
  · have hz := sat_t hz c2
    have hz := sat_some hz
    refine q_sub C [1] [(1, Vi (x1.1))] rfl ?_
    refine q_iload_n C 0 rfl dX2_crumbSum_27 rfl ?_
    exact q_iret C dX2_crumbSum_28 (congrArg (fun q => (q, μ)) (sat_some hz))
  · have hz := sat_f hz c2
    refine q_iload_n C 1 rfl dX2_crumbSum_12 rfl ?_
    refine q_aload_n C 0 rfl dX2_crumbSum_13 rfl ?_
    refine q_getR (tO_X2 hr) C i_X2 rfl rfl (by decide) rfl f_9 dX2_crumbSum_14 ?_
    refine q_iload_n C 2 rfl dX2_crumbSum_17 rfl ?_
    obtain ⟨c3, hz⟩ := sat_chk hz
    refine q_iald (tA_crumbs hr) C 0 rfl c3 dX2_crumbSum_18 ?_
    refine q_iadd C dX2_crumbSum_19 ?_
    obtain ⟨a4, ha4, hz⟩ := sat_bnd hz
    refine q_nmi ha4 ?_
    refine q_istore_n C [(1, Vi a4), (0, Vr (6 * r)), (2, Vi (x1.2))] rfl (by decide) dX2_crumbSum_20 rfl ?_
    refine q_iinc C 2 rfl [(2, Vi (w3 (x1.2 + 1))), (1, Vi a4), (0, Vr (6 * r))] rfl (by decide) dX2_crumbSum_21 ?_
    refine q_goto C dX2_crumbSum_24 (by decide) ?_
    refine q_sub C [2, 1, 0] [(0, Vr (6 * r)), (1, Vi a4), (2, Vi (w3 (x1.2 + 1)))] rfl ?_
    exact sat_some hz
theorem hdX5_count : yX5_count.cls = RX5 ∧ yX5_count.cls ≠ "java/lang/invoke/MethodHandle" ∧ yX5_count.cls ≠ "java/lang/invoke/VarHandle" ∧ (parseMethodDescriptor yX5_count.desc).map (fun d => d.parameters.length) = some 1 := by decide +kernel
set_option maxHeartbeats 4000000 in
set_option maxRecDepth 100000 in
theorem c_X5_count {l : Launch} {D : va_G} {ad : Nat → Nat} {cI cII cR : ClassId} (μ : Mm) (p1 : Int) {v : Int} (hz : f_X5_count μ p1 = some v) : CT l D vwCl (tyC cI cII cR) 194 ad (EC ad cI cII cR) yX5_count wsX5_count ({ frames := 2, cells := 0, slots := 0, locals := 43 } : Room) (some .int) [Vr 174, Vi p1] μ (v, μ) := by
  refine CT_of [(0, Vr 174), (1, Vi p1)] (by decide) rfl rfl (Nat.le_of_ble_eq_true rfl) rfl (fun G C => ?_)
  have i_X0 : ∀ w ∈ u_ws RX0 TX0 3, w ∈ wsX5_count := by decide +kernel
  have i_X2 : ∀ w ∈ u_ws RX2 TX2 11, w ∈ wsX5_count := by decide +kernel
  have i_X4 : ∀ w ∈ u_ws RX4 TX4 8, w ∈ wsX5_count := by decide +kernel
  have i_X5 : ∀ w ∈ u_ws RX5 TX5 9, w ∈ wsX5_count := by decide +kernel
  have f_10 : Cond.fieldLink (yX5_count).cls 10 "SwanDeeds" "rows" "LSwanDeeds$Rows;" ∈ wsX5_count := by decide +kernel
  have f_19 : Cond.fieldLink (yX5_count).cls 19 "SwanDeeds" "tape" "LSwanDeeds$Tape;" ∈ wsX5_count := by decide +kernel
  have f_26 : Cond.fieldLink (yX5_count).cls 26 "SwanDeeds" "acts" "LSwanDeeds$Acts;" ∈ wsX5_count := by decide +kernel
  have f_40 : Cond.fieldLink (yX5_count).cls 40 "SwanDeeds" "now" "LSwanDeeds$River;" ∈ wsX5_count := by decide +kernel
  have f_98 : Cond.fieldLink (yX5_count).cls 98 "SwanDeeds$Tape" "length" "I" ∈ wsX5_count := by decide +kernel
  have f_117 : Cond.fieldLink (yX5_count).cls 117 "SwanDeeds$River" "swanCount" "I" ∈ wsX5_count := by decide +kernel
  have f_126 : Cond.fieldLink (yX5_count).cls 126 "SwanDeeds$Acts" "size" "I" ∈ wsX5_count := by decide +kernel
  have f_134 : Cond.fieldLink (yX5_count).cls 134 "SwanDeeds$River" "day" "I" ∈ wsX5_count := by decide +kernel
  have f_161 : Cond.fieldLink (yX5_count).cls 161 "SwanDeeds$River" "weirBits" "I" ∈ wsX5_count := by decide +kernel
  have f_207 : Cond.fieldLink (yX5_count).cls 207 "SwanDeeds$River" "lawnCount" "I" ∈ wsX5_count := by decide +kernel
  have hz := sat_of hz
  unfold f_X5_count at hz
  refine q_iload_n C 1 rfl dX5_count_0 rfl ?_
  refine sat_ite hz (fun c1 hz => ?_) (fun c1 hz => ?_)
  · have c1 : p1 = 0 := c1
    refine q_tab_in C dX5_count_1 (by omega) (by omega) (off := 47) (by rw [c1]; rfl) (by decide) ?_
    refine q_aload_n C 0 rfl dX5_count_48 rfl ?_
    refine q_getR tO_X5 C i_X5 rfl rfl (by decide) rfl f_10 dX5_count_49 ?_
    obtain ⟨z3, hz3, hz⟩ := sat_bind hz
    refine q_callVi C [] [] (c_X3_countPresent μ hz3) tO_X3 rfl gX5_count_X3_countPresent rfl ⟨rfl, rfl⟩ hdX3_countPresent ⟨by decide, by decide⟩ rfl (by decide) dX5_count_52 rfl (fun _ _ => ?_)
    exact q_iret C dX5_count_55 (congrArg (fun q => (q, μ)) (sat_some hz))
  · have c1 : ¬ p1 = 0 := c1
    refine sat_ite hz (fun c4 hz => ?_) (fun c4 hz => ?_)
    · have c4 : p1 = 1 := c4
      refine q_tab_in C dX5_count_1 (by omega) (by omega) (off := 55) (by rw [c4]; rfl) (by decide) ?_
      refine q_aload_n C 0 rfl dX5_count_56 rfl ?_
      refine q_getR tO_X5 C i_X5 rfl rfl (by decide) rfl f_40 dX5_count_57 ?_
      refine q_get (tO_X2 (by decide)) C i_X2 rfl rfl (by decide) rfl f_207 dX5_count_60 ?_
      exact q_iret C dX5_count_63 (congrArg (fun q => (q, μ)) (sat_some hz))
    · have c4 : ¬ p1 = 1 := c4
      refine sat_ite hz (fun c5 hz => ?_) (fun c5 hz => ?_)
      · have c5 : p1 = 2 := c5
        refine q_tab_in C dX5_count_1 (by omega) (by omega) (off := 63) (by rw [c5]; rfl) (by decide) ?_
        refine q_aload_n C 0 rfl dX5_count_64 rfl ?_
        refine q_getR tO_X5 C i_X5 rfl rfl (by decide) rfl f_40 dX5_count_65 ?_
        refine q_get (tO_X2 (by decide)) C i_X2 rfl rfl (by decide) rfl f_117 dX5_count_68 ?_
        exact q_iret C dX5_count_71 (congrArg (fun q => (q, μ)) (sat_some hz))
      · have c5 : ¬ p1 = 2 := c5
        refine sat_ite hz (fun c6 hz => ?_) (fun c6 hz => ?_)
        · have c6 : p1 = 3 := c6
          refine q_tab_in C dX5_count_1 (by omega) (by omega) (off := 71) (by rw [c6]; rfl) (by decide) ?_
          refine q_aload_n C 0 rfl dX5_count_72 rfl ?_
          refine q_getR tO_X5 C i_X5 rfl rfl (by decide) rfl f_40 dX5_count_73 ?_
          refine q_get (tO_X2 (by decide)) C i_X2 rfl rfl (by decide) rfl f_134 dX5_count_76 ?_
          exact q_iret C dX5_count_79 (congrArg (fun q => (q, μ)) (sat_some hz))
        · have c6 : ¬ p1 = 3 := c6
          refine sat_ite hz (fun c7 hz => ?_) (fun c7 hz => ?_)
          · have c7 : p1 = 4 := c7
            refine q_tab_in C dX5_count_1 (by omega) (by omega) (off := 79) (by rw [c7]; rfl) (by decide) ?_
            refine q_aload_n C 0 rfl dX5_count_80 rfl ?_
            refine q_getR tO_X5 C i_X5 rfl rfl (by decide) rfl f_40 dX5_count_81 ?_
            obtain ⟨z9, hz9, hz⟩ := sat_bind hz
            refine q_callVi C [] [] (c_X2_crumbSum μ 0 (by decide) hz9) (tO_X2 (by decide)) rfl gX5_count_X2_crumbSum rfl ⟨rfl, rfl⟩ hdX2_crumbSum ⟨by decide, by decide⟩ rfl (by decide) dX5_count_84 rfl (fun _ _ => ?_)
            exact q_iret C dX5_count_87 (congrArg (fun q => (q, μ)) (sat_some hz))
          · have c7 : ¬ p1 = 4 := c7
            refine sat_ite hz (fun c10 hz => ?_) (fun c10 hz => ?_)
            · have c10 : p1 = 5 := c10
              refine q_tab_in C dX5_count_1 (by omega) (by omega) (off := 87) (by rw [c10]; rfl) (by decide) ?_
              refine q_aload_n C 0 rfl dX5_count_88 rfl ?_
              refine q_getR tO_X5 C i_X5 rfl rfl (by decide) rfl f_40 dX5_count_89 ?_
              refine q_get (tO_X2 (by decide)) C i_X2 rfl rfl (by decide) rfl f_161 dX5_count_92 ?_
              exact q_iret C dX5_count_95 (congrArg (fun q => (q, μ)) (sat_some hz))
            · have c10 : ¬ p1 = 5 := c10
              refine sat_ite hz (fun c11 hz => ?_) (fun c11 hz => ?_)
              · have c11 : p1 = 6 := c11
                refine q_tab_in C dX5_count_1 (by omega) (by omega) (off := 95) (by rw [c11]; rfl) (by decide) ?_
                refine q_aload_n C 0 rfl dX5_count_96 rfl ?_
                refine q_getR tO_X5 C i_X5 rfl rfl (by decide) rfl f_26 dX5_count_97 ?_
                refine q_get tO_X0 C i_X0 rfl rfl (by decide) rfl f_126 dX5_count_100 ?_
                exact q_iret C dX5_count_103 (congrArg (fun q => (q, μ)) (sat_some hz))
              · have c11 : ¬ p1 = 6 := c11
                refine sat_ite hz (fun c12 hz => ?_) (fun c12 hz => ?_)
                · have c12 : p1 = 7 := c12
                  refine q_tab_in C dX5_count_1 (by omega) (by omega) (off := 103) (by rw [c12]; rfl) (by decide) ?_
                  refine q_aload_n C 0 rfl dX5_count_104 rfl ?_
                  refine q_getR tO_X5 C i_X5 rfl rfl (by decide) rfl f_19 dX5_count_105 ?_
                  refine q_get tO_X4 C i_X4 rfl rfl (by decide) rfl f_98 dX5_count_108 ?_
                  exact q_iret C dX5_count_111 (congrArg (fun q => (q, μ)) (sat_some hz))
                · have c12 : ¬ p1 = 7 := c12
                  refine q_tab_out C dX5_count_1 (by omega) (by decide) ?_
                  refine q_ldc (v := (-1000001)) (x := (-1000001)) C (by decide +kernel) dX5_count_112 ⟨by decide +kernel, by decide, by decide⟩ ?_
                  exact q_iret C dX5_count_114 (congrArg (fun q => (q, μ)) (sat_some hz))
theorem hdX5_status : yX5_status.cls = RX5 ∧ yX5_status.cls ≠ "java/lang/invoke/MethodHandle" ∧ yX5_status.cls ≠ "java/lang/invoke/VarHandle" ∧ (parseMethodDescriptor yX5_status.desc).map (fun d => d.parameters.length) = some 0 := by decide +kernel
set_option maxHeartbeats 4000000 in
set_option maxRecDepth 100000 in
theorem c_X5_status {l : Launch} {D : va_G} {ad : Nat → Nat} {cI cII cR : ClassId} (μ : Mm) : CT l D vwCl (tyC cI cII cR) 194 ad (EC ad cI cII cR) yX5_status wsX5_status ({ frames := 0, cells := 0, slots := 0, locals := 0 } : Room) (some .int) [Vr 174] μ (f_X5_status μ, μ) := by
  refine CT_of [(0, Vr 174)] (by decide) rfl rfl (Nat.le_of_ble_eq_true rfl) rfl (fun G C => ?_)
  have i_X5 : ∀ w ∈ u_ws RX5 TX5 9, w ∈ wsX5_status := by decide +kernel
  have f_63 : Cond.fieldLink (yX5_status).cls 63 "SwanDeeds" "status" "I" ∈ wsX5_status := by decide +kernel
  generalize hz : f_X5_status μ = v at C
  unfold f_X5_status at hz
  refine q_aload_n C 0 rfl dX5_status_0 rfl ?_
  refine q_get tO_X5 C i_X5 rfl rfl (by decide) rfl f_63 dX5_status_1 ?_
  exact q_iret C dX5_status_4 (congrArg (fun q => (q, μ)) hz)
