theorem hdX6_in : yX6_in.cls ≠ "java/lang/invoke/MethodHandle" ∧ yX6_in.cls ≠ "java/lang/invoke/VarHandle" ∧ (parseMethodDescriptor yX6_in.desc).map (fun d => d.parameters.length) = some 3 := by decide +kernel
set_option maxHeartbeats 4000000 in
set_option maxRecDepth 100000 in
theorem c_X6_in {l : Launch} {D : va_G} {ad : Nat → Nat} {cI cZ : ClassId} (μ : Mm) (p0 p2 p4 : Int) : CT l D vwCl (tyM cI cZ) 10 ad (EM ad cI cZ) (fun _ => True) yX6_in wsX6_in ({ frames := 0, cells := 0, slots := 0, locals := 0 } : Room) (some .boolean) [Vl p0, Vl p2, Vl p4] μ (f_X6_in μ p0 p2 p4, μ) := by
  refine CT_of [(0, Vl p0), (2, Vl p2), (4, Vl p4)] stZ_t (by decide) rfl rfl (Nat.le_of_ble_eq_true rfl) rfl (fun G C => ?_)
  generalize hz : f_X6_in μ p0 p2 p4 = v at C
  unfold f_X6_in at hz
  refine q_lload_n C 0 rfl dX6_in_0 rfl ?_
  refine q_lload_n C 1 rfl dX6_in_1 rfl ?_
  refine q_lcmp C dX6_in_2 ?_
  refine q_if_lt C dX6_in_3 (tgt := 17) (by decide) (fun c1 => ?_) (fun c1 => ?_)
  · have hz := eq_t hz c1
    refine q_iconst C dX6_in_17 ⟨by decide, by decide⟩ ?_
    exact q_zret C (Or.inl rfl) dX6_in_18 (congrArg (fun q => (q, μ)) hz)
  · have hz := eq_f hz c1
    refine q_lload_n C 0 rfl dX6_in_6 rfl ?_
    refine q_lload C 2 rfl dX6_in_7 ?_
    refine q_lcmp C dX6_in_9 ?_
    refine q_if_gt C dX6_in_10 (tgt := 17) (by decide) (fun c2 => ?_) (fun c2 => ?_)
    · have hz := eq_t hz c2
      refine q_iconst C dX6_in_17 ⟨by decide, by decide⟩ ?_
      exact q_zret C (Or.inl rfl) dX6_in_18 (congrArg (fun q => (q, μ)) hz)
    · have hz := eq_f hz c2
      refine q_iconst C dX6_in_13 ⟨by decide, by decide⟩ ?_
      refine q_goto C dX6_in_14 (tgt := 18) (by decide) ?_
      exact q_zret C (Or.inr rfl) dX6_in_18 (congrArg (fun q => (q, μ)) hz)
theorem hdX6_has : yX6_has.cls ≠ "java/lang/invoke/MethodHandle" ∧ yX6_has.cls ≠ "java/lang/invoke/VarHandle" ∧ (parseMethodDescriptor yX6_has.desc).map (fun d => d.parameters.length) = some 2 := by decide +kernel
set_option maxHeartbeats 4000000 in
set_option maxRecDepth 100000 in
theorem c_X6_has {l : Launch} {D : va_G} {ad : Nat → Nat} {cI cZ : ClassId} (μ : Mm) (p0 p1 : Int) : CT l D vwCl (tyM cI cZ) 10 ad (EM ad cI cZ) (fun _ => True) yX6_has wsX6_has ({ frames := 0, cells := 0, slots := 0, locals := 0 } : Room) (some .boolean) [Vi p0, Vi p1] μ (f_X6_has μ p0 p1, μ) := by
  refine CT_of [(0, Vi p0), (1, Vi p1)] stZ_t (by decide) rfl rfl (Nat.le_of_ble_eq_true rfl) rfl (fun G C => ?_)
  generalize hz : f_X6_has μ p0 p1 = v at C
  unfold f_X6_has at hz
  refine q_iload_n C 0 rfl dX6_has_0 rfl ?_
  refine q_iload_n C 1 rfl dX6_has_1 rfl ?_
  refine q_ishr C dX6_has_2 ?_
  refine q_iconst C dX6_has_3 ⟨by decide, by decide⟩ ?_
  refine q_iand C dX6_has_4 ?_
  refine q_iconst C dX6_has_5 ⟨by decide, by decide⟩ ?_
  refine q_icmp_ne C dX6_has_6 (tgt := 13) (by decide) (fun c1 => ?_) (fun c1 => ?_)
  · have hz := eq_f hz c1
    refine q_iconst C dX6_has_13 ⟨by decide, by decide⟩ ?_
    exact q_zret C (Or.inl rfl) dX6_has_14 (congrArg (fun q => (q, μ)) hz)
  · have hz := eq_t hz c1
    refine q_iconst C dX6_has_9 ⟨by decide, by decide⟩ ?_
    refine q_goto C dX6_has_10 (tgt := 14) (by decide) ?_
    exact q_zret C (Or.inr rfl) dX6_has_14 (congrArg (fun q => (q, μ)) hz)
theorem hdX6_ones : yX6_ones.cls ≠ "java/lang/invoke/MethodHandle" ∧ yX6_ones.cls ≠ "java/lang/invoke/VarHandle" ∧ (parseMethodDescriptor yX6_ones.desc).map (fun d => d.parameters.length) = some 1 := by decide +kernel
set_option maxHeartbeats 4000000 in
set_option maxRecDepth 100000 in
theorem c_X6_ones {l : Launch} {D : va_G} {ad : Nat → Nat} {cI cZ : ClassId} (μ : Mm) (p0 : Int) {v : Int} (hz : f_X6_ones μ p0 = some v) : CT l D vwCl (tyM cI cZ) 10 ad (EM ad cI cZ) (fun _ => True) yX6_ones wsX6_ones ({ frames := 0, cells := 0, slots := 0, locals := 0 } : Room) (some .int) [Vi p0] μ (v, μ) := by
  refine CT_of [(0, Vi p0)] stZ_t (by decide) rfl rfl (Nat.le_of_ble_eq_true rfl) rfl (fun G C => ?_)
  have hz := sat_of hz
  unfold f_X6_ones at hz
  refine q_iconst C dX6_ones_0 ⟨by decide, by decide⟩ ?_
  refine q_istore_n C [(1, Vi 0), (0, Vi p0)] rfl (by decide) dX6_ones_1 rfl ?_
  refine q_iconst C dX6_ones_2 ⟨by decide, by decide⟩ ?_
  refine q_istore_n C [(2, Vi 0), (1, Vi 0), (0, Vi p0)] rfl (by decide) dX6_ones_3 rfl ?_
  refine q_sub C [2, 1, 0] [(0, Vi p0), (1, Vi 0), (2, Vi 0)] rfl ?_
  refine loop_go (fun x1 => G μ 4 [(0, Vi p0), (1, Vi (x1.1)), (2, Vi (x1.2))] []) (sat_bind2 hz) (fun h => h) (fun x1 hz => ?_)
  refine q_iload_n C 2 rfl dX6_ones_4 rfl ?_
  refine q_bipush C dX6_ones_5 ⟨rfl, by decide, by decide⟩ ?_
  refine q_icmp_ge C dX6_ones_7 (tgt := 24) (by decide) (fun c2 => ?_) (fun c2 => ?_)
  · have hz := sat_t hz c2
    have hz := sat_some hz
    refine q_sub C [1] [(1, Vi (x1.1))] rfl ?_
    refine q_iload_n C 0 rfl dX6_ones_24 rfl ?_
    exact q_iret C dX6_ones_25 (congrArg (fun q => (q, μ)) (sat_eq hz))
  · have hz := sat_f hz c2
    refine q_iload_n C 1 rfl dX6_ones_10 rfl ?_
    refine q_iload_n C 0 rfl dX6_ones_11 rfl ?_
    refine q_iload_n C 2 rfl dX6_ones_12 rfl ?_
    refine q_ishr C dX6_ones_13 ?_
    refine q_iconst C dX6_ones_14 ⟨by decide, by decide⟩ ?_
    refine q_iand C dX6_ones_15 ?_
    refine q_iadd C dX6_ones_16 ?_
    obtain ⟨a3, ha3, hz⟩ := sat_bnd hz
    refine q_nmi ha3 ?_
    refine q_istore_n C [(1, Vi a3), (0, Vi p0), (2, Vi (x1.2))] rfl (by decide) dX6_ones_17 rfl ?_
    refine q_iinc C 2 rfl [(2, Vi (w3 (x1.2 + 1))), (1, Vi a3), (0, Vi p0)] rfl (by decide) dX6_ones_18 ?_
    refine q_goto C dX6_ones_21 (tgt := 4) (by decide) ?_
    refine q_sub C [2, 1, 0] [(0, Vi p0), (1, Vi a3), (2, Vi (w3 (x1.2 + 1)))] rfl ?_
    have hz := sat_some hz
    exact hz
theorem hdX6_found : yX6_found.cls = RX6 ∧ yX6_found.cls ≠ "java/lang/invoke/MethodHandle" ∧ yX6_found.cls ≠ "java/lang/invoke/VarHandle" ∧ (parseMethodDescriptor yX6_found.desc).map (fun d => d.parameters.length) = some 1 := by decide +kernel
set_option maxHeartbeats 4000000 in
set_option maxRecDepth 100000 in
theorem c_X6_found {l : Launch} {D : va_G} {ad : Nat → Nat} {cI cZ : ClassId} (μ : Mm) (p1 : Int) {v : Int × Mm} (hz : f_X6_found μ p1 = some v) : CT l D vwCl (tyM cI cZ) 10 ad (EM ad cI cZ) (fun _ => True) yX6_found wsX6_found ({ frames := 0, cells := 0, slots := 0, locals := 0 } : Room) (some .int) [Vr 0, Vi p1] μ (v.1, v.2) := by
  refine CT_of [(0, Vr 0), (1, Vi p1)] stZ_t (by decide) rfl rfl (Nat.le_of_ble_eq_true rfl) rfl (fun G C => ?_)
  have i_X6 : ∀ w ∈ u_ws RX6 TX6 19, w ∈ wsX6_found := by decide +kernel
  have f_38 : Cond.fieldLink (yX6_found).cls 38 "SwanDeedsModel" "status" "I" ∈ wsX6_found := by decide +kernel
  have hz := sat_of hz
  unfold f_X6_found at hz
  refine q_aload_n C 0 rfl dX6_found_0 rfl ?_
  refine q_iload_n C 1 rfl dX6_found_1 rfl ?_
  obtain ⟨m1, hm1, hz⟩ := sat_bnd hz
  refine q_put tO_X6 C hm1 (i := 7) i_X6 tyX6_ok nmX6 rfl rfl (by decide) rfl f_38 dX6_found_2 ?_
  refine q_ldc (v := (-1000010)) (x := (-1000010)) C (by decide +kernel) dX6_found_5 ⟨by decide +kernel, by decide, by decide⟩ ?_
  refine q_iload_n C 1 rfl dX6_found_7 rfl ?_
  refine q_isub C dX6_found_8 ?_
  exact q_iret C dX6_found_9 (sat_eq hz)
theorem hdX6_good : yX6_good.cls = RX6 ∧ yX6_good.cls ≠ "java/lang/invoke/MethodHandle" ∧ yX6_good.cls ≠ "java/lang/invoke/VarHandle" ∧ (parseMethodDescriptor yX6_good.desc).map (fun d => d.parameters.length) = some 1 := by decide +kernel
set_option maxHeartbeats 4000000 in
set_option maxRecDepth 100000 in
theorem c_X6_good {l : Launch} {D : va_G} {ad : Nat → Nat} {cI cZ : ClassId} (μ : Mm) (p1 : Int) {v : Int × Mm} (hz : f_X6_good μ p1 = some v) : CT l D vwCl (tyM cI cZ) 10 ad (EM ad cI cZ) (fun _ => True) yX6_good wsX6_good ({ frames := 0, cells := 0, slots := 0, locals := 0 } : Room) (some .int) [Vr 0, Vi p1] μ (v.1, v.2) := by
  refine CT_of [(0, Vr 0), (1, Vi p1)] stZ_t (by decide) rfl rfl (Nat.le_of_ble_eq_true rfl) rfl (fun G C => ?_)
  have i_X6 : ∀ w ∈ u_ws RX6 TX6 19, w ∈ wsX6_good := by decide +kernel
  have f_38 : Cond.fieldLink (yX6_good).cls 38 "SwanDeedsModel" "status" "I" ∈ wsX6_good := by decide +kernel
  have hz := sat_of hz
  unfold f_X6_good at hz
  refine q_aload_n C 0 rfl dX6_good_0 rfl ?_
  refine q_iconst C dX6_good_1 ⟨by decide, by decide⟩ ?_
  obtain ⟨m1, hm1, hz⟩ := sat_bnd hz
  refine q_put tO_X6 C hm1 (i := 7) i_X6 tyX6_ok nmX6 rfl rfl (by decide) rfl f_38 dX6_good_2 ?_
  refine q_iload_n C 1 rfl dX6_good_5 rfl ?_
  exact q_iret C dX6_good_6 (sat_eq hz)
theorem hdX6_isRow : yX6_isRow.cls ≠ "java/lang/invoke/MethodHandle" ∧ yX6_isRow.cls ≠ "java/lang/invoke/VarHandle" ∧ (parseMethodDescriptor yX6_isRow.desc).map (fun d => d.parameters.length) = some 1 := by decide +kernel
set_option maxHeartbeats 4000000 in
set_option maxRecDepth 100000 in
theorem c_X6_isRow {l : Launch} {D : va_G} {ad : Nat → Nat} {cI cZ : ClassId} (μ : Mm) (p0 : Int) : CT l D vwCl (tyM cI cZ) 10 ad (EM ad cI cZ) (fun _ => True) yX6_isRow wsX6_isRow ({ frames := 1, cells := 0, slots := 0, locals := 25 } : Room) (some .boolean) [Vi p0] μ (f_X6_isRow μ p0, μ) := by
  refine CT_of [(0, Vi p0)] stZ_t (by decide) rfl rfl (Nat.le_of_ble_eq_true rfl) rfl (fun G C => ?_)
  generalize hz : f_X6_isRow μ p0 = v at C
  unfold f_X6_isRow at hz
  refine q_iload_n C 0 rfl dX6_isRow_0 rfl ?_
  refine q_i2l C dX6_isRow_1 ?_
  refine q_lconst (x := 0) C dX6_isRow_2 ⟨rfl, by decide, by decide⟩ ?_
  refine q_ldc2 (v := 7) (x := 7) C (by decide +kernel) dX6_isRow_3 ⟨by decide +kernel, by decide, by decide⟩ ?_
  refine q_callSz stZ_t C [Vl p0, Vl 0, Vl 7] [] (c_X6_in μ p0 0 7) gX6_isRow_X6_in rfl ⟨rfl, rfl⟩ hdX6_in ⟨by decide, by decide⟩ rfl (Nat.le_of_ble_eq_true rfl) dX6_isRow_6 rfl (fun hb1 _ => ?_)
  exact q_zret C (hb1) dX6_isRow_9 (congrArg (fun q => (q, μ)) hz)
theorem hdX6_row : yX6_row.cls = RX6 ∧ yX6_row.cls ≠ "java/lang/invoke/MethodHandle" ∧ yX6_row.cls ≠ "java/lang/invoke/VarHandle" ∧ (parseMethodDescriptor yX6_row.desc).map (fun d => d.parameters.length) = some 3 := by decide +kernel
set_option maxHeartbeats 4000000 in
set_option maxRecDepth 100000 in
theorem c_X6_row {l : Launch} {D : va_G} {ad : Nat → Nat} {cI cZ : ClassId} (μ : Mm) (p1 p2 p3 : Int) {v : Int × Mm} (hz : f_X6_row μ p1 p2 p3 = some v) : CT l D vwCl (tyM cI cZ) 10 ad (EM ad cI cZ) (fun _ => True) yX6_row wsX6_row ({ frames := 2, cells := 0, slots := 0, locals := 45 } : Room) (some .int) [Vr 0, Vi p1, Vi p2, Vi p3] μ (v.1, v.2) := by
  refine CT_of [(0, Vr 0), (1, Vi p1), (2, Vi p2), (3, Vi p3)] stZ_t (by decide) rfl rfl (Nat.le_of_ble_eq_true rfl) rfl (fun G C => ?_)
  have i_X6 : ∀ w ∈ u_ws RX6 TX6 19, w ∈ wsX6_row := by decide +kernel
  have f_20 : Cond.fieldLink (yX6_row).cls 20 "SwanDeedsModel" "rows" "[I" ∈ wsX6_row := by decide +kernel
  have f_23 : Cond.fieldLink (yX6_row).cls 23 "SwanDeedsModel" "rowSize" "[I" ∈ wsX6_row := by decide +kernel
  have f_26 : Cond.fieldLink (yX6_row).cls 26 "SwanDeedsModel" "rowLane" "[I" ∈ wsX6_row := by decide +kernel
  have hz := sat_of hz
  unfold f_X6_row at hz
  refine q_iload_n C 1 rfl dX6_row_0 rfl ?_
  refine q_callSz stZ_t C [Vi p1] [] (c_X6_isRow μ p1) gX6_row_X6_isRow rfl ⟨rfl, rfl⟩ hdX6_isRow ⟨by decide, by decide⟩ rfl (Nat.le_of_ble_eq_true rfl) dX6_row_1 rfl (fun hb1 _ => ?_)
  refine q_if_eq C dX6_row_4 (tgt := 25) (by decide) (fun c2 => ?_) (fun c2 => ?_)
  · have hz := sat_t hz c2
    refine q_ldc (v := (-1000001)) (x := (-1000001)) C (by decide +kernel) dX6_row_25 ⟨by decide +kernel, by decide, by decide⟩ ?_
    exact q_iret C dX6_row_27 (sat_eq hz)
  · have hz := sat_f hz c2
    refine q_iload_n C 2 rfl dX6_row_7 rfl ?_
    refine q_i2l C dX6_row_8 ?_
    refine q_lconst (x := 0) C dX6_row_9 ⟨rfl, by decide, by decide⟩ ?_
    refine q_ldc2 (v := 2) (x := 2) C (by decide +kernel) dX6_row_10 ⟨by decide +kernel, by decide, by decide⟩ ?_
    refine q_callSz stZ_t C [Vl p2, Vl 0, Vl 2] [] (c_X6_in μ p2 0 2) gX6_row_X6_in rfl ⟨rfl, rfl⟩ hdX6_in ⟨by decide, by decide⟩ rfl (Nat.le_of_ble_eq_true rfl) dX6_row_13 rfl (fun hb3 _ => ?_)
    refine q_if_eq C dX6_row_16 (tgt := 25) (by decide) (fun c4 => ?_) (fun c4 => ?_)
    · have hz := sat_t hz c4
      refine q_ldc (v := (-1000001)) (x := (-1000001)) C (by decide +kernel) dX6_row_25 ⟨by decide +kernel, by decide, by decide⟩ ?_
      exact q_iret C dX6_row_27 (sat_eq hz)
    · have hz := sat_f hz c4
      refine q_iload_n C 3 rfl dX6_row_19 rfl ?_
      refine q_bipush C dX6_row_20 ⟨rfl, by decide, by decide⟩ ?_
      refine q_icmp_le C dX6_row_22 (tgt := 28) (by decide) (fun c5 => ?_) (fun c5 => ?_)
      · have hz := sat_t hz c5
        refine q_iload_n C 3 rfl dX6_row_28 rfl ?_
        refine q_if_ge C dX6_row_29 (tgt := 38) (by decide) (fun c6 => ?_) (fun c6 => ?_)
        · have hz := sat_t hz c6
          refine q_aload_n C 0 rfl dX6_row_38 rfl ?_
          refine q_getR tO_X6 C (i := 5) i_X6 rfl rfl (by decide) rfl f_23 dX6_row_39 ?_
          refine q_iload_n C 1 rfl dX6_row_42 rfl ?_
          refine q_iload_n C 3 rfl dX6_row_43 rfl ?_
          obtain ⟨c7, hz⟩ := sat_chk hz
          obtain ⟨m8, hm8, hz⟩ := sat_bnd hz
          refine q_iast (tM_rowSize) C 0 rfl c7 hm8 dX6_row_44 ?_
          refine q_aload_n C 0 rfl dX6_row_45 rfl ?_
          refine q_getR tO_X6 C (i := 6) i_X6 rfl rfl (by decide) rfl f_26 dX6_row_46 ?_
          refine q_iload_n C 1 rfl dX6_row_49 rfl ?_
          refine q_iload_n C 2 rfl dX6_row_50 rfl ?_
          obtain ⟨c9, hz⟩ := sat_chk hz
          obtain ⟨m10, hm10, hz⟩ := sat_bnd hz
          refine q_iast (tM_rowLane) C 0 rfl c9 hm10 dX6_row_51 ?_
          refine q_iconst C dX6_row_52 ⟨by decide, by decide⟩ ?_
          refine q_istore C [(4, Vi 0), (0, Vr 0), (1, Vi p1), (2, Vi p2), (3, Vi p3)] rfl (by decide) dX6_row_53 ?_
          refine q_sub C [1, 2, 4, 0] [(0, Vr 0), (1, Vi p1), (3, Vi p3), (4, Vi 0)] rfl ?_
          refine loop_go (fun x11 => G x11.2 55 [(0, Vr 0), (1, Vi p1), (3, Vi p3), (4, Vi (x11.1))] []) (sat_bind2 hz) (fun h => h) (fun x11 hz => ?_)
          refine q_iload C 3 rfl dX6_row_55 ?_
          refine q_bipush C dX6_row_57 ⟨rfl, by decide, by decide⟩ ?_
          refine q_icmp_ge C dX6_row_59 (tgt := 81) (by decide) (fun c12 => ?_) (fun c12 => ?_)
          · have hz := sat_t hz c12
            have hz := sat_some hz
            refine q_sub C [0, 2] [(0, Vr 0), (3, Vi p3)] rfl ?_
            refine q_aload_n C 0 rfl dX6_row_81 rfl ?_
            refine q_iload_n C 1 rfl dX6_row_82 rfl ?_
            obtain ⟨z14, hz14, hz⟩ := sat_bind hz
            refine q_callVi stZ_t C [Vi p3] [] (c_X6_good x11.2 p3 hz14) tO_X6 rfl gX6_row_X6_good rfl ⟨rfl, rfl⟩ hdX6_good ⟨by decide, by decide⟩ rfl (Nat.le_of_ble_eq_true rfl) dX6_row_83 rfl (fun _ _ => ?_)
            exact q_iret C dX6_row_86 (sat_eq hz)
          · have hz := sat_f hz c12
            refine q_aload_n C 0 rfl dX6_row_62 rfl ?_
            refine q_getR tO_X6 C (i := 4) i_X6 rfl rfl (by decide) rfl f_20 dX6_row_63 ?_
            refine q_bipush C dX6_row_66 ⟨rfl, by decide, by decide⟩ ?_
            refine q_iload_n C 1 rfl dX6_row_68 rfl ?_
            refine q_imul C dX6_row_69 ?_
            refine q_iload C 3 rfl dX6_row_70 ?_
            refine q_iadd C dX6_row_72 ?_
            refine q_iconst C dX6_row_73 ⟨by decide, by decide⟩ ?_
            obtain ⟨c15, hz⟩ := sat_chk hz
            obtain ⟨m16, hm16, hz⟩ := sat_bnd hz
            refine q_iast (tM_rows) C 0 rfl c15 hm16 dX6_row_74 ?_
            refine q_iinc C 3 rfl [(4, Vi (w3 (x11.1 + 1))), (0, Vr 0), (1, Vi p1), (3, Vi p3)] rfl (by decide) dX6_row_75 ?_
            refine q_goto C dX6_row_78 (tgt := 55) (by decide) ?_
            refine q_sub C [1, 2, 3, 0] [(0, Vr 0), (1, Vi p1), (3, Vi p3), (4, Vi (w3 (x11.1 + 1)))] rfl ?_
            have hz := sat_some hz
            exact hz
        · have hz := sat_f hz c6
          refine q_aload_n C 0 rfl dX6_row_32 rfl ?_
          refine q_iconst C dX6_row_33 ⟨by decide, by decide⟩ ?_
          obtain ⟨z21, hz21, hz⟩ := sat_bind hz
          refine q_callVi stZ_t C [Vi 4] [] (c_X6_found μ 4 hz21) tO_X6 rfl gX6_row_X6_found rfl ⟨rfl, rfl⟩ hdX6_found ⟨by decide, by decide⟩ rfl (Nat.le_of_ble_eq_true rfl) dX6_row_34 rfl (fun _ _ => ?_)
          exact q_iret C dX6_row_37 (sat_eq hz)
      · have hz := sat_f hz c5
        refine q_ldc (v := (-1000001)) (x := (-1000001)) C (by decide +kernel) dX6_row_25 ⟨by decide +kernel, by decide, by decide⟩ ?_
        exact q_iret C dX6_row_27 (sat_eq hz)
theorem hdX6_set : yX6_set.cls = RX6 ∧ yX6_set.cls ≠ "java/lang/invoke/MethodHandle" ∧ yX6_set.cls ≠ "java/lang/invoke/VarHandle" ∧ (parseMethodDescriptor yX6_set.desc).map (fun d => d.parameters.length) = some 3 := by decide +kernel
set_option maxHeartbeats 4000000 in
set_option maxRecDepth 100000 in
theorem c_X6_set {l : Launch} {D : va_G} {ad : Nat → Nat} {cI cZ : ClassId} (μ : Mm) (p1 p2 p3 : Int) {v : Int × Mm} (hz : f_X6_set μ p1 p2 p3 = some v) : CT l D vwCl (tyM cI cZ) 10 ad (EM ad cI cZ) (fun _ => True) yX6_set wsX6_set ({ frames := 2, cells := 0, slots := 0, locals := 45 } : Room) (some .int) [Vr 0, Vi p1, Vi p2, Vi p3] μ (v.1, v.2) := by
  refine CT_of [(0, Vr 0), (1, Vi p1), (2, Vi p2), (3, Vi p3)] stZ_t (by decide) rfl rfl (Nat.le_of_ble_eq_true rfl) rfl (fun G C => ?_)
  have i_X6 : ∀ w ∈ u_ws RX6 TX6 19, w ∈ wsX6_set := by decide +kernel
  have f_20 : Cond.fieldLink (yX6_set).cls 20 "SwanDeedsModel" "rows" "[I" ∈ wsX6_set := by decide +kernel
  have f_23 : Cond.fieldLink (yX6_set).cls 23 "SwanDeedsModel" "rowSize" "[I" ∈ wsX6_set := by decide +kernel
  have f_26 : Cond.fieldLink (yX6_set).cls 26 "SwanDeedsModel" "rowLane" "[I" ∈ wsX6_set := by decide +kernel
  have hz := sat_of hz
  unfold f_X6_set at hz
  refine q_iload_n C 1 rfl dX6_set_0 rfl ?_
  refine q_callSz stZ_t C [Vi p1] [] (c_X6_isRow μ p1) gX6_set_X6_isRow rfl ⟨rfl, rfl⟩ hdX6_isRow ⟨by decide, by decide⟩ rfl (Nat.le_of_ble_eq_true rfl) dX6_set_1 rfl (fun hb1 _ => ?_)
  refine q_if_ne C dX6_set_4 (tgt := 10) (by decide) (fun c2 => ?_) (fun c2 => ?_)
  · have hz := sat_f hz c2
    refine q_aload_n C 0 rfl dX6_set_10 rfl ?_
    refine q_getR tO_X6 C (i := 5) i_X6 rfl rfl (by decide) rfl f_23 dX6_set_11 ?_
    refine q_iload_n C 1 rfl dX6_set_14 rfl ?_
    obtain ⟨c3, hz⟩ := sat_chk hz
    refine q_iald (tM_rowSize) C 0 rfl c3 dX6_set_15 ?_
    refine q_if_ge C dX6_set_16 (tgt := 25) (by decide) (fun c4 => ?_) (fun c4 => ?_)
    · have hz := sat_t hz c4
      refine q_iload_n C 2 rfl dX6_set_25 rfl ?_
      refine q_i2l C dX6_set_26 ?_
      refine q_lconst (x := 0) C dX6_set_27 ⟨rfl, by decide, by decide⟩ ?_
      refine q_aload_n C 0 rfl dX6_set_28 rfl ?_
      refine q_getR tO_X6 C (i := 5) i_X6 rfl rfl (by decide) rfl f_23 dX6_set_29 ?_
      refine q_iload_n C 1 rfl dX6_set_32 rfl ?_
      obtain ⟨c5, hz⟩ := sat_chk hz
      refine q_iald (tM_rowSize) C 0 rfl c5 dX6_set_33 ?_
      refine q_iconst C dX6_set_34 ⟨by decide, by decide⟩ ?_
      refine q_isub C dX6_set_35 ?_
      refine q_i2l C dX6_set_36 ?_
      refine q_callSz stZ_t C [Vl p2, Vl 0, Vl (w3 ((μ 33 (0 + p1)) - 1))] [] (c_X6_in μ p2 0 (w3 ((μ 33 (0 + p1)) - 1))) gX6_set_X6_in rfl ⟨rfl, rfl⟩ hdX6_in ⟨by decide, by decide⟩ rfl (Nat.le_of_ble_eq_true rfl) dX6_set_37 rfl (fun hb6 _ => ?_)
      refine q_if_ne C dX6_set_40 (tgt := 49) (by decide) (fun c7 => ?_) (fun c7 => ?_)
      · have hz := sat_f hz c7
        refine q_aload_n C 0 rfl dX6_set_49 rfl ?_
        refine q_getR tO_X6 C (i := 4) i_X6 rfl rfl (by decide) rfl f_20 dX6_set_50 ?_
        refine q_bipush C dX6_set_53 ⟨rfl, by decide, by decide⟩ ?_
        refine q_iload_n C 1 rfl dX6_set_55 rfl ?_
        refine q_imul C dX6_set_56 ?_
        refine q_iload_n C 2 rfl dX6_set_57 rfl ?_
        refine q_iadd C dX6_set_58 ?_
        refine q_aload_n C 0 rfl dX6_set_59 rfl ?_
        refine q_getR tO_X6 C (i := 6) i_X6 rfl rfl (by decide) rfl f_26 dX6_set_60 ?_
        refine q_iload_n C 1 rfl dX6_set_63 rfl ?_
        obtain ⟨c8, hz⟩ := sat_chk hz
        refine q_iald (tM_rowLane) C 0 rfl c8 dX6_set_64 ?_
        obtain ⟨v9, hv9, hz⟩ := sat_bind hz
        have Jv9 : G μ 89 [(0, Vr 0), (1, Vi p1), (2, Vi p2)] [Vi v9, Vi (w3 ((w3 (40 * p1)) + p2)), Vr 4] := by
          obtain ⟨c10, hz⟩ := sat_chk hz
          obtain ⟨m11, hm11, hz⟩ := sat_bnd hz
          refine q_iast (tM_rows) C 0 rfl c10 hm11 dX6_set_89 ?_
          refine q_aload_n C 0 rfl dX6_set_90 rfl ?_
          refine q_aload_n C 0 rfl dX6_set_91 rfl ?_
          refine q_getR tO_X6 C (i := 4) i_X6 rfl rfl (by decide) rfl f_20 dX6_set_92 ?_
          refine q_bipush C dX6_set_95 ⟨rfl, by decide, by decide⟩ ?_
          refine q_iload_n C 1 rfl dX6_set_97 rfl ?_
          refine q_imul C dX6_set_98 ?_
          refine q_iload_n C 2 rfl dX6_set_99 rfl ?_
          refine q_iadd C dX6_set_100 ?_
          obtain ⟨c12, hz⟩ := sat_chk hz
          refine q_iald (tM_rows) C 0 rfl c12 dX6_set_101 ?_
          obtain ⟨z14, hz14, hz⟩ := sat_bind hz
          refine q_callVi stZ_t C [Vi (m11 32 (0 + (w3 ((w3 (40 * p1)) + p2))))] [] (c_X6_good m11 (m11 32 (0 + (w3 ((w3 (40 * p1)) + p2)))) hz14) tO_X6 rfl gX6_set_X6_good rfl ⟨rfl, rfl⟩ hdX6_good ⟨by decide, by decide⟩ rfl (Nat.le_of_ble_eq_true rfl) dX6_set_102 rfl (fun _ _ => ?_)
          exact q_iret C dX6_set_105 (sat_eq hz)
        have hz := sat_of hv9
        refine q_if_ne C dX6_set_65 (tgt := 73) (by decide) (fun c15 => ?_) (fun c15 => ?_)
        · have hz := sat_f hz c15
          refine q_aload_n C 0 rfl dX6_set_73 rfl ?_
          refine q_getR tO_X6 C (i := 6) i_X6 rfl rfl (by decide) rfl f_26 dX6_set_74 ?_
          refine q_iload_n C 1 rfl dX6_set_77 rfl ?_
          obtain ⟨c16, hz⟩ := sat_chk hz
          refine q_iald (tM_rowLane) C 0 rfl c16 dX6_set_78 ?_
          refine q_iconst C dX6_set_79 ⟨by decide, by decide⟩ ?_
          refine q_icmp_ne C dX6_set_80 (tgt := 88) (by decide) (fun c17 => ?_) (fun c17 => ?_)
          · have hz := sat_f hz c17
            refine q_iload_n C 3 rfl dX6_set_88 rfl ?_
            have hz := sat_some hz
            have hz : _ = v9 := hz
            refine q_sub C [0, 1, 2] [(0, Vr 0), (1, Vi p1), (2, Vi p2)] rfl ?_
            subst hz
            exact Jv9
          · have hz := sat_t hz c17
            refine q_iload_n C 3 rfl dX6_set_83 rfl ?_
            refine q_i2s C dX6_set_84 ?_
            refine q_goto C dX6_set_85 (tgt := 89) (by decide) ?_
            have hz := sat_some hz
            have hz : _ = v9 := hz
            refine q_sub C [0, 1, 2] [(0, Vr 0), (1, Vi p1), (2, Vi p2)] rfl ?_
            subst hz
            exact Jv9
        · have hz := sat_t hz c15
          refine q_iload_n C 3 rfl dX6_set_68 rfl ?_
          refine q_i2b C dX6_set_69 ?_
          refine q_goto C dX6_set_70 (tgt := 89) (by decide) ?_
          have hz := sat_some hz
          have hz : _ = v9 := hz
          refine q_sub C [0, 1, 2] [(0, Vr 0), (1, Vi p1), (2, Vi p2)] rfl ?_
          subst hz
          exact Jv9
      · have hz := sat_t hz c7
        refine q_aload_n C 0 rfl dX6_set_43 rfl ?_
        refine q_iconst C dX6_set_44 ⟨by decide, by decide⟩ ?_
        obtain ⟨z19, hz19, hz⟩ := sat_bind hz
        refine q_callVi stZ_t C [Vi 2] [] (c_X6_found μ 2 hz19) tO_X6 rfl gX6_set_X6_found rfl ⟨rfl, rfl⟩ hdX6_found ⟨by decide, by decide⟩ rfl (Nat.le_of_ble_eq_true rfl) dX6_set_45 rfl (fun _ _ => ?_)
        exact q_iret C dX6_set_48 (sat_eq hz)
    · have hz := sat_f hz c4
      refine q_aload_n C 0 rfl dX6_set_19 rfl ?_
      refine q_iconst C dX6_set_20 ⟨by decide, by decide⟩ ?_
      obtain ⟨z21, hz21, hz⟩ := sat_bind hz
      refine q_callVi stZ_t C [Vi 1] [] (c_X6_found μ 1 hz21) tO_X6 rfl gX6_set_X6_found rfl ⟨rfl, rfl⟩ hdX6_found ⟨by decide, by decide⟩ rfl (Nat.le_of_ble_eq_true rfl) dX6_set_21 rfl (fun _ _ => ?_)
      exact q_iret C dX6_set_24 (sat_eq hz)
  · have hz := sat_t hz c2
    refine q_ldc (v := (-1000001)) (x := (-1000001)) C (by decide +kernel) dX6_set_7 ⟨by decide +kernel, by decide, by decide⟩ ?_
    exact q_iret C dX6_set_9 (sat_eq hz)
theorem hdX6_fits : yX6_fits.cls ≠ "java/lang/invoke/MethodHandle" ∧ yX6_fits.cls ≠ "java/lang/invoke/VarHandle" ∧ (parseMethodDescriptor yX6_fits.desc).map (fun d => d.parameters.length) = some 3 := by decide +kernel
set_option maxHeartbeats 4000000 in
set_option maxRecDepth 100000 in
theorem c_X6_fits {l : Launch} {D : va_G} {ad : Nat → Nat} {cI cZ : ClassId} (μ : Mm) (p0 p1 p2 : Int) : CT l D vwCl (tyM cI cZ) 10 ad (EM ad cI cZ) (fun _ => True) yX6_fits wsX6_fits ({ frames := 0, cells := 0, slots := 0, locals := 0 } : Room) (some .boolean) [Vi p0, Vi p1, Vi p2] μ (f_X6_fits μ p0 p1 p2, μ) := by
  refine CT_of [(0, Vi p0), (1, Vi p1), (2, Vi p2)] stZ_t (by decide) rfl rfl (Nat.le_of_ble_eq_true rfl) rfl (fun G C => ?_)
  generalize hz : f_X6_fits μ p0 p1 p2 = v at C
  unfold f_X6_fits at hz
  refine q_iload_n C 0 rfl dX6_fits_0 rfl ?_
  refine q_if_lt C dX6_fits_1 (tgt := 19) (by decide) (fun c1 => ?_) (fun c1 => ?_)
  · have hz := eq_t hz c1
    refine q_iconst C dX6_fits_19 ⟨by decide, by decide⟩ ?_
    exact q_zret C (Or.inl rfl) dX6_fits_20 (congrArg (fun q => (q, μ)) hz)
  · have hz := eq_f hz c1
    refine q_iload_n C 0 rfl dX6_fits_4 rfl ?_
    refine q_i2l C dX6_fits_5 ?_
    refine q_iload_n C 1 rfl dX6_fits_6 rfl ?_
    refine q_i2l C dX6_fits_7 ?_
    refine q_ladd C dX6_fits_8 ?_
    refine q_iload_n C 2 rfl dX6_fits_9 rfl ?_
    refine q_i2l C dX6_fits_10 ?_
    refine q_lcmp C dX6_fits_11 ?_
    refine q_if_gt C dX6_fits_12 (tgt := 19) (by decide) (fun c2 => ?_) (fun c2 => ?_)
    · have hz := eq_t hz c2
      refine q_iconst C dX6_fits_19 ⟨by decide, by decide⟩ ?_
      exact q_zret C (Or.inl rfl) dX6_fits_20 (congrArg (fun q => (q, μ)) hz)
    · have hz := eq_f hz c2
      refine q_iconst C dX6_fits_15 ⟨by decide, by decide⟩ ?_
      refine q_goto C dX6_fits_16 (tgt := 20) (by decide) ?_
      exact q_zret C (Or.inr rfl) dX6_fits_20 (congrArg (fun q => (q, μ)) hz)
theorem hdX6_copy : yX6_copy.cls = RX6 ∧ yX6_copy.cls ≠ "java/lang/invoke/MethodHandle" ∧ yX6_copy.cls ≠ "java/lang/invoke/VarHandle" ∧ (parseMethodDescriptor yX6_copy.desc).map (fun d => d.parameters.length) = some 5 := by decide +kernel
set_option maxHeartbeats 4000000 in
set_option maxRecDepth 100000 in
theorem c_X6_copy {l : Launch} {D : va_G} {ad : Nat → Nat} {cI cZ : ClassId} (μ : Mm) (p1 p2 p3 p4 p5 : Int) {v : Int × Mm} (hz : f_X6_copy μ p1 p2 p3 p4 p5 = some v) : CT l D vwCl (tyM cI cZ) 10 ad (EM ad cI cZ) (fun _ => True) yX6_copy wsX6_copy ({ frames := 2, cells := 0, slots := 0, locals := 45 } : Room) (some .int) [Vr 0, Vi p1, Vi p2, Vi p3, Vi p4, Vi p5] μ (v.1, v.2) := by
  refine CT_of [(0, Vr 0), (1, Vi p1), (2, Vi p2), (3, Vi p3), (4, Vi p4), (5, Vi p5)] stZ_t (by decide) rfl rfl (Nat.le_of_ble_eq_true rfl) rfl (fun G C => ?_)
  have i_X6 : ∀ w ∈ u_ws RX6 TX6 19, w ∈ wsX6_copy := by decide +kernel
  have f_20 : Cond.fieldLink (yX6_copy).cls 20 "SwanDeedsModel" "rows" "[I" ∈ wsX6_copy := by decide +kernel
  have f_23 : Cond.fieldLink (yX6_copy).cls 23 "SwanDeedsModel" "rowSize" "[I" ∈ wsX6_copy := by decide +kernel
  have f_26 : Cond.fieldLink (yX6_copy).cls 26 "SwanDeedsModel" "rowLane" "[I" ∈ wsX6_copy := by decide +kernel
  have f_35 : Cond.fieldLink (yX6_copy).cls 35 "SwanDeedsModel" "held" "[I" ∈ wsX6_copy := by decide +kernel
  have hz := sat_of hz
  unfold f_X6_copy at hz
  refine q_iload_n C 1 rfl dX6_copy_0 rfl ?_
  refine q_callSz stZ_t C [Vi p1] [] (c_X6_isRow μ p1) gX6_copy_X6_isRow rfl ⟨rfl, rfl⟩ hdX6_isRow ⟨by decide, by decide⟩ rfl (Nat.le_of_ble_eq_true rfl) dX6_copy_1 rfl (fun hb1 _ => ?_)
  refine q_if_eq C dX6_copy_4 (tgt := 14) (by decide) (fun c2 => ?_) (fun c2 => ?_)
  · have hz := sat_t hz c2
    refine q_ldc (v := (-1000001)) (x := (-1000001)) C (by decide +kernel) dX6_copy_14 ⟨by decide +kernel, by decide, by decide⟩ ?_
    exact q_iret C dX6_copy_16 (sat_eq hz)
  · have hz := sat_f hz c2
    refine q_iload_n C 3 rfl dX6_copy_7 rfl ?_
    refine q_callSz stZ_t C [Vi p3] [] (c_X6_isRow μ p3) gX6_copy_X6_isRow rfl ⟨rfl, rfl⟩ hdX6_isRow ⟨by decide, by decide⟩ rfl (Nat.le_of_ble_eq_true rfl) dX6_copy_8 rfl (fun hb3 _ => ?_)
    refine q_if_ne C dX6_copy_11 (tgt := 17) (by decide) (fun c4 => ?_) (fun c4 => ?_)
    · have hz := sat_f hz c4
      refine q_aload_n C 0 rfl dX6_copy_17 rfl ?_
      refine q_getR tO_X6 C (i := 5) i_X6 rfl rfl (by decide) rfl f_23 dX6_copy_18 ?_
      refine q_iload_n C 1 rfl dX6_copy_21 rfl ?_
      obtain ⟨c5, hz⟩ := sat_chk hz
      refine q_iald (tM_rowSize) C 0 rfl c5 dX6_copy_22 ?_
      refine q_if_lt C dX6_copy_23 (tgt := 35) (by decide) (fun c6 => ?_) (fun c6 => ?_)
      · have hz := sat_t hz c6
        refine q_aload_n C 0 rfl dX6_copy_35 rfl ?_
        refine q_iconst C dX6_copy_36 ⟨by decide, by decide⟩ ?_
        obtain ⟨z8, hz8, hz⟩ := sat_bind hz
        refine q_callVi stZ_t C [Vi 1] [] (c_X6_found μ 1 hz8) tO_X6 rfl gX6_copy_X6_found rfl ⟨rfl, rfl⟩ hdX6_found ⟨by decide, by decide⟩ rfl (Nat.le_of_ble_eq_true rfl) dX6_copy_37 rfl (fun _ _ => ?_)
        exact q_iret C dX6_copy_40 (sat_eq hz)
      · have hz := sat_f hz c6
        refine q_aload_n C 0 rfl dX6_copy_26 rfl ?_
        refine q_getR tO_X6 C (i := 5) i_X6 rfl rfl (by decide) rfl f_23 dX6_copy_27 ?_
        refine q_iload_n C 3 rfl dX6_copy_30 rfl ?_
        obtain ⟨c9, hz⟩ := sat_chk hz
        refine q_iald (tM_rowSize) C 0 rfl c9 dX6_copy_31 ?_
        refine q_if_ge C dX6_copy_32 (tgt := 41) (by decide) (fun c10 => ?_) (fun c10 => ?_)
        · have hz := sat_t hz c10
          refine q_aload_n C 0 rfl dX6_copy_41 rfl ?_
          refine q_getR tO_X6 C (i := 6) i_X6 rfl rfl (by decide) rfl f_26 dX6_copy_42 ?_
          refine q_iload_n C 1 rfl dX6_copy_45 rfl ?_
          obtain ⟨c11, hz⟩ := sat_chk hz
          refine q_iald (tM_rowLane) C 0 rfl c11 dX6_copy_46 ?_
          refine q_aload_n C 0 rfl dX6_copy_47 rfl ?_
          refine q_getR tO_X6 C (i := 6) i_X6 rfl rfl (by decide) rfl f_26 dX6_copy_48 ?_
          refine q_iload_n C 3 rfl dX6_copy_51 rfl ?_
          obtain ⟨c12, hz⟩ := sat_chk hz
          refine q_iald (tM_rowLane) C 0 rfl c12 dX6_copy_52 ?_
          refine q_icmp_eq C dX6_copy_53 (tgt := 62) (by decide) (fun c13 => ?_) (fun c13 => ?_)
          · have hz := sat_t hz c13
            refine q_iload C 5 rfl dX6_copy_62 ?_
            refine q_if_lt C dX6_copy_64 (tgt := 98) (by decide) (fun c14 => ?_) (fun c14 => ?_)
            · have hz := sat_t hz c14
              refine q_aload_n C 0 rfl dX6_copy_98 rfl ?_
              refine q_iconst C dX6_copy_99 ⟨by decide, by decide⟩ ?_
              obtain ⟨z16, hz16, hz⟩ := sat_bind hz
              refine q_callVi stZ_t C [Vi 2] [] (c_X6_found μ 2 hz16) tO_X6 rfl gX6_copy_X6_found rfl ⟨rfl, rfl⟩ hdX6_found ⟨by decide, by decide⟩ rfl (Nat.le_of_ble_eq_true rfl) dX6_copy_100 rfl (fun _ _ => ?_)
              exact q_iret C dX6_copy_103 (sat_eq hz)
            · have hz := sat_f hz c14
              refine q_iload_n C 2 rfl dX6_copy_67 rfl ?_
              refine q_iload C 5 rfl dX6_copy_68 ?_
              refine q_aload_n C 0 rfl dX6_copy_70 rfl ?_
              refine q_getR tO_X6 C (i := 5) i_X6 rfl rfl (by decide) rfl f_23 dX6_copy_71 ?_
              refine q_iload_n C 1 rfl dX6_copy_74 rfl ?_
              obtain ⟨c17, hz⟩ := sat_chk hz
              refine q_iald (tM_rowSize) C 0 rfl c17 dX6_copy_75 ?_
              refine q_callSz stZ_t C [Vi p2, Vi p5, Vi (μ 33 (0 + p1))] [] (c_X6_fits μ p2 p5 (μ 33 (0 + p1))) gX6_copy_X6_fits rfl ⟨rfl, rfl⟩ hdX6_fits ⟨by decide, by decide⟩ rfl (Nat.le_of_ble_eq_true rfl) dX6_copy_76 rfl (fun hb18 _ => ?_)
              refine q_if_eq C dX6_copy_79 (tgt := 98) (by decide) (fun c19 => ?_) (fun c19 => ?_)
              · have hz := sat_t hz c19
                refine q_aload_n C 0 rfl dX6_copy_98 rfl ?_
                refine q_iconst C dX6_copy_99 ⟨by decide, by decide⟩ ?_
                obtain ⟨z21, hz21, hz⟩ := sat_bind hz
                refine q_callVi stZ_t C [Vi 2] [] (c_X6_found μ 2 hz21) tO_X6 rfl gX6_copy_X6_found rfl ⟨rfl, rfl⟩ hdX6_found ⟨by decide, by decide⟩ rfl (Nat.le_of_ble_eq_true rfl) dX6_copy_100 rfl (fun _ _ => ?_)
                exact q_iret C dX6_copy_103 (sat_eq hz)
              · have hz := sat_f hz c19
                refine q_iload C 4 rfl dX6_copy_82 ?_
                refine q_iload C 5 rfl dX6_copy_84 ?_
                refine q_aload_n C 0 rfl dX6_copy_86 rfl ?_
                refine q_getR tO_X6 C (i := 5) i_X6 rfl rfl (by decide) rfl f_23 dX6_copy_87 ?_
                refine q_iload_n C 3 rfl dX6_copy_90 rfl ?_
                obtain ⟨c22, hz⟩ := sat_chk hz
                refine q_iald (tM_rowSize) C 0 rfl c22 dX6_copy_91 ?_
                refine q_callSz stZ_t C [Vi p4, Vi p5, Vi (μ 33 (0 + p3))] [] (c_X6_fits μ p4 p5 (μ 33 (0 + p3))) gX6_copy_X6_fits rfl ⟨rfl, rfl⟩ hdX6_fits ⟨by decide, by decide⟩ rfl (Nat.le_of_ble_eq_true rfl) dX6_copy_92 rfl (fun hb23 _ => ?_)
                refine q_if_ne C dX6_copy_95 (tgt := 104) (by decide) (fun c24 => ?_) (fun c24 => ?_)
                · have hz := sat_f hz c24
                  refine q_iconst C dX6_copy_104 ⟨by decide, by decide⟩ ?_
                  refine q_istore C [(6, Vi 0), (0, Vr 0), (1, Vi p1), (2, Vi p2), (3, Vi p3), (4, Vi p4), (5, Vi p5)] rfl (by decide) dX6_copy_105 ?_
                  refine q_sub C [1, 2, 3, 4, 5, 6, 0] [(0, Vr 0), (1, Vi p1), (2, Vi p2), (3, Vi p3), (4, Vi p4), (5, Vi p5), (6, Vi 0)] rfl ?_
                  refine loop_go (fun x25 => G x25.2 107 [(0, Vr 0), (1, Vi p1), (2, Vi p2), (3, Vi p3), (4, Vi p4), (5, Vi p5), (6, Vi (x25.1))] []) (sat_bind2 hz) (fun h => h) (fun x25 hz => ?_)
                  refine q_iload C 6 rfl dX6_copy_107 ?_
                  refine q_iload C 5 rfl dX6_copy_109 ?_
                  refine q_icmp_ge C dX6_copy_111 (tgt := 141) (by decide) (fun c26 => ?_) (fun c26 => ?_)
                  · have hz := sat_t hz c26
                    have hz := sat_some hz
                    refine q_sub C [0, 3, 4, 5] [(0, Vr 0), (3, Vi p3), (4, Vi p4), (5, Vi p5)] rfl ?_
                    refine q_iconst C dX6_copy_141 ⟨by decide, by decide⟩ ?_
                    refine q_istore C [(6, Vi 0), (0, Vr 0), (3, Vi p3), (4, Vi p4), (5, Vi p5)] rfl (by decide) dX6_copy_142 ?_
                    refine q_sub C [1, 2, 3, 4, 0] [(0, Vr 0), (3, Vi p3), (4, Vi p4), (5, Vi p5), (6, Vi 0)] rfl ?_
                    refine loop_go (fun x27 => G x27.2 144 [(0, Vr 0), (3, Vi p3), (4, Vi p4), (5, Vi p5), (6, Vi (x27.1))] []) (sat_bind2 hz) (fun h => h) (fun x27 hz => ?_)
                    refine q_iload C 4 rfl dX6_copy_144 ?_
                    refine q_iload C 3 rfl dX6_copy_146 ?_
                    refine q_icmp_ge C dX6_copy_148 (tgt := 179) (by decide) (fun c28 => ?_) (fun c28 => ?_)
                    · have hz := sat_t hz c28
                      have hz := sat_some hz
                      refine q_sub C [0, 3] [(0, Vr 0), (5, Vi p5)] rfl ?_
                      refine q_aload_n C 0 rfl dX6_copy_179 rfl ?_
                      refine q_iload C 1 rfl dX6_copy_180 ?_
                      obtain ⟨z30, hz30, hz⟩ := sat_bind hz
                      refine q_callVi stZ_t C [Vi p5] [] (c_X6_good x27.2 p5 hz30) tO_X6 rfl gX6_copy_X6_good rfl ⟨rfl, rfl⟩ hdX6_good ⟨by decide, by decide⟩ rfl (Nat.le_of_ble_eq_true rfl) dX6_copy_182 rfl (fun _ _ => ?_)
                      exact q_iret C dX6_copy_185 (sat_eq hz)
                    · have hz := sat_f hz c28
                      refine q_aload_n C 0 rfl dX6_copy_151 rfl ?_
                      refine q_getR tO_X6 C (i := 4) i_X6 rfl rfl (by decide) rfl f_20 dX6_copy_152 ?_
                      refine q_bipush C dX6_copy_155 ⟨rfl, by decide, by decide⟩ ?_
                      refine q_iload_n C 1 rfl dX6_copy_157 rfl ?_
                      refine q_imul C dX6_copy_158 ?_
                      refine q_iload C 2 rfl dX6_copy_159 ?_
                      refine q_iadd C dX6_copy_161 ?_
                      refine q_iload C 4 rfl dX6_copy_162 ?_
                      refine q_iadd C dX6_copy_164 ?_
                      refine q_aload_n C 0 rfl dX6_copy_165 rfl ?_
                      refine q_getR tO_X6 C (i := 13) i_X6 rfl rfl (by decide) rfl f_35 dX6_copy_166 ?_
                      refine q_iload C 4 rfl dX6_copy_169 ?_
                      obtain ⟨c31, hz⟩ := sat_chk hz
                      refine q_iald (tM_held) C 0 rfl c31 dX6_copy_171 ?_
                      obtain ⟨c32, hz⟩ := sat_chk hz
                      obtain ⟨m33, hm33, hz⟩ := sat_bnd hz
                      refine q_iast (tM_rows) C 0 rfl c32 hm33 dX6_copy_172 ?_
                      refine q_iinc C 4 rfl [(6, Vi (w3 (x27.1 + 1))), (0, Vr 0), (3, Vi p3), (4, Vi p4), (5, Vi p5)] rfl (by decide) dX6_copy_173 ?_
                      refine q_goto C dX6_copy_176 (tgt := 144) (by decide) ?_
                      refine q_sub C [1, 2, 3, 4, 0] [(0, Vr 0), (3, Vi p3), (4, Vi p4), (5, Vi p5), (6, Vi (w3 (x27.1 + 1)))] rfl ?_
                      have hz := sat_some hz
                      exact hz
                  · have hz := sat_f hz c26
                    refine q_aload_n C 0 rfl dX6_copy_114 rfl ?_
                    refine q_getR tO_X6 C (i := 13) i_X6 rfl rfl (by decide) rfl f_35 dX6_copy_115 ?_
                    refine q_iload C 6 rfl dX6_copy_118 ?_
                    refine q_aload_n C 0 rfl dX6_copy_120 rfl ?_
                    refine q_getR tO_X6 C (i := 4) i_X6 rfl rfl (by decide) rfl f_20 dX6_copy_121 ?_
                    refine q_bipush C dX6_copy_124 ⟨rfl, by decide, by decide⟩ ?_
                    refine q_iload_n C 1 rfl dX6_copy_126 rfl ?_
                    refine q_imul C dX6_copy_127 ?_
                    refine q_iload_n C 2 rfl dX6_copy_128 rfl ?_
                    refine q_iadd C dX6_copy_129 ?_
                    refine q_iload C 6 rfl dX6_copy_130 ?_
                    refine q_iadd C dX6_copy_132 ?_
                    obtain ⟨c37, hz⟩ := sat_chk hz
                    refine q_iald (tM_rows) C 0 rfl c37 dX6_copy_133 ?_
                    obtain ⟨c38, hz⟩ := sat_chk hz
                    obtain ⟨m39, hm39, hz⟩ := sat_bnd hz
                    refine q_iast (tM_held) C 0 rfl c38 hm39 dX6_copy_134 ?_
                    refine q_iinc C 6 rfl [(6, Vi (w3 (x25.1 + 1))), (0, Vr 0), (1, Vi p1), (2, Vi p2), (3, Vi p3), (4, Vi p4), (5, Vi p5)] rfl (by decide) dX6_copy_135 ?_
                    refine q_goto C dX6_copy_138 (tgt := 107) (by decide) ?_
                    refine q_sub C [1, 2, 3, 4, 5, 6, 0] [(0, Vr 0), (1, Vi p1), (2, Vi p2), (3, Vi p3), (4, Vi p4), (5, Vi p5), (6, Vi (w3 (x25.1 + 1)))] rfl ?_
                    have hz := sat_some hz
                    exact hz
                · have hz := sat_t hz c24
                  refine q_aload_n C 0 rfl dX6_copy_98 rfl ?_
                  refine q_iconst C dX6_copy_99 ⟨by decide, by decide⟩ ?_
                  obtain ⟨z50, hz50, hz⟩ := sat_bind hz
                  refine q_callVi stZ_t C [Vi 2] [] (c_X6_found μ 2 hz50) tO_X6 rfl gX6_copy_X6_found rfl ⟨rfl, rfl⟩ hdX6_found ⟨by decide, by decide⟩ rfl (Nat.le_of_ble_eq_true rfl) dX6_copy_100 rfl (fun _ _ => ?_)
                  exact q_iret C dX6_copy_103 (sat_eq hz)
          · have hz := sat_f hz c13
            refine q_aload_n C 0 rfl dX6_copy_56 rfl ?_
            refine q_iconst C dX6_copy_57 ⟨by decide, by decide⟩ ?_
            obtain ⟨z52, hz52, hz⟩ := sat_bind hz
            refine q_callVi stZ_t C [Vi 5] [] (c_X6_found μ 5 hz52) tO_X6 rfl gX6_copy_X6_found rfl ⟨rfl, rfl⟩ hdX6_found ⟨by decide, by decide⟩ rfl (Nat.le_of_ble_eq_true rfl) dX6_copy_58 rfl (fun _ _ => ?_)
            exact q_iret C dX6_copy_61 (sat_eq hz)
        · have hz := sat_f hz c10
          refine q_aload_n C 0 rfl dX6_copy_35 rfl ?_
          refine q_iconst C dX6_copy_36 ⟨by decide, by decide⟩ ?_
          obtain ⟨z54, hz54, hz⟩ := sat_bind hz
          refine q_callVi stZ_t C [Vi 1] [] (c_X6_found μ 1 hz54) tO_X6 rfl gX6_copy_X6_found rfl ⟨rfl, rfl⟩ hdX6_found ⟨by decide, by decide⟩ rfl (Nat.le_of_ble_eq_true rfl) dX6_copy_37 rfl (fun _ _ => ?_)
          exact q_iret C dX6_copy_40 (sat_eq hz)
    · have hz := sat_t hz c4
      refine q_ldc (v := (-1000001)) (x := (-1000001)) C (by decide +kernel) dX6_copy_14 ⟨by decide +kernel, by decide, by decide⟩ ?_
      exact q_iret C dX6_copy_16 (sat_eq hz)
theorem hdX6_drop : yX6_drop.cls = RX6 ∧ yX6_drop.cls ≠ "java/lang/invoke/MethodHandle" ∧ yX6_drop.cls ≠ "java/lang/invoke/VarHandle" ∧ (parseMethodDescriptor yX6_drop.desc).map (fun d => d.parameters.length) = some 1 := by decide +kernel
set_option maxHeartbeats 4000000 in
set_option maxRecDepth 100000 in
theorem c_X6_drop {l : Launch} {D : va_G} {ad : Nat → Nat} {cI cZ : ClassId} (μ : Mm) (p1 : Int) {v : Int × Mm} (hz : f_X6_drop μ p1 = some v) : CT l D vwCl (tyM cI cZ) 10 ad (EM ad cI cZ) (fun _ => True) yX6_drop wsX6_drop ({ frames := 2, cells := 0, slots := 0, locals := 45 } : Room) (some .int) [Vr 0, Vi p1] μ (v.1, v.2) := by
  refine CT_of [(0, Vr 0), (1, Vi p1)] stZ_t (by decide) rfl rfl (Nat.le_of_ble_eq_true rfl) rfl (fun G C => ?_)
  have i_X6 : ∀ w ∈ u_ws RX6 TX6 19, w ∈ wsX6_drop := by decide +kernel
  have f_23 : Cond.fieldLink (yX6_drop).cls 23 "SwanDeedsModel" "rowSize" "[I" ∈ wsX6_drop := by decide +kernel
  have hz := sat_of hz
  unfold f_X6_drop at hz
  refine q_iload_n C 1 rfl dX6_drop_0 rfl ?_
  refine q_callSz stZ_t C [Vi p1] [] (c_X6_isRow μ p1) gX6_drop_X6_isRow rfl ⟨rfl, rfl⟩ hdX6_isRow ⟨by decide, by decide⟩ rfl (Nat.le_of_ble_eq_true rfl) dX6_drop_1 rfl (fun hb1 _ => ?_)
  refine q_if_ne C dX6_drop_4 (tgt := 10) (by decide) (fun c2 => ?_) (fun c2 => ?_)
  · have hz := sat_f hz c2
    refine q_aload_n C 0 rfl dX6_drop_10 rfl ?_
    refine q_getR tO_X6 C (i := 5) i_X6 rfl rfl (by decide) rfl f_23 dX6_drop_11 ?_
    refine q_iload_n C 1 rfl dX6_drop_14 rfl ?_
    obtain ⟨c3, hz⟩ := sat_chk hz
    refine q_iald (tM_rowSize) C 0 rfl c3 dX6_drop_15 ?_
    refine q_if_ge C dX6_drop_16 (tgt := 25) (by decide) (fun c4 => ?_) (fun c4 => ?_)
    · have hz := sat_t hz c4
      refine q_aload_n C 0 rfl dX6_drop_25 rfl ?_
      refine q_getR tO_X6 C (i := 5) i_X6 rfl rfl (by decide) rfl f_23 dX6_drop_26 ?_
      refine q_iload_n C 1 rfl dX6_drop_29 rfl ?_
      obtain ⟨c5, hz⟩ := sat_chk hz
      refine q_iald (tM_rowSize) C 0 rfl c5 dX6_drop_30 ?_
      refine q_istore_n C [(2, Vi (μ 33 (0 + p1))), (0, Vr 0), (1, Vi p1)] rfl (by decide) dX6_drop_31 rfl ?_
      refine q_aload_n C 1 rfl dX6_drop_32 rfl ?_
      refine q_getR tO_X6 C (i := 5) i_X6 rfl rfl (by decide) rfl f_23 dX6_drop_33 ?_
      refine q_iload_n C 2 rfl dX6_drop_36 rfl ?_
      refine q_iconst C dX6_drop_37 ⟨by decide, by decide⟩ ?_
      obtain ⟨c6, hz⟩ := sat_chk hz
      obtain ⟨m7, hm7, hz⟩ := sat_bnd hz
      refine q_iast (tM_rowSize) C 0 rfl c6 hm7 dX6_drop_38 ?_
      refine q_aload_n C 1 rfl dX6_drop_39 rfl ?_
      refine q_iload_n C 0 rfl dX6_drop_40 rfl ?_
      obtain ⟨z9, hz9, hz⟩ := sat_bind hz
      refine q_callVi stZ_t C [Vi (μ 33 (0 + p1))] [] (c_X6_good m7 (μ 33 (0 + p1)) hz9) tO_X6 rfl gX6_drop_X6_good rfl ⟨rfl, rfl⟩ hdX6_good ⟨by decide, by decide⟩ rfl (Nat.le_of_ble_eq_true rfl) dX6_drop_41 rfl (fun _ _ => ?_)
      exact q_iret C dX6_drop_44 (sat_eq hz)
    · have hz := sat_f hz c4
      refine q_aload_n C 0 rfl dX6_drop_19 rfl ?_
      refine q_iconst C dX6_drop_20 ⟨by decide, by decide⟩ ?_
      obtain ⟨z11, hz11, hz⟩ := sat_bind hz
      refine q_callVi stZ_t C [Vi 1] [] (c_X6_found μ 1 hz11) tO_X6 rfl gX6_drop_X6_found rfl ⟨rfl, rfl⟩ hdX6_found ⟨by decide, by decide⟩ rfl (Nat.le_of_ble_eq_true rfl) dX6_drop_21 rfl (fun _ _ => ?_)
      exact q_iret C dX6_drop_24 (sat_eq hz)
  · have hz := sat_t hz c2
    refine q_ldc (v := (-1000001)) (x := (-1000001)) C (by decide +kernel) dX6_drop_7 ⟨by decide +kernel, by decide, by decide⟩ ?_
    exact q_iret C dX6_drop_9 (sat_eq hz)
theorem hdX6_against : yX6_against.cls = RX6 ∧ yX6_against.cls ≠ "java/lang/invoke/MethodHandle" ∧ yX6_against.cls ≠ "java/lang/invoke/VarHandle" ∧ (parseMethodDescriptor yX6_against.desc).map (fun d => d.parameters.length) = some 3 := by decide +kernel
set_option maxHeartbeats 4000000 in
set_option maxRecDepth 100000 in
theorem c_X6_against {l : Launch} {D : va_G} {ad : Nat → Nat} {cI cZ : ClassId} (μ : Mm) (p1 p2 p3 : Int) {v : Int × Mm} (hz : f_X6_against μ p1 p2 p3 = some v) : CT l D vwCl (tyM cI cZ) 10 ad (EM ad cI cZ) (fun _ => True) yX6_against wsX6_against ({ frames := 1, cells := 0, slots := 0, locals := 22 } : Room) (some .int) [Vr 0, Vi p1, Vi p2, Vi p3] μ (v.1, v.2) := by
  refine CT_of [(0, Vr 0), (1, Vi p1), (2, Vi p2), (3, Vi p3)] stZ_t (by decide) rfl rfl (Nat.le_of_ble_eq_true rfl) rfl (fun G C => ?_)
  have i_X6 : ∀ w ∈ u_ws RX6 TX6 19, w ∈ wsX6_against := by decide +kernel
  have f_23 : Cond.fieldLink (yX6_against).cls 23 "SwanDeedsModel" "rowSize" "[I" ∈ wsX6_against := by decide +kernel
  have hz := sat_of hz
  unfold f_X6_against at hz
  refine q_aload_n C 0 rfl dX6_against_0 rfl ?_
  refine q_getR tO_X6 C (i := 5) i_X6 rfl rfl (by decide) rfl f_23 dX6_against_1 ?_
  refine q_iload_n C 1 rfl dX6_against_4 rfl ?_
  obtain ⟨c1, hz⟩ := sat_chk hz
  refine q_iald (tM_rowSize) C 0 rfl c1 dX6_against_5 ?_
  refine q_if_ge C dX6_against_6 (tgt := 15) (by decide) (fun c2 => ?_) (fun c2 => ?_)
  · have hz := sat_t hz c2
    refine q_iload_n C 2 rfl dX6_against_15 rfl ?_
    refine q_iload_n C 3 rfl dX6_against_16 rfl ?_
    refine q_aload_n C 0 rfl dX6_against_17 rfl ?_
    refine q_getR tO_X6 C (i := 5) i_X6 rfl rfl (by decide) rfl f_23 dX6_against_18 ?_
    refine q_iload_n C 1 rfl dX6_against_21 rfl ?_
    obtain ⟨c3, hz⟩ := sat_chk hz
    refine q_iald (tM_rowSize) C 0 rfl c3 dX6_against_22 ?_
    refine q_callSz stZ_t C [Vi p2, Vi p3, Vi (μ 33 (0 + p1))] [] (c_X6_fits μ p2 p3 (μ 33 (0 + p1))) gX6_against_X6_fits rfl ⟨rfl, rfl⟩ hdX6_fits ⟨by decide, by decide⟩ rfl (Nat.le_of_ble_eq_true rfl) dX6_against_23 rfl (fun hb4 _ => ?_)
    refine q_if_eq C dX6_against_26 (tgt := 33) (by decide) (fun c5 => ?_) (fun c5 => ?_)
    · have hz := sat_t hz c5
      refine q_aload_n C 0 rfl dX6_against_33 rfl ?_
      refine q_iconst C dX6_against_34 ⟨by decide, by decide⟩ ?_
      obtain ⟨z7, hz7, hz⟩ := sat_bind hz
      refine q_callVi stZ_t C [Vi 2] [] (c_X6_found μ 2 hz7) tO_X6 rfl gX6_against_X6_found rfl ⟨rfl, rfl⟩ hdX6_found ⟨by decide, by decide⟩ rfl (Nat.le_of_ble_eq_true rfl) dX6_against_35 rfl (fun _ _ => ?_)
      exact q_iret C dX6_against_38 (sat_eq hz)
    · have hz := sat_f hz c5
      refine q_iconst C dX6_against_29 ⟨by decide, by decide⟩ ?_
      refine q_goto C dX6_against_30 (tgt := 38) (by decide) ?_
      exact q_iret C dX6_against_38 (sat_eq hz)
  · have hz := sat_f hz c2
    refine q_aload_n C 0 rfl dX6_against_9 rfl ?_
    refine q_iconst C dX6_against_10 ⟨by decide, by decide⟩ ?_
    obtain ⟨z9, hz9, hz⟩ := sat_bind hz
    refine q_callVi stZ_t C [Vi 1] [] (c_X6_found μ 1 hz9) tO_X6 rfl gX6_against_X6_found rfl ⟨rfl, rfl⟩ hdX6_found ⟨by decide, by decide⟩ rfl (Nat.le_of_ble_eq_true rfl) dX6_against_11 rfl (fun _ _ => ?_)
    exact q_iret C dX6_against_14 (sat_eq hz)
theorem hdX6_feed : yX6_feed.cls = RX6 ∧ yX6_feed.cls ≠ "java/lang/invoke/MethodHandle" ∧ yX6_feed.cls ≠ "java/lang/invoke/VarHandle" ∧ (parseMethodDescriptor yX6_feed.desc).map (fun d => d.parameters.length) = some 1 := by decide +kernel
set_option maxHeartbeats 4000000 in
set_option maxRecDepth 100000 in
theorem c_X6_feed {l : Launch} {D : va_G} {ad : Nat → Nat} {cI cZ : ClassId} (μ : Mm) (p1 : Int) {v : Int × Mm} (hz : f_X6_feed μ p1 = some v) : CT l D vwCl (tyM cI cZ) 10 ad (EM ad cI cZ) (fun _ => True) yX6_feed wsX6_feed ({ frames := 1, cells := 0, slots := 0, locals := 25 } : Room) (some .int) [Vr 0, Vi p1] μ (v.1, v.2) := by
  refine CT_of [(0, Vr 0), (1, Vi p1)] stZ_t (by decide) rfl rfl (Nat.le_of_ble_eq_true rfl) rfl (fun G C => ?_)
  have i_X6 : ∀ w ∈ u_ws RX6 TX6 19, w ∈ wsX6_feed := by decide +kernel
  have f_29 : Cond.fieldLink (yX6_feed).cls 29 "SwanDeedsModel" "tape" "[I" ∈ wsX6_feed := by decide +kernel
  have f_69 : Cond.fieldLink (yX6_feed).cls 69 "SwanDeedsModel" "taped" "I" ∈ wsX6_feed := by decide +kernel
  have hz := sat_of hz
  unfold f_X6_feed at hz
  refine q_iload_n C 1 rfl dX6_feed_0 rfl ?_
  refine q_i2l C dX6_feed_1 ?_
  refine q_lconst (x := 0) C dX6_feed_2 ⟨rfl, by decide, by decide⟩ ?_
  refine q_ldc2 (v := 255) (x := 255) C (by decide +kernel) dX6_feed_3 ⟨by decide +kernel, by decide, by decide⟩ ?_
  refine q_callSz stZ_t C [Vl p1, Vl 0, Vl 255] [] (c_X6_in μ p1 0 255) gX6_feed_X6_in rfl ⟨rfl, rfl⟩ hdX6_in ⟨by decide, by decide⟩ rfl (Nat.le_of_ble_eq_true rfl) dX6_feed_6 rfl (fun hb1 _ => ?_)
  refine q_if_ne C dX6_feed_9 (tgt := 15) (by decide) (fun c2 => ?_) (fun c2 => ?_)
  · have hz := sat_f hz c2
    refine q_aload_n C 0 rfl dX6_feed_15 rfl ?_
    refine q_get tO_X6 C (i := 9) i_X6 rfl rfl (by decide) rfl f_69 dX6_feed_16 ?_
    refine q_bipush C dX6_feed_19 ⟨rfl, by decide, by decide⟩ ?_
    refine q_icmp_ne C dX6_feed_21 (tgt := 27) (by decide) (fun c3 => ?_) (fun c3 => ?_)
    · have hz := sat_f hz c3
      refine q_aload_n C 0 rfl dX6_feed_27 rfl ?_
      refine q_getR tO_X6 C (i := 8) i_X6 rfl rfl (by decide) rfl f_29 dX6_feed_28 ?_
      refine q_aload_n C 0 rfl dX6_feed_31 rfl ?_
      refine q_get tO_X6 C (i := 9) i_X6 rfl rfl (by decide) rfl f_69 dX6_feed_32 ?_
      refine q_iload_n C 1 rfl dX6_feed_35 rfl ?_
      obtain ⟨c4, hz⟩ := sat_chk hz
      obtain ⟨m5, hm5, hz⟩ := sat_bnd hz
      refine q_iast (tM_tape) C 0 rfl c4 hm5 dX6_feed_36 ?_
      refine q_aload_n C 0 rfl dX6_feed_37 rfl ?_
      refine q_dup C dX6_feed_38 rfl ?_
      refine q_get tO_X6 C (i := 9) i_X6 rfl rfl (by decide) rfl f_69 dX6_feed_39 ?_
      refine q_iconst C dX6_feed_42 ⟨by decide, by decide⟩ ?_
      refine q_iadd C dX6_feed_43 ?_
      obtain ⟨m6, hm6, hz⟩ := sat_bnd hz
      refine q_put tO_X6 C hm6 (i := 9) i_X6 tyX6_ok nmX6 rfl rfl (by decide) rfl f_69 dX6_feed_44 ?_
      refine q_aload_n C 0 rfl dX6_feed_47 rfl ?_
      refine q_get tO_X6 C (i := 9) i_X6 rfl rfl (by decide) rfl f_69 dX6_feed_48 ?_
      exact q_iret C dX6_feed_51 (sat_eq hz)
    · have hz := sat_t hz c3
      refine q_ldc (v := (-1000003)) (x := (-1000003)) C (by decide +kernel) dX6_feed_24 ⟨by decide +kernel, by decide, by decide⟩ ?_
      exact q_iret C dX6_feed_26 (sat_eq hz)
  · have hz := sat_t hz c2
    refine q_ldc (v := (-1000001)) (x := (-1000001)) C (by decide +kernel) dX6_feed_12 ⟨by decide +kernel, by decide, by decide⟩ ?_
    exact q_iret C dX6_feed_14 (sat_eq hz)
theorem hdX6_byteAt : yX6_byteAt.cls = RX6 ∧ yX6_byteAt.cls ≠ "java/lang/invoke/MethodHandle" ∧ yX6_byteAt.cls ≠ "java/lang/invoke/VarHandle" ∧ (parseMethodDescriptor yX6_byteAt.desc).map (fun d => d.parameters.length) = some 1 := by decide +kernel
set_option maxHeartbeats 4000000 in
set_option maxRecDepth 100000 in
theorem c_X6_byteAt {l : Launch} {D : va_G} {ad : Nat → Nat} {cI cZ : ClassId} (μ : Mm) (p1 : Int) {v : Int} (hz : f_X6_byteAt μ p1 = some v) : CT l D vwCl (tyM cI cZ) 10 ad (EM ad cI cZ) (fun _ => True) yX6_byteAt wsX6_byteAt ({ frames := 0, cells := 0, slots := 0, locals := 0 } : Room) (some .int) [Vr 0, Vi p1] μ (v, μ) := by
  refine CT_of [(0, Vr 0), (1, Vi p1)] stZ_t (by decide) rfl rfl (Nat.le_of_ble_eq_true rfl) rfl (fun G C => ?_)
  have i_X6 : ∀ w ∈ u_ws RX6 TX6 19, w ∈ wsX6_byteAt := by decide +kernel
  have f_29 : Cond.fieldLink (yX6_byteAt).cls 29 "SwanDeedsModel" "tape" "[I" ∈ wsX6_byteAt := by decide +kernel
  have f_69 : Cond.fieldLink (yX6_byteAt).cls 69 "SwanDeedsModel" "taped" "I" ∈ wsX6_byteAt := by decide +kernel
  have hz := sat_of hz
  unfold f_X6_byteAt at hz
  refine q_iload_n C 1 rfl dX6_byteAt_0 rfl ?_
  refine q_aload_n C 0 rfl dX6_byteAt_1 rfl ?_
  refine q_get tO_X6 C (i := 9) i_X6 rfl rfl (by decide) rfl f_69 dX6_byteAt_2 ?_
  refine q_icmp_ge C dX6_byteAt_5 (tgt := 17) (by decide) (fun c1 => ?_) (fun c1 => ?_)
  · have hz := sat_t hz c1
    refine q_iconst C dX6_byteAt_17 ⟨by decide, by decide⟩ ?_
    exact q_iret C dX6_byteAt_18 (congrArg (fun q => (q, μ)) (sat_eq hz))
  · have hz := sat_f hz c1
    refine q_aload_n C 0 rfl dX6_byteAt_8 rfl ?_
    refine q_getR tO_X6 C (i := 8) i_X6 rfl rfl (by decide) rfl f_29 dX6_byteAt_9 ?_
    refine q_iload_n C 1 rfl dX6_byteAt_12 rfl ?_
    obtain ⟨c2, hz⟩ := sat_chk hz
    refine q_iald (tM_tape) C 0 rfl c2 dX6_byteAt_13 ?_
    refine q_goto C dX6_byteAt_14 (tgt := 18) (by decide) ?_
    exact q_iret C dX6_byteAt_18 (congrArg (fun q => (q, μ)) (sat_eq hz))
theorem hdX6_fails : yX6_fails.cls = RX6 ∧ yX6_fails.cls ≠ "java/lang/invoke/MethodHandle" ∧ yX6_fails.cls ≠ "java/lang/invoke/VarHandle" ∧ (parseMethodDescriptor yX6_fails.desc).map (fun d => d.parameters.length) = some 2 := by decide +kernel
set_option maxHeartbeats 4000000 in
set_option maxRecDepth 100000 in
theorem c_X6_fails {l : Launch} {D : va_G} {ad : Nat → Nat} {cI cZ : ClassId} (μ : Mm) (p1 p2 : Int) {v : Int × Mm} (hz : f_X6_fails μ p1 p2 = some v) : CT l D vwCl (tyM cI cZ) 10 ad (EM ad cI cZ) (fun _ => True) yX6_fails wsX6_fails ({ frames := 0, cells := 0, slots := 0, locals := 0 } : Room) (some .boolean) [Vr 0, Vi p1, Vi p2] μ (v.1, v.2) := by
  refine CT_of [(0, Vr 0), (1, Vi p1), (2, Vi p2)] stZ_t (by decide) rfl rfl (Nat.le_of_ble_eq_true rfl) rfl (fun G C => ?_)
  have i_X6 : ∀ w ∈ u_ws RX6 TX6 19, w ∈ wsX6_fails := by decide +kernel
  have f_73 : Cond.fieldLink (yX6_fails).cls 73 "SwanDeedsModel" "faulty" "I" ∈ wsX6_fails := by decide +kernel
  have f_76 : Cond.fieldLink (yX6_fails).cls 76 "SwanDeedsModel" "faultAt" "I" ∈ wsX6_fails := by decide +kernel
  have hz := sat_of hz
  unfold f_X6_fails at hz
  refine q_aload_n C 0 rfl dX6_fails_0 rfl ?_
  refine q_iload_n C 1 rfl dX6_fails_1 rfl ?_
  obtain ⟨m1, hm1, hz⟩ := sat_bnd hz
  refine q_put tO_X6 C hm1 (i := 10) i_X6 tyX6_ok nmX6 rfl rfl (by decide) rfl f_73 dX6_fails_2 ?_
  refine q_aload_n C 0 rfl dX6_fails_5 rfl ?_
  refine q_iload_n C 2 rfl dX6_fails_6 rfl ?_
  obtain ⟨m2, hm2, hz⟩ := sat_bnd hz
  refine q_put tO_X6 C hm2 (i := 16) i_X6 tyX6_ok nmX6 rfl rfl (by decide) rfl f_76 dX6_fails_7 ?_
  refine q_iconst C dX6_fails_10 ⟨by decide, by decide⟩ ?_
  exact q_zret C (Or.inl rfl) dX6_fails_11 (sat_eq hz)
theorem hdX6_takes : yX6_takes.cls = RX6 ∧ yX6_takes.cls ≠ "java/lang/invoke/MethodHandle" ∧ yX6_takes.cls ≠ "java/lang/invoke/VarHandle" ∧ (parseMethodDescriptor yX6_takes.desc).map (fun d => d.parameters.length) = some 1 := by decide +kernel
set_option maxHeartbeats 4000000 in
set_option maxRecDepth 100000 in
theorem c_X6_takes {l : Launch} {D : va_G} {ad : Nat → Nat} {cI cZ : ClassId} (μ : Mm) (p1 : Int) {v : Int × Mm} (hz : f_X6_takes μ p1 = some v) : CT l D vwCl (tyM cI cZ) 10 ad (EM ad cI cZ) (fun _ => True) yX6_takes wsX6_takes ({ frames := 1, cells := 0, slots := 0, locals := 22 } : Room) (some .boolean) [Vr 0, Vi p1] μ (v.1, v.2) := by
  refine CT_of [(0, Vr 0), (1, Vi p1)] stZ_t (by decide) rfl rfl (Nat.le_of_ble_eq_true rfl) rfl (fun G C => ?_)
  have i_X6 : ∀ w ∈ u_ws RX6 TX6 19, w ∈ wsX6_takes := by decide +kernel
  have f_79 : Cond.fieldLink (yX6_takes).cls 79 "SwanDeedsModel" "at" "I" ∈ wsX6_takes := by decide +kernel
  have hz := sat_of hz
  unfold f_X6_takes at hz
  refine q_aload_n C 0 rfl dX6_takes_0 rfl ?_
  refine q_aload_n C 0 rfl dX6_takes_1 rfl ?_
  refine q_get tO_X6 C (i := 14) i_X6 rfl rfl (by decide) rfl f_79 dX6_takes_2 ?_
  obtain ⟨z2, hz2, hz⟩ := sat_bind hz
  refine q_callVi stZ_t C [Vi (μ 30 5)] [] (c_X6_byteAt μ (μ 30 5) hz2) tO_X6 rfl gX6_takes_X6_byteAt rfl ⟨rfl, rfl⟩ hdX6_byteAt ⟨by decide, by decide⟩ rfl (Nat.le_of_ble_eq_true rfl) dX6_takes_5 rfl (fun _ _ => ?_)
  refine q_iload_n C 1 rfl dX6_takes_8 rfl ?_
  refine q_icmp_eq C dX6_takes_9 (tgt := 22) (by decide) (fun c3 => ?_) (fun c3 => ?_)
  · have hz := sat_t hz c3
    refine q_aload_n C 0 rfl dX6_takes_22 rfl ?_
    refine q_dup C dX6_takes_23 rfl ?_
    refine q_get tO_X6 C (i := 14) i_X6 rfl rfl (by decide) rfl f_79 dX6_takes_24 ?_
    refine q_iconst C dX6_takes_27 ⟨by decide, by decide⟩ ?_
    refine q_iadd C dX6_takes_28 ?_
    obtain ⟨m4, hm4, hz⟩ := sat_bnd hz
    refine q_put tO_X6 C hm4 (i := 14) i_X6 tyX6_ok nmX6 rfl rfl (by decide) rfl f_79 dX6_takes_29 ?_
    refine q_iconst C dX6_takes_32 ⟨by decide, by decide⟩ ?_
    exact q_zret C (Or.inr rfl) dX6_takes_33 (sat_eq hz)
  · have hz := sat_f hz c3
    refine q_aload_n C 0 rfl dX6_takes_12 rfl ?_
    refine q_iconst C dX6_takes_13 ⟨by decide, by decide⟩ ?_
    refine q_aload_n C 0 rfl dX6_takes_14 rfl ?_
    refine q_get tO_X6 C (i := 14) i_X6 rfl rfl (by decide) rfl f_79 dX6_takes_15 ?_
    obtain ⟨z6, hz6, hz⟩ := sat_bind hz
    refine q_callVz stZ_t C [Vi 1, Vi (μ 30 5)] [] (c_X6_fails μ 1 (μ 30 5) hz6) tO_X6 rfl gX6_takes_X6_fails rfl ⟨rfl, rfl⟩ hdX6_fails ⟨by decide, by decide⟩ rfl (Nat.le_of_ble_eq_true rfl) dX6_takes_18 rfl (fun hb5 _ => ?_)
    exact q_zret C (hb5) dX6_takes_21 (sat_eq hz)
theorem hdX6_takesNumber : yX6_takesNumber.cls = RX6 ∧ yX6_takesNumber.cls ≠ "java/lang/invoke/MethodHandle" ∧ yX6_takesNumber.cls ≠ "java/lang/invoke/VarHandle" ∧ (parseMethodDescriptor yX6_takesNumber.desc).map (fun d => d.parameters.length) = some 3 := by decide +kernel
set_option maxHeartbeats 4000000 in
set_option maxRecDepth 100000 in
theorem c_X6_takesNumber {l : Launch} {D : va_G} {ad : Nat → Nat} {cI cZ : ClassId} (μ : Mm) (p1 p2 p3 : Int) {v : Int × Mm} (hz : f_X6_takesNumber μ p1 p2 p3 = some v) : CT l D vwCl (tyM cI cZ) 10 ad (EM ad cI cZ) (fun _ => True) yX6_takesNumber wsX6_takesNumber ({ frames := 2, cells := 0, slots := 0, locals := 43 } : Room) (some .boolean) [Vr 0, Vi p1, Vi p2, Vi p3] μ (v.1, v.2) := by
  refine CT_of [(0, Vr 0), (1, Vi p1), (2, Vi p2), (3, Vi p3)] stZ_t (by decide) rfl rfl (Nat.le_of_ble_eq_true rfl) rfl (fun G C => ?_)
  have i_X6 : ∀ w ∈ u_ws RX6 TX6 19, w ∈ wsX6_takesNumber := by decide +kernel
  have f_79 : Cond.fieldLink (yX6_takesNumber).cls 79 "SwanDeedsModel" "at" "I" ∈ wsX6_takesNumber := by decide +kernel
  have f_89 : Cond.fieldLink (yX6_takesNumber).cls 89 "SwanDeedsModel" "number" "I" ∈ wsX6_takesNumber := by decide +kernel
  have hz := sat_of hz
  unfold f_X6_takesNumber at hz
  refine q_aload_n C 0 rfl dX6_takesNumber_0 rfl ?_
  refine q_get tO_X6 C (i := 14) i_X6 rfl rfl (by decide) rfl f_79 dX6_takesNumber_1 ?_
  refine q_istore C [(4, Vi (μ 30 5)), (0, Vr 0), (1, Vi p1), (2, Vi p2), (3, Vi p3)] rfl (by decide) dX6_takesNumber_4 ?_
  refine q_aload_n C 1 rfl dX6_takesNumber_6 rfl ?_
  refine q_iconst C dX6_takesNumber_7 ⟨by decide, by decide⟩ ?_
  obtain ⟨m1, hm1, hz⟩ := sat_bnd hz
  refine q_put tO_X6 C hm1 (i := 15) i_X6 tyX6_ok nmX6 rfl rfl (by decide) rfl f_89 dX6_takesNumber_8 ?_
  refine q_sub C [1, 2, 3, 4, 0] [(0, Vr 0), (1, Vi p1), (2, Vi p2), (3, Vi p3), (4, Vi (μ 30 5))] rfl ?_
  refine loop_go (fun x2 => G x2 11 [(0, Vr 0), (1, Vi p1), (2, Vi p2), (3, Vi p3), (4, Vi (μ 30 5))] []) (sat_bind2 hz) (fun h => h) (fun x2 hz => ?_)
  refine q_aload_n C 0 rfl dX6_takesNumber_11 rfl ?_
  refine q_aload_n C 0 rfl dX6_takesNumber_12 rfl ?_
  refine q_get tO_X6 C (i := 14) i_X6 rfl rfl (by decide) rfl f_79 dX6_takesNumber_13 ?_
  obtain ⟨z4, hz4, hz⟩ := sat_bind hz
  refine q_callVi stZ_t C [Vi (x2 30 5)] [] (c_X6_byteAt x2 (x2 30 5) hz4) tO_X6 rfl gX6_takesNumber_X6_byteAt rfl ⟨rfl, rfl⟩ hdX6_byteAt ⟨by decide, by decide⟩ rfl (Nat.le_of_ble_eq_true rfl) dX6_takesNumber_16 rfl (fun _ _ => ?_)
  refine q_i2l C dX6_takesNumber_19 ?_
  refine q_ldc2 (v := 48) (x := 48) C (by decide +kernel) dX6_takesNumber_20 ⟨by decide +kernel, by decide, by decide⟩ ?_
  refine q_ldc2 (v := 57) (x := 57) C (by decide +kernel) dX6_takesNumber_23 ⟨by decide +kernel, by decide, by decide⟩ ?_
  refine q_callSz stZ_t C [Vl z4, Vl 48, Vl 57] [] (c_X6_in x2 z4 48 57) gX6_takesNumber_X6_in rfl ⟨rfl, rfl⟩ hdX6_in ⟨by decide, by decide⟩ rfl (Nat.le_of_ble_eq_true rfl) dX6_takesNumber_26 rfl (fun hb5 _ => ?_)
  refine q_if_eq C dX6_takesNumber_29 (tgt := 86) (by decide) (fun c6 => ?_) (fun c6 => ?_)
  · have hz := sat_t hz c6
    have hz := sat_some hz
    refine q_aload_n C 0 rfl dX6_takesNumber_86 rfl ?_
    refine q_get tO_X6 C (i := 14) i_X6 rfl rfl (by decide) rfl f_79 dX6_takesNumber_87 ?_
    refine q_iload C 4 rfl dX6_takesNumber_90 ?_
    refine q_icmp_eq C dX6_takesNumber_92 (tgt := 106) (by decide) (fun c7 => ?_) (fun c7 => ?_)
    · have hz := sat_t hz c7
      refine q_aload_n C 0 rfl dX6_takesNumber_106 rfl ?_
      refine q_iconst C dX6_takesNumber_107 ⟨by decide, by decide⟩ ?_
      refine q_iload C 4 rfl dX6_takesNumber_108 ?_
      obtain ⟨z9, hz9, hz⟩ := sat_bind hz
      refine q_callVz stZ_t C [Vi 1, Vi (μ 30 5)] [] (c_X6_fails x2 1 (μ 30 5) hz9) tO_X6 rfl gX6_takesNumber_X6_fails rfl ⟨rfl, rfl⟩ hdX6_fails ⟨by decide, by decide⟩ rfl (Nat.le_of_ble_eq_true rfl) dX6_takesNumber_110 rfl (fun hb8 _ => ?_)
      exact q_zret C (hb8) dX6_takesNumber_113 (sat_eq hz)
    · have hz := sat_f hz c7
      refine q_aload_n C 0 rfl dX6_takesNumber_95 rfl ?_
      refine q_get tO_X6 C (i := 14) i_X6 rfl rfl (by decide) rfl f_79 dX6_takesNumber_96 ?_
      refine q_iload C 4 rfl dX6_takesNumber_99 ?_
      refine q_isub C dX6_takesNumber_101 ?_
      refine q_iconst C dX6_takesNumber_102 ⟨by decide, by decide⟩ ?_
      refine q_icmp_le C dX6_takesNumber_103 (tgt := 114) (by decide) (fun c10 => ?_) (fun c10 => ?_)
      · have hz := sat_t hz c10
        refine q_aload_n C 0 rfl dX6_takesNumber_114 rfl ?_
        refine q_get tO_X6 C (i := 15) i_X6 rfl rfl (by decide) rfl f_89 dX6_takesNumber_115 ?_
        refine q_i2l C dX6_takesNumber_118 ?_
        refine q_iload_n C 1 rfl dX6_takesNumber_119 rfl ?_
        refine q_i2l C dX6_takesNumber_120 ?_
        refine q_iload_n C 2 rfl dX6_takesNumber_121 rfl ?_
        refine q_i2l C dX6_takesNumber_122 ?_
        refine q_callSz stZ_t C [Vl (x2 30 6), Vl p1, Vl p2] [] (c_X6_in x2 (x2 30 6) p1 p2) gX6_takesNumber_X6_in rfl ⟨rfl, rfl⟩ hdX6_in ⟨by decide, by decide⟩ rfl (Nat.le_of_ble_eq_true rfl) dX6_takesNumber_123 rfl (fun hb11 _ => ?_)
        refine q_if_eq C dX6_takesNumber_126 (tgt := 137) (by decide) (fun c12 => ?_) (fun c12 => ?_)
        · have hz := sat_t hz c12
          refine q_aload_n C 0 rfl dX6_takesNumber_137 rfl ?_
          refine q_iconst C dX6_takesNumber_138 ⟨by decide, by decide⟩ ?_
          refine q_iload C 4 rfl dX6_takesNumber_139 ?_
          obtain ⟨z14, hz14, hz⟩ := sat_bind hz
          refine q_callVz stZ_t C [Vi 2, Vi (μ 30 5)] [] (c_X6_fails x2 2 (μ 30 5) hz14) tO_X6 rfl gX6_takesNumber_X6_fails rfl ⟨rfl, rfl⟩ hdX6_fails ⟨by decide, by decide⟩ rfl (Nat.le_of_ble_eq_true rfl) dX6_takesNumber_141 rfl (fun hb13 _ => ?_)
          exact q_zret C (hb13) dX6_takesNumber_144 (sat_eq hz)
        · have hz := sat_f hz c12
          refine q_aload_n C 0 rfl dX6_takesNumber_129 rfl ?_
          refine q_iload_n C 3 rfl dX6_takesNumber_130 rfl ?_
          obtain ⟨z16, hz16, hz⟩ := sat_bind hz
          refine q_callVz stZ_t C [Vi p3] [] (c_X6_takes x2 p3 hz16) tO_X6 rfl gX6_takesNumber_X6_takes rfl ⟨rfl, rfl⟩ hdX6_takes ⟨by decide, by decide⟩ rfl (Nat.le_of_ble_eq_true rfl) dX6_takesNumber_131 rfl (fun hb15 _ => ?_)
          refine q_goto C dX6_takesNumber_134 (tgt := 144) (by decide) ?_
          exact q_zret C (hb15) dX6_takesNumber_144 (sat_eq hz)
      · have hz := sat_f hz c10
        refine q_aload_n C 0 rfl dX6_takesNumber_106 rfl ?_
        refine q_iconst C dX6_takesNumber_107 ⟨by decide, by decide⟩ ?_
        refine q_iload C 4 rfl dX6_takesNumber_108 ?_
        obtain ⟨z18, hz18, hz⟩ := sat_bind hz
        refine q_callVz stZ_t C [Vi 1, Vi (μ 30 5)] [] (c_X6_fails x2 1 (μ 30 5) hz18) tO_X6 rfl gX6_takesNumber_X6_fails rfl ⟨rfl, rfl⟩ hdX6_fails ⟨by decide, by decide⟩ rfl (Nat.le_of_ble_eq_true rfl) dX6_takesNumber_110 rfl (fun hb17 _ => ?_)
        exact q_zret C (hb17) dX6_takesNumber_113 (sat_eq hz)
  · have hz := sat_f hz c6
    refine q_aload_n C 0 rfl dX6_takesNumber_32 rfl ?_
    refine q_aload_n C 0 rfl dX6_takesNumber_33 rfl ?_
    refine q_get tO_X6 C (i := 14) i_X6 rfl rfl (by decide) rfl f_79 dX6_takesNumber_34 ?_
    refine q_iload C 4 rfl dX6_takesNumber_37 ?_
    refine q_isub C dX6_takesNumber_39 ?_
    refine q_iconst C dX6_takesNumber_40 ⟨by decide, by decide⟩ ?_
    obtain ⟨v19, hv19, hz⟩ := sat_bind hz
    have Jv19 : G x2 70 [(0, Vr 0), (1, Vi p1), (2, Vi p2), (3, Vi p3), (4, Vi (μ 30 5))] [Vi v19, Vr 0] := by
      obtain ⟨m20, hm20, hz⟩ := sat_bnd hz
      refine q_put tO_X6 C hm20 (i := 15) i_X6 tyX6_ok nmX6 rfl rfl (by decide) rfl f_89 dX6_takesNumber_70 ?_
      refine q_aload_n C 0 rfl dX6_takesNumber_73 rfl ?_
      refine q_dup C dX6_takesNumber_74 rfl ?_
      refine q_get tO_X6 C (i := 14) i_X6 rfl rfl (by decide) rfl f_79 dX6_takesNumber_75 ?_
      refine q_iconst C dX6_takesNumber_78 ⟨by decide, by decide⟩ ?_
      refine q_iadd C dX6_takesNumber_79 ?_
      obtain ⟨m21, hm21, hz⟩ := sat_bnd hz
      refine q_put tO_X6 C hm21 (i := 14) i_X6 tyX6_ok nmX6 rfl rfl (by decide) rfl f_79 dX6_takesNumber_80 ?_
      refine q_goto C dX6_takesNumber_83 (tgt := 11) (by decide) ?_
      have hz := sat_some hz
      exact hz
    have hz := sat_of hv19
    refine q_icmp_ge C dX6_takesNumber_41 (tgt := 66) (by decide) (fun c22 => ?_) (fun c22 => ?_)
    · have hz := sat_t hz c22
      refine q_aload_n C 0 rfl dX6_takesNumber_66 rfl ?_
      refine q_get tO_X6 C (i := 15) i_X6 rfl rfl (by decide) rfl f_89 dX6_takesNumber_67 ?_
      have hz := sat_some hz
      have hz : _ = v19 := hz
      subst hz
      exact Jv19
    · have hz := sat_f hz c22
      refine q_bipush C dX6_takesNumber_44 ⟨rfl, by decide, by decide⟩ ?_
      refine q_aload_n C 0 rfl dX6_takesNumber_46 rfl ?_
      refine q_get tO_X6 C (i := 15) i_X6 rfl rfl (by decide) rfl f_89 dX6_takesNumber_47 ?_
      refine q_imul C dX6_takesNumber_50 ?_
      refine q_aload_n C 0 rfl dX6_takesNumber_51 rfl ?_
      refine q_aload_n C 0 rfl dX6_takesNumber_52 rfl ?_
      refine q_get tO_X6 C (i := 14) i_X6 rfl rfl (by decide) rfl f_79 dX6_takesNumber_53 ?_
      obtain ⟨z24, hz24, hz⟩ := sat_bind hz
      refine q_callVi stZ_t C [Vi (x2 30 5)] [Vi (w3 (10 * (x2 30 6))), Vr 0] (c_X6_byteAt x2 (x2 30 5) hz24) tO_X6 rfl gX6_takesNumber_X6_byteAt rfl ⟨rfl, rfl⟩ hdX6_byteAt ⟨by decide, by decide⟩ rfl (Nat.le_of_ble_eq_true rfl) dX6_takesNumber_56 rfl (fun _ _ => ?_)
      refine q_iadd C dX6_takesNumber_59 ?_
      refine q_bipush C dX6_takesNumber_60 ⟨rfl, by decide, by decide⟩ ?_
      refine q_isub C dX6_takesNumber_62 ?_
      refine q_goto C dX6_takesNumber_63 (tgt := 70) (by decide) ?_
      have hz := sat_some hz
      have hz : _ = v19 := hz
      subst hz
      exact Jv19
