theorem hdX6_restore : yX6_restore.cls = RX6 ∧ yX6_restore.cls ≠ "java/lang/invoke/MethodHandle" ∧ yX6_restore.cls ≠ "java/lang/invoke/VarHandle" ∧ (parseMethodDescriptor yX6_restore.desc).map (fun d => d.parameters.length) = some 1 := by decide +kernel
set_option maxHeartbeats 4000000 in
set_option maxRecDepth 100000 in
theorem c_X6_restore {l : Launch} {D : va_G} {ad : Nat → Nat} {cI cZ : ClassId} (μ : Mm) (p1 : Int) {v : Int × Mm} (hz : f_X6_restore μ p1 = some v) : CT l D vwCl (tyM cI cZ) 10 ad (EM ad cI cZ) (fun _ => True) yX6_restore wsX6_restore ({ frames := 1, cells := 0, slots := 0, locals := 25 } : Room) (some .int) [Vr 0, Vi p1] μ (v.1, v.2) := by
  refine CT_of [(0, Vr 0), (1, Vi p1)] stZ_t (by decide) rfl rfl (Nat.le_of_ble_eq_true rfl) rfl (fun G C => ?_)
  have i_X6 : ∀ w ∈ u_ws RX6 TX6 19, w ∈ wsX6_restore := by decide +kernel
  have f_13 : Cond.fieldLink (yX6_restore).cls 13 "SwanDeedsModel" "isKept" "[Z" ∈ wsX6_restore := by decide +kernel
  have f_117 : Cond.fieldLink (yX6_restore).cls 117 "SwanDeedsModel" "acted" "I" ∈ wsX6_restore := by decide +kernel
  have hz := sat_of hz
  unfold f_X6_restore at hz
  refine q_iload_n C 1 rfl dX6_restore_0 rfl ?_
  refine q_i2l C dX6_restore_1 ?_
  refine q_lconst (x := 0) C dX6_restore_2 ⟨rfl, by decide, by decide⟩ ?_
  refine q_lconst (x := 1) C dX6_restore_3 ⟨rfl, by decide, by decide⟩ ?_
  refine q_callSz stZ_t C [Vl p1, Vl 0, Vl 1] [] (c_X6_in μ p1 0 1) gX6_restore_X6_in rfl ⟨rfl, rfl⟩ hdX6_in ⟨by decide, by decide⟩ rfl (Nat.le_of_ble_eq_true rfl) dX6_restore_4 rfl (fun hb1 _ => ?_)
  refine q_if_ne C dX6_restore_7 (tgt := 13) (by decide) (fun c2 => ?_) (fun c2 => ?_)
  · have hz := sat_f hz c2
    refine q_aload_n C 0 rfl dX6_restore_13 rfl ?_
    refine q_getR tO_X6 C (i := 1) i_X6 rfl rfl (by decide) rfl f_13 dX6_restore_14 ?_
    refine q_iload_n C 1 rfl dX6_restore_17 rfl ?_
    obtain ⟨c3, hz⟩ := sat_chk hz
    refine q_zald (tM_isKept) C 1 rfl c3 dX6_restore_18 ?_
    refine q_if_ne C dX6_restore_19 (tgt := 25) (by decide) (fun c4 => ?_) (fun c4 => ?_)
    · have hz := sat_f hz c4
      refine q_aload_n C 0 rfl dX6_restore_25 rfl ?_
      refine q_bipush C dX6_restore_26 ⟨rfl, by decide, by decide⟩ ?_
      refine q_iconst C dX6_restore_28 ⟨by decide, by decide⟩ ?_
      refine q_iload_n C 1 rfl dX6_restore_29 rfl ?_
      refine q_iadd C dX6_restore_30 ?_
      refine q_imul C dX6_restore_31 ?_
      refine q_iconst C dX6_restore_32 ⟨by decide, by decide⟩ ?_
      obtain ⟨z6, hz6, hz⟩ := sat_bind hz
      refine q_callVv stZ_t C [Vi (w3 (38 * (w3 (1 + p1)))), Vi 0] [] (c_X6_copyAll μ (w3 (38 * (w3 (1 + p1)))) 0 hz6) tO_X6 rfl gX6_restore_X6_copyAll rfl ⟨rfl, rfl⟩ hdX6_copyAll ⟨by decide, by decide⟩ rfl (Nat.le_of_ble_eq_true rfl) dX6_restore_33 rfl (fun _ => ?_)
      refine q_aload_n C 0 rfl dX6_restore_36 rfl ?_
      refine q_iconst C dX6_restore_37 ⟨by decide, by decide⟩ ?_
      obtain ⟨m7, hm7, hz⟩ := sat_bnd hz
      refine q_put tO_X6 C hm7 (i := 3) i_X6 tyX6_ok nmX6 rfl rfl (by decide) rfl f_117 dX6_restore_38 ?_
      refine q_iconst C dX6_restore_41 ⟨by decide, by decide⟩ ?_
      exact q_iret C dX6_restore_42 (sat_eq hz)
    · have hz := sat_t hz c4
      refine q_ldc (v := (-1000002)) (x := (-1000002)) C (by decide +kernel) dX6_restore_22 ⟨by decide +kernel, by decide, by decide⟩ ?_
      exact q_iret C dX6_restore_24 (sat_eq hz)
  · have hz := sat_t hz c2
    refine q_ldc (v := (-1000001)) (x := (-1000001)) C (by decide +kernel) dX6_restore_10 ⟨by decide +kernel, by decide, by decide⟩ ?_
    exact q_iret C dX6_restore_12 (sat_eq hz)
theorem hdX6_kind : yX6_kind.cls = RX6 ∧ yX6_kind.cls ≠ "java/lang/invoke/MethodHandle" ∧ yX6_kind.cls ≠ "java/lang/invoke/VarHandle" ∧ (parseMethodDescriptor yX6_kind.desc).map (fun d => d.parameters.length) = some 1 := by decide +kernel
set_option maxHeartbeats 4000000 in
set_option maxRecDepth 100000 in
theorem c_X6_kind {l : Launch} {D : va_G} {ad : Nat → Nat} {cI cZ : ClassId} (μ : Mm) (p1 : Int) {v : Int} (hz : f_X6_kind μ p1 = some v) : CT l D vwCl (tyM cI cZ) 10 ad (EM ad cI cZ) (fun _ => True) yX6_kind wsX6_kind ({ frames := 2, cells := 0, slots := 0, locals := 46 } : Room) (some .int) [Vr 0, Vi p1] μ (v, μ) := by
  refine CT_of [(0, Vr 0), (1, Vi p1)] stZ_t (by decide) rfl rfl (Nat.le_of_ble_eq_true rfl) rfl (fun G C => ?_)
  have i_X6 : ∀ w ∈ u_ws RX6 TX6 19, w ∈ wsX6_kind := by decide +kernel
  have f_7 : Cond.fieldLink (yX6_kind).cls 7 "SwanDeedsModel" "w" "[I" ∈ wsX6_kind := by decide +kernel
  have hz := sat_of hz
  unfold f_X6_kind at hz
  refine q_aload_n C 0 rfl dX6_kind_0 rfl ?_
  refine q_iload_n C 1 rfl dX6_kind_1 rfl ?_
  obtain ⟨z2, hz2, hz⟩ := sat_bind hz
  refine q_callVz stZ_t C [Vi p1] [] (c_X6_isSwan μ p1 hz2) tO_X6 rfl gX6_kind_X6_isSwan rfl ⟨rfl, rfl⟩ hdX6_isSwan ⟨by decide, by decide⟩ rfl (Nat.le_of_ble_eq_true rfl) dX6_kind_2 rfl (fun hb1 _ => ?_)
  refine q_if_eq C dX6_kind_5 (tgt := 20) (by decide) (fun c3 => ?_) (fun c3 => ?_)
  · have hz := sat_t hz c3
    refine q_ldc (v := (-1000001)) (x := (-1000001)) C (by decide +kernel) dX6_kind_20 ⟨by decide +kernel, by decide, by decide⟩ ?_
    exact q_iret C dX6_kind_22 (congrArg (fun q => (q, μ)) (sat_eq hz))
  · have hz := sat_f hz c3
    refine q_aload_n C 0 rfl dX6_kind_8 rfl ?_
    refine q_getR tO_X6 C (i := 0) i_X6 rfl rfl (by decide) rfl f_7 dX6_kind_9 ?_
    refine q_bipush C dX6_kind_12 ⟨rfl, by decide, by decide⟩ ?_
    refine q_iload_n C 1 rfl dX6_kind_14 rfl ?_
    refine q_iadd C dX6_kind_15 ?_
    obtain ⟨c4, hz⟩ := sat_chk hz
    refine q_wald C c4 dX6_kind_16 ?_
    refine q_goto C dX6_kind_17 (tgt := 22) (by decide) ?_
    exact q_iret C dX6_kind_22 (congrArg (fun q => (q, μ)) (sat_eq hz))
theorem hdX6_as : yX6_as.cls = RX6 ∧ yX6_as.cls ≠ "java/lang/invoke/MethodHandle" ∧ yX6_as.cls ≠ "java/lang/invoke/VarHandle" ∧ (parseMethodDescriptor yX6_as.desc).map (fun d => d.parameters.length) = some 2 := by decide +kernel
set_option maxHeartbeats 4000000 in
set_option maxRecDepth 100000 in
theorem c_X6_as {l : Launch} {D : va_G} {ad : Nat → Nat} {cI cZ : ClassId} (μ : Mm) (p1 p2 : Int) {v : Int × Mm} (hz : f_X6_as μ p1 p2 = some v) : CT l D vwCl (tyM cI cZ) 10 ad (EM ad cI cZ) (fun _ => True) yX6_as wsX6_as ({ frames := 2, cells := 0, slots := 0, locals := 46 } : Room) (some .int) [Vr 0, Vi p1, Vi p2] μ (v.1, v.2) := by
  refine CT_of [(0, Vr 0), (1, Vi p1), (2, Vi p2)] stZ_t (by decide) rfl rfl (Nat.le_of_ble_eq_true rfl) rfl (fun G C => ?_)
  have i_X6 : ∀ w ∈ u_ws RX6 TX6 19, w ∈ wsX6_as := by decide +kernel
  have f_7 : Cond.fieldLink (yX6_as).cls 7 "SwanDeedsModel" "w" "[I" ∈ wsX6_as := by decide +kernel
  have hz := sat_of hz
  unfold f_X6_as at hz
  refine q_aload_n C 0 rfl dX6_as_0 rfl ?_
  refine q_iload_n C 1 rfl dX6_as_1 rfl ?_
  obtain ⟨z2, hz2, hz⟩ := sat_bind hz
  refine q_callVz stZ_t C [Vi p1] [] (c_X6_isSwan μ p1 hz2) tO_X6 rfl gX6_as_X6_isSwan rfl ⟨rfl, rfl⟩ hdX6_isSwan ⟨by decide, by decide⟩ rfl (Nat.le_of_ble_eq_true rfl) dX6_as_2 rfl (fun hb1 _ => ?_)
  refine q_if_eq C dX6_as_5 (tgt := 20) (by decide) (fun c3 => ?_) (fun c3 => ?_)
  · have hz := sat_t hz c3
    refine q_ldc (v := (-1000001)) (x := (-1000001)) C (by decide +kernel) dX6_as_20 ⟨by decide +kernel, by decide, by decide⟩ ?_
    exact q_iret C dX6_as_22 (sat_eq hz)
  · have hz := sat_f hz c3
    refine q_iload_n C 2 rfl dX6_as_8 rfl ?_
    refine q_i2l C dX6_as_9 ?_
    refine q_lconst (x := 0) C dX6_as_10 ⟨rfl, by decide, by decide⟩ ?_
    refine q_ldc2 (v := 5) (x := 5) C (by decide +kernel) dX6_as_11 ⟨by decide +kernel, by decide, by decide⟩ ?_
    refine q_callSz stZ_t C [Vl p2, Vl 0, Vl 5] [] (c_X6_in μ p2 0 5) gX6_as_X6_in rfl ⟨rfl, rfl⟩ hdX6_in ⟨by decide, by decide⟩ rfl (Nat.le_of_ble_eq_true rfl) dX6_as_14 rfl (fun hb4 _ => ?_)
    refine q_if_ne C dX6_as_17 (tgt := 23) (by decide) (fun c5 => ?_) (fun c5 => ?_)
    · have hz := sat_f hz c5
      refine q_aload_n C 0 rfl dX6_as_23 rfl ?_
      refine q_getR tO_X6 C (i := 0) i_X6 rfl rfl (by decide) rfl f_7 dX6_as_24 ?_
      refine q_bipush C dX6_as_27 ⟨rfl, by decide, by decide⟩ ?_
      refine q_iload_n C 1 rfl dX6_as_29 rfl ?_
      refine q_iadd C dX6_as_30 ?_
      obtain ⟨c6, hz⟩ := sat_chk hz
      refine q_wald C c6 dX6_as_31 ?_
      refine q_istore_n C [(3, Vi (rdW μ (w3 (26 + p1)))), (0, Vr 0), (1, Vi p1), (2, Vi p2)] rfl (by decide) dX6_as_32 rfl ?_
      refine q_iload_n C 3 rfl dX6_as_33 rfl ?_
      obtain ⟨v7, hv7, hz⟩ := sat_bnd hz
      have Jv7 : G μ 67 [(0, Vr 0), (1, Vi p1)] [Vi v7] := by
        refine q_istore C [(4, Vi v7), (0, Vr 0), (1, Vi p1)] rfl (by decide) dX6_as_67 ?_
        refine q_iload C 0 rfl dX6_as_69 ?_
        refine q_if_eq C dX6_as_71 (tgt := 82) (by decide) (fun c8 => ?_) (fun c8 => ?_)
        · have hz := sat_t hz c8
          refine q_aload_n C 1 rfl dX6_as_82 rfl ?_
          refine q_iconst C dX6_as_83 ⟨by decide, by decide⟩ ?_
          obtain ⟨z10, hz10, hz⟩ := sat_bind hz
          refine q_callVi stZ_t C [Vi 3] [] (c_X6_found μ 3 hz10) tO_X6 rfl gX6_as_X6_found rfl ⟨rfl, rfl⟩ hdX6_found ⟨by decide, by decide⟩ rfl (Nat.le_of_ble_eq_true rfl) dX6_as_84 rfl (fun _ _ => ?_)
          exact q_iret C dX6_as_87 (sat_eq hz)
        · have hz := sat_f hz c8
          refine q_aload_n C 1 rfl dX6_as_74 rfl ?_
          refine q_iload_n C 2 rfl dX6_as_75 rfl ?_
          obtain ⟨z12, hz12, hz⟩ := sat_bind hz
          refine q_callVi stZ_t C [Vi p1] [] (c_X6_good μ p1 hz12) tO_X6 rfl gX6_as_X6_good rfl ⟨rfl, rfl⟩ hdX6_good ⟨by decide, by decide⟩ rfl (Nat.le_of_ble_eq_true rfl) dX6_as_76 rfl (fun _ _ => ?_)
          refine q_goto C dX6_as_79 (tgt := 87) (by decide) ?_
          exact q_iret C dX6_as_87 (sat_eq hz)
      have hz := hv7.symm
      refine q_if_eq C dX6_as_34 (tgt := 62) (by decide) (fun c13 => ?_) (fun c13 => ?_)
      · have hz := eq_t hz c13
        refine q_iconst C dX6_as_62 ⟨by decide, by decide⟩ ?_
        refine q_goto C dX6_as_63 (tgt := 67) (by decide) ?_
        have hz : _ = v7 := hz
        refine q_sub C [1, 2] [(0, Vr 0), (1, Vi p1)] rfl ?_
        subst hz
        exact Jv7
      · have hz := eq_f hz c13
        refine q_iload_n C 3 rfl dX6_as_37 rfl ?_
        refine q_iload_n C 0 rfl dX6_as_38 rfl ?_
        refine q_icmp_eq C dX6_as_39 (tgt := 62) (by decide) (fun c14 => ?_) (fun c14 => ?_)
        · have hz := eq_t hz c14
          refine q_iconst C dX6_as_62 ⟨by decide, by decide⟩ ?_
          refine q_goto C dX6_as_63 (tgt := 67) (by decide) ?_
          have hz : _ = v7 := hz
          refine q_sub C [1, 2] [(0, Vr 0), (1, Vi p1)] rfl ?_
          subst hz
          exact Jv7
        · have hz := eq_f hz c14
          refine q_iload_n C 3 rfl dX6_as_42 rfl ?_
          refine q_iconst C dX6_as_43 ⟨by decide, by decide⟩ ?_
          refine q_icmp_ne C dX6_as_44 (tgt := 52) (by decide) (fun c15 => ?_) (fun c15 => ?_)
          · have hz := eq_f hz c15
            refine q_iload_n C 3 rfl dX6_as_52 rfl ?_
            refine q_iconst C dX6_as_53 ⟨by decide, by decide⟩ ?_
            refine q_icmp_ne C dX6_as_54 (tgt := 66) (by decide) (fun c16 => ?_) (fun c16 => ?_)
            · have hz := eq_f hz c16
              refine q_iconst C dX6_as_66 ⟨by decide, by decide⟩ ?_
              have hz : _ = v7 := hz
              refine q_sub C [1, 2] [(0, Vr 0), (1, Vi p1)] rfl ?_
              subst hz
              exact Jv7
            · have hz := eq_t hz c16
              refine q_iload_n C 0 rfl dX6_as_57 rfl ?_
              refine q_iconst C dX6_as_58 ⟨by decide, by decide⟩ ?_
              refine q_icmp_ne C dX6_as_59 (tgt := 66) (by decide) (fun c17 => ?_) (fun c17 => ?_)
              · have hz := eq_f hz c17
                refine q_iconst C dX6_as_66 ⟨by decide, by decide⟩ ?_
                have hz : _ = v7 := hz
                refine q_sub C [1, 2] [(0, Vr 0), (1, Vi p1)] rfl ?_
                subst hz
                exact Jv7
              · have hz := eq_t hz c17
                refine q_iconst C dX6_as_62 ⟨by decide, by decide⟩ ?_
                refine q_goto C dX6_as_63 (tgt := 67) (by decide) ?_
                have hz : _ = v7 := hz
                refine q_sub C [1, 2] [(0, Vr 0), (1, Vi p1)] rfl ?_
                subst hz
                exact Jv7
          · have hz := eq_t hz c15
            refine q_iload_n C 0 rfl dX6_as_47 rfl ?_
            refine q_iconst C dX6_as_48 ⟨by decide, by decide⟩ ?_
            refine q_icmp_lt C dX6_as_49 (tgt := 62) (by decide) (fun c18 => ?_) (fun c18 => ?_)
            · have hz := eq_t hz c18
              refine q_iconst C dX6_as_62 ⟨by decide, by decide⟩ ?_
              refine q_goto C dX6_as_63 (tgt := 67) (by decide) ?_
              have hz : _ = v7 := hz
              refine q_sub C [1, 2] [(0, Vr 0), (1, Vi p1)] rfl ?_
              subst hz
              exact Jv7
            · have hz := eq_f hz c18
              refine q_iload_n C 3 rfl dX6_as_52 rfl ?_
              refine q_iconst C dX6_as_53 ⟨by decide, by decide⟩ ?_
              refine q_icmp_ne C dX6_as_54 (tgt := 66) (by decide) (fun c19 => ?_) (fun c19 => ?_)
              · have hz := eq_f hz c19
                refine q_iconst C dX6_as_66 ⟨by decide, by decide⟩ ?_
                have hz : _ = v7 := hz
                refine q_sub C [1, 2] [(0, Vr 0), (1, Vi p1)] rfl ?_
                subst hz
                exact Jv7
              · have hz := eq_t hz c19
                refine q_iload_n C 0 rfl dX6_as_57 rfl ?_
                refine q_iconst C dX6_as_58 ⟨by decide, by decide⟩ ?_
                refine q_icmp_ne C dX6_as_59 (tgt := 66) (by decide) (fun c20 => ?_) (fun c20 => ?_)
                · have hz := eq_f hz c20
                  refine q_iconst C dX6_as_66 ⟨by decide, by decide⟩ ?_
                  have hz : _ = v7 := hz
                  refine q_sub C [1, 2] [(0, Vr 0), (1, Vi p1)] rfl ?_
                  subst hz
                  exact Jv7
                · have hz := eq_t hz c20
                  refine q_iconst C dX6_as_62 ⟨by decide, by decide⟩ ?_
                  refine q_goto C dX6_as_63 (tgt := 67) (by decide) ?_
                  have hz : _ = v7 := hz
                  refine q_sub C [1, 2] [(0, Vr 0), (1, Vi p1)] rfl ?_
                  subst hz
                  exact Jv7
    · have hz := sat_t hz c5
      refine q_ldc (v := (-1000001)) (x := (-1000001)) C (by decide +kernel) dX6_as_20 ⟨by decide +kernel, by decide, by decide⟩ ?_
      exact q_iret C dX6_as_22 (sat_eq hz)
theorem hdX6_begins : yX6_begins.cls = RX6 ∧ yX6_begins.cls ≠ "java/lang/invoke/MethodHandle" ∧ yX6_begins.cls ≠ "java/lang/invoke/VarHandle" ∧ (parseMethodDescriptor yX6_begins.desc).map (fun d => d.parameters.length) = some 1 := by decide +kernel
set_option maxHeartbeats 4000000 in
set_option maxRecDepth 100000 in
theorem c_X6_begins {l : Launch} {D : va_G} {ad : Nat → Nat} {cI cZ : ClassId} (μ : Mm) (p1 : Int) {v : Mm} (hz : f_X6_begins μ p1 = some v) : CT l D vwCl (tyM cI cZ) 10 ad (EM ad cI cZ) (fun _ => True) yX6_begins wsX6_begins ({ frames := 0, cells := 0, slots := 0, locals := 0 } : Room) none [Vr 0, Vi p1] μ ((0 : Int), v) := by
  refine CT_of [(0, Vr 0), (1, Vi p1)] stZ_t (by decide) rfl rfl (Nat.le_of_ble_eq_true rfl) rfl (fun G C => ?_)
  have i_X6 : ∀ w ∈ u_ws RX6 TX6 19, w ∈ wsX6_begins := by decide +kernel
  have f_32 : Cond.fieldLink (yX6_begins).cls 32 "SwanDeedsModel" "trace" "[I" ∈ wsX6_begins := by decide +kernel
  have f_230 : Cond.fieldLink (yX6_begins).cls 230 "SwanDeedsModel" "traced" "I" ∈ wsX6_begins := by decide +kernel
  have hz := sat_of hz
  unfold f_X6_begins at hz
  refine q_aload_n C 0 rfl dX6_begins_0 rfl ?_
  refine q_get tO_X6 C (i := 12) i_X6 rfl rfl (by decide) rfl f_230 dX6_begins_1 ?_
  refine q_bipush C dX6_begins_4 ⟨rfl, by decide, by decide⟩ ?_
  refine q_icmp_ge C dX6_begins_6 (tgt := 29) (by decide) (fun c1 => ?_) (fun c1 => ?_)
  · have hz := sat_t hz c1
    exact q_vret C dX6_begins_29 (congrArg (fun q => ((0 : Int), q)) (sat_eq hz))
  · have hz := sat_f hz c1
    refine q_aload_n C 0 rfl dX6_begins_9 rfl ?_
    refine q_getR tO_X6 C (i := 11) i_X6 rfl rfl (by decide) rfl f_32 dX6_begins_10 ?_
    refine q_aload_n C 0 rfl dX6_begins_13 rfl ?_
    refine q_get tO_X6 C (i := 12) i_X6 rfl rfl (by decide) rfl f_230 dX6_begins_14 ?_
    refine q_iload_n C 1 rfl dX6_begins_17 rfl ?_
    obtain ⟨c2, hz⟩ := sat_chk hz
    obtain ⟨m3, hm3, hz⟩ := sat_bnd hz
    refine q_iast (tM_trace) C 0 rfl c2 hm3 dX6_begins_18 ?_
    refine q_aload_n C 0 rfl dX6_begins_19 rfl ?_
    refine q_dup C dX6_begins_20 rfl ?_
    refine q_get tO_X6 C (i := 12) i_X6 rfl rfl (by decide) rfl f_230 dX6_begins_21 ?_
    refine q_iconst C dX6_begins_24 ⟨by decide, by decide⟩ ?_
    refine q_iadd C dX6_begins_25 ?_
    obtain ⟨m4, hm4, hz⟩ := sat_bnd hz
    refine q_put tO_X6 C hm4 (i := 12) i_X6 tyX6_ok nmX6 rfl rfl (by decide) rfl f_230 dX6_begins_26 ?_
    exact q_vret C dX6_begins_29 (congrArg (fun q => ((0 : Int), q)) (sat_eq hz))
theorem hdX6_markLent : yX6_markLent.cls = RX6 ∧ yX6_markLent.cls ≠ "java/lang/invoke/MethodHandle" ∧ yX6_markLent.cls ≠ "java/lang/invoke/VarHandle" ∧ (parseMethodDescriptor yX6_markLent.desc).map (fun d => d.parameters.length) = some 1 := by decide +kernel
set_option maxHeartbeats 4000000 in
set_option maxRecDepth 100000 in
theorem c_X6_markLent {l : Launch} {D : va_G} {ad : Nat → Nat} {cI cZ : ClassId} (μ : Mm) (p1 : Int) {v : Int × Mm} (hz : f_X6_markLent μ p1 = some v) : CT l D vwCl (tyM cI cZ) 10 ad (EM ad cI cZ) (fun _ => True) yX6_markLent wsX6_markLent ({ frames := 1, cells := 0, slots := 0, locals := 21 } : Room) (some .int) [Vr 0, Vi p1] μ (v.1, v.2) := by
  refine CT_of [(0, Vr 0), (1, Vi p1)] stZ_t (by decide) rfl rfl (Nat.le_of_ble_eq_true rfl) rfl (fun G C => ?_)
  have hz := sat_of hz
  unfold f_X6_markLent at hz
  refine q_aload_n C 0 rfl dX6_markLent_0 rfl ?_
  refine q_bipush C dX6_markLent_1 ⟨rfl, by decide, by decide⟩ ?_
  obtain ⟨z2, hz2, hz⟩ := sat_bind hz
  refine q_callVv stZ_t C [Vi 20] [] (c_X6_begins μ 20 hz2) tO_X6 rfl gX6_markLent_X6_begins rfl ⟨rfl, rfl⟩ hdX6_begins ⟨by decide, by decide⟩ rfl (Nat.le_of_ble_eq_true rfl) dX6_markLent_3 rfl (fun _ => ?_)
  refine q_iload_n C 1 rfl dX6_markLent_6 rfl ?_
  exact q_iret C dX6_markLent_7 (sat_eq hz)
theorem hdX6_markPen : yX6_markPen.cls = RX6 ∧ yX6_markPen.cls ≠ "java/lang/invoke/MethodHandle" ∧ yX6_markPen.cls ≠ "java/lang/invoke/VarHandle" ∧ (parseMethodDescriptor yX6_markPen.desc).map (fun d => d.parameters.length) = some 1 := by decide +kernel
set_option maxHeartbeats 4000000 in
set_option maxRecDepth 100000 in
theorem c_X6_markPen {l : Launch} {D : va_G} {ad : Nat → Nat} {cI cZ : ClassId} (μ : Mm) (p1 : Int) {v : Int × Mm} (hz : f_X6_markPen μ p1 = some v) : CT l D vwCl (tyM cI cZ) 10 ad (EM ad cI cZ) (fun _ => True) yX6_markPen wsX6_markPen ({ frames := 2, cells := 0, slots := 0, locals := 42 } : Room) (some .int) [Vr 0, Vi p1] μ (v.1, v.2) := by
  refine CT_of [(0, Vr 0), (1, Vi p1)] stZ_t (by decide) rfl rfl (Nat.le_of_ble_eq_true rfl) rfl (fun G C => ?_)
  have i_X6 : ∀ w ∈ u_ws RX6 TX6 19, w ∈ wsX6_markPen := by decide +kernel
  have f_7 : Cond.fieldLink (yX6_markPen).cls 7 "SwanDeedsModel" "w" "[I" ∈ wsX6_markPen := by decide +kernel
  have hz := sat_of hz
  unfold f_X6_markPen at hz
  refine q_aload_n C 0 rfl dX6_markPen_0 rfl ?_
  refine q_bipush C dX6_markPen_1 ⟨rfl, by decide, by decide⟩ ?_
  obtain ⟨z2, hz2, hz⟩ := sat_bind hz
  refine q_callVv stZ_t C [Vi 21] [] (c_X6_begins μ 21 hz2) tO_X6 rfl gX6_markPen_X6_begins rfl ⟨rfl, rfl⟩ hdX6_begins ⟨by decide, by decide⟩ rfl (Nat.le_of_ble_eq_true rfl) dX6_markPen_3 rfl (fun _ => ?_)
  refine q_aload_n C 0 rfl dX6_markPen_6 rfl ?_
  refine q_iload_n C 1 rfl dX6_markPen_7 rfl ?_
  obtain ⟨z4, hz4, hz⟩ := sat_bind hz
  refine q_callVi stZ_t C [Vi p1] [] (c_X6_markLent z2 p1 hz4) tO_X6 rfl gX6_markPen_X6_markLent rfl ⟨rfl, rfl⟩ hdX6_markLent ⟨by decide, by decide⟩ rfl (Nat.le_of_ble_eq_true rfl) dX6_markPen_8 rfl (fun _ _ => ?_)
  refine q_aload_n C 0 rfl dX6_markPen_11 rfl ?_
  refine q_getR tO_X6 C (i := 0) i_X6 rfl rfl (by decide) rfl f_7 dX6_markPen_12 ?_
  refine q_bipush C dX6_markPen_15 ⟨rfl, by decide, by decide⟩ ?_
  refine q_iload_n C 1 rfl dX6_markPen_17 rfl ?_
  refine q_iadd C dX6_markPen_18 ?_
  obtain ⟨c5, hz⟩ := sat_chk hz
  refine q_wald C c5 dX6_markPen_19 ?_
  refine q_iadd C dX6_markPen_20 ?_
  exact q_iret C dX6_markPen_21 (sat_eq hz)
theorem hdX6_sizeOld : yX6_sizeOld.cls = RX6 ∧ yX6_sizeOld.cls ≠ "java/lang/invoke/MethodHandle" ∧ yX6_sizeOld.cls ≠ "java/lang/invoke/VarHandle" ∧ (parseMethodDescriptor yX6_sizeOld.desc).map (fun d => d.parameters.length) = some 2 := by decide +kernel
set_option maxHeartbeats 4000000 in
set_option maxRecDepth 100000 in
theorem c_X6_sizeOld {l : Launch} {D : va_G} {ad : Nat → Nat} {cI cZ : ClassId} (μ : Mm) (p1 p2 : Int) {v : Int × Mm} (hz : f_X6_sizeOld μ p1 p2 = some v) : CT l D vwCl (tyM cI cZ) 10 ad (EM ad cI cZ) (fun _ => True) yX6_sizeOld wsX6_sizeOld ({ frames := 1, cells := 0, slots := 0, locals := 21 } : Room) (some .int) [Vr 0, Vi p1, Vi p2] μ (v.1, v.2) := by
  refine CT_of [(0, Vr 0), (1, Vi p1), (2, Vi p2)] stZ_t (by decide) rfl rfl (Nat.le_of_ble_eq_true rfl) rfl (fun G C => ?_)
  have i_X6 : ∀ w ∈ u_ws RX6 TX6 19, w ∈ wsX6_sizeOld := by decide +kernel
  have f_7 : Cond.fieldLink (yX6_sizeOld).cls 7 "SwanDeedsModel" "w" "[I" ∈ wsX6_sizeOld := by decide +kernel
  have hz := sat_of hz
  unfold f_X6_sizeOld at hz
  refine q_iload_n C 2 rfl dX6_sizeOld_0 rfl ?_
  obtain ⟨v1, hv1, hz⟩ := sat_bind hz
  have Jv1 : G v1 10 [(0, Vr 0), (1, Vi p1), (2, Vi p2)] [] := by
    refine q_aload_n C 0 rfl dX6_sizeOld_10 rfl ?_
    refine q_bipush C dX6_sizeOld_11 ⟨rfl, by decide, by decide⟩ ?_
    obtain ⟨z3, hz3, hz⟩ := sat_bind hz
    refine q_callVv stZ_t C [Vi 13] [] (c_X6_begins v1 13 hz3) tO_X6 rfl gX6_sizeOld_X6_begins rfl ⟨rfl, rfl⟩ hdX6_begins ⟨by decide, by decide⟩ rfl (Nat.le_of_ble_eq_true rfl) dX6_sizeOld_13 rfl (fun _ => ?_)
    refine q_aload_n C 0 rfl dX6_sizeOld_16 rfl ?_
    refine q_bipush C dX6_sizeOld_17 ⟨rfl, by decide, by decide⟩ ?_
    obtain ⟨z5, hz5, hz⟩ := sat_bind hz
    refine q_callVv stZ_t C [Vi 10] [] (c_X6_begins z3 10 hz5) tO_X6 rfl gX6_sizeOld_X6_begins rfl ⟨rfl, rfl⟩ hdX6_begins ⟨by decide, by decide⟩ rfl (Nat.le_of_ble_eq_true rfl) dX6_sizeOld_19 rfl (fun _ => ?_)
    refine q_aload_n C 0 rfl dX6_sizeOld_22 rfl ?_
    refine q_getR tO_X6 C (i := 0) i_X6 rfl rfl (by decide) rfl f_7 dX6_sizeOld_23 ?_
    refine q_bipush C dX6_sizeOld_26 ⟨rfl, by decide, by decide⟩ ?_
    refine q_iload_n C 1 rfl dX6_sizeOld_28 rfl ?_
    refine q_iadd C dX6_sizeOld_29 ?_
    obtain ⟨c6, hz⟩ := sat_chk hz
    refine q_wald C c6 dX6_sizeOld_30 ?_
    refine q_bipush C dX6_sizeOld_31 ⟨rfl, by decide, by decide⟩ ?_
    refine q_isub C dX6_sizeOld_33 ?_
    obtain ⟨a7, ha7, hz⟩ := sat_bnd hz
    refine q_nmi ha7 ?_
    refine q_istore_n C [(3, Vi a7), (0, Vr 0), (1, Vi p1), (2, Vi p2)] rfl (by decide) dX6_sizeOld_34 rfl ?_
    refine q_iload_n C 3 rfl dX6_sizeOld_35 rfl ?_
    refine q_if_eq C dX6_sizeOld_36 (tgt := 45) (by decide) (fun c8 => ?_) (fun c8 => ?_)
    · have hz := sat_t hz c8
      refine q_iload_n C 0 rfl dX6_sizeOld_45 rfl ?_
      exact q_iret C dX6_sizeOld_46 (sat_eq hz)
    · have hz := sat_f hz c8
      refine q_iconst C dX6_sizeOld_39 ⟨by decide, by decide⟩ ?_
      refine q_iload_n C 0 rfl dX6_sizeOld_40 rfl ?_
      refine q_imul C dX6_sizeOld_41 ?_
      refine q_goto C dX6_sizeOld_42 (tgt := 46) (by decide) ?_
      exact q_iret C dX6_sizeOld_46 (sat_eq hz)
  have hz := sat_of hv1
  refine q_if_eq C dX6_sizeOld_1 (tgt := 10) (by decide) (fun c9 => ?_) (fun c9 => ?_)
  · have hz := sat_t hz c9
    have hz := sat_some hz
    have hz : _ = v1 := hz
    subst hz
    exact Jv1
  · have hz := sat_f hz c9
    refine q_aload_n C 0 rfl dX6_sizeOld_4 rfl ?_
    refine q_bipush C dX6_sizeOld_5 ⟨rfl, by decide, by decide⟩ ?_
    obtain ⟨z11, hz11, hz⟩ := sat_bind hz
    refine q_callVv stZ_t C [Vi 14] [] (c_X6_begins μ 14 hz11) tO_X6 rfl gX6_sizeOld_X6_begins rfl ⟨rfl, rfl⟩ hdX6_begins ⟨by decide, by decide⟩ rfl (Nat.le_of_ble_eq_true rfl) dX6_sizeOld_7 rfl (fun _ => ?_)
    have hz := sat_some hz
    have hz : _ = v1 := hz
    subst hz
    exact Jv1
theorem hdX6_mark : yX6_mark.cls = RX6 ∧ yX6_mark.cls ≠ "java/lang/invoke/MethodHandle" ∧ yX6_mark.cls ≠ "java/lang/invoke/VarHandle" ∧ (parseMethodDescriptor yX6_mark.desc).map (fun d => d.parameters.length) = some 1 := by decide +kernel
set_option maxHeartbeats 4000000 in
set_option maxRecDepth 100000 in
theorem c_X6_mark {l : Launch} {D : va_G} {ad : Nat → Nat} {cI cZ : ClassId} (μ : Mm) (p1 : Int) {v : Int × Mm} (hz : f_X6_mark μ p1 = some v) : CT l D vwCl (tyM cI cZ) 10 ad (EM ad cI cZ) (fun _ => True) yX6_mark wsX6_mark ({ frames := 3, cells := 0, slots := 0, locals := 63 } : Room) (some .int) [Vr 0, Vi p1] μ (v.1, v.2) := by
  refine CT_of [(0, Vr 0), (1, Vi p1)] stZ_t (by decide) rfl rfl (Nat.le_of_ble_eq_true rfl) rfl (fun G C => ?_)
  have i_X6 : ∀ w ∈ u_ws RX6 TX6 19, w ∈ wsX6_mark := by decide +kernel
  have f_7 : Cond.fieldLink (yX6_mark).cls 7 "SwanDeedsModel" "w" "[I" ∈ wsX6_mark := by decide +kernel
  have hz := sat_of hz
  unfold f_X6_mark at hz
  refine q_aload_n C 0 rfl dX6_mark_0 rfl ?_
  refine q_getR tO_X6 C (i := 0) i_X6 rfl rfl (by decide) rfl f_7 dX6_mark_1 ?_
  refine q_bipush C dX6_mark_4 ⟨rfl, by decide, by decide⟩ ?_
  refine q_iload_n C 1 rfl dX6_mark_6 rfl ?_
  refine q_iadd C dX6_mark_7 ?_
  obtain ⟨c1, hz⟩ := sat_chk hz
  refine q_wald C c1 dX6_mark_8 ?_
  refine q_istore_n C [(2, Vi (rdW μ (w3 (26 + p1)))), (0, Vr 0), (1, Vi p1)] rfl (by decide) dX6_mark_9 rfl ?_
  refine q_iload_n C 0 rfl dX6_mark_10 rfl ?_
  refine sat_ite hz (fun c2 hz => ?_) (fun c2 hz => ?_)
  · have c2 : rdW μ (w3 (26 + p1)) = 1 := c2
    refine q_tab_in C dX6_mark_11 (by omega) (by omega) (off := 55) (by rw [c2]; rfl) (tgt := 66) (by decide) ?_
    refine q_aload_n C 1 rfl dX6_mark_66 rfl ?_
    refine q_iload_n C 2 rfl dX6_mark_67 rfl ?_
    obtain ⟨z4, hz4, hz⟩ := sat_bind hz
    refine q_callVi stZ_t C [Vi p1] [] (c_X6_markPen μ p1 hz4) tO_X6 rfl gX6_mark_X6_markPen rfl ⟨rfl, rfl⟩ hdX6_markPen ⟨by decide, by decide⟩ rfl (Nat.le_of_ble_eq_true rfl) dX6_mark_68 rfl (fun _ _ => ?_)
    exact q_iret C dX6_mark_71 (sat_eq hz)
  · have c2 : ¬ rdW μ (w3 (26 + p1)) = 1 := c2
    refine sat_ite hz (fun c5 hz => ?_) (fun c5 hz => ?_)
    · have c5 : rdW μ (w3 (26 + p1)) = 2 := c5
      refine q_tab_in C dX6_mark_11 (by omega) (by omega) (off := 25) (by rw [c5]; rfl) (tgt := 36) (by decide) ?_
      refine q_aload_n C 1 rfl dX6_mark_36 rfl ?_
      refine q_bipush C dX6_mark_37 ⟨rfl, by decide, by decide⟩ ?_
      obtain ⟨z7, hz7, hz⟩ := sat_bind hz
      refine q_callVv stZ_t C [Vi 24] [] (c_X6_begins μ 24 hz7) tO_X6 rfl gX6_mark_X6_begins rfl ⟨rfl, rfl⟩ hdX6_begins ⟨by decide, by decide⟩ rfl (Nat.le_of_ble_eq_true rfl) dX6_mark_39 rfl (fun _ => ?_)
      refine q_iconst C dX6_mark_42 ⟨by decide, by decide⟩ ?_
      refine q_aload_n C 1 rfl dX6_mark_43 rfl ?_
      refine q_iload_n C 2 rfl dX6_mark_44 rfl ?_
      obtain ⟨z9, hz9, hz⟩ := sat_bind hz
      refine q_callVi stZ_t C [Vi p1] [Vi 2] (c_X6_markPen z7 p1 hz9) tO_X6 rfl gX6_mark_X6_markPen rfl ⟨rfl, rfl⟩ hdX6_markPen ⟨by decide, by decide⟩ rfl (Nat.le_of_ble_eq_true rfl) dX6_mark_45 rfl (fun _ _ => ?_)
      refine q_imul C dX6_mark_48 ?_
      exact q_iret C dX6_mark_49 (sat_eq hz)
    · have c5 : ¬ rdW μ (w3 (26 + p1)) = 2 := c5
      refine sat_ite hz (fun c10 hz => ?_) (fun c10 hz => ?_)
      · have c10 : rdW μ (w3 (26 + p1)) = 3 := c10
        refine q_tab_in C dX6_mark_11 (by omega) (by omega) (off := 39) (by rw [c10]; rfl) (tgt := 50) (by decide) ?_
        refine q_aload_n C 1 rfl dX6_mark_50 rfl ?_
        refine q_bipush C dX6_mark_51 ⟨rfl, by decide, by decide⟩ ?_
        obtain ⟨z12, hz12, hz⟩ := sat_bind hz
        refine q_callVv stZ_t C [Vi 22] [] (c_X6_begins μ 22 hz12) tO_X6 rfl gX6_mark_X6_begins rfl ⟨rfl, rfl⟩ hdX6_begins ⟨by decide, by decide⟩ rfl (Nat.le_of_ble_eq_true rfl) dX6_mark_53 rfl (fun _ => ?_)
        refine q_aload_n C 1 rfl dX6_mark_56 rfl ?_
        refine q_iload_n C 2 rfl dX6_mark_57 rfl ?_
        obtain ⟨z14, hz14, hz⟩ := sat_bind hz
        refine q_callVi stZ_t C [Vi p1] [] (c_X6_markPen z12 p1 hz14) tO_X6 rfl gX6_mark_X6_markPen rfl ⟨rfl, rfl⟩ hdX6_markPen ⟨by decide, by decide⟩ rfl (Nat.le_of_ble_eq_true rfl) dX6_mark_58 rfl (fun _ _ => ?_)
        refine q_sipush C dX6_mark_61 ⟨rfl, by decide, by decide⟩ ?_
        refine q_isub C dX6_mark_64 ?_
        exact q_iret C dX6_mark_65 (sat_eq hz)
      · have c10 : ¬ rdW μ (w3 (26 + p1)) = 3 := c10
        refine q_tab_out C dX6_mark_11 (by omega) (tgt := 72) (by decide) ?_
        refine q_aload_n C 1 rfl dX6_mark_72 rfl ?_
        refine q_bipush C dX6_mark_73 ⟨rfl, by decide, by decide⟩ ?_
        obtain ⟨z16, hz16, hz⟩ := sat_bind hz
        refine q_callVv stZ_t C [Vi 23] [] (c_X6_begins μ 23 hz16) tO_X6 rfl gX6_mark_X6_begins rfl ⟨rfl, rfl⟩ hdX6_begins ⟨by decide, by decide⟩ rfl (Nat.le_of_ble_eq_true rfl) dX6_mark_75 rfl (fun _ => ?_)
        refine q_aload_n C 1 rfl dX6_mark_78 rfl ?_
        refine q_iload_n C 2 rfl dX6_mark_79 rfl ?_
        obtain ⟨z18, hz18, hz⟩ := sat_bind hz
        refine q_callVi stZ_t C [Vi p1] [] (c_X6_markLent z16 p1 hz18) tO_X6 rfl gX6_mark_X6_markLent rfl ⟨rfl, rfl⟩ hdX6_markLent ⟨by decide, by decide⟩ rfl (Nat.le_of_ble_eq_true rfl) dX6_mark_80 rfl (fun _ _ => ?_)
        refine q_aload_n C 1 rfl dX6_mark_83 rfl ?_
        refine q_iload_n C 2 rfl dX6_mark_84 rfl ?_
        refine q_iload_n C 0 rfl dX6_mark_85 rfl ?_
        refine q_iconst C dX6_mark_86 ⟨by decide, by decide⟩ ?_
        refine q_icmp_ne C dX6_mark_87 (tgt := 94) (by decide) (fun c19 => ?_) (fun c19 => ?_)
        · have hz := sat_f hz c19
          refine q_iconst C dX6_mark_94 ⟨by decide, by decide⟩ ?_
          obtain ⟨z21, hz21, hz⟩ := sat_bind hz
          refine q_callVi stZ_t C [Vi p1, Vi 0] [Vi (z18.1)] (c_X6_sizeOld z18.2 p1 0 hz21) tO_X6 rfl gX6_mark_X6_sizeOld rfl ⟨rfl, rfl⟩ hdX6_sizeOld ⟨by decide, by decide⟩ rfl (Nat.le_of_ble_eq_true rfl) dX6_mark_95 rfl (fun _ _ => ?_)
          refine q_isub C dX6_mark_98 ?_
          exact q_iret C dX6_mark_99 (sat_eq hz)
        · have hz := sat_t hz c19
          refine q_iconst C dX6_mark_90 ⟨by decide, by decide⟩ ?_
          refine q_goto C dX6_mark_91 (tgt := 95) (by decide) ?_
          obtain ⟨z23, hz23, hz⟩ := sat_bind hz
          refine q_callVi stZ_t C [Vi p1, Vi 1] [Vi (z18.1)] (c_X6_sizeOld z18.2 p1 1 hz23) tO_X6 rfl gX6_mark_X6_sizeOld rfl ⟨rfl, rfl⟩ hdX6_sizeOld ⟨by decide, by decide⟩ rfl (Nat.le_of_ble_eq_true rfl) dX6_mark_95 rfl (fun _ _ => ?_)
          refine q_isub C dX6_mark_98 ?_
          exact q_iret C dX6_mark_99 (sat_eq hz)
theorem hdX6_sizePen : yX6_sizePen.cls = RX6 ∧ yX6_sizePen.cls ≠ "java/lang/invoke/MethodHandle" ∧ yX6_sizePen.cls ≠ "java/lang/invoke/VarHandle" ∧ (parseMethodDescriptor yX6_sizePen.desc).map (fun d => d.parameters.length) = some 1 := by decide +kernel
set_option maxHeartbeats 4000000 in
set_option maxRecDepth 100000 in
theorem c_X6_sizePen {l : Launch} {D : va_G} {ad : Nat → Nat} {cI cZ : ClassId} (μ : Mm) (p1 : Int) {v : Int × Mm} (hz : f_X6_sizePen μ p1 = some v) : CT l D vwCl (tyM cI cZ) 10 ad (EM ad cI cZ) (fun _ => True) yX6_sizePen wsX6_sizePen ({ frames := 4, cells := 0, slots := 0, locals := 85 } : Room) (some .int) [Vr 0, Vi p1] μ (v.1, v.2) := by
  refine CT_of [(0, Vr 0), (1, Vi p1)] stZ_t (by decide) rfl rfl (Nat.le_of_ble_eq_true rfl) rfl (fun G C => ?_)
  have i_X6 : ∀ w ∈ u_ws RX6 TX6 19, w ∈ wsX6_sizePen := by decide +kernel
  have f_7 : Cond.fieldLink (yX6_sizePen).cls 7 "SwanDeedsModel" "w" "[I" ∈ wsX6_sizePen := by decide +kernel
  have hz := sat_of hz
  unfold f_X6_sizePen at hz
  refine q_aload_n C 0 rfl dX6_sizePen_0 rfl ?_
  refine q_bipush C dX6_sizePen_1 ⟨rfl, by decide, by decide⟩ ?_
  obtain ⟨z2, hz2, hz⟩ := sat_bind hz
  refine q_callVv stZ_t C [Vi 11] [] (c_X6_begins μ 11 hz2) tO_X6 rfl gX6_sizePen_X6_begins rfl ⟨rfl, rfl⟩ hdX6_begins ⟨by decide, by decide⟩ rfl (Nat.le_of_ble_eq_true rfl) dX6_sizePen_3 rfl (fun _ => ?_)
  refine q_aload_n C 0 rfl dX6_sizePen_6 rfl ?_
  refine q_bipush C dX6_sizePen_7 ⟨rfl, by decide, by decide⟩ ?_
  obtain ⟨z4, hz4, hz⟩ := sat_bind hz
  refine q_callVv stZ_t C [Vi 10] [] (c_X6_begins z2 10 hz4) tO_X6 rfl gX6_sizePen_X6_begins rfl ⟨rfl, rfl⟩ hdX6_begins ⟨by decide, by decide⟩ rfl (Nat.le_of_ble_eq_true rfl) dX6_sizePen_9 rfl (fun _ => ?_)
  refine q_aload_n C 0 rfl dX6_sizePen_12 rfl ?_
  refine q_getR tO_X6 C (i := 0) i_X6 rfl rfl (by decide) rfl f_7 dX6_sizePen_13 ?_
  refine q_bipush C dX6_sizePen_16 ⟨rfl, by decide, by decide⟩ ?_
  refine q_iload_n C 1 rfl dX6_sizePen_18 rfl ?_
  refine q_iadd C dX6_sizePen_19 ?_
  obtain ⟨c5, hz⟩ := sat_chk hz
  refine q_wald C c5 dX6_sizePen_20 ?_
  refine q_aload_n C 0 rfl dX6_sizePen_21 rfl ?_
  refine q_iload_n C 1 rfl dX6_sizePen_22 rfl ?_
  obtain ⟨z7, hz7, hz⟩ := sat_bind hz
  refine q_callVi stZ_t C [Vi p1] [Vi (rdW z4 (w3 (17 + p1)))] (c_X6_mark z4 p1 hz7) tO_X6 rfl gX6_sizePen_X6_mark rfl ⟨rfl, rfl⟩ hdX6_mark ⟨by decide, by decide⟩ rfl (Nat.le_of_ble_eq_true rfl) dX6_sizePen_23 rfl (fun _ _ => ?_)
  refine q_iadd C dX6_sizePen_26 ?_
  exact q_iret C dX6_sizePen_27 (sat_eq hz)
theorem hdX6_size : yX6_size.cls = RX6 ∧ yX6_size.cls ≠ "java/lang/invoke/MethodHandle" ∧ yX6_size.cls ≠ "java/lang/invoke/VarHandle" ∧ (parseMethodDescriptor yX6_size.desc).map (fun d => d.parameters.length) = some 1 := by decide +kernel
set_option maxHeartbeats 4000000 in
set_option maxRecDepth 100000 in
theorem c_X6_size {l : Launch} {D : va_G} {ad : Nat → Nat} {cI cZ : ClassId} (μ : Mm) (p1 : Int) {v : Int × Mm} (hz : f_X6_size μ p1 = some v) : CT l D vwCl (tyM cI cZ) 10 ad (EM ad cI cZ) (fun _ => True) yX6_size wsX6_size ({ frames := 5, cells := 0, slots := 0, locals := 106 } : Room) (some .int) [Vr 0, Vi p1] μ (v.1, v.2) := by
  refine CT_of [(0, Vr 0), (1, Vi p1)] stZ_t (by decide) rfl rfl (Nat.le_of_ble_eq_true rfl) rfl (fun G C => ?_)
  have i_X6 : ∀ w ∈ u_ws RX6 TX6 19, w ∈ wsX6_size := by decide +kernel
  have f_7 : Cond.fieldLink (yX6_size).cls 7 "SwanDeedsModel" "w" "[I" ∈ wsX6_size := by decide +kernel
  have hz := sat_of hz
  unfold f_X6_size at hz
  refine q_aload_n C 0 rfl dX6_size_0 rfl ?_
  refine q_getR tO_X6 C (i := 0) i_X6 rfl rfl (by decide) rfl f_7 dX6_size_1 ?_
  refine q_bipush C dX6_size_4 ⟨rfl, by decide, by decide⟩ ?_
  refine q_iload_n C 1 rfl dX6_size_6 rfl ?_
  refine q_iadd C dX6_size_7 ?_
  obtain ⟨c1, hz⟩ := sat_chk hz
  refine q_wald C c1 dX6_size_8 ?_
  refine q_istore_n C [(2, Vi (rdW μ (w3 (26 + p1)))), (0, Vr 0), (1, Vi p1)] rfl (by decide) dX6_size_9 rfl ?_
  refine q_iload_n C 0 rfl dX6_size_10 rfl ?_
  refine sat_ite hz (fun c2 hz => ?_) (fun c2 hz => ?_)
  · have c2 : rdW μ (w3 (26 + p1)) = 1 := c2
    refine q_tab_in C dX6_size_11 (by omega) (by omega) (off := 38) (by rw [c2]; rfl) (tgt := 49) (by decide) ?_
    refine q_aload_n C 1 rfl dX6_size_49 rfl ?_
    refine q_iload_n C 2 rfl dX6_size_50 rfl ?_
    obtain ⟨z4, hz4, hz⟩ := sat_bind hz
    refine q_callVi stZ_t C [Vi p1] [] (c_X6_sizePen μ p1 hz4) tO_X6 rfl gX6_size_X6_sizePen rfl ⟨rfl, rfl⟩ hdX6_sizePen ⟨by decide, by decide⟩ rfl (Nat.le_of_ble_eq_true rfl) dX6_size_51 rfl (fun _ _ => ?_)
    exact q_iret C dX6_size_54 (sat_eq hz)
  · have c2 : ¬ rdW μ (w3 (26 + p1)) = 1 := c2
    refine sat_ite hz (fun c5 hz => ?_) (fun c5 hz => ?_)
    · have c5 : rdW μ (w3 (26 + p1)) = 2 := c5
      refine q_tab_in C dX6_size_11 (by omega) (by omega) (off := 25) (by rw [c5]; rfl) (tgt := 36) (by decide) ?_
      refine q_aload_n C 1 rfl dX6_size_36 rfl ?_
      refine q_bipush C dX6_size_37 ⟨rfl, by decide, by decide⟩ ?_
      obtain ⟨z7, hz7, hz⟩ := sat_bind hz
      refine q_callVv stZ_t C [Vi 12] [] (c_X6_begins μ 12 hz7) tO_X6 rfl gX6_size_X6_begins rfl ⟨rfl, rfl⟩ hdX6_begins ⟨by decide, by decide⟩ rfl (Nat.le_of_ble_eq_true rfl) dX6_size_39 rfl (fun _ => ?_)
      refine q_aload_n C 1 rfl dX6_size_42 rfl ?_
      refine q_iload_n C 2 rfl dX6_size_43 rfl ?_
      obtain ⟨z9, hz9, hz⟩ := sat_bind hz
      refine q_callVi stZ_t C [Vi p1] [] (c_X6_sizePen z7 p1 hz9) tO_X6 rfl gX6_size_X6_sizePen rfl ⟨rfl, rfl⟩ hdX6_sizePen ⟨by decide, by decide⟩ rfl (Nat.le_of_ble_eq_true rfl) dX6_size_44 rfl (fun _ _ => ?_)
      refine q_ineg C dX6_size_47 ?_
      exact q_iret C dX6_size_48 (sat_eq hz)
    · have c5 : ¬ rdW μ (w3 (26 + p1)) = 2 := c5
      refine sat_ite hz (fun c10 hz => ?_) (fun c10 hz => ?_)
      · have c10 : rdW μ (w3 (26 + p1)) = 3 := c10
        refine q_tab_in C dX6_size_11 (by omega) (by omega) (off := 38) (by rw [c10]; rfl) (tgt := 49) (by decide) ?_
        refine q_aload_n C 1 rfl dX6_size_49 rfl ?_
        refine q_iload_n C 2 rfl dX6_size_50 rfl ?_
        obtain ⟨z12, hz12, hz⟩ := sat_bind hz
        refine q_callVi stZ_t C [Vi p1] [] (c_X6_sizePen μ p1 hz12) tO_X6 rfl gX6_size_X6_sizePen rfl ⟨rfl, rfl⟩ hdX6_sizePen ⟨by decide, by decide⟩ rfl (Nat.le_of_ble_eq_true rfl) dX6_size_51 rfl (fun _ _ => ?_)
        exact q_iret C dX6_size_54 (sat_eq hz)
      · have c10 : ¬ rdW μ (w3 (26 + p1)) = 3 := c10
        refine q_tab_out C dX6_size_11 (by omega) (tgt := 55) (by decide) ?_
        refine q_aload_n C 1 rfl dX6_size_55 rfl ?_
        refine q_iload_n C 2 rfl dX6_size_56 rfl ?_
        refine q_iload_n C 0 rfl dX6_size_57 rfl ?_
        refine q_iconst C dX6_size_58 ⟨by decide, by decide⟩ ?_
        refine q_icmp_ne C dX6_size_59 (tgt := 66) (by decide) (fun c13 => ?_) (fun c13 => ?_)
        · have hz := sat_f hz c13
          refine q_iconst C dX6_size_66 ⟨by decide, by decide⟩ ?_
          obtain ⟨z15, hz15, hz⟩ := sat_bind hz
          refine q_callVi stZ_t C [Vi p1, Vi 0] [] (c_X6_sizeOld μ p1 0 hz15) tO_X6 rfl gX6_size_X6_sizeOld rfl ⟨rfl, rfl⟩ hdX6_sizeOld ⟨by decide, by decide⟩ rfl (Nat.le_of_ble_eq_true rfl) dX6_size_67 rfl (fun _ _ => ?_)
          exact q_iret C dX6_size_70 (sat_eq hz)
        · have hz := sat_t hz c13
          refine q_iconst C dX6_size_62 ⟨by decide, by decide⟩ ?_
          refine q_goto C dX6_size_63 (tgt := 67) (by decide) ?_
          obtain ⟨z17, hz17, hz⟩ := sat_bind hz
          refine q_callVi stZ_t C [Vi p1, Vi 1] [] (c_X6_sizeOld μ p1 1 hz17) tO_X6 rfl gX6_size_X6_sizeOld rfl ⟨rfl, rfl⟩ hdX6_sizeOld ⟨by decide, by decide⟩ rfl (Nat.le_of_ble_eq_true rfl) dX6_size_67 rfl (fun _ _ => ?_)
          exact q_iret C dX6_size_70 (sat_eq hz)
theorem hdX6_ask : yX6_ask.cls = RX6 ∧ yX6_ask.cls ≠ "java/lang/invoke/MethodHandle" ∧ yX6_ask.cls ≠ "java/lang/invoke/VarHandle" ∧ (parseMethodDescriptor yX6_ask.desc).map (fun d => d.parameters.length) = some 2 := by decide +kernel
set_option maxHeartbeats 4000000 in
set_option maxRecDepth 100000 in
theorem c_X6_ask {l : Launch} {D : va_G} {ad : Nat → Nat} {cI cZ : ClassId} (μ : Mm) (p1 p2 : Int) {v : Int × Mm} (hz : f_X6_ask μ p1 p2 = some v) : CT l D vwCl (tyM cI cZ) 10 ad (EM ad cI cZ) (fun _ => True) yX6_ask wsX6_ask ({ frames := 6, cells := 0, slots := 0, locals := 128 } : Room) (some .int) [Vr 0, Vi p1, Vi p2] μ (v.1, v.2) := by
  refine CT_of [(0, Vr 0), (1, Vi p1), (2, Vi p2)] stZ_t (by decide) rfl rfl (Nat.le_of_ble_eq_true rfl) rfl (fun G C => ?_)
  have i_X6 : ∀ w ∈ u_ws RX6 TX6 19, w ∈ wsX6_ask := by decide +kernel
  have f_230 : Cond.fieldLink (yX6_ask).cls 230 "SwanDeedsModel" "traced" "I" ∈ wsX6_ask := by decide +kernel
  have hz := sat_of hz
  unfold f_X6_ask at hz
  refine q_aload_n C 0 rfl dX6_ask_0 rfl ?_
  refine q_iload_n C 1 rfl dX6_ask_1 rfl ?_
  obtain ⟨z2, hz2, hz⟩ := sat_bind hz
  refine q_callVz stZ_t C [Vi p1] [] (c_X6_isSwan μ p1 hz2) tO_X6 rfl gX6_ask_X6_isSwan rfl ⟨rfl, rfl⟩ hdX6_isSwan ⟨by decide, by decide⟩ rfl (Nat.le_of_ble_eq_true rfl) dX6_ask_2 rfl (fun hb1 _ => ?_)
  refine q_if_eq C dX6_ask_5 (tgt := 18) (by decide) (fun c3 => ?_) (fun c3 => ?_)
  · have hz := sat_t hz c3
    refine q_ldc (v := (-1000001)) (x := (-1000001)) C (by decide +kernel) dX6_ask_18 ⟨by decide +kernel, by decide, by decide⟩ ?_
    exact q_iret C dX6_ask_20 (sat_eq hz)
  · have hz := sat_f hz c3
    refine q_iload_n C 2 rfl dX6_ask_8 rfl ?_
    refine q_i2l C dX6_ask_9 ?_
    refine q_lconst (x := 0) C dX6_ask_10 ⟨rfl, by decide, by decide⟩ ?_
    refine q_lconst (x := 1) C dX6_ask_11 ⟨rfl, by decide, by decide⟩ ?_
    refine q_callSz stZ_t C [Vl p2, Vl 0, Vl 1] [] (c_X6_in μ p2 0 1) gX6_ask_X6_in rfl ⟨rfl, rfl⟩ hdX6_in ⟨by decide, by decide⟩ rfl (Nat.le_of_ble_eq_true rfl) dX6_ask_12 rfl (fun hb4 _ => ?_)
    refine q_if_ne C dX6_ask_15 (tgt := 21) (by decide) (fun c5 => ?_) (fun c5 => ?_)
    · have hz := sat_f hz c5
      refine q_aload_n C 0 rfl dX6_ask_21 rfl ?_
      refine q_iconst C dX6_ask_22 ⟨by decide, by decide⟩ ?_
      obtain ⟨m6, hm6, hz⟩ := sat_bnd hz
      refine q_put tO_X6 C hm6 (i := 12) i_X6 tyX6_ok nmX6 rfl rfl (by decide) rfl f_230 dX6_ask_23 ?_
      refine q_iload_n C 2 rfl dX6_ask_26 rfl ?_
      refine q_if_ne C dX6_ask_27 (tgt := 38) (by decide) (fun c7 => ?_) (fun c7 => ?_)
      · have hz := sat_f hz c7
        refine q_aload_n C 0 rfl dX6_ask_38 rfl ?_
        refine q_iload_n C 1 rfl dX6_ask_39 rfl ?_
        obtain ⟨z9, hz9, hz⟩ := sat_bind hz
        refine q_callVi stZ_t C [Vi p1] [] (c_X6_mark m6 p1 hz9) tO_X6 rfl gX6_ask_X6_mark rfl ⟨rfl, rfl⟩ hdX6_mark ⟨by decide, by decide⟩ rfl (Nat.le_of_ble_eq_true rfl) dX6_ask_40 rfl (fun _ _ => ?_)
        exact q_iret C dX6_ask_43 (sat_eq hz)
      · have hz := sat_t hz c7
        refine q_aload_n C 0 rfl dX6_ask_30 rfl ?_
        refine q_iload_n C 1 rfl dX6_ask_31 rfl ?_
        obtain ⟨z11, hz11, hz⟩ := sat_bind hz
        refine q_callVi stZ_t C [Vi p1] [] (c_X6_size m6 p1 hz11) tO_X6 rfl gX6_ask_X6_size rfl ⟨rfl, rfl⟩ hdX6_size ⟨by decide, by decide⟩ rfl (Nat.le_of_ble_eq_true rfl) dX6_ask_32 rfl (fun _ _ => ?_)
        refine q_goto C dX6_ask_35 (tgt := 43) (by decide) ?_
        exact q_iret C dX6_ask_43 (sat_eq hz)
    · have hz := sat_t hz c5
      refine q_ldc (v := (-1000001)) (x := (-1000001)) C (by decide +kernel) dX6_ask_18 ⟨by decide +kernel, by decide, by decide⟩ ?_
      exact q_iret C dX6_ask_20 (sat_eq hz)
theorem hdX6_trace : yX6_trace.cls = RX6 ∧ yX6_trace.cls ≠ "java/lang/invoke/MethodHandle" ∧ yX6_trace.cls ≠ "java/lang/invoke/VarHandle" ∧ (parseMethodDescriptor yX6_trace.desc).map (fun d => d.parameters.length) = some 1 := by decide +kernel
set_option maxHeartbeats 4000000 in
set_option maxRecDepth 100000 in
theorem c_X6_trace {l : Launch} {D : va_G} {ad : Nat → Nat} {cI cZ : ClassId} (μ : Mm) (p1 : Int) {v : Int} (hz : f_X6_trace μ p1 = some v) : CT l D vwCl (tyM cI cZ) 10 ad (EM ad cI cZ) (fun _ => True) yX6_trace wsX6_trace ({ frames := 1, cells := 0, slots := 0, locals := 25 } : Room) (some .int) [Vr 0, Vi p1] μ (v, μ) := by
  refine CT_of [(0, Vr 0), (1, Vi p1)] stZ_t (by decide) rfl rfl (Nat.le_of_ble_eq_true rfl) rfl (fun G C => ?_)
  have i_X6 : ∀ w ∈ u_ws RX6 TX6 19, w ∈ wsX6_trace := by decide +kernel
  have f_32 : Cond.fieldLink (yX6_trace).cls 32 "SwanDeedsModel" "trace" "[I" ∈ wsX6_trace := by decide +kernel
  have f_230 : Cond.fieldLink (yX6_trace).cls 230 "SwanDeedsModel" "traced" "I" ∈ wsX6_trace := by decide +kernel
  have hz := sat_of hz
  unfold f_X6_trace at hz
  refine q_iload_n C 1 rfl dX6_trace_0 rfl ?_
  refine q_i2l C dX6_trace_1 ?_
  refine q_lconst (x := 0) C dX6_trace_2 ⟨rfl, by decide, by decide⟩ ?_
  refine q_aload_n C 0 rfl dX6_trace_3 rfl ?_
  refine q_get tO_X6 C (i := 12) i_X6 rfl rfl (by decide) rfl f_230 dX6_trace_4 ?_
  refine q_iconst C dX6_trace_7 ⟨by decide, by decide⟩ ?_
  refine q_isub C dX6_trace_8 ?_
  refine q_i2l C dX6_trace_9 ?_
  refine q_callSz stZ_t C [Vl p1, Vl 0, Vl (w3 ((μ 30 4) - 1))] [] (c_X6_in μ p1 0 (w3 ((μ 30 4) - 1))) gX6_trace_X6_in rfl ⟨rfl, rfl⟩ hdX6_in ⟨by decide, by decide⟩ rfl (Nat.le_of_ble_eq_true rfl) dX6_trace_10 rfl (fun hb1 _ => ?_)
  refine q_if_eq C dX6_trace_13 (tgt := 25) (by decide) (fun c2 => ?_) (fun c2 => ?_)
  · have hz := sat_t hz c2
    refine q_ldc (v := (-1000000)) (x := (-1000000)) C (by decide +kernel) dX6_trace_25 ⟨by decide +kernel, by decide, by decide⟩ ?_
    exact q_iret C dX6_trace_27 (congrArg (fun q => (q, μ)) (sat_eq hz))
  · have hz := sat_f hz c2
    refine q_aload_n C 0 rfl dX6_trace_16 rfl ?_
    refine q_getR tO_X6 C (i := 11) i_X6 rfl rfl (by decide) rfl f_32 dX6_trace_17 ?_
    refine q_iload_n C 1 rfl dX6_trace_20 rfl ?_
    obtain ⟨c3, hz⟩ := sat_chk hz
    refine q_iald (tM_trace) C 0 rfl c3 dX6_trace_21 ?_
    refine q_goto C dX6_trace_22 (tgt := 27) (by decide) ?_
    exact q_iret C dX6_trace_27 (congrArg (fun q => (q, μ)) (sat_eq hz))
theorem hdX6_crumbsOfAll : yX6_crumbsOfAll.cls = RX6 ∧ yX6_crumbsOfAll.cls ≠ "java/lang/invoke/MethodHandle" ∧ yX6_crumbsOfAll.cls ≠ "java/lang/invoke/VarHandle" ∧ (parseMethodDescriptor yX6_crumbsOfAll.desc).map (fun d => d.parameters.length) = some 0 := by decide +kernel
set_option maxHeartbeats 4000000 in
set_option maxRecDepth 100000 in
theorem c_X6_crumbsOfAll {l : Launch} {D : va_G} {ad : Nat → Nat} {cI cZ : ClassId} (μ : Mm) {v : Int} (hz : f_X6_crumbsOfAll μ = some v) : CT l D vwCl (tyM cI cZ) 10 ad (EM ad cI cZ) (fun _ => True) yX6_crumbsOfAll wsX6_crumbsOfAll ({ frames := 0, cells := 0, slots := 0, locals := 0 } : Room) (some .int) [Vr 0] μ (v, μ) := by
  refine CT_of [(0, Vr 0)] stZ_t (by decide) rfl rfl (Nat.le_of_ble_eq_true rfl) rfl (fun G C => ?_)
  have i_X6 : ∀ w ∈ u_ws RX6 TX6 19, w ∈ wsX6_crumbsOfAll := by decide +kernel
  have f_7 : Cond.fieldLink (yX6_crumbsOfAll).cls 7 "SwanDeedsModel" "w" "[I" ∈ wsX6_crumbsOfAll := by decide +kernel
  have hz := sat_of hz
  unfold f_X6_crumbsOfAll at hz
  refine q_iconst C dX6_crumbsOfAll_0 ⟨by decide, by decide⟩ ?_
  refine q_istore_n C [(1, Vi 0), (0, Vr 0)] rfl (by decide) dX6_crumbsOfAll_1 rfl ?_
  refine q_iconst C dX6_crumbsOfAll_2 ⟨by decide, by decide⟩ ?_
  refine q_istore_n C [(2, Vi 0), (1, Vi 0), (0, Vr 0)] rfl (by decide) dX6_crumbsOfAll_3 rfl ?_
  refine q_sub C [2, 1, 0] [(0, Vr 0), (1, Vi 0), (2, Vi 0)] rfl ?_
  refine loop_go (fun x1 => G μ 4 [(0, Vr 0), (1, Vi (x1.1)), (2, Vi (x1.2))] []) (sat_bind2 hz) (fun h => h) (fun x1 hz => ?_)
  refine q_iload_n C 2 rfl dX6_crumbsOfAll_4 rfl ?_
  refine q_aload_n C 0 rfl dX6_crumbsOfAll_5 rfl ?_
  refine q_getR tO_X6 C (i := 0) i_X6 rfl rfl (by decide) rfl f_7 dX6_crumbsOfAll_6 ?_
  refine q_bipush C dX6_crumbsOfAll_9 ⟨rfl, by decide, by decide⟩ ?_
  obtain ⟨c2, hz⟩ := sat_chk hz
  refine q_wald C c2 dX6_crumbsOfAll_11 ?_
  refine q_icmp_ge C dX6_crumbsOfAll_12 (tgt := 32) (by decide) (fun c3 => ?_) (fun c3 => ?_)
  · have hz := sat_t hz c3
    have hz := sat_some hz
    refine q_sub C [1] [(1, Vi (x1.1))] rfl ?_
    refine q_iload_n C 0 rfl dX6_crumbsOfAll_32 rfl ?_
    exact q_iret C dX6_crumbsOfAll_33 (congrArg (fun q => (q, μ)) (sat_eq hz))
  · have hz := sat_f hz c3
    refine q_iload_n C 1 rfl dX6_crumbsOfAll_15 rfl ?_
    refine q_aload_n C 0 rfl dX6_crumbsOfAll_16 rfl ?_
    refine q_getR tO_X6 C (i := 0) i_X6 rfl rfl (by decide) rfl f_7 dX6_crumbsOfAll_17 ?_
    refine q_iconst C dX6_crumbsOfAll_20 ⟨by decide, by decide⟩ ?_
    refine q_iload_n C 2 rfl dX6_crumbsOfAll_21 rfl ?_
    refine q_iadd C dX6_crumbsOfAll_22 ?_
    obtain ⟨c4, hz⟩ := sat_chk hz
    refine q_wald C c4 dX6_crumbsOfAll_23 ?_
    refine q_iadd C dX6_crumbsOfAll_24 ?_
    obtain ⟨a5, ha5, hz⟩ := sat_bnd hz
    refine q_nmi ha5 ?_
    refine q_istore_n C [(1, Vi a5), (0, Vr 0), (2, Vi (x1.2))] rfl (by decide) dX6_crumbsOfAll_25 rfl ?_
    refine q_iinc C 2 rfl [(2, Vi (w3 (x1.2 + 1))), (1, Vi a5), (0, Vr 0)] rfl (by decide) dX6_crumbsOfAll_26 ?_
    refine q_goto C dX6_crumbsOfAll_29 (tgt := 4) (by decide) ?_
    refine q_sub C [2, 1, 0] [(0, Vr 0), (1, Vi a5), (2, Vi (w3 (x1.2 + 1)))] rfl ?_
    have hz := sat_some hz
    exact hz
theorem hdX6_count : yX6_count.cls = RX6 ∧ yX6_count.cls ≠ "java/lang/invoke/MethodHandle" ∧ yX6_count.cls ≠ "java/lang/invoke/VarHandle" ∧ (parseMethodDescriptor yX6_count.desc).map (fun d => d.parameters.length) = some 1 := by decide +kernel
set_option maxHeartbeats 4000000 in
set_option maxRecDepth 100000 in
theorem c_X6_count {l : Launch} {D : va_G} {ad : Nat → Nat} {cI cZ : ClassId} (μ : Mm) (p1 : Int) {v : Int} (hz : f_X6_count μ p1 = some v) : CT l D vwCl (tyM cI cZ) 10 ad (EM ad cI cZ) (fun _ => True) yX6_count wsX6_count ({ frames := 1, cells := 0, slots := 0, locals := 22 } : Room) (some .int) [Vr 0, Vi p1] μ (v, μ) := by
  refine CT_of [(0, Vr 0), (1, Vi p1)] stZ_t (by decide) rfl rfl (Nat.le_of_ble_eq_true rfl) rfl (fun G C => ?_)
  have i_X6 : ∀ w ∈ u_ws RX6 TX6 19, w ∈ wsX6_count := by decide +kernel
  have f_7 : Cond.fieldLink (yX6_count).cls 7 "SwanDeedsModel" "w" "[I" ∈ wsX6_count := by decide +kernel
  have f_23 : Cond.fieldLink (yX6_count).cls 23 "SwanDeedsModel" "rowSize" "[I" ∈ wsX6_count := by decide +kernel
  have f_69 : Cond.fieldLink (yX6_count).cls 69 "SwanDeedsModel" "taped" "I" ∈ wsX6_count := by decide +kernel
  have f_117 : Cond.fieldLink (yX6_count).cls 117 "SwanDeedsModel" "acted" "I" ∈ wsX6_count := by decide +kernel
  have hz := sat_of hz
  unfold f_X6_count at hz
  refine q_iload_n C 1 rfl dX6_count_0 rfl ?_
  refine sat_ite hz (fun c1 hz => ?_) (fun c1 hz => ?_)
  · have c1 : p1 = 0 := c1
    refine q_tab_in C dX6_count_1 (by omega) (by omega) (off := 47) (by rw [c1]; rfl) (tgt := 48) (by decide) ?_
    refine q_iconst C dX6_count_48 ⟨by decide, by decide⟩ ?_
    refine q_istore_n C [(2, Vi 0), (0, Vr 0), (1, Vi p1)] rfl (by decide) dX6_count_49 rfl ?_
    refine q_iconst C dX6_count_50 ⟨by decide, by decide⟩ ?_
    refine q_istore_n C [(3, Vi 0), (2, Vi 0), (0, Vr 0), (1, Vi p1)] rfl (by decide) dX6_count_51 rfl ?_
    refine q_sub C [2, 1, 0] [(0, Vr 0), (2, Vi 0), (3, Vi 0)] rfl ?_
    refine loop_go (fun x2 => G μ 52 [(0, Vr 0), (2, Vi (x2.1)), (3, Vi (x2.2))] []) (sat_bind2 hz) (fun h => h) (fun x2 hz => ?_)
    refine q_iload_n C 2 rfl dX6_count_52 rfl ?_
    refine q_bipush C dX6_count_53 ⟨rfl, by decide, by decide⟩ ?_
    refine q_icmp_ge C dX6_count_55 (tgt := 81) (by decide) (fun c3 => ?_) (fun c3 => ?_)
    · have hz := sat_t hz c3
      have hz := sat_some hz
      refine q_sub C [1] [(2, Vi (x2.1))] rfl ?_
      refine q_iload_n C 0 rfl dX6_count_81 rfl ?_
      exact q_iret C dX6_count_82 (congrArg (fun q => (q, μ)) (sat_eq hz))
    · have hz := sat_f hz c3
      refine q_iload_n C 1 rfl dX6_count_58 rfl ?_
      refine q_aload_n C 0 rfl dX6_count_59 rfl ?_
      refine q_getR tO_X6 C (i := 5) i_X6 rfl rfl (by decide) rfl f_23 dX6_count_60 ?_
      refine q_iload_n C 2 rfl dX6_count_63 rfl ?_
      obtain ⟨c4, hz⟩ := sat_chk hz
      refine q_iald (tM_rowSize) C 0 rfl c4 dX6_count_64 ?_
      refine q_if_ge C dX6_count_65 (tgt := 72) (by decide) (fun c5 => ?_) (fun c5 => ?_)
      · have hz := sat_t hz c5
        refine q_iconst C dX6_count_72 ⟨by decide, by decide⟩ ?_
        refine q_iadd C dX6_count_73 ?_
        refine q_istore_n C [(2, Vi (w3 (x2.1 + 1))), (0, Vr 0), (3, Vi (x2.2))] rfl (by decide) dX6_count_74 rfl ?_
        refine q_iinc C 2 rfl [(3, Vi (w3 (x2.2 + 1))), (2, Vi (w3 (x2.1 + 1))), (0, Vr 0)] rfl (by decide) dX6_count_75 ?_
        refine q_goto C dX6_count_78 (tgt := 52) (by decide) ?_
        refine q_sub C [2, 1, 0] [(0, Vr 0), (2, Vi (w3 (x2.1 + 1))), (3, Vi (w3 (x2.2 + 1)))] rfl ?_
        have hz := sat_some hz
        exact hz
      · have hz := sat_f hz c5
        refine q_iconst C dX6_count_68 ⟨by decide, by decide⟩ ?_
        refine q_goto C dX6_count_69 (tgt := 73) (by decide) ?_
        refine q_iadd C dX6_count_73 ?_
        refine q_istore_n C [(2, Vi (w3 (x2.1 + 0))), (0, Vr 0), (3, Vi (x2.2))] rfl (by decide) dX6_count_74 rfl ?_
        refine q_iinc C 2 rfl [(3, Vi (w3 (x2.2 + 1))), (2, Vi (w3 (x2.1 + 0))), (0, Vr 0)] rfl (by decide) dX6_count_75 ?_
        refine q_goto C dX6_count_78 (tgt := 52) (by decide) ?_
        refine q_sub C [2, 1, 0] [(0, Vr 0), (2, Vi (w3 (x2.1 + 0))), (3, Vi (w3 (x2.2 + 1)))] rfl ?_
        have hz := sat_some hz
        exact hz
  · have c1 : ¬ p1 = 0 := c1
    refine sat_ite hz (fun c7 hz => ?_) (fun c7 hz => ?_)
    · have c7 : p1 = 1 := c7
      refine q_tab_in C dX6_count_1 (by omega) (by omega) (off := 82) (by rw [c7]; rfl) (tgt := 83) (by decide) ?_
      refine q_aload_n C 0 rfl dX6_count_83 rfl ?_
      refine q_getR tO_X6 C (i := 0) i_X6 rfl rfl (by decide) rfl f_7 dX6_count_84 ?_
      refine q_bipush C dX6_count_87 ⟨rfl, by decide, by decide⟩ ?_
      obtain ⟨c8, hz⟩ := sat_chk hz
      refine q_wald C c8 dX6_count_89 ?_
      exact q_iret C dX6_count_90 (congrArg (fun q => (q, μ)) (sat_eq hz))
    · have c7 : ¬ p1 = 1 := c7
      refine sat_ite hz (fun c9 hz => ?_) (fun c9 hz => ?_)
      · have c9 : p1 = 2 := c9
        refine q_tab_in C dX6_count_1 (by omega) (by omega) (off := 90) (by rw [c9]; rfl) (tgt := 91) (by decide) ?_
        refine q_aload_n C 0 rfl dX6_count_91 rfl ?_
        refine q_getR tO_X6 C (i := 0) i_X6 rfl rfl (by decide) rfl f_7 dX6_count_92 ?_
        refine q_bipush C dX6_count_95 ⟨rfl, by decide, by decide⟩ ?_
        obtain ⟨c10, hz⟩ := sat_chk hz
        refine q_wald C c10 dX6_count_97 ?_
        exact q_iret C dX6_count_98 (congrArg (fun q => (q, μ)) (sat_eq hz))
      · have c9 : ¬ p1 = 2 := c9
        refine sat_ite hz (fun c11 hz => ?_) (fun c11 hz => ?_)
        · have c11 : p1 = 3 := c11
          refine q_tab_in C dX6_count_1 (by omega) (by omega) (off := 98) (by rw [c11]; rfl) (tgt := 99) (by decide) ?_
          refine q_aload_n C 0 rfl dX6_count_99 rfl ?_
          refine q_getR tO_X6 C (i := 0) i_X6 rfl rfl (by decide) rfl f_7 dX6_count_100 ?_
          refine q_iconst C dX6_count_103 ⟨by decide, by decide⟩ ?_
          obtain ⟨c12, hz⟩ := sat_chk hz
          refine q_wald C c12 dX6_count_104 ?_
          exact q_iret C dX6_count_105 (congrArg (fun q => (q, μ)) (sat_eq hz))
        · have c11 : ¬ p1 = 3 := c11
          refine sat_ite hz (fun c13 hz => ?_) (fun c13 hz => ?_)
          · have c13 : p1 = 4 := c13
            refine q_tab_in C dX6_count_1 (by omega) (by omega) (off := 105) (by rw [c13]; rfl) (tgt := 106) (by decide) ?_
            refine q_aload_n C 0 rfl dX6_count_106 rfl ?_
            obtain ⟨z15, hz15, hz⟩ := sat_bind hz
            refine q_callVi stZ_t C [] [] (c_X6_crumbsOfAll μ hz15) tO_X6 rfl gX6_count_X6_crumbsOfAll rfl ⟨rfl, rfl⟩ hdX6_crumbsOfAll ⟨by decide, by decide⟩ rfl (Nat.le_of_ble_eq_true rfl) dX6_count_107 rfl (fun _ _ => ?_)
            exact q_iret C dX6_count_110 (congrArg (fun q => (q, μ)) (sat_eq hz))
          · have c13 : ¬ p1 = 4 := c13
            refine sat_ite hz (fun c16 hz => ?_) (fun c16 hz => ?_)
            · have c16 : p1 = 5 := c16
              refine q_tab_in C dX6_count_1 (by omega) (by omega) (off := 110) (by rw [c16]; rfl) (tgt := 111) (by decide) ?_
              refine q_aload_n C 0 rfl dX6_count_111 rfl ?_
              refine q_getR tO_X6 C (i := 0) i_X6 rfl rfl (by decide) rfl f_7 dX6_count_112 ?_
              refine q_bipush C dX6_count_115 ⟨rfl, by decide, by decide⟩ ?_
              obtain ⟨c17, hz⟩ := sat_chk hz
              refine q_wald C c17 dX6_count_117 ?_
              exact q_iret C dX6_count_118 (congrArg (fun q => (q, μ)) (sat_eq hz))
            · have c16 : ¬ p1 = 5 := c16
              refine sat_ite hz (fun c18 hz => ?_) (fun c18 hz => ?_)
              · have c18 : p1 = 6 := c18
                refine q_tab_in C dX6_count_1 (by omega) (by omega) (off := 118) (by rw [c18]; rfl) (tgt := 119) (by decide) ?_
                refine q_aload_n C 0 rfl dX6_count_119 rfl ?_
                refine q_get tO_X6 C (i := 3) i_X6 rfl rfl (by decide) rfl f_117 dX6_count_120 ?_
                exact q_iret C dX6_count_123 (congrArg (fun q => (q, μ)) (sat_eq hz))
              · have c18 : ¬ p1 = 6 := c18
                refine sat_ite hz (fun c19 hz => ?_) (fun c19 hz => ?_)
                · have c19 : p1 = 7 := c19
                  refine q_tab_in C dX6_count_1 (by omega) (by omega) (off := 123) (by rw [c19]; rfl) (tgt := 124) (by decide) ?_
                  refine q_aload_n C 0 rfl dX6_count_124 rfl ?_
                  refine q_get tO_X6 C (i := 9) i_X6 rfl rfl (by decide) rfl f_69 dX6_count_125 ?_
                  exact q_iret C dX6_count_128 (congrArg (fun q => (q, μ)) (sat_eq hz))
                · have c19 : ¬ p1 = 7 := c19
                  refine q_tab_out C dX6_count_1 (by omega) (tgt := 129) (by decide) ?_
                  refine q_ldc (v := (-1000001)) (x := (-1000001)) C (by decide +kernel) dX6_count_129 ⟨by decide +kernel, by decide, by decide⟩ ?_
                  exact q_iret C dX6_count_131 (congrArg (fun q => (q, μ)) (sat_eq hz))
theorem hdX6_status : yX6_status.cls = RX6 ∧ yX6_status.cls ≠ "java/lang/invoke/MethodHandle" ∧ yX6_status.cls ≠ "java/lang/invoke/VarHandle" ∧ (parseMethodDescriptor yX6_status.desc).map (fun d => d.parameters.length) = some 0 := by decide +kernel
set_option maxHeartbeats 4000000 in
set_option maxRecDepth 100000 in
theorem c_X6_status {l : Launch} {D : va_G} {ad : Nat → Nat} {cI cZ : ClassId} (μ : Mm) : CT l D vwCl (tyM cI cZ) 10 ad (EM ad cI cZ) (fun _ => True) yX6_status wsX6_status ({ frames := 0, cells := 0, slots := 0, locals := 0 } : Room) (some .int) [Vr 0] μ (f_X6_status μ, μ) := by
  refine CT_of [(0, Vr 0)] stZ_t (by decide) rfl rfl (Nat.le_of_ble_eq_true rfl) rfl (fun G C => ?_)
  have i_X6 : ∀ w ∈ u_ws RX6 TX6 19, w ∈ wsX6_status := by decide +kernel
  have f_38 : Cond.fieldLink (yX6_status).cls 38 "SwanDeedsModel" "status" "I" ∈ wsX6_status := by decide +kernel
  generalize hz : f_X6_status μ = v at C
  unfold f_X6_status at hz
  refine q_aload_n C 0 rfl dX6_status_0 rfl ?_
  refine q_get tO_X6 C (i := 7) i_X6 rfl rfl (by decide) rfl f_38 dX6_status_1 ?_
  exact q_iret C dX6_status_4 (congrArg (fun q => (q, μ)) hz)
