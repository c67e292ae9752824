theorem hdX6_fewestOf : yX6_fewestOf.cls = RX6 ∧ yX6_fewestOf.cls ≠ "java/lang/invoke/MethodHandle" ∧ yX6_fewestOf.cls ≠ "java/lang/invoke/VarHandle" ∧ (parseMethodDescriptor yX6_fewestOf.desc).map (fun d => d.parameters.length) = some 5 := by decide +kernel
set_option maxHeartbeats 4000000 in
set_option maxRecDepth 100000 in
theorem c_X6_fewestOf {l : Launch} {D : va_G} {ad : Nat → Nat} {cI cZ : ClassId} (μ : Mm) (p1 p2 p3 p4 p5 : Int) {v : Int × Mm} (hz : f_X6_fewestOf μ p1 p2 p3 p4 p5 = some v) : CT l D vwCl (tyM cI cZ) 10 ad (EM ad cI cZ) (fun _ => True) yX6_fewestOf wsX6_fewestOf ({ frames := 6, cells := 0, slots := 0, locals := 152 } : Room) (some .int) [Vr 0, Vi p1, Vi p2, Vi p3, Vi p4, Vi p5] μ (v.1, v.2) := by
  refine CT_of [(0, Vr 0), (1, Vi p1), (2, Vi p2), (3, Vi p3), (4, Vi p4), (5, Vi p5)] stZ_t (by decide) rfl rfl (Nat.le_of_ble_eq_true rfl) rfl (fun G C => ?_)
  have hz := sat_of hz
  unfold f_X6_fewestOf at hz
  refine q_aload_n C 0 rfl dX6_fewestOf_0 rfl ?_
  refine q_iload_n C 1 rfl dX6_fewestOf_1 rfl ?_
  obtain ⟨z2, hz2, hz⟩ := sat_bind hz
  refine q_callVz stZ_t C [Vi p1] [] (c_X6_isSwan μ p1 hz2) tO_X6 rfl gX6_fewestOf_X6_isSwan rfl ⟨rfl, rfl⟩ hdX6_isSwan ⟨by decide, by decide⟩ rfl (Nat.le_of_ble_eq_true rfl) dX6_fewestOf_2 rfl (fun hb1 _ => ?_)
  refine q_if_eq C dX6_fewestOf_5 (tgt := 39) (by decide) (fun c3 => ?_) (fun c3 => ?_)
  · have hz := sat_t hz c3
    refine q_ldc (v := (-1000001)) (x := (-1000001)) C (by decide +kernel) dX6_fewestOf_39 ⟨by decide +kernel, by decide, by decide⟩ ?_
    exact q_iret C dX6_fewestOf_41 (sat_eq hz)
  · have hz := sat_f hz c3
    refine q_aload_n C 0 rfl dX6_fewestOf_8 rfl ?_
    refine q_iload_n C 2 rfl dX6_fewestOf_9 rfl ?_
    obtain ⟨z5, hz5, hz⟩ := sat_bind hz
    refine q_callVz stZ_t C [Vi p2] [] (c_X6_isLawn μ p2 hz5) tO_X6 rfl gX6_fewestOf_X6_isLawn rfl ⟨rfl, rfl⟩ hdX6_isLawn ⟨by decide, by decide⟩ rfl (Nat.le_of_ble_eq_true rfl) dX6_fewestOf_10 rfl (fun hb4 _ => ?_)
    refine q_if_eq C dX6_fewestOf_13 (tgt := 39) (by decide) (fun c6 => ?_) (fun c6 => ?_)
    · have hz := sat_t hz c6
      refine q_ldc (v := (-1000001)) (x := (-1000001)) C (by decide +kernel) dX6_fewestOf_39 ⟨by decide +kernel, by decide, by decide⟩ ?_
      exact q_iret C dX6_fewestOf_41 (sat_eq hz)
    · have hz := sat_f hz c6
      refine q_iload_n C 3 rfl dX6_fewestOf_16 rfl ?_
      refine q_i2l C dX6_fewestOf_17 ?_
      refine q_lconst (x := 1) C dX6_fewestOf_18 ⟨rfl, by decide, by decide⟩ ?_
      refine q_ldc2 (v := 20) (x := 20) C (by decide +kernel) dX6_fewestOf_19 ⟨by decide +kernel, by decide, by decide⟩ ?_
      refine q_callSz stZ_t C [Vl p3, Vl 1, Vl 20] [] (c_X6_in μ p3 1 20) gX6_fewestOf_X6_in rfl ⟨rfl, rfl⟩ hdX6_in ⟨by decide, by decide⟩ rfl (Nat.le_of_ble_eq_true rfl) dX6_fewestOf_22 rfl (fun hb7 _ => ?_)
      refine q_if_eq C dX6_fewestOf_25 (tgt := 39) (by decide) (fun c8 => ?_) (fun c8 => ?_)
      · have hz := sat_t hz c8
        refine q_ldc (v := (-1000001)) (x := (-1000001)) C (by decide +kernel) dX6_fewestOf_39 ⟨by decide +kernel, by decide, by decide⟩ ?_
        exact q_iret C dX6_fewestOf_41 (sat_eq hz)
      · have hz := sat_f hz c8
        refine q_iload C 4 rfl dX6_fewestOf_28 ?_
        refine q_i2l C dX6_fewestOf_30 ?_
        refine q_lconst (x := 0) C dX6_fewestOf_31 ⟨rfl, by decide, by decide⟩ ?_
        refine q_lconst (x := 1) C dX6_fewestOf_32 ⟨rfl, by decide, by decide⟩ ?_
        refine q_callSz stZ_t C [Vl p4, Vl 0, Vl 1] [] (c_X6_in μ p4 0 1) gX6_fewestOf_X6_in rfl ⟨rfl, rfl⟩ hdX6_in ⟨by decide, by decide⟩ rfl (Nat.le_of_ble_eq_true rfl) dX6_fewestOf_33 rfl (fun hb9 _ => ?_)
        refine q_if_ne C dX6_fewestOf_36 (tgt := 42) (by decide) (fun c10 => ?_) (fun c10 => ?_)
        · have hz := sat_f hz c10
          refine q_aload_n C 0 rfl dX6_fewestOf_42 rfl ?_
          refine q_iload_n C 1 rfl dX6_fewestOf_43 rfl ?_
          refine q_iload_n C 2 rfl dX6_fewestOf_44 rfl ?_
          refine q_iload_n C 3 rfl dX6_fewestOf_45 rfl ?_
          refine q_iload C 5 rfl dX6_fewestOf_46 ?_
          obtain ⟨z12, hz12, hz⟩ := sat_bind hz
          refine q_callVi stZ_t C [Vi p1, Vi p2, Vi p3, Vi p5] [] (c_X6_fewest μ p1 p2 p3 p5 hz12) tO_X6 rfl gX6_fewestOf_X6_fewest rfl ⟨rfl, rfl⟩ hdX6_fewest ⟨by decide, by decide⟩ rfl (Nat.le_of_ble_eq_true rfl) dX6_fewestOf_48 rfl (fun _ _ => ?_)
          refine q_istore C [(6, Vi (z12.1)), (0, Vr 0), (1, Vi p1), (2, Vi p2), (3, Vi p3), (4, Vi p4), (5, Vi p5)] rfl (by decide) dX6_fewestOf_51 ?_
          refine q_iload C 0 rfl dX6_fewestOf_53 ?_
          refine q_ldc (v := (-1000000)) (x := (-1000000)) C (by decide +kernel) dX6_fewestOf_55 ⟨by decide +kernel, by decide, by decide⟩ ?_
          refine q_icmp_eq C dX6_fewestOf_57 (tgt := 66) (by decide) (fun c13 => ?_) (fun c13 => ?_)
          · have hz := sat_t hz c13
            refine q_iload C 0 rfl dX6_fewestOf_66 ?_
            refine q_goto C dX6_fewestOf_68 (tgt := 76) (by decide) ?_
            exact q_iret C dX6_fewestOf_76 (sat_eq hz)
          · have hz := sat_f hz c13
            refine q_iload C 5 rfl dX6_fewestOf_60 ?_
            refine q_iconst C dX6_fewestOf_62 ⟨by decide, by decide⟩ ?_
            refine q_icmp_ne C dX6_fewestOf_63 (tgt := 71) (by decide) (fun c14 => ?_) (fun c14 => ?_)
            · have hz := sat_f hz c14
              refine q_iload C 0 rfl dX6_fewestOf_71 ?_
              obtain ⟨z16, hz16, hz⟩ := sat_bind hz
              refine q_callSi stZ_t C [Vi (z12.1)] [] (c_X6_ones z12.2 z12.1 hz16) gX6_fewestOf_X6_ones rfl ⟨rfl, rfl⟩ hdX6_ones ⟨by decide, by decide⟩ rfl (Nat.le_of_ble_eq_true rfl) dX6_fewestOf_73 rfl (fun _ _ => ?_)
              exact q_iret C dX6_fewestOf_76 (sat_eq hz)
            · have hz := sat_t hz c14
              refine q_iload C 0 rfl dX6_fewestOf_66 ?_
              refine q_goto C dX6_fewestOf_68 (tgt := 76) (by decide) ?_
              exact q_iret C dX6_fewestOf_76 (sat_eq hz)
        · have hz := sat_t hz c10
          refine q_ldc (v := (-1000001)) (x := (-1000001)) C (by decide +kernel) dX6_fewestOf_39 ⟨by decide +kernel, by decide, by decide⟩ ?_
          exact q_iret C dX6_fewestOf_41 (sat_eq hz)
theorem hdX6_crusts : yX6_crusts.cls = RX6 ∧ yX6_crusts.cls ≠ "java/lang/invoke/MethodHandle" ∧ yX6_crusts.cls ≠ "java/lang/invoke/VarHandle" ∧ (parseMethodDescriptor yX6_crusts.desc).map (fun d => d.parameters.length) = some 4 := by decide +kernel
set_option maxHeartbeats 4000000 in
set_option maxRecDepth 100000 in
theorem c_X6_crusts {l : Launch} {D : va_G} {ad : Nat → Nat} {cI cZ : ClassId} (μ : Mm) (p1 p2 p3 p4 : Int) {v : Int × Mm} (hz : f_X6_crusts μ p1 p2 p3 p4 = some v) : CT l D vwCl (tyM cI cZ) 10 ad (EM ad cI cZ) (fun _ => True) yX6_crusts wsX6_crusts ({ frames := 7, cells := 0, slots := 0, locals := 178 } : Room) (some .int) [Vr 0, Vi p1, Vi p2, Vi p3, Vi p4] μ (v.1, v.2) := by
  refine CT_of [(0, Vr 0), (1, Vi p1), (2, Vi p2), (3, Vi p3), (4, Vi p4)] stZ_t (by decide) rfl rfl (Nat.le_of_ble_eq_true rfl) rfl (fun G C => ?_)
  have hz := sat_of hz
  unfold f_X6_crusts at hz
  refine q_aload_n C 0 rfl dX6_crusts_0 rfl ?_
  refine q_iload_n C 1 rfl dX6_crusts_1 rfl ?_
  refine q_iload_n C 2 rfl dX6_crusts_2 rfl ?_
  refine q_iload_n C 3 rfl dX6_crusts_3 rfl ?_
  refine q_iload C 4 rfl dX6_crusts_4 ?_
  refine q_iconst C dX6_crusts_6 ⟨by decide, by decide⟩ ?_
  obtain ⟨z2, hz2, hz⟩ := sat_bind hz
  refine q_callVi stZ_t C [Vi p1, Vi p2, Vi p3, Vi p4, Vi 0] [] (c_X6_fewestOf μ p1 p2 p3 p4 0 hz2) tO_X6 rfl gX6_crusts_X6_fewestOf rfl ⟨rfl, rfl⟩ hdX6_fewestOf ⟨by decide, by decide⟩ rfl (Nat.le_of_ble_eq_true rfl) dX6_crusts_7 rfl (fun _ _ => ?_)
  exact q_iret C dX6_crusts_10 (sat_eq hz)
theorem hdX6_weirs : yX6_weirs.cls = RX6 ∧ yX6_weirs.cls ≠ "java/lang/invoke/MethodHandle" ∧ yX6_weirs.cls ≠ "java/lang/invoke/VarHandle" ∧ (parseMethodDescriptor yX6_weirs.desc).map (fun d => d.parameters.length) = some 4 := by decide +kernel
set_option maxHeartbeats 4000000 in
set_option maxRecDepth 100000 in
theorem c_X6_weirs {l : Launch} {D : va_G} {ad : Nat → Nat} {cI cZ : ClassId} (μ : Mm) (p1 p2 p3 p4 : Int) {v : Int × Mm} (hz : f_X6_weirs μ p1 p2 p3 p4 = some v) : CT l D vwCl (tyM cI cZ) 10 ad (EM ad cI cZ) (fun _ => True) yX6_weirs wsX6_weirs ({ frames := 7, cells := 0, slots := 0, locals := 178 } : Room) (some .int) [Vr 0, Vi p1, Vi p2, Vi p3, Vi p4] μ (v.1, v.2) := by
  refine CT_of [(0, Vr 0), (1, Vi p1), (2, Vi p2), (3, Vi p3), (4, Vi p4)] stZ_t (by decide) rfl rfl (Nat.le_of_ble_eq_true rfl) rfl (fun G C => ?_)
  have hz := sat_of hz
  unfold f_X6_weirs at hz
  refine q_aload_n C 0 rfl dX6_weirs_0 rfl ?_
  refine q_iload_n C 1 rfl dX6_weirs_1 rfl ?_
  refine q_iload_n C 2 rfl dX6_weirs_2 rfl ?_
  refine q_iload_n C 3 rfl dX6_weirs_3 rfl ?_
  refine q_iload C 4 rfl dX6_weirs_4 ?_
  refine q_iconst C dX6_weirs_6 ⟨by decide, by decide⟩ ?_
  obtain ⟨z2, hz2, hz⟩ := sat_bind hz
  refine q_callVi stZ_t C [Vi p1, Vi p2, Vi p3, Vi p4, Vi 1] [] (c_X6_fewestOf μ p1 p2 p3 p4 1 hz2) tO_X6 rfl gX6_weirs_X6_fewestOf rfl ⟨rfl, rfl⟩ hdX6_fewestOf ⟨by decide, by decide⟩ rfl (Nat.le_of_ble_eq_true rfl) dX6_weirs_7 rfl (fun _ _ => ?_)
  exact q_iret C dX6_weirs_10 (sat_eq hz)
theorem hdX6_hold : yX6_hold.cls = RX6 ∧ yX6_hold.cls ≠ "java/lang/invoke/MethodHandle" ∧ yX6_hold.cls ≠ "java/lang/invoke/VarHandle" ∧ (parseMethodDescriptor yX6_hold.desc).map (fun d => d.parameters.length) = some 2 := by decide +kernel
set_option maxHeartbeats 4000000 in
set_option maxRecDepth 100000 in
theorem c_X6_hold {l : Launch} {D : va_G} {ad : Nat → Nat} {cI cZ : ClassId} (μ : Mm) (p1 p2 : Int) {v : Int × Mm} (hz : f_X6_hold μ p1 p2 = some v) : CT l D vwCl (tyM cI cZ) 10 ad (EM ad cI cZ) (fun _ => True) yX6_hold wsX6_hold ({ frames := 6, cells := 0, slots := 0, locals := 147 } : Room) (some .int) [Vr 0, Vi p1, Vi p2] μ (v.1, v.2) := by
  refine CT_of [(0, Vr 0), (1, Vi p1), (2, Vi p2)] stZ_t (by decide) rfl rfl (Nat.le_of_ble_eq_true rfl) rfl (fun G C => ?_)
  have i_X6 : ∀ w ∈ u_ws RX6 TX6 19, w ∈ wsX6_hold := by decide +kernel
  have f_7 : Cond.fieldLink (yX6_hold).cls 7 "SwanDeedsModel" "w" "[I" ∈ wsX6_hold := by decide +kernel
  have hz := sat_of hz
  unfold f_X6_hold at hz
  refine q_aload_n C 0 rfl dX6_hold_0 rfl ?_
  refine q_iload_n C 1 rfl dX6_hold_1 rfl ?_
  obtain ⟨z2, hz2, hz⟩ := sat_bind hz
  refine q_callVz stZ_t C [Vi p1] [] (c_X6_isSwan μ p1 hz2) tO_X6 rfl gX6_hold_X6_isSwan rfl ⟨rfl, rfl⟩ hdX6_isSwan ⟨by decide, by decide⟩ rfl (Nat.le_of_ble_eq_true rfl) dX6_hold_2 rfl (fun hb1 _ => ?_)
  refine q_if_eq C dX6_hold_5 (tgt := 18) (by decide) (fun c3 => ?_) (fun c3 => ?_)
  · have hz := sat_t hz c3
    refine q_ldc (v := (-1000001)) (x := (-1000001)) C (by decide +kernel) dX6_hold_18 ⟨by decide +kernel, by decide, by decide⟩ ?_
    exact q_iret C dX6_hold_20 (sat_eq hz)
  · have hz := sat_f hz c3
    refine q_iload_n C 2 rfl dX6_hold_8 rfl ?_
    refine q_i2l C dX6_hold_9 ?_
    refine q_lconst (x := 0) C dX6_hold_10 ⟨rfl, by decide, by decide⟩ ?_
    refine q_lconst (x := 1) C dX6_hold_11 ⟨rfl, by decide, by decide⟩ ?_
    refine q_callSz stZ_t C [Vl p2, Vl 0, Vl 1] [] (c_X6_in μ p2 0 1) gX6_hold_X6_in rfl ⟨rfl, rfl⟩ hdX6_in ⟨by decide, by decide⟩ rfl (Nat.le_of_ble_eq_true rfl) dX6_hold_12 rfl (fun hb4 _ => ?_)
    refine q_if_ne C dX6_hold_15 (tgt := 21) (by decide) (fun c5 => ?_) (fun c5 => ?_)
    · have hz := sat_f hz c5
      refine q_iconst C dX6_hold_21 ⟨by decide, by decide⟩ ?_
      refine q_istore_n C [(3, Vi 0), (0, Vr 0), (1, Vi p1), (2, Vi p2)] rfl (by decide) dX6_hold_22 rfl ?_
      refine q_iconst C dX6_hold_23 ⟨by decide, by decide⟩ ?_
      refine q_istore C [(4, Vi (-1)), (3, Vi 0), (0, Vr 0), (1, Vi p1), (2, Vi p2)] rfl (by decide) dX6_hold_24 ?_
      refine q_iconst C dX6_hold_26 ⟨by decide, by decide⟩ ?_
      refine q_istore C [(5, Vi 0), (4, Vi (-1)), (3, Vi 0), (0, Vr 0), (1, Vi p1), (2, Vi p2)] rfl (by decide) dX6_hold_27 ?_
      refine q_sub C [3, 4, 5, 2, 1, 0] [(0, Vr 0), (1, Vi p1), (2, Vi p2), (3, Vi 0), (4, Vi (-1)), (5, Vi 0)] rfl ?_
      refine loop_go (fun x6 => G x6.2.2.2 29 [(0, Vr 0), (1, Vi p1), (2, Vi p2), (3, Vi (x6.1)), (4, Vi (x6.2.1)), (5, Vi (x6.2.2.1))] []) (sat_bind2 hz) (fun h => h) (fun x6 hz => ?_)
      refine q_iload C 5 rfl dX6_hold_29 ?_
      refine q_aload_n C 0 rfl dX6_hold_31 rfl ?_
      refine q_getR tO_X6 C (i := 0) i_X6 rfl rfl (by decide) rfl f_7 dX6_hold_32 ?_
      refine q_bipush C dX6_hold_35 ⟨rfl, by decide, by decide⟩ ?_
      obtain ⟨c7, hz⟩ := sat_chk hz
      refine q_wald C c7 dX6_hold_37 ?_
      refine q_icmp_ge C dX6_hold_38 (tgt := 116) (by decide) (fun c8 => ?_) (fun c8 => ?_)
      · have hz := sat_t hz c8
        have hz := sat_some hz
        refine q_sub C [2, 3, 4] [(2, Vi p2), (3, Vi (x6.1)), (4, Vi (x6.2.1))] rfl ?_
        refine q_iload_n C 0 rfl dX6_hold_116 rfl ?_
        refine q_if_ne C dX6_hold_117 (tgt := 124) (by decide) (fun c9 => ?_) (fun c9 => ?_)
        · have hz := sat_f hz c9
          refine q_iload C 2 rfl dX6_hold_124 ?_
          exact q_iret C dX6_hold_126 (sat_eq hz)
        · have hz := sat_t hz c9
          refine q_iload_n C 1 rfl dX6_hold_120 rfl ?_
          refine q_goto C dX6_hold_121 (tgt := 126) (by decide) ?_
          exact q_iret C dX6_hold_126 (sat_eq hz)
      · have hz := sat_f hz c8
        refine q_aload_n C 0 rfl dX6_hold_41 rfl ?_
        obtain ⟨z11, hz11, hz⟩ := sat_bind hz
        refine q_callVv stZ_t C [] [] (c_X6_tries x6.2.2.2 hz11) tO_X6 rfl gX6_hold_X6_tries rfl ⟨rfl, rfl⟩ hdX6_tries ⟨by decide, by decide⟩ rfl (Nat.le_of_ble_eq_true rfl) dX6_hold_42 rfl (fun _ => ?_)
        refine q_aload_n C 0 rfl dX6_hold_45 rfl ?_
        refine q_bipush C dX6_hold_46 ⟨rfl, by decide, by decide⟩ ?_
        refine q_iload C 5 rfl dX6_hold_48 ?_
        refine q_bipush C dX6_hold_50 ⟨rfl, by decide, by decide⟩ ?_
        obtain ⟨z13, hz13, hz⟩ := sat_bind hz
        refine q_callVv stZ_t C [Vi 114, Vi (x6.2.2.1), Vi 9] [] (c_X6_throwsOn z11 114 x6.2.2.1 9 hz13) tO_X6 rfl gX6_hold_X6_throwsOn rfl ⟨rfl, rfl⟩ hdX6_throwsOn ⟨by decide, by decide⟩ rfl (Nat.le_of_ble_eq_true rfl) dX6_hold_52 rfl (fun _ => ?_)
        refine q_aload_n C 0 rfl dX6_hold_55 rfl ?_
        refine q_iload_n C 1 rfl dX6_hold_56 rfl ?_
        obtain ⟨z15, hz15, hz⟩ := sat_bind hz
        refine q_callVi stZ_t C [Vi p1] [] (c_X6_leaves z13 p1 hz15) tO_X6 rfl gX6_hold_X6_leaves rfl ⟨rfl, rfl⟩ hdX6_leaves ⟨by decide, by decide⟩ rfl (Nat.le_of_ble_eq_true rfl) dX6_hold_57 rfl (fun _ _ => ?_)
        refine q_istore C [(6, Vi (z15.1)), (0, Vr 0), (1, Vi p1), (2, Vi p2), (3, Vi (x6.1)), (4, Vi (x6.2.1)), (5, Vi (x6.2.2.1))] rfl (by decide) dX6_hold_60 ?_
        refine q_iload C 0 rfl dX6_hold_62 ?_
        refine q_ldc (v := (-1000000)) (x := (-1000000)) C (by decide +kernel) dX6_hold_64 ⟨by decide +kernel, by decide, by decide⟩ ?_
        obtain ⟨v16, hv16, hz⟩ := sat_bnd hz
        have Jv16 : G z15.2 78 [(0, Vr 0), (1, Vi p1), (2, Vi p2), (3, Vi (x6.1)), (4, Vi (x6.2.1)), (5, Vi (x6.2.2.1))] [Vi v16] := by
          refine q_istore C [(7, Vi v16), (0, Vr 0), (1, Vi p1), (2, Vi p2), (3, Vi (x6.1)), (4, Vi (x6.2.1)), (5, Vi (x6.2.2.1))] rfl (by decide) dX6_hold_78 ?_
          refine q_iload C 0 rfl dX6_hold_80 ?_
          refine q_iload C 5 rfl dX6_hold_82 ?_
          obtain ⟨v17, hv17, hz⟩ := sat_bnd hz
          have Jv17 : G z15.2 93 [(0, Vr 0), (1, Vi p1), (2, Vi p2), (4, Vi (x6.2.1)), (5, Vi (x6.2.2.1)), (7, Vi v16)] [Vi v17] := by
            refine q_istore_n C [(3, Vi v17), (0, Vr 0), (1, Vi p1), (2, Vi p2), (4, Vi (x6.2.1)), (5, Vi (x6.2.2.1)), (7, Vi v16)] rfl (by decide) dX6_hold_93 rfl ?_
            refine q_iload C 6 rfl dX6_hold_94 ?_
            refine q_iload C 4 rfl dX6_hold_96 ?_
            refine q_icmp_le C dX6_hold_98 (tgt := 106) (by decide) (fun c18 => ?_) (fun c18 => ?_)
            · have hz := sat_t hz c18
              refine q_iload C 4 rfl dX6_hold_106 ?_
              refine q_istore C [(4, Vi (x6.2.1)), (3, Vi v17), (0, Vr 0), (1, Vi p1), (2, Vi p2), (5, Vi (x6.2.2.1)), (7, Vi v16)] rfl (by decide) dX6_hold_108 ?_
              refine q_iinc C 5 rfl [(5, Vi (w3 (x6.2.2.1 + 1))), (4, Vi (x6.2.1)), (3, Vi v17), (0, Vr 0), (1, Vi p1), (2, Vi p2), (7, Vi v16)] rfl (by decide) dX6_hold_110 ?_
              refine q_goto C dX6_hold_113 (tgt := 29) (by decide) ?_
              refine q_sub C [3, 4, 5, 2, 1, 0] [(0, Vr 0), (1, Vi p1), (2, Vi p2), (3, Vi v17), (4, Vi (x6.2.1)), (5, Vi (w3 (x6.2.2.1 + 1)))] rfl ?_
              have hz := sat_some hz
              exact hz
            · have hz := sat_f hz c18
              refine q_iload C 6 rfl dX6_hold_101 ?_
              refine q_goto C dX6_hold_103 (tgt := 108) (by decide) ?_
              refine q_istore C [(4, Vi v16), (3, Vi v17), (0, Vr 0), (1, Vi p1), (2, Vi p2), (5, Vi (x6.2.2.1)), (7, Vi v16)] rfl (by decide) dX6_hold_108 ?_
              refine q_iinc C 5 rfl [(5, Vi (w3 (x6.2.2.1 + 1))), (4, Vi v16), (3, Vi v17), (0, Vr 0), (1, Vi p1), (2, Vi p2), (7, Vi v16)] rfl (by decide) dX6_hold_110 ?_
              refine q_goto C dX6_hold_113 (tgt := 29) (by decide) ?_
              refine q_sub C [3, 4, 5, 2, 1, 0] [(0, Vr 0), (1, Vi p1), (2, Vi p2), (3, Vi v17), (4, Vi v16), (5, Vi (w3 (x6.2.2.1 + 1)))] rfl ?_
              have hz := sat_some hz
              exact hz
          have hz := hv17.symm
          refine q_icmp_le C dX6_hold_84 (tgt := 92) (by decide) (fun c19 => ?_) (fun c19 => ?_)
          · have hz := eq_t hz c19
            refine q_iload_n C 4 rfl dX6_hold_92 rfl ?_
            have hz : _ = v17 := hz
            refine q_sub C [1, 2, 3, 5, 6, 0] [(0, Vr 0), (1, Vi p1), (2, Vi p2), (4, Vi (x6.2.1)), (5, Vi (x6.2.2.1)), (7, Vi v16)] rfl ?_
            subst hz
            exact Jv17
          · have hz := eq_f hz c19
            refine q_iload C 6 rfl dX6_hold_87 ?_
            refine q_goto C dX6_hold_89 (tgt := 93) (by decide) ?_
            have hz : _ = v17 := hz
            refine q_sub C [1, 2, 3, 5, 6, 0] [(0, Vr 0), (1, Vi p1), (2, Vi p2), (4, Vi (x6.2.1)), (5, Vi (x6.2.2.1)), (7, Vi v16)] rfl ?_
            subst hz
            exact Jv17
        have hz := hv16.symm
        refine q_icmp_ne C dX6_hold_66 (tgt := 74) (by decide) (fun c20 => ?_) (fun c20 => ?_)
        · have hz := eq_f hz c20
          refine q_iload C 0 rfl dX6_hold_74 ?_
          refine q_iconst C dX6_hold_76 ⟨by decide, by decide⟩ ?_
          refine q_isub C dX6_hold_77 ?_
          have hz : _ = v16 := hz
          refine q_sub C [1, 2, 3, 4, 5, 6] [(0, Vr 0), (1, Vi p1), (2, Vi p2), (3, Vi (x6.1)), (4, Vi (x6.2.1)), (5, Vi (x6.2.2.1))] rfl ?_
          subst hz
          exact Jv16
        · have hz := eq_t hz c20
          refine q_bipush C dX6_hold_69 ⟨rfl, by decide, by decide⟩ ?_
          refine q_goto C dX6_hold_71 (tgt := 78) (by decide) ?_
          have hz : _ = v16 := hz
          refine q_sub C [1, 2, 3, 4, 5, 6] [(0, Vr 0), (1, Vi p1), (2, Vi p2), (3, Vi (x6.1)), (4, Vi (x6.2.1)), (5, Vi (x6.2.2.1))] rfl ?_
          subst hz
          exact Jv16
    · have hz := sat_t hz c5
      refine q_ldc (v := (-1000001)) (x := (-1000001)) C (by decide +kernel) dX6_hold_18 ⟨by decide +kernel, by decide, by decide⟩ ?_
      exact q_iret C dX6_hold_20 (sat_eq hz)
theorem hdX6_meet : yX6_meet.cls = RX6 ∧ yX6_meet.cls ≠ "java/lang/invoke/MethodHandle" ∧ yX6_meet.cls ≠ "java/lang/invoke/VarHandle" ∧ (parseMethodDescriptor yX6_meet.desc).map (fun d => d.parameters.length) = some 2 := by decide +kernel
set_option maxHeartbeats 4000000 in
set_option maxRecDepth 100000 in
theorem c_X6_meet {l : Launch} {D : va_G} {ad : Nat → Nat} {cI cZ : ClassId} (μ : Mm) (p1 p2 : Int) {v : Int × Mm} (hz : f_X6_meet μ p1 p2 = some v) : CT l D vwCl (tyM cI cZ) 10 ad (EM ad cI cZ) (fun _ => True) yX6_meet wsX6_meet ({ frames := 5, cells := 0, slots := 0, locals := 125 } : Room) (some .int) [Vr 0, Vi p1, Vi p2] μ (v.1, v.2) := by
  refine CT_of [(0, Vr 0), (1, Vi p1), (2, Vi p2)] stZ_t (by decide) rfl rfl (Nat.le_of_ble_eq_true rfl) rfl (fun G C => ?_)
  have i_X6 : ∀ w ∈ u_ws RX6 TX6 19, w ∈ wsX6_meet := by decide +kernel
  have f_7 : Cond.fieldLink (yX6_meet).cls 7 "SwanDeedsModel" "w" "[I" ∈ wsX6_meet := by decide +kernel
  have hz := sat_of hz
  unfold f_X6_meet at hz
  refine q_aload_n C 0 rfl dX6_meet_0 rfl ?_
  refine q_iload_n C 1 rfl dX6_meet_1 rfl ?_
  obtain ⟨z2, hz2, hz⟩ := sat_bind hz
  refine q_callVz stZ_t C [Vi p1] [] (c_X6_isSwan μ p1 hz2) tO_X6 rfl gX6_meet_X6_isSwan rfl ⟨rfl, rfl⟩ hdX6_isSwan ⟨by decide, by decide⟩ rfl (Nat.le_of_ble_eq_true rfl) dX6_meet_2 rfl (fun hb1 _ => ?_)
  refine q_if_eq C dX6_meet_5 (tgt := 21) (by decide) (fun c3 => ?_) (fun c3 => ?_)
  · have hz := sat_t hz c3
    refine q_ldc (v := (-1000001)) (x := (-1000001)) C (by decide +kernel) dX6_meet_21 ⟨by decide +kernel, by decide, by decide⟩ ?_
    exact q_iret C dX6_meet_23 (sat_eq hz)
  · have hz := sat_f hz c3
    refine q_aload_n C 0 rfl dX6_meet_8 rfl ?_
    refine q_iload_n C 2 rfl dX6_meet_9 rfl ?_
    obtain ⟨z5, hz5, hz⟩ := sat_bind hz
    refine q_callVz stZ_t C [Vi p2] [] (c_X6_isSwan μ p2 hz5) tO_X6 rfl gX6_meet_X6_isSwan rfl ⟨rfl, rfl⟩ hdX6_isSwan ⟨by decide, by decide⟩ rfl (Nat.le_of_ble_eq_true rfl) dX6_meet_10 rfl (fun hb4 _ => ?_)
    refine q_if_eq C dX6_meet_13 (tgt := 21) (by decide) (fun c6 => ?_) (fun c6 => ?_)
    · have hz := sat_t hz c6
      refine q_ldc (v := (-1000001)) (x := (-1000001)) C (by decide +kernel) dX6_meet_21 ⟨by decide +kernel, by decide, by decide⟩ ?_
      exact q_iret C dX6_meet_23 (sat_eq hz)
    · have hz := sat_f hz c6
      refine q_iload_n C 1 rfl dX6_meet_16 rfl ?_
      refine q_iload_n C 2 rfl dX6_meet_17 rfl ?_
      refine q_icmp_ne C dX6_meet_18 (tgt := 24) (by decide) (fun c7 => ?_) (fun c7 => ?_)
      · have hz := sat_f hz c7
        refine q_aload_n C 0 rfl dX6_meet_24 rfl ?_
        obtain ⟨z9, hz9, hz⟩ := sat_bind hz
        refine q_callVv stZ_t C [] [] (c_X6_tries μ hz9) tO_X6 rfl gX6_meet_X6_tries rfl ⟨rfl, rfl⟩ hdX6_tries ⟨by decide, by decide⟩ rfl (Nat.le_of_ble_eq_true rfl) dX6_meet_25 rfl (fun _ => ?_)
        refine q_iconst C dX6_meet_28 ⟨by decide, by decide⟩ ?_
        refine q_istore_n C [(3, Vi 0), (0, Vr 0), (1, Vi p1), (2, Vi p2)] rfl (by decide) dX6_meet_29 rfl ?_
        refine q_sub C [1, 2, 3, 0] [(0, Vr 0), (1, Vi p1), (2, Vi p2), (3, Vi 0)] rfl ?_
        refine loop_go (fun x10 => G x10.2 30 [(0, Vr 0), (1, Vi p1), (2, Vi p2), (3, Vi (x10.1))] []) (sat_bind2 hz) (fun h => h) (fun x10 hz => ?_)
        refine q_iload_n C 3 rfl dX6_meet_30 rfl ?_
        refine q_bipush C dX6_meet_31 ⟨rfl, by decide, by decide⟩ ?_
        refine q_icmp_gt C dX6_meet_33 (tgt := 71) (by decide) (fun c11 => ?_) (fun c11 => ?_)
        · have hz := sat_t hz c11
          have hz := sat_some hz
          refine q_sub C [] [] rfl ?_
          refine q_ldc (v := (-1000000)) (x := (-1000000)) C (by decide +kernel) dX6_meet_71 ⟨by decide +kernel, by decide, by decide⟩ ?_
          exact q_iret C dX6_meet_73 (sat_eq hz)
        · have hz := sat_f hz c11
          refine q_aload_n C 0 rfl dX6_meet_36 rfl ?_
          refine q_getR tO_X6 C (i := 0) i_X6 rfl rfl (by decide) rfl f_7 dX6_meet_37 ?_
          refine q_bipush C dX6_meet_40 ⟨rfl, by decide, by decide⟩ ?_
          refine q_iload_n C 1 rfl dX6_meet_42 rfl ?_
          refine q_iadd C dX6_meet_43 ?_
          obtain ⟨c12, hz⟩ := sat_chk hz
          refine q_wald C c12 dX6_meet_44 ?_
          refine q_aload_n C 0 rfl dX6_meet_45 rfl ?_
          refine q_getR tO_X6 C (i := 0) i_X6 rfl rfl (by decide) rfl f_7 dX6_meet_46 ?_
          refine q_bipush C dX6_meet_49 ⟨rfl, by decide, by decide⟩ ?_
          refine q_iload_n C 2 rfl dX6_meet_51 rfl ?_
          refine q_iadd C dX6_meet_52 ?_
          obtain ⟨c13, hz⟩ := sat_chk hz
          refine q_wald C c13 dX6_meet_53 ?_
          refine q_icmp_ne C dX6_meet_54 (tgt := 59) (by decide) (fun c14 => ?_) (fun c14 => ?_)
          · have hz := sat_f hz c14
            refine q_aload_n C 0 rfl dX6_meet_59 rfl ?_
            refine q_bipush C dX6_meet_60 ⟨rfl, by decide, by decide⟩ ?_
            obtain ⟨z16, hz16, hz⟩ := sat_bind hz
            refine q_callVv stZ_t C [Vi 114] [] (c_X6_passes x10.2 114 hz16) tO_X6 rfl gX6_meet_X6_passes rfl ⟨rfl, rfl⟩ hdX6_passes ⟨by decide, by decide⟩ rfl (Nat.le_of_ble_eq_true rfl) dX6_meet_62 rfl (fun _ => ?_)
            refine q_iinc C 3 rfl [(3, Vi (w3 (x10.1 + 1))), (0, Vr 0), (1, Vi p1), (2, Vi p2)] rfl (by decide) dX6_meet_65 ?_
            refine q_goto C dX6_meet_68 (tgt := 30) (by decide) ?_
            refine q_sub C [1, 2, 3, 0] [(0, Vr 0), (1, Vi p1), (2, Vi p2), (3, Vi (w3 (x10.1 + 1)))] rfl ?_
            have hz := sat_some hz
            exact hz
          · have hz := sat_t hz c14
            refine q_iload_n C 3 rfl dX6_meet_57 rfl ?_
            have hz := sat_some hz
            exact q_iret C dX6_meet_58 (sat_eq hz)
      · have hz := sat_t hz c7
        refine q_ldc (v := (-1000001)) (x := (-1000001)) C (by decide +kernel) dX6_meet_21 ⟨by decide +kernel, by decide, by decide⟩ ?_
        exact q_iret C dX6_meet_23 (sat_eq hz)
theorem hdX6_fights : yX6_fights.cls = RX6 ∧ yX6_fights.cls ≠ "java/lang/invoke/MethodHandle" ∧ yX6_fights.cls ≠ "java/lang/invoke/VarHandle" ∧ (parseMethodDescriptor yX6_fights.desc).map (fun d => d.parameters.length) = some 1 := by decide +kernel
set_option maxHeartbeats 4000000 in
set_option maxRecDepth 100000 in
theorem c_X6_fights {l : Launch} {D : va_G} {ad : Nat → Nat} {cI cZ : ClassId} (μ : Mm) (p1 : Int) {v : Int × Mm} (hz : f_X6_fights μ p1 = some v) : CT l D vwCl (tyM cI cZ) 10 ad (EM ad cI cZ) (fun _ => True) yX6_fights wsX6_fights ({ frames := 5, cells := 0, slots := 0, locals := 125 } : Room) (some .int) [Vr 0, Vi p1] μ (v.1, v.2) := by
  refine CT_of [(0, Vr 0), (1, Vi p1)] stZ_t (by decide) rfl rfl (Nat.le_of_ble_eq_true rfl) rfl (fun G C => ?_)
  have i_X6 : ∀ w ∈ u_ws RX6 TX6 19, w ∈ wsX6_fights := by decide +kernel
  have f_133 : Cond.fieldLink (yX6_fights).cls 133 "SwanDeedsModel" "lost" "I" ∈ wsX6_fights := by decide +kernel
  have hz := sat_of hz
  unfold f_X6_fights at hz
  refine q_aload_n C 0 rfl dX6_fights_0 rfl ?_
  obtain ⟨z2, hz2, hz⟩ := sat_bind hz
  refine q_callVz stZ_t C [] [] (c_X6_isRiver μ hz2) tO_X6 rfl gX6_fights_X6_isRiver rfl ⟨rfl, rfl⟩ hdX6_isRiver ⟨by decide, by decide⟩ rfl (Nat.le_of_ble_eq_true rfl) dX6_fights_1 rfl (fun hb1 _ => ?_)
  refine q_if_ne C dX6_fights_4 (tgt := 10) (by decide) (fun c3 => ?_) (fun c3 => ?_)
  · have hz := sat_f hz c3
    refine q_iload_n C 1 rfl dX6_fights_10 rfl ?_
    refine q_iconst C dX6_fights_11 ⟨by decide, by decide⟩ ?_
    refine q_callSz stZ_t C [Vi p1, Vi 1] [] (c_X6_isSpan μ p1 1) gX6_fights_X6_isSpan rfl ⟨rfl, rfl⟩ hdX6_isSpan ⟨by decide, by decide⟩ rfl (Nat.le_of_ble_eq_true rfl) dX6_fights_12 rfl (fun hb4 _ => ?_)
    refine q_if_ne C dX6_fights_15 (tgt := 21) (by decide) (fun c5 => ?_) (fun c5 => ?_)
    · have hz := sat_f hz c5
      refine q_aload_n C 0 rfl dX6_fights_21 rfl ?_
      obtain ⟨z7, hz7, hz⟩ := sat_bind hz
      refine q_callVv stZ_t C [] [] (c_X6_tries μ hz7) tO_X6 rfl gX6_fights_X6_tries rfl ⟨rfl, rfl⟩ hdX6_tries ⟨by decide, by decide⟩ rfl (Nat.le_of_ble_eq_true rfl) dX6_fights_22 rfl (fun _ => ?_)
      refine q_iconst C dX6_fights_25 ⟨by decide, by decide⟩ ?_
      refine q_istore_n C [(2, Vi 0), (0, Vr 0), (1, Vi p1)] rfl (by decide) dX6_fights_26 rfl ?_
      refine q_iconst C dX6_fights_27 ⟨by decide, by decide⟩ ?_
      refine q_istore_n C [(3, Vi 0), (2, Vi 0), (0, Vr 0), (1, Vi p1)] rfl (by decide) dX6_fights_28 rfl ?_
      refine q_sub C [2, 3, 1, 0] [(0, Vr 0), (1, Vi p1), (2, Vi 0), (3, Vi 0)] rfl ?_
      refine loop_go (fun x8 => G x8.2.2 29 [(0, Vr 0), (1, Vi p1), (2, Vi (x8.1)), (3, Vi (x8.2.1))] []) (sat_bind2 hz) (fun h => h) (fun x8 hz => ?_)
      refine q_iload_n C 3 rfl dX6_fights_29 rfl ?_
      refine q_iload_n C 1 rfl dX6_fights_30 rfl ?_
      refine q_icmp_ge C dX6_fights_31 (tgt := 53) (by decide) (fun c9 => ?_) (fun c9 => ?_)
      · have hz := sat_t hz c9
        have hz := sat_some hz
        refine q_sub C [2] [(2, Vi (x8.1))] rfl ?_
        refine q_iload_n C 0 rfl dX6_fights_53 rfl ?_
        exact q_iret C dX6_fights_54 (sat_eq hz)
      · have hz := sat_f hz c9
        refine q_aload_n C 0 rfl dX6_fights_34 rfl ?_
        refine q_bipush C dX6_fights_35 ⟨rfl, by decide, by decide⟩ ?_
        obtain ⟨z11, hz11, hz⟩ := sat_bind hz
        refine q_callVv stZ_t C [Vi 114] [] (c_X6_passes x8.2.2 114 hz11) tO_X6 rfl gX6_fights_X6_passes rfl ⟨rfl, rfl⟩ hdX6_passes ⟨by decide, by decide⟩ rfl (Nat.le_of_ble_eq_true rfl) dX6_fights_37 rfl (fun _ => ?_)
        refine q_iload_n C 2 rfl dX6_fights_40 rfl ?_
        refine q_aload_n C 0 rfl dX6_fights_41 rfl ?_
        refine q_get tO_X6 C (i := 18) i_X6 rfl rfl (by decide) rfl f_133 dX6_fights_42 ?_
        refine q_iadd C dX6_fights_45 ?_
        refine q_istore_n C [(2, Vi (w3 (x8.1 + (z11 30 9)))), (0, Vr 0), (1, Vi p1), (3, Vi (x8.2.1))] rfl (by decide) dX6_fights_46 rfl ?_
        refine q_iinc C 3 rfl [(3, Vi (w3 (x8.2.1 + 1))), (2, Vi (w3 (x8.1 + (z11 30 9)))), (0, Vr 0), (1, Vi p1)] rfl (by decide) dX6_fights_47 ?_
        refine q_goto C dX6_fights_50 (tgt := 29) (by decide) ?_
        refine q_sub C [2, 3, 1, 0] [(0, Vr 0), (1, Vi p1), (2, Vi (w3 (x8.1 + (z11 30 9)))), (3, Vi (w3 (x8.2.1 + 1)))] rfl ?_
        have hz := sat_some hz
        exact hz
    · have hz := sat_t hz c5
      refine q_ldc (v := (-1000001)) (x := (-1000001)) C (by decide +kernel) dX6_fights_18 ⟨by decide +kernel, by decide, by decide⟩ ?_
      exact q_iret C dX6_fights_20 (sat_eq hz)
  · have hz := sat_t hz c3
    refine q_ldc (v := (-1000002)) (x := (-1000002)) C (by decide +kernel) dX6_fights_7 ⟨by decide +kernel, by decide, by decide⟩ ?_
    exact q_iret C dX6_fights_9 (sat_eq hz)
theorem hdX6_doubles : yX6_doubles.cls = RX6 ∧ yX6_doubles.cls ≠ "java/lang/invoke/MethodHandle" ∧ yX6_doubles.cls ≠ "java/lang/invoke/VarHandle" ∧ (parseMethodDescriptor yX6_doubles.desc).map (fun d => d.parameters.length) = some 1 := by decide +kernel
set_option maxHeartbeats 4000000 in
set_option maxRecDepth 100000 in
theorem c_X6_doubles {l : Launch} {D : va_G} {ad : Nat → Nat} {cI cZ : ClassId} (μ : Mm) (p1 : Int) {v : Int} (hz : f_X6_doubles μ p1 = some v) : CT l D vwCl (tyM cI cZ) 10 ad (EM ad cI cZ) (fun _ => True) yX6_doubles wsX6_doubles ({ frames := 1, cells := 0, slots := 0, locals := 25 } : Room) (some .int) [Vr 0, Vi p1] μ (v, μ) := by
  refine CT_of [(0, Vr 0), (1, Vi p1)] stZ_t (by decide) rfl rfl (Nat.le_of_ble_eq_true rfl) rfl (fun G C => ?_)
  have i_X6 : ∀ w ∈ u_ws RX6 TX6 19, w ∈ wsX6_doubles := by decide +kernel
  have f_7 : Cond.fieldLink (yX6_doubles).cls 7 "SwanDeedsModel" "w" "[I" ∈ wsX6_doubles := by decide +kernel
  have hz := sat_of hz
  unfold f_X6_doubles at hz
  refine q_aload_n C 0 rfl dX6_doubles_0 rfl ?_
  obtain ⟨z2, hz2, hz⟩ := sat_bind hz
  refine q_callVz stZ_t C [] [] (c_X6_isRiver μ hz2) tO_X6 rfl gX6_doubles_X6_isRiver rfl ⟨rfl, rfl⟩ hdX6_isRiver ⟨by decide, by decide⟩ rfl (Nat.le_of_ble_eq_true rfl) dX6_doubles_1 rfl (fun hb1 _ => ?_)
  refine q_if_ne C dX6_doubles_4 (tgt := 10) (by decide) (fun c3 => ?_) (fun c3 => ?_)
  · have hz := sat_f hz c3
    refine q_iload_n C 1 rfl dX6_doubles_10 rfl ?_
    refine q_i2l C dX6_doubles_11 ?_
    refine q_lconst (x := 0) C dX6_doubles_12 ⟨rfl, by decide, by decide⟩ ?_
    refine q_lconst (x := 1) C dX6_doubles_13 ⟨rfl, by decide, by decide⟩ ?_
    refine q_callSz stZ_t C [Vl p1, Vl 0, Vl 1] [] (c_X6_in μ p1 0 1) gX6_doubles_X6_in rfl ⟨rfl, rfl⟩ hdX6_in ⟨by decide, by decide⟩ rfl (Nat.le_of_ble_eq_true rfl) dX6_doubles_14 rfl (fun hb4 _ => ?_)
    refine q_if_ne C dX6_doubles_17 (tgt := 23) (by decide) (fun c5 => ?_) (fun c5 => ?_)
    · have hz := sat_f hz c5
      refine q_iconst C dX6_doubles_23 ⟨by decide, by decide⟩ ?_
      refine q_istore_n C [(2, Vi 0), (0, Vr 0), (1, Vi p1)] rfl (by decide) dX6_doubles_24 rfl ?_
      refine q_ldc (v := (-1000000)) (x := (-1000000)) C (by decide +kernel) dX6_doubles_25 ⟨by decide +kernel, by decide, by decide⟩ ?_
      refine q_istore_n C [(3, Vi (-1000000)), (2, Vi 0), (0, Vr 0), (1, Vi p1)] rfl (by decide) dX6_doubles_27 rfl ?_
      refine q_iconst C dX6_doubles_28 ⟨by decide, by decide⟩ ?_
      refine q_istore C [(4, Vi 0), (3, Vi (-1000000)), (2, Vi 0), (0, Vr 0), (1, Vi p1)] rfl (by decide) dX6_doubles_29 ?_
      refine q_sub C [3, 4, 2, 1, 0] [(0, Vr 0), (1, Vi p1), (2, Vi 0), (3, Vi (-1000000)), (4, Vi 0)] rfl ?_
      refine loop_go (fun x6 => G μ 31 [(0, Vr 0), (1, Vi p1), (2, Vi (x6.1)), (3, Vi (x6.2.1)), (4, Vi (x6.2.2))] []) (sat_bind2 hz) (fun h => h) (fun x6 hz => ?_)
      refine q_iload C 4 rfl dX6_doubles_31 ?_
      refine q_aload_n C 0 rfl dX6_doubles_33 rfl ?_
      refine q_getR tO_X6 C (i := 0) i_X6 rfl rfl (by decide) rfl f_7 dX6_doubles_34 ?_
      refine q_bipush C dX6_doubles_37 ⟨rfl, by decide, by decide⟩ ?_
      obtain ⟨c7, hz⟩ := sat_chk hz
      refine q_wald C c7 dX6_doubles_39 ?_
      refine q_icmp_ge C dX6_doubles_40 (tgt := 140) (by decide) (fun c8 => ?_) (fun c8 => ?_)
      · have hz := sat_t hz c8
        have hz := sat_some hz
        refine q_sub C [1, 2, 3] [(1, Vi p1), (2, Vi (x6.1)), (3, Vi (x6.2.1))] rfl ?_
        refine q_iload_n C 0 rfl dX6_doubles_140 rfl ?_
        refine q_if_ne C dX6_doubles_141 (tgt := 148) (by decide) (fun c9 => ?_) (fun c9 => ?_)
        · have hz := sat_f hz c9
          refine q_iload_n C 2 rfl dX6_doubles_148 rfl ?_
          exact q_iret C dX6_doubles_149 (congrArg (fun q => (q, μ)) (sat_eq hz))
        · have hz := sat_t hz c9
          refine q_iload_n C 1 rfl dX6_doubles_144 rfl ?_
          refine q_goto C dX6_doubles_145 (tgt := 149) (by decide) ?_
          exact q_iret C dX6_doubles_149 (congrArg (fun q => (q, μ)) (sat_eq hz))
      · have hz := sat_f hz c8
        refine q_iload C 4 rfl dX6_doubles_43 ?_
        refine q_iconst C dX6_doubles_45 ⟨by decide, by decide⟩ ?_
        refine q_iadd C dX6_doubles_46 ?_
        refine q_istore C [(5, Vi (w3 (x6.2.2 + 1))), (0, Vr 0), (1, Vi p1), (2, Vi (x6.1)), (3, Vi (x6.2.1)), (4, Vi (x6.2.2))] rfl (by decide) dX6_doubles_47 ?_
        refine q_sub C [1, 2, 3, 4, 5, 0] [(0, Vr 0), (1, Vi p1), (2, Vi (x6.1)), (3, Vi (x6.2.1)), (4, Vi (x6.2.2)), (5, Vi (w3 (x6.2.2 + 1)))] rfl ?_
        refine loop_go (fun x10 => G μ 49 [(0, Vr 0), (1, Vi p1), (2, Vi (x10.1)), (3, Vi (x10.2.1)), (4, Vi (x6.2.2)), (5, Vi (x10.2.2))] []) (sat_bind2 hz) (fun h => h) (fun x10 hz => ?_)
        refine q_iload C 5 rfl dX6_doubles_49 ?_
        refine q_aload_n C 0 rfl dX6_doubles_51 rfl ?_
        refine q_getR tO_X6 C (i := 0) i_X6 rfl rfl (by decide) rfl f_7 dX6_doubles_52 ?_
        refine q_bipush C dX6_doubles_55 ⟨rfl, by decide, by decide⟩ ?_
        obtain ⟨c11, hz⟩ := sat_chk hz
        refine q_wald C c11 dX6_doubles_57 ?_
        refine q_icmp_ge C dX6_doubles_58 (tgt := 134) (by decide) (fun c12 => ?_) (fun c12 => ?_)
        · have hz := sat_t hz c12
          have hz := sat_some hz
          refine q_sub C [0, 1, 2, 3, 4] [(0, Vr 0), (1, Vi p1), (2, Vi (x10.1)), (3, Vi (x10.2.1)), (4, Vi (x6.2.2))] rfl ?_
          refine q_iinc C 4 rfl [(4, Vi (w3 (x6.2.2 + 1))), (0, Vr 0), (1, Vi p1), (2, Vi (x10.1)), (3, Vi (x10.2.1))] rfl (by decide) dX6_doubles_134 ?_
          refine q_goto C dX6_doubles_137 (tgt := 31) (by decide) ?_
          refine q_sub C [1, 2, 3, 4, 0] [(0, Vr 0), (1, Vi p1), (2, Vi (x10.1)), (3, Vi (x10.2.1)), (4, Vi (w3 (x6.2.2 + 1)))] rfl ?_
          have hz := sat_some hz
          exact hz
        · have hz := sat_f hz c12
          refine q_aload_n C 0 rfl dX6_doubles_61 rfl ?_
          refine q_getR tO_X6 C (i := 0) i_X6 rfl rfl (by decide) rfl f_7 dX6_doubles_62 ?_
          refine q_bipush C dX6_doubles_65 ⟨rfl, by decide, by decide⟩ ?_
          refine q_iload C 4 rfl dX6_doubles_67 ?_
          refine q_iadd C dX6_doubles_69 ?_
          obtain ⟨c13, hz⟩ := sat_chk hz
          refine q_wald C c13 dX6_doubles_70 ?_
          refine q_aload_n C 0 rfl dX6_doubles_71 rfl ?_
          refine q_getR tO_X6 C (i := 0) i_X6 rfl rfl (by decide) rfl f_7 dX6_doubles_72 ?_
          refine q_bipush C dX6_doubles_75 ⟨rfl, by decide, by decide⟩ ?_
          refine q_iload C 5 rfl dX6_doubles_77 ?_
          refine q_iadd C dX6_doubles_79 ?_
          obtain ⟨c14, hz⟩ := sat_chk hz
          refine q_wald C c14 dX6_doubles_80 ?_
          obtain ⟨v15, hv15, hz⟩ := sat_bnd hz
          have Jv15 : G μ 89 [(0, Vr 0), (1, Vi p1), (2, Vi (x10.1)), (3, Vi (x10.2.1)), (4, Vi (x6.2.2)), (5, Vi (x10.2.2))] [Vi v15] := by
            refine q_istore C [(6, Vi v15), (0, Vr 0), (1, Vi p1), (2, Vi (x10.1)), (3, Vi (x10.2.1)), (4, Vi (x6.2.2)), (5, Vi (x10.2.2))] rfl (by decide) dX6_doubles_89 ?_
            refine q_iload C 0 rfl dX6_doubles_91 ?_
            obtain ⟨v16, hv16, hz⟩ := sat_bnd hz
            have Jv16 : G μ 114 [(0, Vr 0), (1, Vi p1), (2, Vi (x10.1)), (4, Vi (x6.2.2)), (5, Vi (x10.2.2)), (6, Vi v15)] [Vi v16] := by
              refine q_istore_n C [(3, Vi v16), (0, Vr 0), (1, Vi p1), (2, Vi (x10.1)), (4, Vi (x6.2.2)), (5, Vi (x10.2.2)), (6, Vi v15)] rfl (by decide) dX6_doubles_114 rfl ?_
              refine q_iload_n C 3 rfl dX6_doubles_115 rfl ?_
              refine q_iload C 6 rfl dX6_doubles_116 ?_
              refine q_if_eq C dX6_doubles_118 (tgt := 125) (by decide) (fun c17 => ?_) (fun c17 => ?_)
              · have hz := sat_t hz c17
                refine q_iconst C dX6_doubles_125 ⟨by decide, by decide⟩ ?_
                refine q_iadd C dX6_doubles_126 ?_
                refine q_istore_n C [(2, Vi (w3 (x10.1 + 0))), (3, Vi v16), (0, Vr 0), (1, Vi p1), (4, Vi (x6.2.2)), (5, Vi (x10.2.2)), (6, Vi v15)] rfl (by decide) dX6_doubles_127 rfl ?_
                refine q_iinc C 5 rfl [(5, Vi (w3 (x10.2.2 + 1))), (2, Vi (w3 (x10.1 + 0))), (3, Vi v16), (0, Vr 0), (1, Vi p1), (4, Vi (x6.2.2)), (6, Vi v15)] rfl (by decide) dX6_doubles_128 ?_
                refine q_goto C dX6_doubles_131 (tgt := 49) (by decide) ?_
                refine q_sub C [3, 4, 1, 2, 5, 0] [(0, Vr 0), (1, Vi p1), (2, Vi (w3 (x10.1 + 0))), (3, Vi v16), (4, Vi (x6.2.2)), (5, Vi (w3 (x10.2.2 + 1)))] rfl ?_
                have hz := sat_some hz
                exact hz
              · have hz := sat_f hz c17
                refine q_iconst C dX6_doubles_121 ⟨by decide, by decide⟩ ?_
                refine q_goto C dX6_doubles_122 (tgt := 126) (by decide) ?_
                refine q_iadd C dX6_doubles_126 ?_
                refine q_istore_n C [(2, Vi (w3 (x10.1 + 1))), (3, Vi v16), (0, Vr 0), (1, Vi p1), (4, Vi (x6.2.2)), (5, Vi (x10.2.2)), (6, Vi v15)] rfl (by decide) dX6_doubles_127 rfl ?_
                refine q_iinc C 5 rfl [(5, Vi (w3 (x10.2.2 + 1))), (2, Vi (w3 (x10.1 + 1))), (3, Vi v16), (0, Vr 0), (1, Vi p1), (4, Vi (x6.2.2)), (6, Vi v15)] rfl (by decide) dX6_doubles_128 ?_
                refine q_goto C dX6_doubles_131 (tgt := 49) (by decide) ?_
                refine q_sub C [3, 4, 1, 2, 5, 0] [(0, Vr 0), (1, Vi p1), (2, Vi (w3 (x10.1 + 1))), (3, Vi v16), (4, Vi (x6.2.2)), (5, Vi (w3 (x10.2.2 + 1)))] rfl ?_
                have hz := sat_some hz
                exact hz
            have hz := hv16.symm
            refine q_if_eq C dX6_doubles_93 (tgt := 113) (by decide) (fun c18 => ?_) (fun c18 => ?_)
            · have hz := eq_t hz c18
              refine q_iload_n C 4 rfl dX6_doubles_113 rfl ?_
              have hz : _ = v16 := hz
              refine q_sub C [1, 2, 3, 5, 6, 0] [(0, Vr 0), (1, Vi p1), (2, Vi (x10.1)), (4, Vi (x6.2.2)), (5, Vi (x10.2.2)), (6, Vi v15)] rfl ?_
              subst hz
              exact Jv16
            · have hz := eq_f hz c18
              refine q_iload_n C 4 rfl dX6_doubles_96 rfl ?_
              refine q_ldc (v := (-1000000)) (x := (-1000000)) C (by decide +kernel) dX6_doubles_97 ⟨by decide +kernel, by decide, by decide⟩ ?_
              refine q_icmp_ne C dX6_doubles_99 (tgt := 113) (by decide) (fun c19 => ?_) (fun c19 => ?_)
              · have hz := eq_f hz c19
                refine q_iload_n C 4 rfl dX6_doubles_113 rfl ?_
                have hz : _ = v16 := hz
                refine q_sub C [1, 2, 3, 5, 6, 0] [(0, Vr 0), (1, Vi p1), (2, Vi (x10.1)), (4, Vi (x6.2.2)), (5, Vi (x10.2.2)), (6, Vi v15)] rfl ?_
                subst hz
                exact Jv16
              · have hz := eq_t hz c19
                refine q_bipush C dX6_doubles_102 ⟨rfl, by decide, by decide⟩ ?_
                refine q_iload C 5 rfl dX6_doubles_104 ?_
                refine q_imul C dX6_doubles_106 ?_
                refine q_iload C 6 rfl dX6_doubles_107 ?_
                refine q_iadd C dX6_doubles_109 ?_
                refine q_goto C dX6_doubles_110 (tgt := 114) (by decide) ?_
                have hz : _ = v16 := hz
                refine q_sub C [1, 2, 3, 5, 6, 0] [(0, Vr 0), (1, Vi p1), (2, Vi (x10.1)), (4, Vi (x6.2.2)), (5, Vi (x10.2.2)), (6, Vi v15)] rfl ?_
                subst hz
                exact Jv16
          have hz := hv15.symm
          refine q_icmp_ne C dX6_doubles_81 (tgt := 88) (by decide) (fun c20 => ?_) (fun c20 => ?_)
          · have hz := eq_f hz c20
            refine q_iconst C dX6_doubles_88 ⟨by decide, by decide⟩ ?_
            have hz : _ = v15 := hz
            subst hz
            exact Jv15
          · have hz := eq_t hz c20
            refine q_iconst C dX6_doubles_84 ⟨by decide, by decide⟩ ?_
            refine q_goto C dX6_doubles_85 (tgt := 89) (by decide) ?_
            have hz : _ = v15 := hz
            subst hz
            exact Jv15
    · have hz := sat_t hz c5
      refine q_ldc (v := (-1000001)) (x := (-1000001)) C (by decide +kernel) dX6_doubles_20 ⟨by decide +kernel, by decide, by decide⟩ ?_
      exact q_iret C dX6_doubles_22 (congrArg (fun q => (q, μ)) (sat_eq hz))
  · have hz := sat_t hz c3
    refine q_ldc (v := (-1000002)) (x := (-1000002)) C (by decide +kernel) dX6_doubles_7 ⟨by decide +kernel, by decide, by decide⟩ ?_
    exact q_iret C dX6_doubles_9 (congrArg (fun q => (q, μ)) (sat_eq hz))
theorem hdX6_isSo : yX6_isSo.cls = RX6 ∧ yX6_isSo.cls ≠ "java/lang/invoke/MethodHandle" ∧ yX6_isSo.cls ≠ "java/lang/invoke/VarHandle" ∧ (parseMethodDescriptor yX6_isSo.desc).map (fun d => d.parameters.length) = some 3 := by decide +kernel
set_option maxHeartbeats 4000000 in
set_option maxRecDepth 100000 in
theorem c_X6_isSo {l : Launch} {D : va_G} {ad : Nat → Nat} {cI cZ : ClassId} (μ : Mm) (p1 p2 p3 : Int) {v : Int × Mm} (hz : f_X6_isSo μ p1 p2 p3 = some v) : CT l D vwCl (tyM cI cZ) 10 ad (EM ad cI cZ) (fun _ => True) yX6_isSo wsX6_isSo ({ frames := 5, cells := 0, slots := 0, locals := 125 } : Room) (some .boolean) [Vr 0, Vi p1, Vi p2, Vi p3] μ (v.1, v.2) := by
  refine CT_of [(0, Vr 0), (1, Vi p1), (2, Vi p2), (3, Vi p3)] stZ_t (by decide) rfl rfl (Nat.le_of_ble_eq_true rfl) rfl (fun G C => ?_)
  have i_X6 : ∀ w ∈ u_ws RX6 TX6 19, w ∈ wsX6_isSo := by decide +kernel
  have f_7 : Cond.fieldLink (yX6_isSo).cls 7 "SwanDeedsModel" "w" "[I" ∈ wsX6_isSo := by decide +kernel
  have f_20 : Cond.fieldLink (yX6_isSo).cls 20 "SwanDeedsModel" "rows" "[I" ∈ wsX6_isSo := by decide +kernel
  have hz := sat_of hz
  unfold f_X6_isSo at hz
  refine q_iconst C dX6_isSo_0 ⟨by decide, by decide⟩ ?_
  refine q_istore C [(4, Vi 1), (0, Vr 0), (1, Vi p1), (2, Vi p2), (3, Vi p3)] rfl (by decide) dX6_isSo_1 ?_
  refine q_iconst C dX6_isSo_3 ⟨by decide, by decide⟩ ?_
  refine q_istore C [(5, Vi 0), (4, Vi 1), (0, Vr 0), (1, Vi p1), (2, Vi p2), (3, Vi p3)] rfl (by decide) dX6_isSo_4 ?_
  refine q_sub C [2, 3, 4, 5, 1, 0] [(0, Vr 0), (1, Vi p1), (2, Vi p2), (3, Vi p3), (4, Vi 1), (5, Vi 0)] rfl ?_
  refine loop_go (fun x1 => G x1.2.2 6 [(0, Vr 0), (1, Vi p1), (2, Vi p2), (3, Vi p3), (4, Vi (x1.1)), (5, Vi (x1.2.1))] []) (sat_bind2 hz) (fun h => h) (fun x1 hz => ?_)
  refine q_iload C 5 rfl dX6_isSo_6 ?_
  refine q_iload_n C 3 rfl dX6_isSo_8 rfl ?_
  refine q_icmp_ge C dX6_isSo_9 (tgt := 57) (by decide) (fun c2 => ?_) (fun c2 => ?_)
  · have hz := sat_t hz c2
    have hz := sat_some hz
    refine q_sub C [4] [(4, Vi (x1.1))] rfl ?_
    refine q_iload C 0 rfl dX6_isSo_57 ?_
    obtain ⟨hb, hz⟩ := sat_chk hz
    exact q_zret C (hb) dX6_isSo_59 (sat_eq hz)
  · have hz := sat_f hz c2
    refine q_aload_n C 0 rfl dX6_isSo_12 rfl ?_
    refine q_bipush C dX6_isSo_13 ⟨rfl, by decide, by decide⟩ ?_
    obtain ⟨z4, hz4, hz⟩ := sat_bind hz
    refine q_callVv stZ_t C [Vi 114] [] (c_X6_passes x1.2.2 114 hz4) tO_X6 rfl gX6_isSo_X6_passes rfl ⟨rfl, rfl⟩ hdX6_passes ⟨by decide, by decide⟩ rfl (Nat.le_of_ble_eq_true rfl) dX6_isSo_15 rfl (fun _ => ?_)
    refine q_iload C 4 rfl dX6_isSo_18 ?_
    refine q_if_eq C dX6_isSo_20 (tgt := 48) (by decide) (fun c5 => ?_) (fun c5 => ?_)
    · have hz := sat_t hz c5
      refine q_iconst C dX6_isSo_48 ⟨by decide, by decide⟩ ?_
      refine q_istore C [(4, Vi 0), (0, Vr 0), (1, Vi p1), (2, Vi p2), (3, Vi p3), (5, Vi (x1.2.1))] rfl (by decide) dX6_isSo_49 ?_
      refine q_iinc C 5 rfl [(5, Vi (w3 (x1.2.1 + 1))), (4, Vi 0), (0, Vr 0), (1, Vi p1), (2, Vi p2), (3, Vi p3)] rfl (by decide) dX6_isSo_51 ?_
      refine q_goto C dX6_isSo_54 (tgt := 6) (by decide) ?_
      refine q_sub C [2, 3, 4, 5, 1, 0] [(0, Vr 0), (1, Vi p1), (2, Vi p2), (3, Vi p3), (4, Vi 0), (5, Vi (w3 (x1.2.1 + 1)))] rfl ?_
      have hz := sat_some hz
      exact hz
    · have hz := sat_f hz c5
      refine q_aload_n C 0 rfl dX6_isSo_23 rfl ?_
      refine q_getR tO_X6 C (i := 0) i_X6 rfl rfl (by decide) rfl f_7 dX6_isSo_24 ?_
      refine q_bipush C dX6_isSo_27 ⟨rfl, by decide, by decide⟩ ?_
      refine q_iload_n C 1 rfl dX6_isSo_29 rfl ?_
      refine q_iadd C dX6_isSo_30 ?_
      obtain ⟨c6, hz⟩ := sat_chk hz
      refine q_wald C c6 dX6_isSo_31 ?_
      refine q_aload_n C 0 rfl dX6_isSo_32 rfl ?_
      refine q_getR tO_X6 C (i := 4) i_X6 rfl rfl (by decide) rfl f_20 dX6_isSo_33 ?_
      refine q_iload_n C 2 rfl dX6_isSo_36 rfl ?_
      refine q_iload C 5 rfl dX6_isSo_37 ?_
      refine q_iadd C dX6_isSo_39 ?_
      obtain ⟨c7, hz⟩ := sat_chk hz
      refine q_iald (tM_rows) C 0 rfl c7 dX6_isSo_40 ?_
      refine q_icmp_ne C dX6_isSo_41 (tgt := 48) (by decide) (fun c8 => ?_) (fun c8 => ?_)
      · have hz := sat_f hz c8
        refine q_iconst C dX6_isSo_48 ⟨by decide, by decide⟩ ?_
        refine q_istore C [(4, Vi 0), (0, Vr 0), (1, Vi p1), (2, Vi p2), (3, Vi p3), (5, Vi (x1.2.1))] rfl (by decide) dX6_isSo_49 ?_
        refine q_iinc C 5 rfl [(5, Vi (w3 (x1.2.1 + 1))), (4, Vi 0), (0, Vr 0), (1, Vi p1), (2, Vi p2), (3, Vi p3)] rfl (by decide) dX6_isSo_51 ?_
        refine q_goto C dX6_isSo_54 (tgt := 6) (by decide) ?_
        refine q_sub C [2, 3, 4, 5, 1, 0] [(0, Vr 0), (1, Vi p1), (2, Vi p2), (3, Vi p3), (4, Vi 0), (5, Vi (w3 (x1.2.1 + 1)))] rfl ?_
        have hz := sat_some hz
        exact hz
      · have hz := sat_t hz c8
        refine q_iconst C dX6_isSo_44 ⟨by decide, by decide⟩ ?_
        refine q_goto C dX6_isSo_45 (tgt := 49) (by decide) ?_
        refine q_istore C [(4, Vi 1), (0, Vr 0), (1, Vi p1), (2, Vi p2), (3, Vi p3), (5, Vi (x1.2.1))] rfl (by decide) dX6_isSo_49 ?_
        refine q_iinc C 5 rfl [(5, Vi (w3 (x1.2.1 + 1))), (4, Vi 1), (0, Vr 0), (1, Vi p1), (2, Vi p2), (3, Vi p3)] rfl (by decide) dX6_isSo_51 ?_
        refine q_goto C dX6_isSo_54 (tgt := 6) (by decide) ?_
        refine q_sub C [2, 3, 4, 5, 1, 0] [(0, Vr 0), (1, Vi p1), (2, Vi p2), (3, Vi p3), (4, Vi 1), (5, Vi (w3 (x1.2.1 + 1)))] rfl ?_
        have hz := sat_some hz
        exact hz
theorem hdX6_who : yX6_who.cls = RX6 ∧ yX6_who.cls ≠ "java/lang/invoke/MethodHandle" ∧ yX6_who.cls ≠ "java/lang/invoke/VarHandle" ∧ (parseMethodDescriptor yX6_who.desc).map (fun d => d.parameters.length) = some 6 := by decide +kernel
set_option maxHeartbeats 4000000 in
set_option maxRecDepth 100000 in
theorem c_X6_who {l : Launch} {D : va_G} {ad : Nat → Nat} {cI cZ : ClassId} (μ : Mm) (p1 p2 p3 p4 p5 p6 : Int) {v : Int × Mm} (hz : f_X6_who μ p1 p2 p3 p4 p5 p6 = some v) : CT l D vwCl (tyM cI cZ) 10 ad (EM ad cI cZ) (fun _ => True) yX6_who wsX6_who ({ frames := 6, cells := 0, slots := 0, locals := 150 } : Room) (some .int) [Vr 0, Vi p1, Vi p2, Vi p3, Vi p4, Vi p5, Vi p6] μ (v.1, v.2) := by
  refine CT_of [(0, Vr 0), (1, Vi p1), (2, Vi p2), (3, Vi p3), (4, Vi p4), (5, Vi p5), (6, Vi p6)] stZ_t (by decide) rfl rfl (Nat.le_of_ble_eq_true rfl) rfl (fun G C => ?_)
  have i_X6 : ∀ w ∈ u_ws RX6 TX6 19, w ∈ wsX6_who := by decide +kernel
  have f_7 : Cond.fieldLink (yX6_who).cls 7 "SwanDeedsModel" "w" "[I" ∈ wsX6_who := by decide +kernel
  have hz := sat_of hz
  unfold f_X6_who at hz
  refine q_aload_n C 0 rfl dX6_who_0 rfl ?_
  refine q_iload_n C 1 rfl dX6_who_1 rfl ?_
  obtain ⟨z2, hz2, hz⟩ := sat_bind hz
  refine q_callVz stZ_t C [Vi p1] [] (c_X6_isSwan μ p1 hz2) tO_X6 rfl gX6_who_X6_isSwan rfl ⟨rfl, rfl⟩ hdX6_isSwan ⟨by decide, by decide⟩ rfl (Nat.le_of_ble_eq_true rfl) dX6_who_2 rfl (fun hb1 _ => ?_)
  refine q_if_eq C dX6_who_5 (tgt := 49) (by decide) (fun c3 => ?_) (fun c3 => ?_)
  · have hz := sat_t hz c3
    refine q_ldc (v := (-1000001)) (x := (-1000001)) C (by decide +kernel) dX6_who_49 ⟨by decide +kernel, by decide, by decide⟩ ?_
    exact q_iret C dX6_who_51 (sat_eq hz)
  · have hz := sat_f hz c3
    refine q_iload_n C 2 rfl dX6_who_8 rfl ?_
    refine q_i2l C dX6_who_9 ?_
    refine q_lconst (x := 0) C dX6_who_10 ⟨rfl, by decide, by decide⟩ ?_
    refine q_ldc2 (v := 2) (x := 2) C (by decide +kernel) dX6_who_11 ⟨by decide +kernel, by decide, by decide⟩ ?_
    refine q_callSz stZ_t C [Vl p2, Vl 0, Vl 2] [] (c_X6_in μ p2 0 2) gX6_who_X6_in rfl ⟨rfl, rfl⟩ hdX6_in ⟨by decide, by decide⟩ rfl (Nat.le_of_ble_eq_true rfl) dX6_who_14 rfl (fun hb4 _ => ?_)
    refine q_if_eq C dX6_who_17 (tgt := 49) (by decide) (fun c5 => ?_) (fun c5 => ?_)
    · have hz := sat_t hz c5
      refine q_ldc (v := (-1000001)) (x := (-1000001)) C (by decide +kernel) dX6_who_49 ⟨by decide +kernel, by decide, by decide⟩ ?_
      exact q_iret C dX6_who_51 (sat_eq hz)
    · have hz := sat_f hz c5
      refine q_aload_n C 0 rfl dX6_who_20 rfl ?_
      refine q_iload_n C 3 rfl dX6_who_21 rfl ?_
      obtain ⟨z7, hz7, hz⟩ := sat_bind hz
      refine q_callVz stZ_t C [Vi p3] [] (c_X6_isSwan μ p3 hz7) tO_X6 rfl gX6_who_X6_isSwan rfl ⟨rfl, rfl⟩ hdX6_isSwan ⟨by decide, by decide⟩ rfl (Nat.le_of_ble_eq_true rfl) dX6_who_22 rfl (fun hb6 _ => ?_)
      refine q_if_eq C dX6_who_25 (tgt := 49) (by decide) (fun c8 => ?_) (fun c8 => ?_)
      · have hz := sat_t hz c8
        refine q_ldc (v := (-1000001)) (x := (-1000001)) C (by decide +kernel) dX6_who_49 ⟨by decide +kernel, by decide, by decide⟩ ?_
        exact q_iret C dX6_who_51 (sat_eq hz)
      · have hz := sat_f hz c8
        refine q_iload C 4 rfl dX6_who_28 ?_
        refine q_callSz stZ_t C [Vi p4] [] (c_X6_isRow μ p4) gX6_who_X6_isRow rfl ⟨rfl, rfl⟩ hdX6_isRow ⟨by decide, by decide⟩ rfl (Nat.le_of_ble_eq_true rfl) dX6_who_30 rfl (fun hb9 _ => ?_)
        refine q_if_eq C dX6_who_33 (tgt := 49) (by decide) (fun c10 => ?_) (fun c10 => ?_)
        · have hz := sat_t hz c10
          refine q_ldc (v := (-1000001)) (x := (-1000001)) C (by decide +kernel) dX6_who_49 ⟨by decide +kernel, by decide, by decide⟩ ?_
          exact q_iret C dX6_who_51 (sat_eq hz)
        · have hz := sat_f hz c10
          refine q_iload C 6 rfl dX6_who_36 ?_
          refine q_i2l C dX6_who_38 ?_
          refine q_lconst (x := 1) C dX6_who_39 ⟨rfl, by decide, by decide⟩ ?_
          refine q_ldc2 (v := 12) (x := 12) C (by decide +kernel) dX6_who_40 ⟨by decide +kernel, by decide, by decide⟩ ?_
          refine q_callSz stZ_t C [Vl p6, Vl 1, Vl 12] [] (c_X6_in μ p6 1 12) gX6_who_X6_in rfl ⟨rfl, rfl⟩ hdX6_in ⟨by decide, by decide⟩ rfl (Nat.le_of_ble_eq_true rfl) dX6_who_43 rfl (fun hb11 _ => ?_)
          refine q_if_ne C dX6_who_46 (tgt := 52) (by decide) (fun c12 => ?_) (fun c12 => ?_)
          · have hz := sat_f hz c12
            refine q_aload_n C 0 rfl dX6_who_52 rfl ?_
            refine q_iload C 4 rfl dX6_who_53 ?_
            refine q_iload C 5 rfl dX6_who_55 ?_
            refine q_iload C 6 rfl dX6_who_57 ?_
            obtain ⟨z14, hz14, hz⟩ := sat_bind hz
            refine q_callVi stZ_t C [Vi p4, Vi p5, Vi p6] [] (c_X6_against μ p4 p5 p6 hz14) tO_X6 rfl gX6_who_X6_against rfl ⟨rfl, rfl⟩ hdX6_against ⟨by decide, by decide⟩ rfl (Nat.le_of_ble_eq_true rfl) dX6_who_59 rfl (fun _ _ => ?_)
            refine q_istore C [(7, Vi (z14.1)), (0, Vr 0), (1, Vi p1), (2, Vi p2), (3, Vi p3), (4, Vi p4), (5, Vi p5), (6, Vi p6)] rfl (by decide) dX6_who_62 ?_
            refine q_iload C 0 rfl dX6_who_64 ?_
            refine q_if_ge C dX6_who_66 (tgt := 72) (by decide) (fun c15 => ?_) (fun c15 => ?_)
            · have hz := sat_t hz c15
              refine q_iload_n C 3 rfl dX6_who_72 rfl ?_
              obtain ⟨v16, hv16, hz⟩ := sat_bnd hz
              have Jv16 : G z14.2 93 [(0, Vr 0), (1, Vi p1), (2, Vi p2), (3, Vi p3), (4, Vi p4), (5, Vi p5), (6, Vi p6)] [Vi v16] := by
                refine q_istore C [(8, Vi v16), (0, Vr 0), (1, Vi p1), (2, Vi p2), (3, Vi p3), (4, Vi p4), (5, Vi p5), (6, Vi p6)] rfl (by decide) dX6_who_93 ?_
                refine q_iload_n C 3 rfl dX6_who_95 rfl ?_
                obtain ⟨v17, hv17, hz⟩ := sat_bind hz
                have Jv17 : G z14.2 122 [(0, Vr 0), (1, Vi p1), (2, Vi p2), (3, Vi p3), (4, Vi p4), (5, Vi p5), (6, Vi p6), (8, Vi v16)] [Vi v17] := by
                  refine q_istore C [(9, Vi v17), (0, Vr 0), (1, Vi p1), (2, Vi p2), (3, Vi p3), (4, Vi p4), (5, Vi p5), (6, Vi p6), (8, Vi v16)] rfl (by decide) dX6_who_122 ?_
                  refine q_iconst C dX6_who_124 ⟨by decide, by decide⟩ ?_
                  refine q_istore C [(10, Vi 0), (9, Vi v17), (0, Vr 0), (1, Vi p1), (2, Vi p2), (3, Vi p3), (4, Vi p4), (5, Vi p5), (6, Vi p6), (8, Vi v16)] rfl (by decide) dX6_who_125 ?_
                  refine q_iload_n C 4 rfl dX6_who_127 rfl ?_
                  refine q_iconst C dX6_who_128 ⟨by decide, by decide⟩ ?_
                  obtain ⟨v18, hv18, hz⟩ := sat_bnd hz
                  have Jv18 : G z14.2 137 [(0, Vr 0), (1, Vi p1), (3, Vi p3), (4, Vi p4), (5, Vi p5), (6, Vi p6), (8, Vi v16), (9, Vi v17), (10, Vi 0)] [Vi v18] := by
                    refine q_istore C [(11, Vi v18), (0, Vr 0), (1, Vi p1), (3, Vi p3), (4, Vi p4), (5, Vi p5), (6, Vi p6), (8, Vi v16), (9, Vi v17), (10, Vi 0)] rfl (by decide) dX6_who_137 ?_
                    refine q_sub C [1, 2, 3, 4, 5, 6, 7, 8, 9, 0] [(0, Vr 0), (1, Vi p1), (3, Vi p3), (4, Vi p4), (5, Vi p5), (6, Vi p6), (8, Vi v16), (9, Vi v17), (10, Vi 0), (11, Vi v18)] rfl ?_
                    refine loop_go (fun x19 => G x19.2.2 139 [(0, Vr 0), (1, Vi p1), (3, Vi p3), (4, Vi p4), (5, Vi p5), (6, Vi p6), (8, Vi v16), (9, Vi v17), (10, Vi (x19.1)), (11, Vi (x19.2.1))] []) (sat_bind2 hz) (fun h => h) (fun x19 hz => ?_)
                    refine q_iload C 9 rfl dX6_who_139 ?_
                    refine q_iload C 7 rfl dX6_who_141 ?_
                    refine q_icmp_gt C dX6_who_143 (tgt := 201) (by decide) (fun c20 => ?_) (fun c20 => ?_)
                    · have hz := sat_t hz c20
                      have hz := sat_some hz
                      refine q_sub C [0, 8] [(0, Vr 0), (10, Vi (x19.1))] rfl ?_
                      refine q_aload_n C 0 rfl dX6_who_201 rfl ?_
                      refine q_iload C 1 rfl dX6_who_202 ?_
                      obtain ⟨z22, hz22, hz⟩ := sat_bind hz
                      refine q_callVi stZ_t C [Vi (x19.1)] [] (c_X6_good x19.2.2 x19.1 hz22) tO_X6 rfl gX6_who_X6_good rfl ⟨rfl, rfl⟩ hdX6_good ⟨by decide, by decide⟩ rfl (Nat.le_of_ble_eq_true rfl) dX6_who_204 rfl (fun _ _ => ?_)
                      exact q_iret C dX6_who_207 (sat_eq hz)
                    · have hz := sat_f hz c20
                      refine q_aload_n C 0 rfl dX6_who_146 rfl ?_
                      obtain ⟨z24, hz24, hz⟩ := sat_bind hz
                      refine q_callVv stZ_t C [] [] (c_X6_tries x19.2.2 hz24) tO_X6 rfl gX6_who_X6_tries rfl ⟨rfl, rfl⟩ hdX6_tries ⟨by decide, by decide⟩ rfl (Nat.le_of_ble_eq_true rfl) dX6_who_147 rfl (fun _ => ?_)
                      refine q_aload_n C 0 rfl dX6_who_150 rfl ?_
                      refine q_getR tO_X6 C (i := 0) i_X6 rfl rfl (by decide) rfl f_7 dX6_who_151 ?_
                      refine q_bipush C dX6_who_154 ⟨rfl, by decide, by decide⟩ ?_
                      refine q_iload C 6 rfl dX6_who_156 ?_
                      refine q_iadd C dX6_who_158 ?_
                      refine q_iload_n C 1 rfl dX6_who_159 rfl ?_
                      refine q_iadd C dX6_who_160 ?_
                      refine q_iload C 9 rfl dX6_who_161 ?_
                      obtain ⟨c25, hz⟩ := sat_chk hz
                      obtain ⟨m26, hm26, hz⟩ := sat_bnd hz
                      refine q_wast C c25 hm26 dX6_who_163 ?_
                      refine q_iload C 8 rfl dX6_who_164 ?_
                      refine q_aload_n C 0 rfl dX6_who_166 rfl ?_
                      refine q_iload_n C 2 rfl dX6_who_167 rfl ?_
                      refine q_bipush C dX6_who_168 ⟨rfl, by decide, by decide⟩ ?_
                      refine q_iload C 3 rfl dX6_who_170 ?_
                      refine q_imul C dX6_who_172 ?_
                      refine q_iload C 4 rfl dX6_who_173 ?_
                      refine q_iadd C dX6_who_175 ?_
                      refine q_iload C 5 rfl dX6_who_176 ?_
                      obtain ⟨z28, hz28, hz⟩ := sat_bind hz
                      refine q_callVz stZ_t C [Vi p3, Vi (w3 ((w3 (40 * p4)) + p5)), Vi p6] [Vi (x19.1)] (c_X6_isSo m26 p3 (w3 ((w3 (40 * p4)) + p5)) p6 hz28) tO_X6 rfl gX6_who_X6_isSo rfl ⟨rfl, rfl⟩ hdX6_isSo ⟨by decide, by decide⟩ rfl (Nat.le_of_ble_eq_true rfl) dX6_who_178 rfl (fun hb27 _ => ?_)
                      refine q_if_eq C dX6_who_181 (tgt := 191) (by decide) (fun c29 => ?_) (fun c29 => ?_)
                      · have hz := sat_t hz c29
                        refine q_iconst C dX6_who_191 ⟨by decide, by decide⟩ ?_
                        refine q_ior C dX6_who_192 ?_
                        refine q_istore C [(10, Vi (bOr x19.1 0)), (0, Vr 0), (1, Vi p1), (3, Vi p3), (4, Vi p4), (5, Vi p5), (6, Vi p6), (8, Vi v16), (9, Vi v17), (11, Vi (x19.2.1))] rfl (by decide) dX6_who_193 ?_
                        refine q_iinc C 9 rfl [(11, Vi (w3 (x19.2.1 + 1))), (10, Vi (bOr x19.1 0)), (0, Vr 0), (1, Vi p1), (3, Vi p3), (4, Vi p4), (5, Vi p5), (6, Vi p6), (8, Vi v16), (9, Vi v17)] rfl (by decide) dX6_who_195 ?_
                        refine q_goto C dX6_who_198 (tgt := 139) (by decide) ?_
                        refine q_sub C [2, 3, 4, 5, 6, 7, 8, 9, 1, 0] [(0, Vr 0), (1, Vi p1), (3, Vi p3), (4, Vi p4), (5, Vi p5), (6, Vi p6), (8, Vi v16), (9, Vi v17), (10, Vi (bOr x19.1 0)), (11, Vi (w3 (x19.2.1 + 1)))] rfl ?_
                        have hz := sat_some hz
                        exact hz
                      · have hz := sat_f hz c29
                        refine q_iconst C dX6_who_184 ⟨by decide, by decide⟩ ?_
                        refine q_iload C 9 rfl dX6_who_185 ?_
                        refine q_ishl C dX6_who_187 ?_
                        refine q_goto C dX6_who_188 (tgt := 192) (by decide) ?_
                        refine q_ior C dX6_who_192 ?_
                        obtain ⟨a30, ha30, hz⟩ := sat_bnd hz
                        refine q_nmi ha30 ?_
                        refine q_istore C [(10, Vi a30), (0, Vr 0), (1, Vi p1), (3, Vi p3), (4, Vi p4), (5, Vi p5), (6, Vi p6), (8, Vi v16), (9, Vi v17), (11, Vi (x19.2.1))] rfl (by decide) dX6_who_193 ?_
                        refine q_iinc C 9 rfl [(11, Vi (w3 (x19.2.1 + 1))), (10, Vi a30), (0, Vr 0), (1, Vi p1), (3, Vi p3), (4, Vi p4), (5, Vi p5), (6, Vi p6), (8, Vi v16), (9, Vi v17)] rfl (by decide) dX6_who_195 ?_
                        refine q_goto C dX6_who_198 (tgt := 139) (by decide) ?_
                        refine q_sub C [2, 3, 4, 5, 6, 7, 8, 9, 1, 0] [(0, Vr 0), (1, Vi p1), (3, Vi p3), (4, Vi p4), (5, Vi p5), (6, Vi p6), (8, Vi v16), (9, Vi v17), (10, Vi a30), (11, Vi (w3 (x19.2.1 + 1)))] rfl ?_
                        have hz := sat_some hz
                        exact hz
                  have hz := hv18.symm
                  refine q_icmp_ne C dX6_who_129 (tgt := 136) (by decide) (fun c34 => ?_) (fun c34 => ?_)
                  · have hz := eq_f hz c34
                    refine q_iconst C dX6_who_136 ⟨by decide, by decide⟩ ?_
                    have hz : _ = v18 := hz
                    refine q_sub C [2, 3, 5, 6, 7, 8, 9, 1, 0] [(0, Vr 0), (1, Vi p1), (3, Vi p3), (4, Vi p4), (5, Vi p5), (6, Vi p6), (8, Vi v16), (9, Vi v17), (10, Vi 0)] rfl ?_
                    subst hz
                    exact Jv18
                  · have hz := eq_t hz c34
                    refine q_iconst C dX6_who_132 ⟨by decide, by decide⟩ ?_
                    refine q_goto C dX6_who_133 (tgt := 137) (by decide) ?_
                    have hz : _ = v18 := hz
                    refine q_sub C [2, 3, 5, 6, 7, 8, 9, 1, 0] [(0, Vr 0), (1, Vi p1), (3, Vi p3), (4, Vi p4), (5, Vi p5), (6, Vi p6), (8, Vi v16), (9, Vi v17), (10, Vi 0)] rfl ?_
                    subst hz
                    exact Jv18
                have hz := sat_of hv17
                refine q_if_ne C dX6_who_96 (tgt := 103) (by decide) (fun c35 => ?_) (fun c35 => ?_)
                · have hz := sat_f hz c35
                  refine q_iload_n C 3 rfl dX6_who_103 rfl ?_
                  refine q_iconst C dX6_who_104 ⟨by decide, by decide⟩ ?_
                  refine q_icmp_ne C dX6_who_105 (tgt := 120) (by decide) (fun c36 => ?_) (fun c36 => ?_)
                  · have hz := sat_f hz c36
                    refine q_bipush C dX6_who_120 ⟨rfl, by decide, by decide⟩ ?_
                    have hz := sat_some hz
                    have hz : _ = v17 := hz
                    refine q_sub C [1, 2, 3, 4, 5, 6, 7, 0] [(0, Vr 0), (1, Vi p1), (2, Vi p2), (3, Vi p3), (4, Vi p4), (5, Vi p5), (6, Vi p6), (8, Vi v16)] rfl ?_
                    subst hz
                    exact Jv17
                  · have hz := sat_t hz c36
                    refine q_aload_n C 1 rfl dX6_who_108 rfl ?_
                    refine q_getR tO_X6 C (i := 0) i_X6 rfl rfl (by decide) rfl f_7 dX6_who_109 ?_
                    refine q_bipush C dX6_who_112 ⟨rfl, by decide, by decide⟩ ?_
                    obtain ⟨c37, hz⟩ := sat_chk hz
                    refine q_wald C c37 dX6_who_114 ?_
                    refine q_iconst C dX6_who_115 ⟨by decide, by decide⟩ ?_
                    refine q_isub C dX6_who_116 ?_
                    refine q_goto C dX6_who_117 (tgt := 122) (by decide) ?_
                    have hz := sat_some hz
                    have hz : _ = v17 := hz
                    refine q_sub C [1, 2, 3, 4, 5, 6, 7, 0] [(0, Vr 0), (1, Vi p1), (2, Vi p2), (3, Vi p3), (4, Vi p4), (5, Vi p5), (6, Vi p6), (8, Vi v16)] rfl ?_
                    subst hz
                    exact Jv17
                · have hz := sat_t hz c35
                  refine q_iconst C dX6_who_99 ⟨by decide, by decide⟩ ?_
                  refine q_goto C dX6_who_100 (tgt := 122) (by decide) ?_
                  have hz := sat_some hz
                  have hz : _ = v17 := hz
                  refine q_sub C [1, 2, 3, 4, 5, 6, 7, 0] [(0, Vr 0), (1, Vi p1), (2, Vi p2), (3, Vi p3), (4, Vi p4), (5, Vi p5), (6, Vi p6), (8, Vi v16)] rfl ?_
                  subst hz
                  exact Jv17
              have hz := hv16.symm
              refine q_if_ne C dX6_who_73 (tgt := 81) (by decide) (fun c38 => ?_) (fun c38 => ?_)
              · have hz := eq_f hz c38
                refine q_iload_n C 3 rfl dX6_who_81 rfl ?_
                refine q_iconst C dX6_who_82 ⟨by decide, by decide⟩ ?_
                refine q_icmp_ne C dX6_who_83 (tgt := 91) (by decide) (fun c39 => ?_) (fun c39 => ?_)
                · have hz := eq_f hz c39
                  refine q_bipush C dX6_who_91 ⟨rfl, by decide, by decide⟩ ?_
                  have hz : _ = v16 := hz
                  refine q_sub C [1, 2, 3, 4, 5, 6, 7] [(0, Vr 0), (1, Vi p1), (2, Vi p2), (3, Vi p3), (4, Vi p4), (5, Vi p5), (6, Vi p6)] rfl ?_
                  subst hz
                  exact Jv16
                · have hz := eq_t hz c39
                  refine q_bipush C dX6_who_86 ⟨rfl, by decide, by decide⟩ ?_
                  refine q_goto C dX6_who_88 (tgt := 93) (by decide) ?_
                  have hz : _ = v16 := hz
                  refine q_sub C [1, 2, 3, 4, 5, 6, 7] [(0, Vr 0), (1, Vi p1), (2, Vi p2), (3, Vi p3), (4, Vi p4), (5, Vi p5), (6, Vi p6)] rfl ?_
                  subst hz
                  exact Jv16
              · have hz := eq_t hz c38
                refine q_bipush C dX6_who_76 ⟨rfl, by decide, by decide⟩ ?_
                refine q_goto C dX6_who_78 (tgt := 93) (by decide) ?_
                have hz : _ = v16 := hz
                refine q_sub C [1, 2, 3, 4, 5, 6, 7] [(0, Vr 0), (1, Vi p1), (2, Vi p2), (3, Vi p3), (4, Vi p4), (5, Vi p5), (6, Vi p6)] rfl ?_
                subst hz
                exact Jv16
            · have hz := sat_f hz c15
              refine q_iload C 0 rfl dX6_who_69 ?_
              exact q_iret C dX6_who_71 (sat_eq hz)
          · have hz := sat_t hz c12
            refine q_ldc (v := (-1000001)) (x := (-1000001)) C (by decide +kernel) dX6_who_49 ⟨by decide +kernel, by decide, by decide⟩ ?_
            exact q_iret C dX6_who_51 (sat_eq hz)
