theorem hdX6_bread : yX6_bread.cls = RX6 ∧ yX6_bread.cls ≠ "java/lang/invoke/MethodHandle" ∧ yX6_bread.cls ≠ "java/lang/invoke/VarHandle" ∧ (parseMethodDescriptor yX6_bread.desc).map (fun d => d.parameters.length) = some 2 := by decide +kernel
set_option maxHeartbeats 4000000 in
set_option maxRecDepth 100000 in
theorem c_X6_bread {l : Launch} {D : va_G} {ad : Nat → Nat} {cI cZ : ClassId} (μ : Mm) (p1 p2 : Int) {v : Int × Mm} (hz : f_X6_bread μ p1 p2 = some v) : CT l D vwCl (tyM cI cZ) 10 ad (EM ad cI cZ) (fun _ => True) yX6_bread wsX6_bread ({ frames := 2, cells := 0, slots := 0, locals := 46 } : Room) (some .int) [Vr 0, Vi p1, Vi p2] μ (v.1, v.2) := by
  refine CT_of [(0, Vr 0), (1, Vi p1), (2, Vi p2)] stZ_t (by decide) rfl rfl (Nat.le_of_ble_eq_true rfl) rfl (fun G C => ?_)
  have i_X6 : ∀ w ∈ u_ws RX6 TX6 19, w ∈ wsX6_bread := by decide +kernel
  have f_7 : Cond.fieldLink (yX6_bread).cls 7 "SwanDeedsModel" "w" "[I" ∈ wsX6_bread := by decide +kernel
  have hz := sat_of hz
  unfold f_X6_bread at hz
  refine q_aload_n C 0 rfl dX6_bread_0 rfl ?_
  refine q_iload_n C 1 rfl dX6_bread_1 rfl ?_
  obtain ⟨z2, hz2, hz⟩ := sat_bind hz
  refine q_callVz stZ_t C [Vi p1] [] (c_X6_isLawn μ p1 hz2) tO_X6 rfl gX6_bread_X6_isLawn rfl ⟨rfl, rfl⟩ hdX6_isLawn ⟨by decide, by decide⟩ rfl (Nat.le_of_ble_eq_true rfl) dX6_bread_2 rfl (fun hb1 _ => ?_)
  refine q_if_eq C dX6_bread_5 (tgt := 20) (by decide) (fun c3 => ?_) (fun c3 => ?_)
  · have hz := sat_t hz c3
    refine q_ldc (v := (-1000001)) (x := (-1000001)) C (by decide +kernel) dX6_bread_20 ⟨by decide +kernel, by decide, by decide⟩ ?_
    exact q_iret C dX6_bread_22 (sat_eq hz)
  · have hz := sat_f hz c3
    refine q_iload_n C 2 rfl dX6_bread_8 rfl ?_
    refine q_i2l C dX6_bread_9 ?_
    refine q_lconst (x := 1) C dX6_bread_10 ⟨rfl, by decide, by decide⟩ ?_
    refine q_ldc2 (v := 9) (x := 9) C (by decide +kernel) dX6_bread_11 ⟨by decide +kernel, by decide, by decide⟩ ?_
    refine q_callSz stZ_t C [Vl p2, Vl 1, Vl 9] [] (c_X6_in μ p2 1 9) gX6_bread_X6_in rfl ⟨rfl, rfl⟩ hdX6_in ⟨by decide, by decide⟩ rfl (Nat.le_of_ble_eq_true rfl) dX6_bread_14 rfl (fun hb4 _ => ?_)
    refine q_if_ne C dX6_bread_17 (tgt := 23) (by decide) (fun c5 => ?_) (fun c5 => ?_)
    · have hz := sat_f hz c5
      refine q_aload_n C 0 rfl dX6_bread_23 rfl ?_
      obtain ⟨z7, hz7, hz⟩ := sat_bind hz
      refine q_callVv stZ_t C [] [] (c_X6_minds μ hz7) tO_X6 rfl gX6_bread_X6_minds rfl ⟨rfl, rfl⟩ hdX6_minds ⟨by decide, by decide⟩ rfl (Nat.le_of_ble_eq_true rfl) dX6_bread_24 rfl (fun _ => ?_)
      refine q_aload_n C 0 rfl dX6_bread_27 rfl ?_
      refine q_iconst C dX6_bread_28 ⟨by decide, by decide⟩ ?_
      refine q_iload_n C 1 rfl dX6_bread_29 rfl ?_
      refine q_iload_n C 2 rfl dX6_bread_30 rfl ?_
      obtain ⟨z9, hz9, hz⟩ := sat_bind hz
      refine q_callVv stZ_t C [Vi 0, Vi p1, Vi p2] [] (c_X6_throwsOn z7 0 p1 p2 hz9) tO_X6 rfl gX6_bread_X6_throwsOn rfl ⟨rfl, rfl⟩ hdX6_throwsOn ⟨by decide, by decide⟩ rfl (Nat.le_of_ble_eq_true rfl) dX6_bread_31 rfl (fun _ => ?_)
      refine q_aload_n C 0 rfl dX6_bread_34 rfl ?_
      refine q_getR tO_X6 C (i := 0) i_X6 rfl rfl (by decide) rfl f_7 dX6_bread_35 ?_
      refine q_iconst C dX6_bread_38 ⟨by decide, by decide⟩ ?_
      refine q_iload_n C 1 rfl dX6_bread_39 rfl ?_
      refine q_iadd C dX6_bread_40 ?_
      obtain ⟨c10, hz⟩ := sat_chk hz
      refine q_wald C c10 dX6_bread_41 ?_
      exact q_iret C dX6_bread_42 (sat_eq hz)
    · have hz := sat_t hz c5
      refine q_ldc (v := (-1000001)) (x := (-1000001)) C (by decide +kernel) dX6_bread_20 ⟨by decide +kernel, by decide, by decide⟩ ?_
      exact q_iret C dX6_bread_22 (sat_eq hz)
theorem hdX6_weir : yX6_weir.cls = RX6 ∧ yX6_weir.cls ≠ "java/lang/invoke/MethodHandle" ∧ yX6_weir.cls ≠ "java/lang/invoke/VarHandle" ∧ (parseMethodDescriptor yX6_weir.desc).map (fun d => d.parameters.length) = some 2 := by decide +kernel
set_option maxHeartbeats 4000000 in
set_option maxRecDepth 100000 in
theorem c_X6_weir {l : Launch} {D : va_G} {ad : Nat → Nat} {cI cZ : ClassId} (μ : Mm) (p1 p2 : Int) {v : Int × Mm} (hz : f_X6_weir μ p1 p2 = some v) : CT l D vwCl (tyM cI cZ) 10 ad (EM ad cI cZ) (fun _ => True) yX6_weir wsX6_weir ({ frames := 1, cells := 0, slots := 0, locals := 25 } : Room) (some .int) [Vr 0, Vi p1, Vi p2] μ (v.1, v.2) := by
  refine CT_of [(0, Vr 0), (1, Vi p1), (2, Vi p2)] stZ_t (by decide) rfl rfl (Nat.le_of_ble_eq_true rfl) rfl (fun G C => ?_)
  have i_X6 : ∀ w ∈ u_ws RX6 TX6 19, w ∈ wsX6_weir := by decide +kernel
  have f_7 : Cond.fieldLink (yX6_weir).cls 7 "SwanDeedsModel" "w" "[I" ∈ wsX6_weir := by decide +kernel
  have hz := sat_of hz
  unfold f_X6_weir at hz
  refine q_iload_n C 1 rfl dX6_weir_0 rfl ?_
  refine q_i2l C dX6_weir_1 ?_
  refine q_lconst (x := 0) C dX6_weir_2 ⟨rfl, by decide, by decide⟩ ?_
  refine q_aload_n C 0 rfl dX6_weir_3 rfl ?_
  refine q_getR tO_X6 C (i := 0) i_X6 rfl rfl (by decide) rfl f_7 dX6_weir_4 ?_
  refine q_bipush C dX6_weir_7 ⟨rfl, by decide, by decide⟩ ?_
  obtain ⟨c1, hz⟩ := sat_chk hz
  refine q_wald C c1 dX6_weir_9 ?_
  refine q_iconst C dX6_weir_10 ⟨by decide, by decide⟩ ?_
  refine q_isub C dX6_weir_11 ?_
  refine q_i2l C dX6_weir_12 ?_
  refine q_callSz stZ_t C [Vl p1, Vl 0, Vl (w3 ((rdW μ 24) - 2))] [] (c_X6_in μ p1 0 (w3 ((rdW μ 24) - 2))) gX6_weir_X6_in rfl ⟨rfl, rfl⟩ hdX6_in ⟨by decide, by decide⟩ rfl (Nat.le_of_ble_eq_true rfl) dX6_weir_13 rfl (fun hb2 _ => ?_)
  refine q_if_eq C dX6_weir_16 (tgt := 29) (by decide) (fun c3 => ?_) (fun c3 => ?_)
  · have hz := sat_t hz c3
    refine q_ldc (v := (-1000001)) (x := (-1000001)) C (by decide +kernel) dX6_weir_29 ⟨by decide +kernel, by decide, by decide⟩ ?_
    exact q_iret C dX6_weir_31 (sat_eq hz)
  · have hz := sat_f hz c3
    refine q_iload_n C 2 rfl dX6_weir_19 rfl ?_
    refine q_i2l C dX6_weir_20 ?_
    refine q_lconst (x := 0) C dX6_weir_21 ⟨rfl, by decide, by decide⟩ ?_
    refine q_lconst (x := 1) C dX6_weir_22 ⟨rfl, by decide, by decide⟩ ?_
    refine q_callSz stZ_t C [Vl p2, Vl 0, Vl 1] [] (c_X6_in μ p2 0 1) gX6_weir_X6_in rfl ⟨rfl, rfl⟩ hdX6_in ⟨by decide, by decide⟩ rfl (Nat.le_of_ble_eq_true rfl) dX6_weir_23 rfl (fun hb4 _ => ?_)
    refine q_if_ne C dX6_weir_26 (tgt := 32) (by decide) (fun c5 => ?_) (fun c5 => ?_)
    · have hz := sat_f hz c5
      refine q_aload_n C 0 rfl dX6_weir_32 rfl ?_
      refine q_getR tO_X6 C (i := 0) i_X6 rfl rfl (by decide) rfl f_7 dX6_weir_33 ?_
      refine q_bipush C dX6_weir_36 ⟨rfl, by decide, by decide⟩ ?_
      obtain ⟨c6, hz⟩ := sat_chk hz
      refine q_wald C c6 dX6_weir_38 ?_
      refine q_iload_n C 1 rfl dX6_weir_39 rfl ?_
      refine q_callSz stZ_t C [Vi (rdW μ 10), Vi p1] [] (c_X6_has μ (rdW μ 10) p1) gX6_weir_X6_has rfl ⟨rfl, rfl⟩ hdX6_has ⟨by decide, by decide⟩ rfl (Nat.le_of_ble_eq_true rfl) dX6_weir_40 rfl (fun hb7 _ => ?_)
      refine q_iload_n C 2 rfl dX6_weir_43 rfl ?_
      refine q_iconst C dX6_weir_44 ⟨by decide, by decide⟩ ?_
      obtain ⟨v8, hv8, hz⟩ := sat_bnd hz
      have Jv8 : G μ 53 [(0, Vr 0), (1, Vi p1)] [Vi v8, Vi (f_X6_has μ (rdW μ 10) p1)] := by
        refine q_icmp_ne C dX6_weir_53 (tgt := 59) (by decide) (fun c9 => ?_) (fun c9 => ?_)
        · have hz := sat_f hz c9
          refine q_aload_n C 0 rfl dX6_weir_59 rfl ?_
          obtain ⟨z11, hz11, hz⟩ := sat_bind hz
          refine q_callVv stZ_t C [] [] (c_X6_minds μ hz11) tO_X6 rfl gX6_weir_X6_minds rfl ⟨rfl, rfl⟩ hdX6_minds ⟨by decide, by decide⟩ rfl (Nat.le_of_ble_eq_true rfl) dX6_weir_60 rfl (fun _ => ?_)
          refine q_aload_n C 0 rfl dX6_weir_63 rfl ?_
          refine q_getR tO_X6 C (i := 0) i_X6 rfl rfl (by decide) rfl f_7 dX6_weir_64 ?_
          refine q_bipush C dX6_weir_67 ⟨rfl, by decide, by decide⟩ ?_
          refine q_dup2 C dX6_weir_69 rfl rfl ?_
          obtain ⟨c12, hz⟩ := sat_chk hz
          refine q_wald C c12 dX6_weir_70 ?_
          refine q_iconst C dX6_weir_71 ⟨by decide, by decide⟩ ?_
          refine q_iload_n C 1 rfl dX6_weir_72 rfl ?_
          refine q_ishl C dX6_weir_73 ?_
          refine q_ixor C dX6_weir_74 ?_
          obtain ⟨c13, hz⟩ := sat_chk hz
          obtain ⟨m14, hm14, hz⟩ := sat_bnd hz
          refine q_wast C c13 hm14 dX6_weir_75 ?_
          refine q_aload_n C 0 rfl dX6_weir_76 rfl ?_
          refine q_getR tO_X6 C (i := 0) i_X6 rfl rfl (by decide) rfl f_7 dX6_weir_77 ?_
          refine q_bipush C dX6_weir_80 ⟨rfl, by decide, by decide⟩ ?_
          obtain ⟨c15, hz⟩ := sat_chk hz
          refine q_wald C c15 dX6_weir_82 ?_
          exact q_iret C dX6_weir_83 (sat_eq hz)
        · have hz := sat_t hz c9
          refine q_ldc (v := (-1000002)) (x := (-1000002)) C (by decide +kernel) dX6_weir_56 ⟨by decide +kernel, by decide, by decide⟩ ?_
          exact q_iret C dX6_weir_58 (sat_eq hz)
      have hz := hv8.symm
      refine q_icmp_ne C dX6_weir_45 (tgt := 52) (by decide) (fun c16 => ?_) (fun c16 => ?_)
      · have hz := eq_f hz c16
        refine q_iconst C dX6_weir_52 ⟨by decide, by decide⟩ ?_
        have hz : _ = v8 := hz
        refine q_sub C [0, 1] [(0, Vr 0), (1, Vi p1)] rfl ?_
        subst hz
        exact Jv8
      · have hz := eq_t hz c16
        refine q_iconst C dX6_weir_48 ⟨by decide, by decide⟩ ?_
        refine q_goto C dX6_weir_49 (tgt := 53) (by decide) ?_
        have hz : _ = v8 := hz
        refine q_sub C [0, 1] [(0, Vr 0), (1, Vi p1)] rfl ?_
        subst hz
        exact Jv8
    · have hz := sat_t hz c5
      refine q_ldc (v := (-1000001)) (x := (-1000001)) C (by decide +kernel) dX6_weir_29 ⟨by decide +kernel, by decide, by decide⟩ ?_
      exact q_iret C dX6_weir_31 (sat_eq hz)
theorem hdX6_frighten : yX6_frighten.cls = RX6 ∧ yX6_frighten.cls ≠ "java/lang/invoke/MethodHandle" ∧ yX6_frighten.cls ≠ "java/lang/invoke/VarHandle" ∧ (parseMethodDescriptor yX6_frighten.desc).map (fun d => d.parameters.length) = some 2 := by decide +kernel
set_option maxHeartbeats 4000000 in
set_option maxRecDepth 100000 in
theorem c_X6_frighten {l : Launch} {D : va_G} {ad : Nat → Nat} {cI cZ : ClassId} (μ : Mm) (p1 p2 : Int) {v : Int × Mm} (hz : f_X6_frighten μ p1 p2 = some v) : CT l D vwCl (tyM cI cZ) 10 ad (EM ad cI cZ) (fun _ => True) yX6_frighten wsX6_frighten ({ frames := 2, cells := 0, slots := 0, locals := 50 } : Room) (some .int) [Vr 0, Vi p1, Vi p2] μ (v.1, v.2) := by
  refine CT_of [(0, Vr 0), (1, Vi p1), (2, Vi p2)] stZ_t (by decide) rfl rfl (Nat.le_of_ble_eq_true rfl) rfl (fun G C => ?_)
  have i_X6 : ∀ w ∈ u_ws RX6 TX6 19, w ∈ wsX6_frighten := by decide +kernel
  have f_7 : Cond.fieldLink (yX6_frighten).cls 7 "SwanDeedsModel" "w" "[I" ∈ wsX6_frighten := by decide +kernel
  have hz := sat_of hz
  unfold f_X6_frighten at hz
  refine q_aload_n C 0 rfl dX6_frighten_0 rfl ?_
  refine q_iload_n C 1 rfl dX6_frighten_1 rfl ?_
  obtain ⟨z2, hz2, hz⟩ := sat_bind hz
  refine q_callVz stZ_t C [Vi p1] [] (c_X6_isSwan μ p1 hz2) tO_X6 rfl gX6_frighten_X6_isSwan rfl ⟨rfl, rfl⟩ hdX6_isSwan ⟨by decide, by decide⟩ rfl (Nat.le_of_ble_eq_true rfl) dX6_frighten_2 rfl (fun hb1 _ => ?_)
  refine q_if_eq C dX6_frighten_5 (tgt := 18) (by decide) (fun c3 => ?_) (fun c3 => ?_)
  · have hz := sat_t hz c3
    refine q_ldc (v := (-1000001)) (x := (-1000001)) C (by decide +kernel) dX6_frighten_18 ⟨by decide +kernel, by decide, by decide⟩ ?_
    exact q_iret C dX6_frighten_20 (sat_eq hz)
  · have hz := sat_f hz c3
    refine q_iload_n C 2 rfl dX6_frighten_8 rfl ?_
    refine q_i2l C dX6_frighten_9 ?_
    refine q_lconst (x := 0) C dX6_frighten_10 ⟨rfl, by decide, by decide⟩ ?_
    refine q_lconst (x := 1) C dX6_frighten_11 ⟨rfl, by decide, by decide⟩ ?_
    refine q_callSz stZ_t C [Vl p2, Vl 0, Vl 1] [] (c_X6_in μ p2 0 1) gX6_frighten_X6_in rfl ⟨rfl, rfl⟩ hdX6_in ⟨by decide, by decide⟩ rfl (Nat.le_of_ble_eq_true rfl) dX6_frighten_12 rfl (fun hb4 _ => ?_)
    refine q_if_ne C dX6_frighten_15 (tgt := 21) (by decide) (fun c5 => ?_) (fun c5 => ?_)
    · have hz := sat_f hz c5
      refine q_iload_n C 2 rfl dX6_frighten_21 rfl ?_
      refine q_iconst C dX6_frighten_22 ⟨by decide, by decide⟩ ?_
      obtain ⟨v6, hv6, hz⟩ := sat_bnd hz
      have Jv6 : G μ 31 [(0, Vr 0), (1, Vi p1)] [Vi v6] := by
        refine q_istore_n C [(3, Vi v6), (0, Vr 0), (1, Vi p1)] rfl (by decide) dX6_frighten_31 rfl ?_
        refine q_aload_n C 1 rfl dX6_frighten_32 rfl ?_
        refine q_iconst C dX6_frighten_33 ⟨by decide, by decide⟩ ?_
        refine q_aload_n C 1 rfl dX6_frighten_34 rfl ?_
        refine q_getR tO_X6 C (i := 0) i_X6 rfl rfl (by decide) rfl f_7 dX6_frighten_35 ?_
        refine q_bipush C dX6_frighten_38 ⟨rfl, by decide, by decide⟩ ?_
        refine q_iload_n C 2 rfl dX6_frighten_40 rfl ?_
        refine q_iadd C dX6_frighten_41 ?_
        obtain ⟨c7, hz⟩ := sat_chk hz
        refine q_wald C c7 dX6_frighten_42 ?_
        refine q_iload_n C 0 rfl dX6_frighten_43 rfl ?_
        obtain ⟨z9, hz9, hz⟩ := sat_bind hz
        refine q_callVz stZ_t C [Vi 0, Vi (rdW μ (w3 (11 + p1))), Vi v6] [] (c_X6_isOpen μ 0 (rdW μ (w3 (11 + p1))) v6 hz9) tO_X6 rfl gX6_frighten_X6_isOpen rfl ⟨rfl, rfl⟩ hdX6_isOpen ⟨by decide, by decide⟩ rfl (Nat.le_of_ble_eq_true rfl) dX6_frighten_44 rfl (fun hb8 _ => ?_)
        refine q_if_ne C dX6_frighten_47 (tgt := 53) (by decide) (fun c10 => ?_) (fun c10 => ?_)
        · have hz := sat_f hz c10
          refine q_aload_n C 1 rfl dX6_frighten_53 rfl ?_
          obtain ⟨z12, hz12, hz⟩ := sat_bind hz
          refine q_callVv stZ_t C [] [] (c_X6_minds μ hz12) tO_X6 rfl gX6_frighten_X6_minds rfl ⟨rfl, rfl⟩ hdX6_minds ⟨by decide, by decide⟩ rfl (Nat.le_of_ble_eq_true rfl) dX6_frighten_54 rfl (fun _ => ?_)
          refine q_aload_n C 1 rfl dX6_frighten_57 rfl ?_
          refine q_getR tO_X6 C (i := 0) i_X6 rfl rfl (by decide) rfl f_7 dX6_frighten_58 ?_
          refine q_bipush C dX6_frighten_61 ⟨rfl, by decide, by decide⟩ ?_
          refine q_iload_n C 2 rfl dX6_frighten_63 rfl ?_
          refine q_iadd C dX6_frighten_64 ?_
          refine q_dup2 C dX6_frighten_65 rfl rfl ?_
          obtain ⟨c13, hz⟩ := sat_chk hz
          refine q_wald C c13 dX6_frighten_66 ?_
          refine q_iload_n C 0 rfl dX6_frighten_67 rfl ?_
          refine q_iadd C dX6_frighten_68 ?_
          obtain ⟨c14, hz⟩ := sat_chk hz
          obtain ⟨m15, hm15, hz⟩ := sat_bnd hz
          refine q_wast C c14 hm15 dX6_frighten_69 ?_
          refine q_aload_n C 1 rfl dX6_frighten_70 rfl ?_
          refine q_getR tO_X6 C (i := 0) i_X6 rfl rfl (by decide) rfl f_7 dX6_frighten_71 ?_
          refine q_bipush C dX6_frighten_74 ⟨rfl, by decide, by decide⟩ ?_
          refine q_iload_n C 2 rfl dX6_frighten_76 rfl ?_
          refine q_iadd C dX6_frighten_77 ?_
          obtain ⟨c16, hz⟩ := sat_chk hz
          refine q_wald C c16 dX6_frighten_78 ?_
          exact q_iret C dX6_frighten_79 (sat_eq hz)
        · have hz := sat_t hz c10
          refine q_ldc (v := (-1000002)) (x := (-1000002)) C (by decide +kernel) dX6_frighten_50 ⟨by decide +kernel, by decide, by decide⟩ ?_
          exact q_iret C dX6_frighten_52 (sat_eq hz)
      have hz := hv6.symm
      refine q_icmp_ne C dX6_frighten_23 (tgt := 30) (by decide) (fun c17 => ?_) (fun c17 => ?_)
      · have hz := eq_f hz c17
        refine q_iconst C dX6_frighten_30 ⟨by decide, by decide⟩ ?_
        have hz : _ = v6 := hz
        refine q_sub C [0, 1] [(0, Vr 0), (1, Vi p1)] rfl ?_
        subst hz
        exact Jv6
      · have hz := eq_t hz c17
        refine q_iconst C dX6_frighten_26 ⟨by decide, by decide⟩ ?_
        refine q_goto C dX6_frighten_27 (tgt := 31) (by decide) ?_
        have hz : _ = v6 := hz
        refine q_sub C [0, 1] [(0, Vr 0), (1, Vi p1)] rfl ?_
        subst hz
        exact Jv6
    · have hz := sat_t hz c5
      refine q_ldc (v := (-1000001)) (x := (-1000001)) C (by decide +kernel) dX6_frighten_18 ⟨by decide +kernel, by decide, by decide⟩ ?_
      exact q_iret C dX6_frighten_20 (sat_eq hz)
theorem hdX6_weight : yX6_weight.cls = RX6 ∧ yX6_weight.cls ≠ "java/lang/invoke/MethodHandle" ∧ yX6_weight.cls ≠ "java/lang/invoke/VarHandle" ∧ (parseMethodDescriptor yX6_weight.desc).map (fun d => d.parameters.length) = some 2 := by decide +kernel
set_option maxHeartbeats 4000000 in
set_option maxRecDepth 100000 in
theorem c_X6_weight {l : Launch} {D : va_G} {ad : Nat → Nat} {cI cZ : ClassId} (μ : Mm) (p1 p2 : Int) {v : Int × Mm} (hz : f_X6_weight μ p1 p2 = some v) : CT l D vwCl (tyM cI cZ) 10 ad (EM ad cI cZ) (fun _ => True) yX6_weight wsX6_weight ({ frames := 2, cells := 0, slots := 0, locals := 46 } : Room) (some .int) [Vr 0, Vi p1, Vi p2] μ (v.1, v.2) := by
  refine CT_of [(0, Vr 0), (1, Vi p1), (2, Vi p2)] stZ_t (by decide) rfl rfl (Nat.le_of_ble_eq_true rfl) rfl (fun G C => ?_)
  have i_X6 : ∀ w ∈ u_ws RX6 TX6 19, w ∈ wsX6_weight := by decide +kernel
  have f_7 : Cond.fieldLink (yX6_weight).cls 7 "SwanDeedsModel" "w" "[I" ∈ wsX6_weight := by decide +kernel
  have hz := sat_of hz
  unfold f_X6_weight at hz
  refine q_aload_n C 0 rfl dX6_weight_0 rfl ?_
  refine q_iload_n C 1 rfl dX6_weight_1 rfl ?_
  obtain ⟨z2, hz2, hz⟩ := sat_bind hz
  refine q_callVz stZ_t C [Vi p1] [] (c_X6_isSwan μ p1 hz2) tO_X6 rfl gX6_weight_X6_isSwan rfl ⟨rfl, rfl⟩ hdX6_isSwan ⟨by decide, by decide⟩ rfl (Nat.le_of_ble_eq_true rfl) dX6_weight_2 rfl (fun hb1 _ => ?_)
  refine q_if_eq C dX6_weight_5 (tgt := 20) (by decide) (fun c3 => ?_) (fun c3 => ?_)
  · have hz := sat_t hz c3
    refine q_ldc (v := (-1000001)) (x := (-1000001)) C (by decide +kernel) dX6_weight_20 ⟨by decide +kernel, by decide, by decide⟩ ?_
    exact q_iret C dX6_weight_22 (sat_eq hz)
  · have hz := sat_f hz c3
    refine q_iload_n C 2 rfl dX6_weight_8 rfl ?_
    refine q_i2l C dX6_weight_9 ?_
    refine q_lconst (x := 1) C dX6_weight_10 ⟨rfl, by decide, by decide⟩ ?_
    refine q_ldc2 (v := 9) (x := 9) C (by decide +kernel) dX6_weight_11 ⟨by decide +kernel, by decide, by decide⟩ ?_
    refine q_callSz stZ_t C [Vl p2, Vl 1, Vl 9] [] (c_X6_in μ p2 1 9) gX6_weight_X6_in rfl ⟨rfl, rfl⟩ hdX6_in ⟨by decide, by decide⟩ rfl (Nat.le_of_ble_eq_true rfl) dX6_weight_14 rfl (fun hb4 _ => ?_)
    refine q_if_ne C dX6_weight_17 (tgt := 23) (by decide) (fun c5 => ?_) (fun c5 => ?_)
    · have hz := sat_f hz c5
      refine q_aload_n C 0 rfl dX6_weight_23 rfl ?_
      obtain ⟨z7, hz7, hz⟩ := sat_bind hz
      refine q_callVv stZ_t C [] [] (c_X6_minds μ hz7) tO_X6 rfl gX6_weight_X6_minds rfl ⟨rfl, rfl⟩ hdX6_minds ⟨by decide, by decide⟩ rfl (Nat.le_of_ble_eq_true rfl) dX6_weight_24 rfl (fun _ => ?_)
      refine q_aload_n C 0 rfl dX6_weight_27 rfl ?_
      refine q_getR tO_X6 C (i := 0) i_X6 rfl rfl (by decide) rfl f_7 dX6_weight_28 ?_
      refine q_bipush C dX6_weight_31 ⟨rfl, by decide, by decide⟩ ?_
      refine q_iload_n C 1 rfl dX6_weight_33 rfl ?_
      refine q_iadd C dX6_weight_34 ?_
      obtain ⟨c8, hz⟩ := sat_chk hz
      refine q_wald C c8 dX6_weight_35 ?_
      refine q_istore_n C [(3, Vi (rdW z7 (w3 (17 + p1)))), (0, Vr 0), (1, Vi p1), (2, Vi p2)] rfl (by decide) dX6_weight_36 rfl ?_
      refine q_aload_n C 1 rfl dX6_weight_37 rfl ?_
      refine q_getR tO_X6 C (i := 0) i_X6 rfl rfl (by decide) rfl f_7 dX6_weight_38 ?_
      refine q_bipush C dX6_weight_41 ⟨rfl, by decide, by decide⟩ ?_
      refine q_iload_n C 2 rfl dX6_weight_43 rfl ?_
      refine q_iadd C dX6_weight_44 ?_
      refine q_iload_n C 3 rfl dX6_weight_45 rfl ?_
      obtain ⟨c9, hz⟩ := sat_chk hz
      obtain ⟨m10, hm10, hz⟩ := sat_bnd hz
      refine q_wast C c9 hm10 dX6_weight_46 ?_
      refine q_iload_n C 0 rfl dX6_weight_47 rfl ?_
      exact q_iret C dX6_weight_48 (sat_eq hz)
    · have hz := sat_t hz c5
      refine q_ldc (v := (-1000001)) (x := (-1000001)) C (by decide +kernel) dX6_weight_20 ⟨by decide +kernel, by decide, by decide⟩ ?_
      exact q_iret C dX6_weight_22 (sat_eq hz)
theorem hdX6_swan : yX6_swan.cls = RX6 ∧ yX6_swan.cls ≠ "java/lang/invoke/MethodHandle" ∧ yX6_swan.cls ≠ "java/lang/invoke/VarHandle" ∧ (parseMethodDescriptor yX6_swan.desc).map (fun d => d.parameters.length) = some 2 := by decide +kernel
set_option maxHeartbeats 4000000 in
set_option maxRecDepth 100000 in
theorem c_X6_swan {l : Launch} {D : va_G} {ad : Nat → Nat} {cI cZ : ClassId} (μ : Mm) (p1 p2 : Int) {v : Int} (hz : f_X6_swan μ p1 p2 = some v) : CT l D vwCl (tyM cI cZ) 10 ad (EM ad cI cZ) (fun _ => True) yX6_swan wsX6_swan ({ frames := 4, cells := 0, slots := 0, locals := 102 } : Room) (some .int) [Vr 0, Vi p1, Vi p2] μ (v, μ) := by
  refine CT_of [(0, Vr 0), (1, Vi p1), (2, Vi p2)] stZ_t (by decide) rfl rfl (Nat.le_of_ble_eq_true rfl) rfl (fun G C => ?_)
  have i_X6 : ∀ w ∈ u_ws RX6 TX6 19, w ∈ wsX6_swan := by decide +kernel
  have f_7 : Cond.fieldLink (yX6_swan).cls 7 "SwanDeedsModel" "w" "[I" ∈ wsX6_swan := by decide +kernel
  have hz := sat_of hz
  unfold f_X6_swan at hz
  refine q_aload_n C 0 rfl dX6_swan_0 rfl ?_
  refine q_iload_n C 1 rfl dX6_swan_1 rfl ?_
  obtain ⟨z2, hz2, hz⟩ := sat_bind hz
  refine q_callVz stZ_t C [Vi p1] [] (c_X6_isSwan μ p1 hz2) tO_X6 rfl gX6_swan_X6_isSwan rfl ⟨rfl, rfl⟩ hdX6_isSwan ⟨by decide, by decide⟩ rfl (Nat.le_of_ble_eq_true rfl) dX6_swan_2 rfl (fun hb1 _ => ?_)
  refine q_if_ne C dX6_swan_5 (tgt := 11) (by decide) (fun c3 => ?_) (fun c3 => ?_)
  · have hz := sat_f hz c3
    refine q_iload_n C 2 rfl dX6_swan_11 rfl ?_
    refine sat_ite hz (fun c4 hz => ?_) (fun c4 hz => ?_)
    · have c4 : p2 = 0 := c4
      refine q_tab_in C dX6_swan_12 (by omega) (by omega) (off := 32) (by rw [c4]; rfl) (tgt := 44) (by decide) ?_
      refine q_aload_n C 0 rfl dX6_swan_44 rfl ?_
      refine q_getR tO_X6 C (i := 0) i_X6 rfl rfl (by decide) rfl f_7 dX6_swan_45 ?_
      refine q_bipush C dX6_swan_48 ⟨rfl, by decide, by decide⟩ ?_
      refine q_iload_n C 1 rfl dX6_swan_50 rfl ?_
      refine q_iadd C dX6_swan_51 ?_
      obtain ⟨c5, hz⟩ := sat_chk hz
      refine q_wald C c5 dX6_swan_52 ?_
      exact q_iret C dX6_swan_53 (congrArg (fun q => (q, μ)) (sat_eq hz))
    · have c4 : ¬ p2 = 0 := c4
      refine sat_ite hz (fun c6 hz => ?_) (fun c6 hz => ?_)
      · have c6 : p2 = 1 := c6
        refine q_tab_in C dX6_swan_12 (by omega) (by omega) (off := 42) (by rw [c6]; rfl) (tgt := 54) (by decide) ?_
        refine q_aload_n C 0 rfl dX6_swan_54 rfl ?_
        refine q_getR tO_X6 C (i := 0) i_X6 rfl rfl (by decide) rfl f_7 dX6_swan_55 ?_
        refine q_bipush C dX6_swan_58 ⟨rfl, by decide, by decide⟩ ?_
        refine q_iload_n C 1 rfl dX6_swan_60 rfl ?_
        refine q_iadd C dX6_swan_61 ?_
        obtain ⟨c7, hz⟩ := sat_chk hz
        refine q_wald C c7 dX6_swan_62 ?_
        exact q_iret C dX6_swan_63 (congrArg (fun q => (q, μ)) (sat_eq hz))
      · have c6 : ¬ p2 = 1 := c6
        refine sat_ite hz (fun c8 hz => ?_) (fun c8 hz => ?_)
        · have c8 : p2 = 2 := c8
          refine q_tab_in C dX6_swan_12 (by omega) (by omega) (off := 52) (by rw [c8]; rfl) (tgt := 64) (by decide) ?_
          refine q_aload_n C 0 rfl dX6_swan_64 rfl ?_
          refine q_getR tO_X6 C (i := 0) i_X6 rfl rfl (by decide) rfl f_7 dX6_swan_65 ?_
          refine q_bipush C dX6_swan_68 ⟨rfl, by decide, by decide⟩ ?_
          refine q_iload_n C 1 rfl dX6_swan_70 rfl ?_
          refine q_iadd C dX6_swan_71 ?_
          obtain ⟨c9, hz⟩ := sat_chk hz
          refine q_wald C c9 dX6_swan_72 ?_
          exact q_iret C dX6_swan_73 (congrArg (fun q => (q, μ)) (sat_eq hz))
        · have c8 : ¬ p2 = 2 := c8
          refine sat_ite hz (fun c10 hz => ?_) (fun c10 hz => ?_)
          · have c10 : p2 = 3 := c10
            refine q_tab_in C dX6_swan_12 (by omega) (by omega) (off := 62) (by rw [c10]; rfl) (tgt := 74) (by decide) ?_
            refine q_aload_n C 0 rfl dX6_swan_74 rfl ?_
            refine q_iconst C dX6_swan_75 ⟨by decide, by decide⟩ ?_
            refine q_iload_n C 1 rfl dX6_swan_76 rfl ?_
            obtain ⟨z12, hz12, hz⟩ := sat_bind hz
            refine q_callVi stZ_t C [Vi 0, Vi p1] [] (c_X6_swimsTo μ 0 p1 hz12) tO_X6 rfl gX6_swan_X6_swimsTo rfl ⟨rfl, rfl⟩ hdX6_swimsTo ⟨by decide, by decide⟩ rfl (Nat.le_of_ble_eq_true rfl) dX6_swan_77 rfl (fun _ _ => ?_)
            exact q_iret C dX6_swan_80 (congrArg (fun q => (q, μ)) (sat_eq hz))
          · have c10 : ¬ p2 = 3 := c10
            refine q_tab_out C dX6_swan_12 (by omega) (tgt := 81) (by decide) ?_
            refine q_ldc (v := (-1000001)) (x := (-1000001)) C (by decide +kernel) dX6_swan_81 ⟨by decide +kernel, by decide, by decide⟩ ?_
            exact q_iret C dX6_swan_83 (congrArg (fun q => (q, μ)) (sat_eq hz))
  · have hz := sat_t hz c3
    refine q_ldc (v := (-1000001)) (x := (-1000001)) C (by decide +kernel) dX6_swan_8 ⟨by decide +kernel, by decide, by decide⟩ ?_
    exact q_iret C dX6_swan_10 (congrArg (fun q => (q, μ)) (sat_eq hz))
theorem hdX6_lawn : yX6_lawn.cls = RX6 ∧ yX6_lawn.cls ≠ "java/lang/invoke/MethodHandle" ∧ yX6_lawn.cls ≠ "java/lang/invoke/VarHandle" ∧ (parseMethodDescriptor yX6_lawn.desc).map (fun d => d.parameters.length) = some 2 := by decide +kernel
set_option maxHeartbeats 4000000 in
set_option maxRecDepth 100000 in
theorem c_X6_lawn {l : Launch} {D : va_G} {ad : Nat → Nat} {cI cZ : ClassId} (μ : Mm) (p1 p2 : Int) {v : Int} (hz : f_X6_lawn μ p1 p2 = some v) : CT l D vwCl (tyM cI cZ) 10 ad (EM ad cI cZ) (fun _ => True) yX6_lawn wsX6_lawn ({ frames := 2, cells := 0, slots := 0, locals := 46 } : Room) (some .int) [Vr 0, Vi p1, Vi p2] μ (v, μ) := by
  refine CT_of [(0, Vr 0), (1, Vi p1), (2, Vi p2)] stZ_t (by decide) rfl rfl (Nat.le_of_ble_eq_true rfl) rfl (fun G C => ?_)
  have i_X6 : ∀ w ∈ u_ws RX6 TX6 19, w ∈ wsX6_lawn := by decide +kernel
  have f_7 : Cond.fieldLink (yX6_lawn).cls 7 "SwanDeedsModel" "w" "[I" ∈ wsX6_lawn := by decide +kernel
  have hz := sat_of hz
  unfold f_X6_lawn at hz
  refine q_aload_n C 0 rfl dX6_lawn_0 rfl ?_
  refine q_iload_n C 1 rfl dX6_lawn_1 rfl ?_
  obtain ⟨z2, hz2, hz⟩ := sat_bind hz
  refine q_callVz stZ_t C [Vi p1] [] (c_X6_isLawn μ p1 hz2) tO_X6 rfl gX6_lawn_X6_isLawn rfl ⟨rfl, rfl⟩ hdX6_isLawn ⟨by decide, by decide⟩ rfl (Nat.le_of_ble_eq_true rfl) dX6_lawn_2 rfl (fun hb1 _ => ?_)
  refine q_if_ne C dX6_lawn_5 (tgt := 11) (by decide) (fun c3 => ?_) (fun c3 => ?_)
  · have hz := sat_f hz c3
    refine q_iload_n C 2 rfl dX6_lawn_11 rfl ?_
    refine sat_ite hz (fun c4 hz => ?_) (fun c4 hz => ?_)
    · have c4 : p2 = 0 := c4
      refine q_tab_in C dX6_lawn_12 (by omega) (by omega) (off := 32) (by rw [c4]; rfl) (tgt := 44) (by decide) ?_
      refine q_aload_n C 0 rfl dX6_lawn_44 rfl ?_
      refine q_getR tO_X6 C (i := 0) i_X6 rfl rfl (by decide) rfl f_7 dX6_lawn_45 ?_
      refine q_iconst C dX6_lawn_48 ⟨by decide, by decide⟩ ?_
      refine q_iload_n C 1 rfl dX6_lawn_49 rfl ?_
      refine q_iadd C dX6_lawn_50 ?_
      obtain ⟨c5, hz⟩ := sat_chk hz
      refine q_wald C c5 dX6_lawn_51 ?_
      exact q_iret C dX6_lawn_52 (congrArg (fun q => (q, μ)) (sat_eq hz))
    · have c4 : ¬ p2 = 0 := c4
      refine sat_ite hz (fun c6 hz => ?_) (fun c6 hz => ?_)
      · have c6 : p2 = 1 := c6
        refine q_tab_in C dX6_lawn_12 (by omega) (by omega) (off := 41) (by rw [c6]; rfl) (tgt := 53) (by decide) ?_
        refine q_aload_n C 0 rfl dX6_lawn_53 rfl ?_
        refine q_getR tO_X6 C (i := 0) i_X6 rfl rfl (by decide) rfl f_7 dX6_lawn_54 ?_
        refine q_bipush C dX6_lawn_57 ⟨rfl, by decide, by decide⟩ ?_
        obtain ⟨c7, hz⟩ := sat_chk hz
        refine q_wald C c7 dX6_lawn_59 ?_
        refine q_iload_n C 1 rfl dX6_lawn_60 rfl ?_
        refine q_ishr C dX6_lawn_61 ?_
        refine q_iconst C dX6_lawn_62 ⟨by decide, by decide⟩ ?_
        refine q_iand C dX6_lawn_63 ?_
        exact q_iret C dX6_lawn_64 (congrArg (fun q => (q, μ)) (sat_eq hz))
      · have c6 : ¬ p2 = 1 := c6
        refine sat_ite hz (fun c8 hz => ?_) (fun c8 hz => ?_)
        · have c8 : p2 = 2 := c8
          refine q_tab_in C dX6_lawn_12 (by omega) (by omega) (off := 53) (by rw [c8]; rfl) (tgt := 65) (by decide) ?_
          refine q_aload_n C 0 rfl dX6_lawn_65 rfl ?_
          refine q_iconst C dX6_lawn_66 ⟨by decide, by decide⟩ ?_
          refine q_iload_n C 1 rfl dX6_lawn_67 rfl ?_
          obtain ⟨z10, hz10, hz⟩ := sat_bind hz
          refine q_callVi stZ_t C [Vi 0, Vi p1] [] (c_X6_swansOn μ 0 p1 hz10) tO_X6 rfl gX6_lawn_X6_swansOn rfl ⟨rfl, rfl⟩ hdX6_swansOn ⟨by decide, by decide⟩ rfl (Nat.le_of_ble_eq_true rfl) dX6_lawn_68 rfl (fun _ _ => ?_)
          exact q_iret C dX6_lawn_71 (congrArg (fun q => (q, μ)) (sat_eq hz))
        · have c8 : ¬ p2 = 2 := c8
          refine sat_ite hz (fun c11 hz => ?_) (fun c11 hz => ?_)
          · have c11 : p2 = 3 := c11
            refine q_tab_in C dX6_lawn_12 (by omega) (by omega) (off := 60) (by rw [c11]; rfl) (tgt := 72) (by decide) ?_
            refine q_aload_n C 0 rfl dX6_lawn_72 rfl ?_
            refine q_iconst C dX6_lawn_73 ⟨by decide, by decide⟩ ?_
            refine q_iload_n C 1 rfl dX6_lawn_74 rfl ?_
            obtain ⟨z13, hz13, hz⟩ := sat_bind hz
            refine q_callVi stZ_t C [Vi 0, Vi p1] [] (c_X6_plotsOf μ 0 p1 hz13) tO_X6 rfl gX6_lawn_X6_plotsOf rfl ⟨rfl, rfl⟩ hdX6_plotsOf ⟨by decide, by decide⟩ rfl (Nat.le_of_ble_eq_true rfl) dX6_lawn_75 rfl (fun _ _ => ?_)
            exact q_iret C dX6_lawn_78 (congrArg (fun q => (q, μ)) (sat_eq hz))
          · have c11 : ¬ p2 = 3 := c11
            refine q_tab_out C dX6_lawn_12 (by omega) (tgt := 79) (by decide) ?_
            refine q_ldc (v := (-1000001)) (x := (-1000001)) C (by decide +kernel) dX6_lawn_79 ⟨by decide +kernel, by decide, by decide⟩ ?_
            exact q_iret C dX6_lawn_81 (congrArg (fun q => (q, μ)) (sat_eq hz))
  · have hz := sat_t hz c3
    refine q_ldc (v := (-1000001)) (x := (-1000001)) C (by decide +kernel) dX6_lawn_8 ⟨by decide +kernel, by decide, by decide⟩ ?_
    exact q_iret C dX6_lawn_10 (congrArg (fun q => (q, μ)) (sat_eq hz))
theorem hdX6_isSpan : yX6_isSpan.cls ≠ "java/lang/invoke/MethodHandle" ∧ yX6_isSpan.cls ≠ "java/lang/invoke/VarHandle" ∧ (parseMethodDescriptor yX6_isSpan.desc).map (fun d => d.parameters.length) = some 2 := by decide +kernel
set_option maxHeartbeats 4000000 in
set_option maxRecDepth 100000 in
theorem c_X6_isSpan {l : Launch} {D : va_G} {ad : Nat → Nat} {cI cZ : ClassId} (μ : Mm) (p0 p1 : Int) : CT l D vwCl (tyM cI cZ) 10 ad (EM ad cI cZ) (fun _ => True) yX6_isSpan wsX6_isSpan ({ frames := 1, cells := 0, slots := 0, locals := 25 } : Room) (some .boolean) [Vi p0, Vi p1] μ (f_X6_isSpan μ p0 p1, μ) := by
  refine CT_of [(0, Vi p0), (1, Vi p1)] stZ_t (by decide) rfl rfl (Nat.le_of_ble_eq_true rfl) rfl (fun G C => ?_)
  generalize hz : f_X6_isSpan μ p0 p1 = v at C
  unfold f_X6_isSpan at hz
  refine q_iload_n C 0 rfl dX6_isSpan_0 rfl ?_
  refine q_i2l C dX6_isSpan_1 ?_
  refine q_iload_n C 1 rfl dX6_isSpan_2 rfl ?_
  refine q_i2l C dX6_isSpan_3 ?_
  refine q_ldc2 (v := 60) (x := 60) C (by decide +kernel) dX6_isSpan_4 ⟨by decide +kernel, by decide, by decide⟩ ?_
  refine q_callSz stZ_t C [Vl p0, Vl p1, Vl 60] [] (c_X6_in μ p0 p1 60) gX6_isSpan_X6_in rfl ⟨rfl, rfl⟩ hdX6_in ⟨by decide, by decide⟩ rfl (Nat.le_of_ble_eq_true rfl) dX6_isSpan_7 rfl (fun hb1 _ => ?_)
  exact q_zret C (hb1) dX6_isSpan_10 (congrArg (fun q => (q, μ)) hz)
theorem hdX6_tries : yX6_tries.cls = RX6 ∧ yX6_tries.cls ≠ "java/lang/invoke/MethodHandle" ∧ yX6_tries.cls ≠ "java/lang/invoke/VarHandle" ∧ (parseMethodDescriptor yX6_tries.desc).map (fun d => d.parameters.length) = some 0 := by decide +kernel
set_option maxHeartbeats 4000000 in
set_option maxRecDepth 100000 in
theorem c_X6_tries {l : Launch} {D : va_G} {ad : Nat → Nat} {cI cZ : ClassId} (μ : Mm) {v : Mm} (hz : f_X6_tries μ = some v) : CT l D vwCl (tyM cI cZ) 10 ad (EM ad cI cZ) (fun _ => True) yX6_tries wsX6_tries ({ frames := 1, cells := 0, slots := 0, locals := 23 } : Room) none [Vr 0] μ ((0 : Int), v) := by
  refine CT_of [(0, Vr 0)] stZ_t (by decide) rfl rfl (Nat.le_of_ble_eq_true rfl) rfl (fun G C => ?_)
  have hz := sat_of hz
  unfold f_X6_tries at hz
  refine q_aload_n C 0 rfl dX6_tries_0 rfl ?_
  refine q_iconst C dX6_tries_1 ⟨by decide, by decide⟩ ?_
  refine q_bipush C dX6_tries_2 ⟨rfl, by decide, by decide⟩ ?_
  obtain ⟨z2, hz2, hz⟩ := sat_bind hz
  refine q_callVv stZ_t C [Vi 0, Vi 114] [] (c_X6_copyAll μ 0 114 hz2) tO_X6 rfl gX6_tries_X6_copyAll rfl ⟨rfl, rfl⟩ hdX6_copyAll ⟨by decide, by decide⟩ rfl (Nat.le_of_ble_eq_true rfl) dX6_tries_4 rfl (fun _ => ?_)
  exact q_vret C dX6_tries_7 (congrArg (fun q => ((0 : Int), q)) (sat_eq hz))
theorem hdX6_triesFor : yX6_triesFor.cls = RX6 ∧ yX6_triesFor.cls ≠ "java/lang/invoke/MethodHandle" ∧ yX6_triesFor.cls ≠ "java/lang/invoke/VarHandle" ∧ (parseMethodDescriptor yX6_triesFor.desc).map (fun d => d.parameters.length) = some 1 := by decide +kernel
set_option maxHeartbeats 4000000 in
set_option maxRecDepth 100000 in
theorem c_X6_triesFor {l : Launch} {D : va_G} {ad : Nat → Nat} {cI cZ : ClassId} (μ : Mm) (p1 : Int) {v : Mm} (hz : f_X6_triesFor μ p1 = some v) : CT l D vwCl (tyM cI cZ) 10 ad (EM ad cI cZ) (fun _ => True) yX6_triesFor wsX6_triesFor ({ frames := 5, cells := 0, slots := 0, locals := 125 } : Room) none [Vr 0, Vi p1] μ ((0 : Int), v) := by
  refine CT_of [(0, Vr 0), (1, Vi p1)] stZ_t (by decide) rfl rfl (Nat.le_of_ble_eq_true rfl) rfl (fun G C => ?_)
  have hz := sat_of hz
  unfold f_X6_triesFor at hz
  refine q_aload_n C 0 rfl dX6_triesFor_0 rfl ?_
  obtain ⟨z2, hz2, hz⟩ := sat_bind hz
  refine q_callVv stZ_t C [] [] (c_X6_tries μ hz2) tO_X6 rfl gX6_triesFor_X6_tries rfl ⟨rfl, rfl⟩ hdX6_tries ⟨by decide, by decide⟩ rfl (Nat.le_of_ble_eq_true rfl) dX6_triesFor_1 rfl (fun _ => ?_)
  refine q_iconst C dX6_triesFor_4 ⟨by decide, by decide⟩ ?_
  refine q_istore_n C [(2, Vi 0), (0, Vr 0), (1, Vi p1)] rfl (by decide) dX6_triesFor_5 rfl ?_
  refine q_sub C [1, 2, 0] [(0, Vr 0), (1, Vi p1), (2, Vi 0)] rfl ?_
  refine loop_go (fun x3 => G x3.2 6 [(0, Vr 0), (1, Vi p1), (2, Vi (x3.1))] []) (sat_bind2 hz) (fun h => h) (fun x3 hz => ?_)
  refine q_iload_n C 2 rfl dX6_triesFor_6 rfl ?_
  refine q_iload_n C 1 rfl dX6_triesFor_7 rfl ?_
  refine q_icmp_ge C dX6_triesFor_8 (tgt := 23) (by decide) (fun c4 => ?_) (fun c4 => ?_)
  · have hz := sat_t hz c4
    have hz := sat_some hz
    refine q_sub C [] [] rfl ?_
    exact q_vret C dX6_triesFor_23 (congrArg (fun q => ((0 : Int), q)) (sat_eq hz))
  · have hz := sat_f hz c4
    refine q_aload_n C 0 rfl dX6_triesFor_11 rfl ?_
    refine q_bipush C dX6_triesFor_12 ⟨rfl, by decide, by decide⟩ ?_
    obtain ⟨z6, hz6, hz⟩ := sat_bind hz
    refine q_callVv stZ_t C [Vi 114] [] (c_X6_passes x3.2 114 hz6) tO_X6 rfl gX6_triesFor_X6_passes rfl ⟨rfl, rfl⟩ hdX6_passes ⟨by decide, by decide⟩ rfl (Nat.le_of_ble_eq_true rfl) dX6_triesFor_14 rfl (fun _ => ?_)
    refine q_iinc C 2 rfl [(2, Vi (w3 (x3.1 + 1))), (0, Vr 0), (1, Vi p1)] rfl (by decide) dX6_triesFor_17 ?_
    refine q_goto C dX6_triesFor_20 (tgt := 6) (by decide) ?_
    refine q_sub C [1, 2, 0] [(0, Vr 0), (1, Vi p1), (2, Vi (w3 (x3.1 + 1)))] rfl ?_
    have hz := sat_some hz
    exact hz
theorem hdX6_ahead : yX6_ahead.cls = RX6 ∧ yX6_ahead.cls ≠ "java/lang/invoke/MethodHandle" ∧ yX6_ahead.cls ≠ "java/lang/invoke/VarHandle" ∧ (parseMethodDescriptor yX6_ahead.desc).map (fun d => d.parameters.length) = some 2 := by decide +kernel
set_option maxHeartbeats 4000000 in
set_option maxRecDepth 100000 in
theorem c_X6_ahead {l : Launch} {D : va_G} {ad : Nat → Nat} {cI cZ : ClassId} (μ : Mm) (p1 p2 : Int) {v : Int × Mm} (hz : f_X6_ahead μ p1 p2 = some v) : CT l D vwCl (tyM cI cZ) 10 ad (EM ad cI cZ) (fun _ => True) yX6_ahead wsX6_ahead ({ frames := 6, cells := 0, slots := 0, locals := 147 } : Room) (some .int) [Vr 0, Vi p1, Vi p2] μ (v.1, v.2) := by
  refine CT_of [(0, Vr 0), (1, Vi p1), (2, Vi p2)] stZ_t (by decide) rfl rfl (Nat.le_of_ble_eq_true rfl) rfl (fun G C => ?_)
  have i_X6 : ∀ w ∈ u_ws RX6 TX6 19, w ∈ wsX6_ahead := by decide +kernel
  have f_7 : Cond.fieldLink (yX6_ahead).cls 7 "SwanDeedsModel" "w" "[I" ∈ wsX6_ahead := by decide +kernel
  have hz := sat_of hz
  unfold f_X6_ahead at hz
  refine q_aload_n C 0 rfl dX6_ahead_0 rfl ?_
  refine q_iload_n C 1 rfl dX6_ahead_1 rfl ?_
  obtain ⟨z2, hz2, hz⟩ := sat_bind hz
  refine q_callVz stZ_t C [Vi p1] [] (c_X6_isSwan μ p1 hz2) tO_X6 rfl gX6_ahead_X6_isSwan rfl ⟨rfl, rfl⟩ hdX6_isSwan ⟨by decide, by decide⟩ rfl (Nat.le_of_ble_eq_true rfl) dX6_ahead_2 rfl (fun hb1 _ => ?_)
  refine q_if_eq C dX6_ahead_5 (tgt := 16) (by decide) (fun c3 => ?_) (fun c3 => ?_)
  · have hz := sat_t hz c3
    refine q_ldc (v := (-1000001)) (x := (-1000001)) C (by decide +kernel) dX6_ahead_16 ⟨by decide +kernel, by decide, by decide⟩ ?_
    exact q_iret C dX6_ahead_18 (sat_eq hz)
  · have hz := sat_f hz c3
    refine q_iload_n C 2 rfl dX6_ahead_8 rfl ?_
    refine q_iconst C dX6_ahead_9 ⟨by decide, by decide⟩ ?_
    refine q_callSz stZ_t C [Vi p2, Vi 0] [] (c_X6_isSpan μ p2 0) gX6_ahead_X6_isSpan rfl ⟨rfl, rfl⟩ hdX6_isSpan ⟨by decide, by decide⟩ rfl (Nat.le_of_ble_eq_true rfl) dX6_ahead_10 rfl (fun hb4 _ => ?_)
    refine q_if_ne C dX6_ahead_13 (tgt := 19) (by decide) (fun c5 => ?_) (fun c5 => ?_)
    · have hz := sat_f hz c5
      refine q_aload_n C 0 rfl dX6_ahead_19 rfl ?_
      refine q_iload_n C 2 rfl dX6_ahead_20 rfl ?_
      obtain ⟨z7, hz7, hz⟩ := sat_bind hz
      refine q_callVv stZ_t C [Vi p2] [] (c_X6_triesFor μ p2 hz7) tO_X6 rfl gX6_ahead_X6_triesFor rfl ⟨rfl, rfl⟩ hdX6_triesFor ⟨by decide, by decide⟩ rfl (Nat.le_of_ble_eq_true rfl) dX6_ahead_21 rfl (fun _ => ?_)
      refine q_aload_n C 0 rfl dX6_ahead_24 rfl ?_
      refine q_getR tO_X6 C (i := 0) i_X6 rfl rfl (by decide) rfl f_7 dX6_ahead_25 ?_
      refine q_bipush C dX6_ahead_28 ⟨rfl, by decide, by decide⟩ ?_
      refine q_iload_n C 1 rfl dX6_ahead_30 rfl ?_
      refine q_iadd C dX6_ahead_31 ?_
      obtain ⟨c8, hz⟩ := sat_chk hz
      refine q_wald C c8 dX6_ahead_32 ?_
      exact q_iret C dX6_ahead_33 (sat_eq hz)
    · have hz := sat_t hz c5
      refine q_ldc (v := (-1000001)) (x := (-1000001)) C (by decide +kernel) dX6_ahead_16 ⟨by decide +kernel, by decide, by decide⟩ ?_
      exact q_iret C dX6_ahead_18 (sat_eq hz)
theorem hdX6_owns : yX6_owns.cls = RX6 ∧ yX6_owns.cls ≠ "java/lang/invoke/MethodHandle" ∧ yX6_owns.cls ≠ "java/lang/invoke/VarHandle" ∧ (parseMethodDescriptor yX6_owns.desc).map (fun d => d.parameters.length) = some 2 := by decide +kernel
set_option maxHeartbeats 4000000 in
set_option maxRecDepth 100000 in
theorem c_X6_owns {l : Launch} {D : va_G} {ad : Nat → Nat} {cI cZ : ClassId} (μ : Mm) (p1 p2 : Int) {v : Int × Mm} (hz : f_X6_owns μ p1 p2 = some v) : CT l D vwCl (tyM cI cZ) 10 ad (EM ad cI cZ) (fun _ => True) yX6_owns wsX6_owns ({ frames := 6, cells := 0, slots := 0, locals := 147 } : Room) (some .int) [Vr 0, Vi p1, Vi p2] μ (v.1, v.2) := by
  refine CT_of [(0, Vr 0), (1, Vi p1), (2, Vi p2)] stZ_t (by decide) rfl rfl (Nat.le_of_ble_eq_true rfl) rfl (fun G C => ?_)
  have hz := sat_of hz
  unfold f_X6_owns at hz
  refine q_aload_n C 0 rfl dX6_owns_0 rfl ?_
  refine q_iload_n C 1 rfl dX6_owns_1 rfl ?_
  obtain ⟨z2, hz2, hz⟩ := sat_bind hz
  refine q_callVz stZ_t C [Vi p1] [] (c_X6_isLawn μ p1 hz2) tO_X6 rfl gX6_owns_X6_isLawn rfl ⟨rfl, rfl⟩ hdX6_isLawn ⟨by decide, by decide⟩ rfl (Nat.le_of_ble_eq_true rfl) dX6_owns_2 rfl (fun hb1 _ => ?_)
  refine q_if_eq C dX6_owns_5 (tgt := 16) (by decide) (fun c3 => ?_) (fun c3 => ?_)
  · have hz := sat_t hz c3
    refine q_ldc (v := (-1000001)) (x := (-1000001)) C (by decide +kernel) dX6_owns_16 ⟨by decide +kernel, by decide, by decide⟩ ?_
    exact q_iret C dX6_owns_18 (sat_eq hz)
  · have hz := sat_f hz c3
    refine q_iload_n C 2 rfl dX6_owns_8 rfl ?_
    refine q_iconst C dX6_owns_9 ⟨by decide, by decide⟩ ?_
    refine q_callSz stZ_t C [Vi p2, Vi 0] [] (c_X6_isSpan μ p2 0) gX6_owns_X6_isSpan rfl ⟨rfl, rfl⟩ hdX6_isSpan ⟨by decide, by decide⟩ rfl (Nat.le_of_ble_eq_true rfl) dX6_owns_10 rfl (fun hb4 _ => ?_)
    refine q_if_ne C dX6_owns_13 (tgt := 19) (by decide) (fun c5 => ?_) (fun c5 => ?_)
    · have hz := sat_f hz c5
      refine q_aload_n C 0 rfl dX6_owns_19 rfl ?_
      refine q_iload_n C 2 rfl dX6_owns_20 rfl ?_
      obtain ⟨z7, hz7, hz⟩ := sat_bind hz
      refine q_callVv stZ_t C [Vi p2] [] (c_X6_triesFor μ p2 hz7) tO_X6 rfl gX6_owns_X6_triesFor rfl ⟨rfl, rfl⟩ hdX6_triesFor ⟨by decide, by decide⟩ rfl (Nat.le_of_ble_eq_true rfl) dX6_owns_21 rfl (fun _ => ?_)
      refine q_aload_n C 0 rfl dX6_owns_24 rfl ?_
      refine q_bipush C dX6_owns_25 ⟨rfl, by decide, by decide⟩ ?_
      refine q_iload_n C 1 rfl dX6_owns_27 rfl ?_
      obtain ⟨z9, hz9, hz⟩ := sat_bind hz
      refine q_callVi stZ_t C [Vi 114, Vi p1] [] (c_X6_plotsOf z7 114 p1 hz9) tO_X6 rfl gX6_owns_X6_plotsOf rfl ⟨rfl, rfl⟩ hdX6_plotsOf ⟨by decide, by decide⟩ rfl (Nat.le_of_ble_eq_true rfl) dX6_owns_28 rfl (fun _ _ => ?_)
      exact q_iret C dX6_owns_31 (sat_eq hz)
    · have hz := sat_t hz c5
      refine q_ldc (v := (-1000001)) (x := (-1000001)) C (by decide +kernel) dX6_owns_16 ⟨by decide +kernel, by decide, by decide⟩ ?_
      exact q_iret C dX6_owns_18 (sat_eq hz)
theorem hdX6_nobody : yX6_nobody.cls = RX6 ∧ yX6_nobody.cls ≠ "java/lang/invoke/MethodHandle" ∧ yX6_nobody.cls ≠ "java/lang/invoke/VarHandle" ∧ (parseMethodDescriptor yX6_nobody.desc).map (fun d => d.parameters.length) = some 1 := by decide +kernel
set_option maxHeartbeats 4000000 in
set_option maxRecDepth 100000 in
theorem c_X6_nobody {l : Launch} {D : va_G} {ad : Nat → Nat} {cI cZ : ClassId} (μ : Mm) (p1 : Int) {v : Int × Mm} (hz : f_X6_nobody μ p1 = some v) : CT l D vwCl (tyM cI cZ) 10 ad (EM ad cI cZ) (fun _ => True) yX6_nobody wsX6_nobody ({ frames := 6, cells := 0, slots := 0, locals := 147 } : Room) (some .int) [Vr 0, Vi p1] μ (v.1, v.2) := by
  refine CT_of [(0, Vr 0), (1, Vi p1)] stZ_t (by decide) rfl rfl (Nat.le_of_ble_eq_true rfl) rfl (fun G C => ?_)
  have i_X6 : ∀ w ∈ u_ws RX6 TX6 19, w ∈ wsX6_nobody := by decide +kernel
  have f_7 : Cond.fieldLink (yX6_nobody).cls 7 "SwanDeedsModel" "w" "[I" ∈ wsX6_nobody := by decide +kernel
  have hz := sat_of hz
  unfold f_X6_nobody at hz
  refine q_aload_n C 0 rfl dX6_nobody_0 rfl ?_
  obtain ⟨z2, hz2, hz⟩ := sat_bind hz
  refine q_callVz stZ_t C [] [] (c_X6_isRiver μ hz2) tO_X6 rfl gX6_nobody_X6_isRiver rfl ⟨rfl, rfl⟩ hdX6_isRiver ⟨by decide, by decide⟩ rfl (Nat.le_of_ble_eq_true rfl) dX6_nobody_1 rfl (fun hb1 _ => ?_)
  refine q_if_ne C dX6_nobody_4 (tgt := 10) (by decide) (fun c3 => ?_) (fun c3 => ?_)
  · have hz := sat_f hz c3
    refine q_iload_n C 1 rfl dX6_nobody_10 rfl ?_
    refine q_iconst C dX6_nobody_11 ⟨by decide, by decide⟩ ?_
    refine q_callSz stZ_t C [Vi p1, Vi 0] [] (c_X6_isSpan μ p1 0) gX6_nobody_X6_isSpan rfl ⟨rfl, rfl⟩ hdX6_isSpan ⟨by decide, by decide⟩ rfl (Nat.le_of_ble_eq_true rfl) dX6_nobody_12 rfl (fun hb4 _ => ?_)
    refine q_if_ne C dX6_nobody_15 (tgt := 21) (by decide) (fun c5 => ?_) (fun c5 => ?_)
    · have hz := sat_f hz c5
      refine q_aload_n C 0 rfl dX6_nobody_21 rfl ?_
      refine q_iload_n C 1 rfl dX6_nobody_22 rfl ?_
      obtain ⟨z7, hz7, hz⟩ := sat_bind hz
      refine q_callVv stZ_t C [Vi p1] [] (c_X6_triesFor μ p1 hz7) tO_X6 rfl gX6_nobody_X6_triesFor rfl ⟨rfl, rfl⟩ hdX6_triesFor ⟨by decide, by decide⟩ rfl (Nat.le_of_ble_eq_true rfl) dX6_nobody_23 rfl (fun _ => ?_)
      refine q_iconst C dX6_nobody_26 ⟨by decide, by decide⟩ ?_
      refine q_aload_n C 0 rfl dX6_nobody_27 rfl ?_
      refine q_getR tO_X6 C (i := 0) i_X6 rfl rfl (by decide) rfl f_7 dX6_nobody_28 ?_
      refine q_bipush C dX6_nobody_31 ⟨rfl, by decide, by decide⟩ ?_
      obtain ⟨c8, hz⟩ := sat_chk hz
      refine q_wald C c8 dX6_nobody_33 ?_
      refine q_ishl C dX6_nobody_34 ?_
      refine q_iconst C dX6_nobody_35 ⟨by decide, by decide⟩ ?_
      refine q_isub C dX6_nobody_36 ?_
      refine q_aload_n C 0 rfl dX6_nobody_37 rfl ?_
      refine q_bipush C dX6_nobody_38 ⟨rfl, by decide, by decide⟩ ?_
      obtain ⟨z10, hz10, hz⟩ := sat_bind hz
      refine q_callVi stZ_t C [Vi 114] [Vi (w3 ((bShl 1 (rdW z7 24)) - 1))] (c_X6_ownersIn z7 114 hz10) tO_X6 rfl gX6_nobody_X6_ownersIn rfl ⟨rfl, rfl⟩ hdX6_ownersIn ⟨by decide, by decide⟩ rfl (Nat.le_of_ble_eq_true rfl) dX6_nobody_40 rfl (fun _ _ => ?_)
      refine q_iconst C dX6_nobody_43 ⟨by decide, by decide⟩ ?_
      refine q_ixor C dX6_nobody_44 ?_
      refine q_iand C dX6_nobody_45 ?_
      exact q_iret C dX6_nobody_46 (sat_eq hz)
    · have hz := sat_t hz c5
      refine q_ldc (v := (-1000001)) (x := (-1000001)) C (by decide +kernel) dX6_nobody_18 ⟨by decide +kernel, by decide, by decide⟩ ?_
      exact q_iret C dX6_nobody_20 (sat_eq hz)
  · have hz := sat_t hz c3
    refine q_ldc (v := (-1000002)) (x := (-1000002)) C (by decide +kernel) dX6_nobody_7 ⟨by decide +kernel, by decide, by decide⟩ ?_
    exact q_iret C dX6_nobody_9 (sat_eq hz)
theorem hdX6_leaves : yX6_leaves.cls = RX6 ∧ yX6_leaves.cls ≠ "java/lang/invoke/MethodHandle" ∧ yX6_leaves.cls ≠ "java/lang/invoke/VarHandle" ∧ (parseMethodDescriptor yX6_leaves.desc).map (fun d => d.parameters.length) = some 1 := by decide +kernel
set_option maxHeartbeats 4000000 in
set_option maxRecDepth 100000 in
theorem c_X6_leaves {l : Launch} {D : va_G} {ad : Nat → Nat} {cI cZ : ClassId} (μ : Mm) (p1 : Int) {v : Int × Mm} (hz : f_X6_leaves μ p1 = some v) : CT l D vwCl (tyM cI cZ) 10 ad (EM ad cI cZ) (fun _ => True) yX6_leaves wsX6_leaves ({ frames := 5, cells := 0, slots := 0, locals := 125 } : Room) (some .int) [Vr 0, Vi p1] μ (v.1, v.2) := by
  refine CT_of [(0, Vr 0), (1, Vi p1)] stZ_t (by decide) rfl rfl (Nat.le_of_ble_eq_true rfl) rfl (fun G C => ?_)
  have i_X6 : ∀ w ∈ u_ws RX6 TX6 19, w ∈ wsX6_leaves := by decide +kernel
  have f_7 : Cond.fieldLink (yX6_leaves).cls 7 "SwanDeedsModel" "w" "[I" ∈ wsX6_leaves := by decide +kernel
  have hz := sat_of hz
  unfold f_X6_leaves at hz
  refine q_iconst C dX6_leaves_0 ⟨by decide, by decide⟩ ?_
  refine q_istore_n C [(2, Vi 1), (0, Vr 0), (1, Vi p1)] rfl (by decide) dX6_leaves_1 rfl ?_
  refine q_sub C [1, 2, 0] [(0, Vr 0), (1, Vi p1), (2, Vi 1)] rfl ?_
  refine loop_go (fun x1 => G x1.2 2 [(0, Vr 0), (1, Vi p1), (2, Vi (x1.1))] []) (sat_bind2 hz) (fun h => h) (fun x1 hz => ?_)
  refine q_iload_n C 2 rfl dX6_leaves_2 rfl ?_
  refine q_bipush C dX6_leaves_3 ⟨rfl, by decide, by decide⟩ ?_
  refine q_icmp_gt C dX6_leaves_5 (tgt := 43) (by decide) (fun c2 => ?_) (fun c2 => ?_)
  · have hz := sat_t hz c2
    have hz := sat_some hz
    refine q_sub C [] [] rfl ?_
    refine q_ldc (v := (-1000000)) (x := (-1000000)) C (by decide +kernel) dX6_leaves_43 ⟨by decide +kernel, by decide, by decide⟩ ?_
    exact q_iret C dX6_leaves_45 (sat_eq hz)
  · have hz := sat_f hz c2
    refine q_aload_n C 0 rfl dX6_leaves_8 rfl ?_
    refine q_bipush C dX6_leaves_9 ⟨rfl, by decide, by decide⟩ ?_
    obtain ⟨z4, hz4, hz⟩ := sat_bind hz
    refine q_callVv stZ_t C [Vi 114] [] (c_X6_passes x1.2 114 hz4) tO_X6 rfl gX6_leaves_X6_passes rfl ⟨rfl, rfl⟩ hdX6_passes ⟨by decide, by decide⟩ rfl (Nat.le_of_ble_eq_true rfl) dX6_leaves_11 rfl (fun _ => ?_)
    refine q_aload_n C 0 rfl dX6_leaves_14 rfl ?_
    refine q_getR tO_X6 C (i := 0) i_X6 rfl rfl (by decide) rfl f_7 dX6_leaves_15 ?_
    refine q_bipush C dX6_leaves_18 ⟨rfl, by decide, by decide⟩ ?_
    refine q_iload_n C 1 rfl dX6_leaves_20 rfl ?_
    refine q_iadd C dX6_leaves_21 ?_
    obtain ⟨c5, hz⟩ := sat_chk hz
    refine q_wald C c5 dX6_leaves_22 ?_
    refine q_aload_n C 0 rfl dX6_leaves_23 rfl ?_
    refine q_getR tO_X6 C (i := 0) i_X6 rfl rfl (by decide) rfl f_7 dX6_leaves_24 ?_
    refine q_bipush C dX6_leaves_27 ⟨rfl, by decide, by decide⟩ ?_
    refine q_iload_n C 1 rfl dX6_leaves_29 rfl ?_
    refine q_iadd C dX6_leaves_30 ?_
    obtain ⟨c6, hz⟩ := sat_chk hz
    refine q_wald C c6 dX6_leaves_31 ?_
    refine q_icmp_eq C dX6_leaves_32 (tgt := 37) (by decide) (fun c7 => ?_) (fun c7 => ?_)
    · have hz := sat_t hz c7
      refine q_iinc C 2 rfl [(2, Vi (w3 (x1.1 + 1))), (0, Vr 0), (1, Vi p1)] rfl (by decide) dX6_leaves_37 ?_
      refine q_goto C dX6_leaves_40 (tgt := 2) (by decide) ?_
      refine q_sub C [1, 2, 0] [(0, Vr 0), (1, Vi p1), (2, Vi (w3 (x1.1 + 1)))] rfl ?_
      have hz := sat_some hz
      exact hz
    · have hz := sat_f hz c7
      refine q_iload_n C 2 rfl dX6_leaves_35 rfl ?_
      have hz := sat_some hz
      exact q_iret C dX6_leaves_36 (sat_eq hz)
theorem hdX6_moves : yX6_moves.cls = RX6 ∧ yX6_moves.cls ≠ "java/lang/invoke/MethodHandle" ∧ yX6_moves.cls ≠ "java/lang/invoke/VarHandle" ∧ (parseMethodDescriptor yX6_moves.desc).map (fun d => d.parameters.length) = some 1 := by decide +kernel
set_option maxHeartbeats 4000000 in
set_option maxRecDepth 100000 in
theorem c_X6_moves {l : Launch} {D : va_G} {ad : Nat → Nat} {cI cZ : ClassId} (μ : Mm) (p1 : Int) {v : Int × Mm} (hz : f_X6_moves μ p1 = some v) : CT l D vwCl (tyM cI cZ) 10 ad (EM ad cI cZ) (fun _ => True) yX6_moves wsX6_moves ({ frames := 6, cells := 0, slots := 0, locals := 147 } : Room) (some .int) [Vr 0, Vi p1] μ (v.1, v.2) := by
  refine CT_of [(0, Vr 0), (1, Vi p1)] stZ_t (by decide) rfl rfl (Nat.le_of_ble_eq_true rfl) rfl (fun G C => ?_)
  have hz := sat_of hz
  unfold f_X6_moves at hz
  refine q_aload_n C 0 rfl dX6_moves_0 rfl ?_
  refine q_iload_n C 1 rfl dX6_moves_1 rfl ?_
  obtain ⟨z2, hz2, hz⟩ := sat_bind hz
  refine q_callVz stZ_t C [Vi p1] [] (c_X6_isSwan μ p1 hz2) tO_X6 rfl gX6_moves_X6_isSwan rfl ⟨rfl, rfl⟩ hdX6_isSwan ⟨by decide, by decide⟩ rfl (Nat.le_of_ble_eq_true rfl) dX6_moves_2 rfl (fun hb1 _ => ?_)
  refine q_if_ne C dX6_moves_5 (tgt := 11) (by decide) (fun c3 => ?_) (fun c3 => ?_)
  · have hz := sat_f hz c3
    refine q_aload_n C 0 rfl dX6_moves_11 rfl ?_
    obtain ⟨z5, hz5, hz⟩ := sat_bind hz
    refine q_callVv stZ_t C [] [] (c_X6_tries μ hz5) tO_X6 rfl gX6_moves_X6_tries rfl ⟨rfl, rfl⟩ hdX6_tries ⟨by decide, by decide⟩ rfl (Nat.le_of_ble_eq_true rfl) dX6_moves_12 rfl (fun _ => ?_)
    refine q_aload_n C 0 rfl dX6_moves_15 rfl ?_
    refine q_iload_n C 1 rfl dX6_moves_16 rfl ?_
    obtain ⟨z7, hz7, hz⟩ := sat_bind hz
    refine q_callVi stZ_t C [Vi p1] [] (c_X6_leaves z5 p1 hz7) tO_X6 rfl gX6_moves_X6_leaves rfl ⟨rfl, rfl⟩ hdX6_leaves ⟨by decide, by decide⟩ rfl (Nat.le_of_ble_eq_true rfl) dX6_moves_17 rfl (fun _ _ => ?_)
    exact q_iret C dX6_moves_20 (sat_eq hz)
  · have hz := sat_t hz c3
    refine q_ldc (v := (-1000001)) (x := (-1000001)) C (by decide +kernel) dX6_moves_8 ⟨by decide +kernel, by decide, by decide⟩ ?_
    exact q_iret C dX6_moves_10 (sat_eq hz)
theorem hdX6_evening : yX6_evening.cls = RX6 ∧ yX6_evening.cls ≠ "java/lang/invoke/MethodHandle" ∧ yX6_evening.cls ≠ "java/lang/invoke/VarHandle" ∧ (parseMethodDescriptor yX6_evening.desc).map (fun d => d.parameters.length) = some 0 := by decide +kernel
set_option maxHeartbeats 4000000 in
set_option maxRecDepth 100000 in
theorem c_X6_evening {l : Launch} {D : va_G} {ad : Nat → Nat} {cI cZ : ClassId} (μ : Mm) {v : Int × Mm} (hz : f_X6_evening μ = some v) : CT l D vwCl (tyM cI cZ) 10 ad (EM ad cI cZ) (fun _ => True) yX6_evening wsX6_evening ({ frames := 5, cells := 0, slots := 0, locals := 125 } : Room) (some .int) [Vr 0] μ (v.1, v.2) := by
  refine CT_of [(0, Vr 0)] stZ_t (by decide) rfl rfl (Nat.le_of_ble_eq_true rfl) rfl (fun G C => ?_)
  have hz := sat_of hz
  unfold f_X6_evening at hz
  refine q_aload_n C 0 rfl dX6_evening_0 rfl ?_
  obtain ⟨z2, hz2, hz⟩ := sat_bind hz
  refine q_callVz stZ_t C [] [] (c_X6_isRiver μ hz2) tO_X6 rfl gX6_evening_X6_isRiver rfl ⟨rfl, rfl⟩ hdX6_isRiver ⟨by decide, by decide⟩ rfl (Nat.le_of_ble_eq_true rfl) dX6_evening_1 rfl (fun hb1 _ => ?_)
  refine q_if_ne C dX6_evening_4 (tgt := 10) (by decide) (fun c3 => ?_) (fun c3 => ?_)
  · have hz := sat_f hz c3
    refine q_aload_n C 0 rfl dX6_evening_10 rfl ?_
    obtain ⟨z5, hz5, hz⟩ := sat_bind hz
    refine q_callVv stZ_t C [] [] (c_X6_tries μ hz5) tO_X6 rfl gX6_evening_X6_tries rfl ⟨rfl, rfl⟩ hdX6_tries ⟨by decide, by decide⟩ rfl (Nat.le_of_ble_eq_true rfl) dX6_evening_11 rfl (fun _ => ?_)
    refine q_iconst C dX6_evening_14 ⟨by decide, by decide⟩ ?_
    refine q_istore_n C [(1, Vi 0), (0, Vr 0)] rfl (by decide) dX6_evening_15 rfl ?_
    refine q_sub C [1, 0] [(0, Vr 0), (1, Vi 0)] rfl ?_
    refine loop_go (fun x6 => G x6.2 16 [(0, Vr 0), (1, Vi (x6.1))] []) (sat_bind2 hz) (fun h => h) (fun x6 hz => ?_)
    refine q_iload_n C 1 rfl dX6_evening_16 rfl ?_
    refine q_bipush C dX6_evening_17 ⟨rfl, by decide, by decide⟩ ?_
    refine q_icmp_gt C dX6_evening_19 (tgt := 49) (by decide) (fun c7 => ?_) (fun c7 => ?_)
    · have hz := sat_t hz c7
      have hz := sat_some hz
      refine q_sub C [] [] rfl ?_
      refine q_ldc (v := (-1000000)) (x := (-1000000)) C (by decide +kernel) dX6_evening_49 ⟨by decide +kernel, by decide, by decide⟩ ?_
      exact q_iret C dX6_evening_51 (sat_eq hz)
    · have hz := sat_f hz c7
      refine q_aload_n C 0 rfl dX6_evening_22 rfl ?_
      refine q_bipush C dX6_evening_23 ⟨rfl, by decide, by decide⟩ ?_
      obtain ⟨z9, hz9, hz⟩ := sat_bind hz
      refine q_callVi stZ_t C [Vi 114] [] (c_X6_ownersIn x6.2 114 hz9) tO_X6 rfl gX6_evening_X6_ownersIn rfl ⟨rfl, rfl⟩ hdX6_ownersIn ⟨by decide, by decide⟩ rfl (Nat.le_of_ble_eq_true rfl) dX6_evening_25 rfl (fun _ _ => ?_)
      obtain ⟨z11, hz11, hz⟩ := sat_bind hz
      refine q_callSi stZ_t C [Vi z9] [] (c_X6_ones x6.2 z9 hz11) gX6_evening_X6_ones rfl ⟨rfl, rfl⟩ hdX6_ones ⟨by decide, by decide⟩ rfl (Nat.le_of_ble_eq_true rfl) dX6_evening_28 rfl (fun _ _ => ?_)
      refine q_iconst C dX6_evening_31 ⟨by decide, by decide⟩ ?_
      refine q_icmp_ne C dX6_evening_32 (tgt := 37) (by decide) (fun c12 => ?_) (fun c12 => ?_)
      · have hz := sat_f hz c12
        refine q_aload_n C 0 rfl dX6_evening_37 rfl ?_
        refine q_bipush C dX6_evening_38 ⟨rfl, by decide, by decide⟩ ?_
        obtain ⟨z14, hz14, hz⟩ := sat_bind hz
        refine q_callVv stZ_t C [Vi 114] [] (c_X6_passes x6.2 114 hz14) tO_X6 rfl gX6_evening_X6_passes rfl ⟨rfl, rfl⟩ hdX6_passes ⟨by decide, by decide⟩ rfl (Nat.le_of_ble_eq_true rfl) dX6_evening_40 rfl (fun _ => ?_)
        refine q_iinc C 1 rfl [(1, Vi (w3 (x6.1 + 1))), (0, Vr 0)] rfl (by decide) dX6_evening_43 ?_
        refine q_goto C dX6_evening_46 (tgt := 16) (by decide) ?_
        refine q_sub C [1, 0] [(0, Vr 0), (1, Vi (w3 (x6.1 + 1)))] rfl ?_
        have hz := sat_some hz
        exact hz
      · have hz := sat_t hz c12
        refine q_iload_n C 1 rfl dX6_evening_35 rfl ?_
        have hz := sat_some hz
        exact q_iret C dX6_evening_36 (sat_eq hz)
  · have hz := sat_t hz c3
    refine q_ldc (v := (-1000002)) (x := (-1000002)) C (by decide +kernel) dX6_evening_7 ⟨by decide +kernel, by decide, by decide⟩ ?_
    exact q_iret C dX6_evening_9 (sat_eq hz)
theorem hdX6_stays : yX6_stays.cls = RX6 ∧ yX6_stays.cls ≠ "java/lang/invoke/MethodHandle" ∧ yX6_stays.cls ≠ "java/lang/invoke/VarHandle" ∧ (parseMethodDescriptor yX6_stays.desc).map (fun d => d.parameters.length) = some 3 := by decide +kernel
set_option maxHeartbeats 4000000 in
set_option maxRecDepth 100000 in
theorem c_X6_stays {l : Launch} {D : va_G} {ad : Nat → Nat} {cI cZ : ClassId} (μ : Mm) (p1 p2 p3 : Int) {v : Int × Mm} (hz : f_X6_stays μ p1 p2 p3 = some v) : CT l D vwCl (tyM cI cZ) 10 ad (EM ad cI cZ) (fun _ => True) yX6_stays wsX6_stays ({ frames := 5, cells := 0, slots := 0, locals := 125 } : Room) (some .int) [Vr 0, Vi p1, Vi p2, Vi p3] μ (v.1, v.2) := by
  refine CT_of [(0, Vr 0), (1, Vi p1), (2, Vi p2), (3, Vi p3)] stZ_t (by decide) rfl rfl (Nat.le_of_ble_eq_true rfl) rfl (fun G C => ?_)
  have i_X6 : ∀ w ∈ u_ws RX6 TX6 19, w ∈ wsX6_stays := by decide +kernel
  have f_7 : Cond.fieldLink (yX6_stays).cls 7 "SwanDeedsModel" "w" "[I" ∈ wsX6_stays := by decide +kernel
  have hz := sat_of hz
  unfold f_X6_stays at hz
  refine q_aload_n C 0 rfl dX6_stays_0 rfl ?_
  refine q_iload_n C 1 rfl dX6_stays_1 rfl ?_
  obtain ⟨z2, hz2, hz⟩ := sat_bind hz
  refine q_callVz stZ_t C [Vi p1] [] (c_X6_isSwan μ p1 hz2) tO_X6 rfl gX6_stays_X6_isSwan rfl ⟨rfl, rfl⟩ hdX6_isSwan ⟨by decide, by decide⟩ rfl (Nat.le_of_ble_eq_true rfl) dX6_stays_2 rfl (fun hb1 _ => ?_)
  refine q_if_eq C dX6_stays_5 (tgt := 24) (by decide) (fun c3 => ?_) (fun c3 => ?_)
  · have hz := sat_t hz c3
    refine q_ldc (v := (-1000001)) (x := (-1000001)) C (by decide +kernel) dX6_stays_24 ⟨by decide +kernel, by decide, by decide⟩ ?_
    exact q_iret C dX6_stays_26 (sat_eq hz)
  · have hz := sat_f hz c3
    refine q_aload_n C 0 rfl dX6_stays_8 rfl ?_
    refine q_iload_n C 2 rfl dX6_stays_9 rfl ?_
    obtain ⟨z5, hz5, hz⟩ := sat_bind hz
    refine q_callVz stZ_t C [Vi p2] [] (c_X6_isLawn μ p2 hz5) tO_X6 rfl gX6_stays_X6_isLawn rfl ⟨rfl, rfl⟩ hdX6_isLawn ⟨by decide, by decide⟩ rfl (Nat.le_of_ble_eq_true rfl) dX6_stays_10 rfl (fun hb4 _ => ?_)
    refine q_if_eq C dX6_stays_13 (tgt := 24) (by decide) (fun c6 => ?_) (fun c6 => ?_)
    · have hz := sat_t hz c6
      refine q_ldc (v := (-1000001)) (x := (-1000001)) C (by decide +kernel) dX6_stays_24 ⟨by decide +kernel, by decide, by decide⟩ ?_
      exact q_iret C dX6_stays_26 (sat_eq hz)
    · have hz := sat_f hz c6
      refine q_iload_n C 3 rfl dX6_stays_16 rfl ?_
      refine q_iconst C dX6_stays_17 ⟨by decide, by decide⟩ ?_
      refine q_callSz stZ_t C [Vi p3, Vi 1] [] (c_X6_isSpan μ p3 1) gX6_stays_X6_isSpan rfl ⟨rfl, rfl⟩ hdX6_isSpan ⟨by decide, by decide⟩ rfl (Nat.le_of_ble_eq_true rfl) dX6_stays_18 rfl (fun hb7 _ => ?_)
      refine q_if_ne C dX6_stays_21 (tgt := 27) (by decide) (fun c8 => ?_) (fun c8 => ?_)
      · have hz := sat_f hz c8
        refine q_aload_n C 0 rfl dX6_stays_27 rfl ?_
        obtain ⟨z10, hz10, hz⟩ := sat_bind hz
        refine q_callVv stZ_t C [] [] (c_X6_tries μ hz10) tO_X6 rfl gX6_stays_X6_tries rfl ⟨rfl, rfl⟩ hdX6_tries ⟨by decide, by decide⟩ rfl (Nat.le_of_ble_eq_true rfl) dX6_stays_28 rfl (fun _ => ?_)
        refine q_iconst C dX6_stays_31 ⟨by decide, by decide⟩ ?_
        refine q_istore C [(4, Vi 0), (0, Vr 0), (1, Vi p1), (2, Vi p2), (3, Vi p3)] rfl (by decide) dX6_stays_32 ?_
        refine q_iconst C dX6_stays_34 ⟨by decide, by decide⟩ ?_
        refine q_istore C [(5, Vi 0), (4, Vi 0), (0, Vr 0), (1, Vi p1), (2, Vi p2), (3, Vi p3)] rfl (by decide) dX6_stays_35 ?_
        refine q_sub C [2, 3, 4, 5, 1, 0] [(0, Vr 0), (1, Vi p1), (2, Vi p2), (3, Vi p3), (4, Vi 0), (5, Vi 0)] rfl ?_
        refine loop_go (fun x11 => G x11.2.2 37 [(0, Vr 0), (1, Vi p1), (2, Vi p2), (3, Vi p3), (4, Vi (x11.1)), (5, Vi (x11.2.1))] []) (sat_bind2 hz) (fun h => h) (fun x11 hz => ?_)
        refine q_iload C 5 rfl dX6_stays_37 ?_
        refine q_iload_n C 3 rfl dX6_stays_39 rfl ?_
        refine q_icmp_ge C dX6_stays_40 (tgt := 78) (by decide) (fun c12 => ?_) (fun c12 => ?_)
        · have hz := sat_t hz c12
          have hz := sat_some hz
          refine q_sub C [4] [(4, Vi (x11.1))] rfl ?_
          refine q_iload C 0 rfl dX6_stays_78 ?_
          exact q_iret C dX6_stays_80 (sat_eq hz)
        · have hz := sat_f hz c12
          refine q_aload_n C 0 rfl dX6_stays_43 rfl ?_
          refine q_bipush C dX6_stays_44 ⟨rfl, by decide, by decide⟩ ?_
          obtain ⟨z14, hz14, hz⟩ := sat_bind hz
          refine q_callVv stZ_t C [Vi 114] [] (c_X6_passes x11.2.2 114 hz14) tO_X6 rfl gX6_stays_X6_passes rfl ⟨rfl, rfl⟩ hdX6_passes ⟨by decide, by decide⟩ rfl (Nat.le_of_ble_eq_true rfl) dX6_stays_46 rfl (fun _ => ?_)
          refine q_iload C 4 rfl dX6_stays_49 ?_
          refine q_aload_n C 0 rfl dX6_stays_51 rfl ?_
          refine q_getR tO_X6 C (i := 0) i_X6 rfl rfl (by decide) rfl f_7 dX6_stays_52 ?_
          refine q_bipush C dX6_stays_55 ⟨rfl, by decide, by decide⟩ ?_
          refine q_iload_n C 1 rfl dX6_stays_57 rfl ?_
          refine q_iadd C dX6_stays_58 ?_
          obtain ⟨c15, hz⟩ := sat_chk hz
          refine q_wald C c15 dX6_stays_59 ?_
          refine q_iload_n C 2 rfl dX6_stays_60 rfl ?_
          refine q_icmp_ne C dX6_stays_61 (tgt := 68) (by decide) (fun c16 => ?_) (fun c16 => ?_)
          · have hz := sat_f hz c16
            refine q_iconst C dX6_stays_68 ⟨by decide, by decide⟩ ?_
            refine q_iadd C dX6_stays_69 ?_
            refine q_istore C [(4, Vi (w3 (x11.1 + 0))), (0, Vr 0), (1, Vi p1), (2, Vi p2), (3, Vi p3), (5, Vi (x11.2.1))] rfl (by decide) dX6_stays_70 ?_
            refine q_iinc C 5 rfl [(5, Vi (w3 (x11.2.1 + 1))), (4, Vi (w3 (x11.1 + 0))), (0, Vr 0), (1, Vi p1), (2, Vi p2), (3, Vi p3)] rfl (by decide) dX6_stays_72 ?_
            refine q_goto C dX6_stays_75 (tgt := 37) (by decide) ?_
            refine q_sub C [2, 3, 4, 5, 1, 0] [(0, Vr 0), (1, Vi p1), (2, Vi p2), (3, Vi p3), (4, Vi (w3 (x11.1 + 0))), (5, Vi (w3 (x11.2.1 + 1)))] rfl ?_
            have hz := sat_some hz
            exact hz
          · have hz := sat_t hz c16
            refine q_iconst C dX6_stays_64 ⟨by decide, by decide⟩ ?_
            refine q_goto C dX6_stays_65 (tgt := 69) (by decide) ?_
            refine q_iadd C dX6_stays_69 ?_
            refine q_istore C [(4, Vi (w3 (x11.1 + 1))), (0, Vr 0), (1, Vi p1), (2, Vi p2), (3, Vi p3), (5, Vi (x11.2.1))] rfl (by decide) dX6_stays_70 ?_
            refine q_iinc C 5 rfl [(5, Vi (w3 (x11.2.1 + 1))), (4, Vi (w3 (x11.1 + 1))), (0, Vr 0), (1, Vi p1), (2, Vi p2), (3, Vi p3)] rfl (by decide) dX6_stays_72 ?_
            refine q_goto C dX6_stays_75 (tgt := 37) (by decide) ?_
            refine q_sub C [2, 3, 4, 5, 1, 0] [(0, Vr 0), (1, Vi p1), (2, Vi p2), (3, Vi p3), (4, Vi (w3 (x11.1 + 1))), (5, Vi (w3 (x11.2.1 + 1)))] rfl ?_
            have hz := sat_some hz
            exact hz
      · have hz := sat_t hz c8
        refine q_ldc (v := (-1000001)) (x := (-1000001)) C (by decide +kernel) dX6_stays_24 ⟨by decide +kernel, by decide, by decide⟩ ?_
        exact q_iret C dX6_stays_26 (sat_eq hz)
theorem hdX6_fewest : yX6_fewest.cls = RX6 ∧ yX6_fewest.cls ≠ "java/lang/invoke/MethodHandle" ∧ yX6_fewest.cls ≠ "java/lang/invoke/VarHandle" ∧ (parseMethodDescriptor yX6_fewest.desc).map (fun d => d.parameters.length) = some 4 := by decide +kernel
set_option maxHeartbeats 4000000 in
set_option maxRecDepth 100000 in
theorem c_X6_fewest {l : Launch} {D : va_G} {ad : Nat → Nat} {cI cZ : ClassId} (μ : Mm) (p1 p2 p3 p4 : Int) {v : Int × Mm} (hz : f_X6_fewest μ p1 p2 p3 p4 = some v) : CT l D vwCl (tyM cI cZ) 10 ad (EM ad cI cZ) (fun _ => True) yX6_fewest wsX6_fewest ({ frames := 5, cells := 0, slots := 0, locals := 125 } : Room) (some .int) [Vr 0, Vi p1, Vi p2, Vi p3, Vi p4] μ (v.1, v.2) := by
  refine CT_of [(0, Vr 0), (1, Vi p1), (2, Vi p2), (3, Vi p3), (4, Vi p4)] stZ_t (by decide) rfl rfl (Nat.le_of_ble_eq_true rfl) rfl (fun G C => ?_)
  have i_X6 : ∀ w ∈ u_ws RX6 TX6 19, w ∈ wsX6_fewest := by decide +kernel
  have f_7 : Cond.fieldLink (yX6_fewest).cls 7 "SwanDeedsModel" "w" "[I" ∈ wsX6_fewest := by decide +kernel
  have hz := sat_of hz
  unfold f_X6_fewest at hz
  refine q_ldc (v := (-1000000)) (x := (-1000000)) C (by decide +kernel) dX6_fewest_0 ⟨by decide +kernel, by decide, by decide⟩ ?_
  refine q_istore C [(5, Vi (-1000000)), (0, Vr 0), (1, Vi p1), (2, Vi p2), (3, Vi p3), (4, Vi p4)] rfl (by decide) dX6_fewest_2 ?_
  refine q_iconst C dX6_fewest_4 ⟨by decide, by decide⟩ ?_
  refine q_istore C [(6, Vi 0), (5, Vi (-1000000)), (0, Vr 0), (1, Vi p1), (2, Vi p2), (3, Vi p3), (4, Vi p4)] rfl (by decide) dX6_fewest_5 ?_
  refine q_sub C [2, 3, 4, 5, 6, 1, 0] [(0, Vr 0), (1, Vi p1), (2, Vi p2), (3, Vi p3), (4, Vi p4), (5, Vi (-1000000)), (6, Vi 0)] rfl ?_
  refine loop_go (fun x1 => G x1.2.2 7 [(0, Vr 0), (1, Vi p1), (2, Vi p2), (3, Vi p3), (4, Vi p4), (5, Vi (x1.1)), (6, Vi (x1.2.1))] []) (sat_bind2 hz) (fun h => h) (fun x1 hz => ?_)
  refine q_iload C 6 rfl dX6_fewest_7 ?_
  refine q_iconst C dX6_fewest_9 ⟨by decide, by decide⟩ ?_
  refine q_aload_n C 0 rfl dX6_fewest_10 rfl ?_
  refine q_getR tO_X6 C (i := 0) i_X6 rfl rfl (by decide) rfl f_7 dX6_fewest_11 ?_
  refine q_bipush C dX6_fewest_14 ⟨rfl, by decide, by decide⟩ ?_
  obtain ⟨c2, hz⟩ := sat_chk hz
  refine q_wald C c2 dX6_fewest_16 ?_
  refine q_iload C 4 rfl dX6_fewest_17 ?_
  obtain ⟨v3, hv3, hz⟩ := sat_bnd hz
  have Jv3 : G x1.2.2 27 [(0, Vr 0), (1, Vi p1), (2, Vi p2), (3, Vi p3), (4, Vi p4), (5, Vi (x1.1)), (6, Vi (x1.2.1))] [Vi v3, Vi (rdW x1.2.2 24), Vi 1, Vi (x1.2.1)] := by
    refine q_isub C dX6_fewest_27 ?_
    refine q_ishl C dX6_fewest_28 ?_
    refine q_icmp_ge C dX6_fewest_29 (tgt := 194) (by decide) (fun c4 => ?_) (fun c4 => ?_)
    · have hz := sat_t hz c4
      have hz := sat_some hz
      refine q_sub C [5] [(5, Vi (x1.1))] rfl ?_
      refine q_iload C 0 rfl dX6_fewest_194 ?_
      exact q_iret C dX6_fewest_196 (sat_eq hz)
    · have hz := sat_f hz c4
      refine q_iload C 4 rfl dX6_fewest_32 ?_
      refine q_if_eq C dX6_fewest_34 (tgt := 50) (by decide) (fun c5 => ?_) (fun c5 => ?_)
      · have hz := sat_t hz c5
        refine q_iload C 5 rfl dX6_fewest_50 ?_
        refine q_ldc (v := (-1000000)) (x := (-1000000)) C (by decide +kernel) dX6_fewest_52 ⟨by decide +kernel, by decide, by decide⟩ ?_
        refine q_icmp_eq C dX6_fewest_54 (tgt := 70) (by decide) (fun c6 => ?_) (fun c6 => ?_)
        · have hz := sat_t hz c6
          refine q_aload_n C 0 rfl dX6_fewest_70 rfl ?_
          obtain ⟨z8, hz8, hz⟩ := sat_bind hz
          refine q_callVv stZ_t C [] [] (c_X6_tries x1.2.2 hz8) tO_X6 rfl gX6_fewest_X6_tries rfl ⟨rfl, rfl⟩ hdX6_tries ⟨by decide, by decide⟩ rfl (Nat.le_of_ble_eq_true rfl) dX6_fewest_71 rfl (fun _ => ?_)
          refine q_aload_n C 0 rfl dX6_fewest_74 rfl ?_
          refine q_getR tO_X6 C (i := 0) i_X6 rfl rfl (by decide) rfl f_7 dX6_fewest_75 ?_
          refine q_bipush C dX6_fewest_78 ⟨rfl, by decide, by decide⟩ ?_
          refine q_dup2 C dX6_fewest_80 rfl rfl ?_
          obtain ⟨c9, hz⟩ := sat_chk hz
          refine q_wald C c9 dX6_fewest_81 ?_
          refine q_iload C 4 rfl dX6_fewest_82 ?_
          obtain ⟨v10, hv10, hz⟩ := sat_bnd hz
          have Jv10 : G z8 93 [(0, Vr 0), (1, Vi p1), (2, Vi p2), (3, Vi p3), (4, Vi p4), (5, Vi (x1.1)), (6, Vi (x1.2.1))] [Vi v10, Vi (rdW z8 124), Vi 124, Vr 1] := by
            refine q_ior C dX6_fewest_93 ?_
            obtain ⟨c11, hz⟩ := sat_chk hz
            obtain ⟨m12, hm12, hz⟩ := sat_bnd hz
            refine q_wast C c11 hm12 dX6_fewest_94 ?_
            refine q_iconst C dX6_fewest_95 ⟨by decide, by decide⟩ ?_
            refine q_istore C [(7, Vi 0), (0, Vr 0), (1, Vi p1), (2, Vi p2), (3, Vi p3), (4, Vi p4), (5, Vi (x1.1)), (6, Vi (x1.2.1))] rfl (by decide) dX6_fewest_96 ?_
            refine q_sub C [1, 2, 3, 4, 5, 6, 7, 0] [(0, Vr 0), (1, Vi p1), (2, Vi p2), (3, Vi p3), (4, Vi p4), (5, Vi (x1.1)), (6, Vi (x1.2.1)), (7, Vi 0)] rfl ?_
            refine loop_go (fun x13 => G x13.2 98 [(0, Vr 0), (1, Vi p1), (2, Vi p2), (3, Vi p3), (4, Vi p4), (5, Vi (x1.1)), (6, Vi (x1.2.1)), (7, Vi (x13.1))] []) (sat_bind2 hz) (fun h => h) (fun x13 hz => ?_)
            refine q_iload C 7 rfl dX6_fewest_98 ?_
            refine q_aload_n C 0 rfl dX6_fewest_100 rfl ?_
            refine q_getR tO_X6 C (i := 0) i_X6 rfl rfl (by decide) rfl f_7 dX6_fewest_101 ?_
            refine q_bipush C dX6_fewest_104 ⟨rfl, by decide, by decide⟩ ?_
            obtain ⟨c14, hz⟩ := sat_chk hz
            refine q_wald C c14 dX6_fewest_106 ?_
            refine q_icmp_ge C dX6_fewest_107 (tgt := 145) (by decide) (fun c15 => ?_) (fun c15 => ?_)
            · have hz := sat_t hz c15
              have hz := sat_some hz
              refine q_sub C [0, 1, 2, 3, 4, 5, 6] [(0, Vr 0), (1, Vi p1), (2, Vi p2), (3, Vi p3), (4, Vi p4), (5, Vi (x1.1)), (6, Vi (x1.2.1))] rfl ?_
              refine q_iconst C dX6_fewest_145 ⟨by decide, by decide⟩ ?_
              refine q_istore C [(7, Vi 0), (0, Vr 0), (1, Vi p1), (2, Vi p2), (3, Vi p3), (4, Vi p4), (5, Vi (x1.1)), (6, Vi (x1.2.1))] rfl (by decide) dX6_fewest_146 ?_
              refine q_sub C [1, 2, 3, 4, 5, 6, 7, 0] [(0, Vr 0), (1, Vi p1), (2, Vi p2), (3, Vi p3), (4, Vi p4), (5, Vi (x1.1)), (6, Vi (x1.2.1)), (7, Vi 0)] rfl ?_
              refine loop_go (fun x16 => G x16.2 148 [(0, Vr 0), (1, Vi p1), (2, Vi p2), (3, Vi p3), (4, Vi p4), (5, Vi (x1.1)), (6, Vi (x1.2.1)), (7, Vi (x16.1))] []) (sat_bind2 hz) (fun h => h) (fun x16 hz => ?_)
              refine q_iload C 7 rfl dX6_fewest_148 ?_
              refine q_iload_n C 3 rfl dX6_fewest_150 rfl ?_
              refine q_icmp_ge C dX6_fewest_151 (tgt := 166) (by decide) (fun c17 => ?_) (fun c17 => ?_)
              · have hz := sat_t hz c17
                have hz := sat_some hz
                refine q_sub C [0, 1, 2, 3, 4, 5, 6] [(0, Vr 0), (1, Vi p1), (2, Vi p2), (3, Vi p3), (4, Vi p4), (5, Vi (x1.1)), (6, Vi (x1.2.1))] rfl ?_
                refine q_aload_n C 0 rfl dX6_fewest_166 rfl ?_
                refine q_getR tO_X6 C (i := 0) i_X6 rfl rfl (by decide) rfl f_7 dX6_fewest_167 ?_
                refine q_bipush C dX6_fewest_170 ⟨rfl, by decide, by decide⟩ ?_
                refine q_iload_n C 1 rfl dX6_fewest_172 rfl ?_
                refine q_iadd C dX6_fewest_173 ?_
                obtain ⟨c18, hz⟩ := sat_chk hz
                refine q_wald C c18 dX6_fewest_174 ?_
                refine q_iload_n C 2 rfl dX6_fewest_175 rfl ?_
                refine q_icmp_ne C dX6_fewest_176 (tgt := 184) (by decide) (fun c19 => ?_) (fun c19 => ?_)
                · have hz := sat_f hz c19
                  refine q_iload C 5 rfl dX6_fewest_184 ?_
                  refine q_istore C [(5, Vi (x1.1)), (0, Vr 0), (1, Vi p1), (2, Vi p2), (3, Vi p3), (4, Vi p4), (6, Vi (x1.2.1))] rfl (by decide) dX6_fewest_186 ?_
                  refine q_iinc C 6 rfl [(6, Vi (w3 (x1.2.1 + 1))), (5, Vi (x1.1)), (0, Vr 0), (1, Vi p1), (2, Vi p2), (3, Vi p3), (4, Vi p4)] rfl (by decide) dX6_fewest_188 ?_
                  refine q_goto C dX6_fewest_191 (tgt := 7) (by decide) ?_
                  refine q_sub C [2, 3, 4, 5, 6, 1, 0] [(0, Vr 0), (1, Vi p1), (2, Vi p2), (3, Vi p3), (4, Vi p4), (5, Vi (x1.1)), (6, Vi (w3 (x1.2.1 + 1)))] rfl ?_
                  have hz := sat_some hz
                  exact hz
                · have hz := sat_t hz c19
                  refine q_iload C 6 rfl dX6_fewest_179 ?_
                  refine q_goto C dX6_fewest_181 (tgt := 186) (by decide) ?_
                  refine q_istore C [(5, Vi (x1.2.1)), (0, Vr 0), (1, Vi p1), (2, Vi p2), (3, Vi p3), (4, Vi p4), (6, Vi (x1.2.1))] rfl (by decide) dX6_fewest_186 ?_
                  refine q_iinc C 6 rfl [(6, Vi (w3 (x1.2.1 + 1))), (5, Vi (x1.2.1)), (0, Vr 0), (1, Vi p1), (2, Vi p2), (3, Vi p3), (4, Vi p4)] rfl (by decide) dX6_fewest_188 ?_
                  refine q_goto C dX6_fewest_191 (tgt := 7) (by decide) ?_
                  refine q_sub C [2, 3, 4, 5, 6, 1, 0] [(0, Vr 0), (1, Vi p1), (2, Vi p2), (3, Vi p3), (4, Vi p4), (5, Vi (x1.2.1)), (6, Vi (w3 (x1.2.1 + 1)))] rfl ?_
                  have hz := sat_some hz
                  exact hz
              · have hz := sat_f hz c17
                refine q_aload_n C 0 rfl dX6_fewest_154 rfl ?_
                refine q_bipush C dX6_fewest_155 ⟨rfl, by decide, by decide⟩ ?_
                obtain ⟨z21, hz21, hz⟩ := sat_bind hz
                refine q_callVv stZ_t C [Vi 114] [] (c_X6_passes x16.2 114 hz21) tO_X6 rfl gX6_fewest_X6_passes rfl ⟨rfl, rfl⟩ hdX6_passes ⟨by decide, by decide⟩ rfl (Nat.le_of_ble_eq_true rfl) dX6_fewest_157 rfl (fun _ => ?_)
                refine q_iinc C 7 rfl [(7, Vi (w3 (x16.1 + 1))), (0, Vr 0), (1, Vi p1), (2, Vi p2), (3, Vi p3), (4, Vi p4), (5, Vi (x1.1)), (6, Vi (x1.2.1))] rfl (by decide) dX6_fewest_160 ?_
                refine q_goto C dX6_fewest_163 (tgt := 148) (by decide) ?_
                refine q_sub C [1, 2, 3, 4, 5, 6, 7, 0] [(0, Vr 0), (1, Vi p1), (2, Vi p2), (3, Vi p3), (4, Vi p4), (5, Vi (x1.1)), (6, Vi (x1.2.1)), (7, Vi (w3 (x16.1 + 1)))] rfl ?_
                have hz := sat_some hz
                exact hz
            · have hz := sat_f hz c15
              refine q_aload_n C 0 rfl dX6_fewest_110 rfl ?_
              refine q_bipush C dX6_fewest_111 ⟨rfl, by decide, by decide⟩ ?_
              refine q_iload C 7 rfl dX6_fewest_113 ?_
              refine q_iload C 4 rfl dX6_fewest_115 ?_
              refine q_if_ne C dX6_fewest_117 (tgt := 135) (by decide) (fun c25 => ?_) (fun c25 => ?_)
              · have hz := sat_f hz c25
                refine q_iconst C dX6_fewest_135 ⟨by decide, by decide⟩ ?_
                obtain ⟨z27, hz27, hz⟩ := sat_bind hz
                refine q_callVv stZ_t C [Vi 114, Vi (x13.1), Vi 0] [] (c_X6_throwsOn x13.2 114 x13.1 0 hz27) tO_X6 rfl gX6_fewest_X6_throwsOn rfl ⟨rfl, rfl⟩ hdX6_throwsOn ⟨by decide, by decide⟩ rfl (Nat.le_of_ble_eq_true rfl) dX6_fewest_136 rfl (fun _ => ?_)
                refine q_iinc C 7 rfl [(7, Vi (w3 (x13.1 + 1))), (0, Vr 0), (1, Vi p1), (2, Vi p2), (3, Vi p3), (4, Vi p4), (5, Vi (x1.1)), (6, Vi (x1.2.1))] rfl (by decide) dX6_fewest_139 ?_
                refine q_goto C dX6_fewest_142 (tgt := 98) (by decide) ?_
                refine q_sub C [1, 2, 3, 4, 5, 6, 7, 0] [(0, Vr 0), (1, Vi p1), (2, Vi p2), (3, Vi p3), (4, Vi p4), (5, Vi (x1.1)), (6, Vi (x1.2.1)), (7, Vi (w3 (x13.1 + 1)))] rfl ?_
                have hz := sat_some hz
                exact hz
              · have hz := sat_t hz c25
                refine q_iload C 6 rfl dX6_fewest_120 ?_
                refine q_iload C 7 rfl dX6_fewest_122 ?_
                refine q_callSz stZ_t C [Vi (x1.2.1), Vi (x13.1)] [Vi (x13.1), Vi 114, Vr 0] (c_X6_has x13.2 x1.2.1 x13.1) gX6_fewest_X6_has rfl ⟨rfl, rfl⟩ hdX6_has ⟨by decide, by decide⟩ rfl (Nat.le_of_ble_eq_true rfl) dX6_fewest_124 rfl (fun hb28 _ => ?_)
                refine q_if_eq C dX6_fewest_127 (tgt := 135) (by decide) (fun c29 => ?_) (fun c29 => ?_)
                · have hz := sat_t hz c29
                  refine q_iconst C dX6_fewest_135 ⟨by decide, by decide⟩ ?_
                  obtain ⟨z31, hz31, hz⟩ := sat_bind hz
                  refine q_callVv stZ_t C [Vi 114, Vi (x13.1), Vi 0] [] (c_X6_throwsOn x13.2 114 x13.1 0 hz31) tO_X6 rfl gX6_fewest_X6_throwsOn rfl ⟨rfl, rfl⟩ hdX6_throwsOn ⟨by decide, by decide⟩ rfl (Nat.le_of_ble_eq_true rfl) dX6_fewest_136 rfl (fun _ => ?_)
                  refine q_iinc C 7 rfl [(7, Vi (w3 (x13.1 + 1))), (0, Vr 0), (1, Vi p1), (2, Vi p2), (3, Vi p3), (4, Vi p4), (5, Vi (x1.1)), (6, Vi (x1.2.1))] rfl (by decide) dX6_fewest_139 ?_
                  refine q_goto C dX6_fewest_142 (tgt := 98) (by decide) ?_
                  refine q_sub C [1, 2, 3, 4, 5, 6, 7, 0] [(0, Vr 0), (1, Vi p1), (2, Vi p2), (3, Vi p3), (4, Vi p4), (5, Vi (x1.1)), (6, Vi (x1.2.1)), (7, Vi (w3 (x13.1 + 1)))] rfl ?_
                  have hz := sat_some hz
                  exact hz
                · have hz := sat_f hz c29
                  refine q_bipush C dX6_fewest_130 ⟨rfl, by decide, by decide⟩ ?_
                  refine q_goto C dX6_fewest_132 (tgt := 136) (by decide) ?_
                  obtain ⟨z33, hz33, hz⟩ := sat_bind hz
                  refine q_callVv stZ_t C [Vi 114, Vi (x13.1), Vi 9] [] (c_X6_throwsOn x13.2 114 x13.1 9 hz33) tO_X6 rfl gX6_fewest_X6_throwsOn rfl ⟨rfl, rfl⟩ hdX6_throwsOn ⟨by decide, by decide⟩ rfl (Nat.le_of_ble_eq_true rfl) dX6_fewest_136 rfl (fun _ => ?_)
                  refine q_iinc C 7 rfl [(7, Vi (w3 (x13.1 + 1))), (0, Vr 0), (1, Vi p1), (2, Vi p2), (3, Vi p3), (4, Vi p4), (5, Vi (x1.1)), (6, Vi (x1.2.1))] rfl (by decide) dX6_fewest_139 ?_
                  refine q_goto C dX6_fewest_142 (tgt := 98) (by decide) ?_
                  refine q_sub C [1, 2, 3, 4, 5, 6, 7, 0] [(0, Vr 0), (1, Vi p1), (2, Vi p2), (3, Vi p3), (4, Vi p4), (5, Vi (x1.1)), (6, Vi (x1.2.1)), (7, Vi (w3 (x13.1 + 1)))] rfl ?_
                  have hz := sat_some hz
                  exact hz
          have hz := hv10.symm
          refine q_if_eq C dX6_fewest_84 (tgt := 92) (by decide) (fun c42 => ?_) (fun c42 => ?_)
          · have hz := eq_t hz c42
            refine q_iconst C dX6_fewest_92 ⟨by decide, by decide⟩ ?_
            have hz : _ = v10 := hz
            subst hz
            exact Jv10
          · have hz := eq_f hz c42
            refine q_iload C 6 rfl dX6_fewest_87 ?_
            refine q_goto C dX6_fewest_89 (tgt := 93) (by decide) ?_
            have hz : _ = v10 := hz
            subst hz
            exact Jv10
        · have hz := sat_f hz c6
          refine q_iload C 6 rfl dX6_fewest_57 ?_
          obtain ⟨z44, hz44, hz⟩ := sat_bind hz
          refine q_callSi stZ_t C [Vi (x1.2.1)] [] (c_X6_ones x1.2.2 x1.2.1 hz44) gX6_fewest_X6_ones rfl ⟨rfl, rfl⟩ hdX6_ones ⟨by decide, by decide⟩ rfl (Nat.le_of_ble_eq_true rfl) dX6_fewest_59 rfl (fun _ _ => ?_)
          refine q_iload C 5 rfl dX6_fewest_62 ?_
          obtain ⟨z46, hz46, hz⟩ := sat_bind hz
          refine q_callSi stZ_t C [Vi (x1.1)] [Vi z44] (c_X6_ones x1.2.2 x1.1 hz46) gX6_fewest_X6_ones rfl ⟨rfl, rfl⟩ hdX6_ones ⟨by decide, by decide⟩ rfl (Nat.le_of_ble_eq_true rfl) dX6_fewest_64 rfl (fun _ _ => ?_)
          refine q_icmp_ge C dX6_fewest_67 (tgt := 188) (by decide) (fun c47 => ?_) (fun c47 => ?_)
          · have hz := sat_t hz c47
            refine q_iinc C 6 rfl [(6, Vi (w3 (x1.2.1 + 1))), (0, Vr 0), (1, Vi p1), (2, Vi p2), (3, Vi p3), (4, Vi p4), (5, Vi (x1.1))] rfl (by decide) dX6_fewest_188 ?_
            refine q_goto C dX6_fewest_191 (tgt := 7) (by decide) ?_
            refine q_sub C [1, 2, 3, 4, 5, 6, 0] [(0, Vr 0), (1, Vi p1), (2, Vi p2), (3, Vi p3), (4, Vi p4), (5, Vi (x1.1)), (6, Vi (w3 (x1.2.1 + 1)))] rfl ?_
            have hz := sat_some hz
            exact hz
          · have hz := sat_f hz c47
            refine q_aload_n C 0 rfl dX6_fewest_70 rfl ?_
            obtain ⟨z49, hz49, hz⟩ := sat_bind hz
            refine q_callVv stZ_t C [] [] (c_X6_tries x1.2.2 hz49) tO_X6 rfl gX6_fewest_X6_tries rfl ⟨rfl, rfl⟩ hdX6_tries ⟨by decide, by decide⟩ rfl (Nat.le_of_ble_eq_true rfl) dX6_fewest_71 rfl (fun _ => ?_)
            refine q_aload_n C 0 rfl dX6_fewest_74 rfl ?_
            refine q_getR tO_X6 C (i := 0) i_X6 rfl rfl (by decide) rfl f_7 dX6_fewest_75 ?_
            refine q_bipush C dX6_fewest_78 ⟨rfl, by decide, by decide⟩ ?_
            refine q_dup2 C dX6_fewest_80 rfl rfl ?_
            obtain ⟨c50, hz⟩ := sat_chk hz
            refine q_wald C c50 dX6_fewest_81 ?_
            refine q_iload C 4 rfl dX6_fewest_82 ?_
            obtain ⟨v51, hv51, hz⟩ := sat_bnd hz
            have Jv51 : G z49 93 [(0, Vr 0), (1, Vi p1), (2, Vi p2), (3, Vi p3), (4, Vi p4), (5, Vi (x1.1)), (6, Vi (x1.2.1))] [Vi v51, Vi (rdW z49 124), Vi 124, Vr 1] := by
              refine q_ior C dX6_fewest_93 ?_
              obtain ⟨c52, hz⟩ := sat_chk hz
              obtain ⟨m53, hm53, hz⟩ := sat_bnd hz
              refine q_wast C c52 hm53 dX6_fewest_94 ?_
              refine q_iconst C dX6_fewest_95 ⟨by decide, by decide⟩ ?_
              refine q_istore C [(7, Vi 0), (0, Vr 0), (1, Vi p1), (2, Vi p2), (3, Vi p3), (4, Vi p4), (5, Vi (x1.1)), (6, Vi (x1.2.1))] rfl (by decide) dX6_fewest_96 ?_
              refine q_sub C [1, 2, 3, 4, 5, 6, 7, 0] [(0, Vr 0), (1, Vi p1), (2, Vi p2), (3, Vi p3), (4, Vi p4), (5, Vi (x1.1)), (6, Vi (x1.2.1)), (7, Vi 0)] rfl ?_
              refine loop_go (fun x54 => G x54.2 98 [(0, Vr 0), (1, Vi p1), (2, Vi p2), (3, Vi p3), (4, Vi p4), (5, Vi (x1.1)), (6, Vi (x1.2.1)), (7, Vi (x54.1))] []) (sat_bind2 hz) (fun h => h) (fun x54 hz => ?_)
              refine q_iload C 7 rfl dX6_fewest_98 ?_
              refine q_aload_n C 0 rfl dX6_fewest_100 rfl ?_
              refine q_getR tO_X6 C (i := 0) i_X6 rfl rfl (by decide) rfl f_7 dX6_fewest_101 ?_
              refine q_bipush C dX6_fewest_104 ⟨rfl, by decide, by decide⟩ ?_
              obtain ⟨c55, hz⟩ := sat_chk hz
              refine q_wald C c55 dX6_fewest_106 ?_
              refine q_icmp_ge C dX6_fewest_107 (tgt := 145) (by decide) (fun c56 => ?_) (fun c56 => ?_)
              · have hz := sat_t hz c56
                have hz := sat_some hz
                refine q_sub C [0, 1, 2, 3, 4, 5, 6] [(0, Vr 0), (1, Vi p1), (2, Vi p2), (3, Vi p3), (4, Vi p4), (5, Vi (x1.1)), (6, Vi (x1.2.1))] rfl ?_
                refine q_iconst C dX6_fewest_145 ⟨by decide, by decide⟩ ?_
                refine q_istore C [(7, Vi 0), (0, Vr 0), (1, Vi p1), (2, Vi p2), (3, Vi p3), (4, Vi p4), (5, Vi (x1.1)), (6, Vi (x1.2.1))] rfl (by decide) dX6_fewest_146 ?_
                refine q_sub C [1, 2, 3, 4, 5, 6, 7, 0] [(0, Vr 0), (1, Vi p1), (2, Vi p2), (3, Vi p3), (4, Vi p4), (5, Vi (x1.1)), (6, Vi (x1.2.1)), (7, Vi 0)] rfl ?_
                refine loop_go (fun x57 => G x57.2 148 [(0, Vr 0), (1, Vi p1), (2, Vi p2), (3, Vi p3), (4, Vi p4), (5, Vi (x1.1)), (6, Vi (x1.2.1)), (7, Vi (x57.1))] []) (sat_bind2 hz) (fun h => h) (fun x57 hz => ?_)
                refine q_iload C 7 rfl dX6_fewest_148 ?_
                refine q_iload_n C 3 rfl dX6_fewest_150 rfl ?_
                refine q_icmp_ge C dX6_fewest_151 (tgt := 166) (by decide) (fun c58 => ?_) (fun c58 => ?_)
                · have hz := sat_t hz c58
                  have hz := sat_some hz
                  refine q_sub C [0, 1, 2, 3, 4, 5, 6] [(0, Vr 0), (1, Vi p1), (2, Vi p2), (3, Vi p3), (4, Vi p4), (5, Vi (x1.1)), (6, Vi (x1.2.1))] rfl ?_
                  refine q_aload_n C 0 rfl dX6_fewest_166 rfl ?_
                  refine q_getR tO_X6 C (i := 0) i_X6 rfl rfl (by decide) rfl f_7 dX6_fewest_167 ?_
                  refine q_bipush C dX6_fewest_170 ⟨rfl, by decide, by decide⟩ ?_
                  refine q_iload_n C 1 rfl dX6_fewest_172 rfl ?_
                  refine q_iadd C dX6_fewest_173 ?_
                  obtain ⟨c59, hz⟩ := sat_chk hz
                  refine q_wald C c59 dX6_fewest_174 ?_
                  refine q_iload_n C 2 rfl dX6_fewest_175 rfl ?_
                  refine q_icmp_ne C dX6_fewest_176 (tgt := 184) (by decide) (fun c60 => ?_) (fun c60 => ?_)
                  · have hz := sat_f hz c60
                    refine q_iload C 5 rfl dX6_fewest_184 ?_
                    refine q_istore C [(5, Vi (x1.1)), (0, Vr 0), (1, Vi p1), (2, Vi p2), (3, Vi p3), (4, Vi p4), (6, Vi (x1.2.1))] rfl (by decide) dX6_fewest_186 ?_
                    refine q_iinc C 6 rfl [(6, Vi (w3 (x1.2.1 + 1))), (5, Vi (x1.1)), (0, Vr 0), (1, Vi p1), (2, Vi p2), (3, Vi p3), (4, Vi p4)] rfl (by decide) dX6_fewest_188 ?_
                    refine q_goto C dX6_fewest_191 (tgt := 7) (by decide) ?_
                    refine q_sub C [2, 3, 4, 5, 6, 1, 0] [(0, Vr 0), (1, Vi p1), (2, Vi p2), (3, Vi p3), (4, Vi p4), (5, Vi (x1.1)), (6, Vi (w3 (x1.2.1 + 1)))] rfl ?_
                    have hz := sat_some hz
                    exact hz
                  · have hz := sat_t hz c60
                    refine q_iload C 6 rfl dX6_fewest_179 ?_
                    refine q_goto C dX6_fewest_181 (tgt := 186) (by decide) ?_
                    refine q_istore C [(5, Vi (x1.2.1)), (0, Vr 0), (1, Vi p1), (2, Vi p2), (3, Vi p3), (4, Vi p4), (6, Vi (x1.2.1))] rfl (by decide) dX6_fewest_186 ?_
                    refine q_iinc C 6 rfl [(6, Vi (w3 (x1.2.1 + 1))), (5, Vi (x1.2.1)), (0, Vr 0), (1, Vi p1), (2, Vi p2), (3, Vi p3), (4, Vi p4)] rfl (by decide) dX6_fewest_188 ?_
                    refine q_goto C dX6_fewest_191 (tgt := 7) (by decide) ?_
                    refine q_sub C [2, 3, 4, 5, 6, 1, 0] [(0, Vr 0), (1, Vi p1), (2, Vi p2), (3, Vi p3), (4, Vi p4), (5, Vi (x1.2.1)), (6, Vi (w3 (x1.2.1 + 1)))] rfl ?_
                    have hz := sat_some hz
                    exact hz
                · have hz := sat_f hz c58
                  refine q_aload_n C 0 rfl dX6_fewest_154 rfl ?_
                  refine q_bipush C dX6_fewest_155 ⟨rfl, by decide, by decide⟩ ?_
                  obtain ⟨z62, hz62, hz⟩ := sat_bind hz
                  refine q_callVv stZ_t C [Vi 114] [] (c_X6_passes x57.2 114 hz62) tO_X6 rfl gX6_fewest_X6_passes rfl ⟨rfl, rfl⟩ hdX6_passes ⟨by decide, by decide⟩ rfl (Nat.le_of_ble_eq_true rfl) dX6_fewest_157 rfl (fun _ => ?_)
                  refine q_iinc C 7 rfl [(7, Vi (w3 (x57.1 + 1))), (0, Vr 0), (1, Vi p1), (2, Vi p2), (3, Vi p3), (4, Vi p4), (5, Vi (x1.1)), (6, Vi (x1.2.1))] rfl (by decide) dX6_fewest_160 ?_
                  refine q_goto C dX6_fewest_163 (tgt := 148) (by decide) ?_
                  refine q_sub C [1, 2, 3, 4, 5, 6, 7, 0] [(0, Vr 0), (1, Vi p1), (2, Vi p2), (3, Vi p3), (4, Vi p4), (5, Vi (x1.1)), (6, Vi (x1.2.1)), (7, Vi (w3 (x57.1 + 1)))] rfl ?_
                  have hz := sat_some hz
                  exact hz
              · have hz := sat_f hz c56
                refine q_aload_n C 0 rfl dX6_fewest_110 rfl ?_
                refine q_bipush C dX6_fewest_111 ⟨rfl, by decide, by decide⟩ ?_
                refine q_iload C 7 rfl dX6_fewest_113 ?_
                refine q_iload C 4 rfl dX6_fewest_115 ?_
                refine q_if_ne C dX6_fewest_117 (tgt := 135) (by decide) (fun c66 => ?_) (fun c66 => ?_)
                · have hz := sat_f hz c66
                  refine q_iconst C dX6_fewest_135 ⟨by decide, by decide⟩ ?_
                  obtain ⟨z68, hz68, hz⟩ := sat_bind hz
                  refine q_callVv stZ_t C [Vi 114, Vi (x54.1), Vi 0] [] (c_X6_throwsOn x54.2 114 x54.1 0 hz68) tO_X6 rfl gX6_fewest_X6_throwsOn rfl ⟨rfl, rfl⟩ hdX6_throwsOn ⟨by decide, by decide⟩ rfl (Nat.le_of_ble_eq_true rfl) dX6_fewest_136 rfl (fun _ => ?_)
                  refine q_iinc C 7 rfl [(7, Vi (w3 (x54.1 + 1))), (0, Vr 0), (1, Vi p1), (2, Vi p2), (3, Vi p3), (4, Vi p4), (5, Vi (x1.1)), (6, Vi (x1.2.1))] rfl (by decide) dX6_fewest_139 ?_
                  refine q_goto C dX6_fewest_142 (tgt := 98) (by decide) ?_
                  refine q_sub C [1, 2, 3, 4, 5, 6, 7, 0] [(0, Vr 0), (1, Vi p1), (2, Vi p2), (3, Vi p3), (4, Vi p4), (5, Vi (x1.1)), (6, Vi (x1.2.1)), (7, Vi (w3 (x54.1 + 1)))] rfl ?_
                  have hz := sat_some hz
                  exact hz
                · have hz := sat_t hz c66
                  refine q_iload C 6 rfl dX6_fewest_120 ?_
                  refine q_iload C 7 rfl dX6_fewest_122 ?_
                  refine q_callSz stZ_t C [Vi (x1.2.1), Vi (x54.1)] [Vi (x54.1), Vi 114, Vr 0] (c_X6_has x54.2 x1.2.1 x54.1) gX6_fewest_X6_has rfl ⟨rfl, rfl⟩ hdX6_has ⟨by decide, by decide⟩ rfl (Nat.le_of_ble_eq_true rfl) dX6_fewest_124 rfl (fun hb69 _ => ?_)
                  refine q_if_eq C dX6_fewest_127 (tgt := 135) (by decide) (fun c70 => ?_) (fun c70 => ?_)
                  · have hz := sat_t hz c70
                    refine q_iconst C dX6_fewest_135 ⟨by decide, by decide⟩ ?_
                    obtain ⟨z72, hz72, hz⟩ := sat_bind hz
                    refine q_callVv stZ_t C [Vi 114, Vi (x54.1), Vi 0] [] (c_X6_throwsOn x54.2 114 x54.1 0 hz72) tO_X6 rfl gX6_fewest_X6_throwsOn rfl ⟨rfl, rfl⟩ hdX6_throwsOn ⟨by decide, by decide⟩ rfl (Nat.le_of_ble_eq_true rfl) dX6_fewest_136 rfl (fun _ => ?_)
                    refine q_iinc C 7 rfl [(7, Vi (w3 (x54.1 + 1))), (0, Vr 0), (1, Vi p1), (2, Vi p2), (3, Vi p3), (4, Vi p4), (5, Vi (x1.1)), (6, Vi (x1.2.1))] rfl (by decide) dX6_fewest_139 ?_
                    refine q_goto C dX6_fewest_142 (tgt := 98) (by decide) ?_
                    refine q_sub C [1, 2, 3, 4, 5, 6, 7, 0] [(0, Vr 0), (1, Vi p1), (2, Vi p2), (3, Vi p3), (4, Vi p4), (5, Vi (x1.1)), (6, Vi (x1.2.1)), (7, Vi (w3 (x54.1 + 1)))] rfl ?_
                    have hz := sat_some hz
                    exact hz
                  · have hz := sat_f hz c70
                    refine q_bipush C dX6_fewest_130 ⟨rfl, by decide, by decide⟩ ?_
                    refine q_goto C dX6_fewest_132 (tgt := 136) (by decide) ?_
                    obtain ⟨z74, hz74, hz⟩ := sat_bind hz
                    refine q_callVv stZ_t C [Vi 114, Vi (x54.1), Vi 9] [] (c_X6_throwsOn x54.2 114 x54.1 9 hz74) tO_X6 rfl gX6_fewest_X6_throwsOn rfl ⟨rfl, rfl⟩ hdX6_throwsOn ⟨by decide, by decide⟩ rfl (Nat.le_of_ble_eq_true rfl) dX6_fewest_136 rfl (fun _ => ?_)
                    refine q_iinc C 7 rfl [(7, Vi (w3 (x54.1 + 1))), (0, Vr 0), (1, Vi p1), (2, Vi p2), (3, Vi p3), (4, Vi p4), (5, Vi (x1.1)), (6, Vi (x1.2.1))] rfl (by decide) dX6_fewest_139 ?_
                    refine q_goto C dX6_fewest_142 (tgt := 98) (by decide) ?_
                    refine q_sub C [1, 2, 3, 4, 5, 6, 7, 0] [(0, Vr 0), (1, Vi p1), (2, Vi p2), (3, Vi p3), (4, Vi p4), (5, Vi (x1.1)), (6, Vi (x1.2.1)), (7, Vi (w3 (x54.1 + 1)))] rfl ?_
                    have hz := sat_some hz
                    exact hz
            have hz := hv51.symm
            refine q_if_eq C dX6_fewest_84 (tgt := 92) (by decide) (fun c83 => ?_) (fun c83 => ?_)
            · have hz := eq_t hz c83
              refine q_iconst C dX6_fewest_92 ⟨by decide, by decide⟩ ?_
              have hz : _ = v51 := hz
              subst hz
              exact Jv51
            · have hz := eq_f hz c83
              refine q_iload C 6 rfl dX6_fewest_87 ?_
              refine q_goto C dX6_fewest_89 (tgt := 93) (by decide) ?_
              have hz : _ = v51 := hz
              subst hz
              exact Jv51
      · have hz := sat_f hz c5
        refine q_iload C 6 rfl dX6_fewest_37 ?_
        refine q_aload_n C 0 rfl dX6_fewest_39 rfl ?_
        refine q_getR tO_X6 C (i := 0) i_X6 rfl rfl (by decide) rfl f_7 dX6_fewest_40 ?_
        refine q_bipush C dX6_fewest_43 ⟨rfl, by decide, by decide⟩ ?_
        obtain ⟨c84, hz⟩ := sat_chk hz
        refine q_wald C c84 dX6_fewest_45 ?_
        refine q_iand C dX6_fewest_46 ?_
        refine q_if_ne C dX6_fewest_47 (tgt := 188) (by decide) (fun c85 => ?_) (fun c85 => ?_)
        · have hz := sat_f hz c85
          refine q_iinc C 6 rfl [(6, Vi (w3 (x1.2.1 + 1))), (0, Vr 0), (1, Vi p1), (2, Vi p2), (3, Vi p3), (4, Vi p4), (5, Vi (x1.1))] rfl (by decide) dX6_fewest_188 ?_
          refine q_goto C dX6_fewest_191 (tgt := 7) (by decide) ?_
          refine q_sub C [1, 2, 3, 4, 5, 6, 0] [(0, Vr 0), (1, Vi p1), (2, Vi p2), (3, Vi p3), (4, Vi p4), (5, Vi (x1.1)), (6, Vi (w3 (x1.2.1 + 1)))] rfl ?_
          have hz := sat_some hz
          exact hz
        · have hz := sat_t hz c85
          refine q_iload C 5 rfl dX6_fewest_50 ?_
          refine q_ldc (v := (-1000000)) (x := (-1000000)) C (by decide +kernel) dX6_fewest_52 ⟨by decide +kernel, by decide, by decide⟩ ?_
          refine q_icmp_eq C dX6_fewest_54 (tgt := 70) (by decide) (fun c86 => ?_) (fun c86 => ?_)
          · have hz := sat_t hz c86
            refine q_aload_n C 0 rfl dX6_fewest_70 rfl ?_
            obtain ⟨z88, hz88, hz⟩ := sat_bind hz
            refine q_callVv stZ_t C [] [] (c_X6_tries x1.2.2 hz88) tO_X6 rfl gX6_fewest_X6_tries rfl ⟨rfl, rfl⟩ hdX6_tries ⟨by decide, by decide⟩ rfl (Nat.le_of_ble_eq_true rfl) dX6_fewest_71 rfl (fun _ => ?_)
            refine q_aload_n C 0 rfl dX6_fewest_74 rfl ?_
            refine q_getR tO_X6 C (i := 0) i_X6 rfl rfl (by decide) rfl f_7 dX6_fewest_75 ?_
            refine q_bipush C dX6_fewest_78 ⟨rfl, by decide, by decide⟩ ?_
            refine q_dup2 C dX6_fewest_80 rfl rfl ?_
            obtain ⟨c89, hz⟩ := sat_chk hz
            refine q_wald C c89 dX6_fewest_81 ?_
            refine q_iload C 4 rfl dX6_fewest_82 ?_
            obtain ⟨v90, hv90, hz⟩ := sat_bnd hz
            have Jv90 : G z88 93 [(0, Vr 0), (1, Vi p1), (2, Vi p2), (3, Vi p3), (4, Vi p4), (5, Vi (x1.1)), (6, Vi (x1.2.1))] [Vi v90, Vi (rdW z88 124), Vi 124, Vr 1] := by
              refine q_ior C dX6_fewest_93 ?_
              obtain ⟨c91, hz⟩ := sat_chk hz
              obtain ⟨m92, hm92, hz⟩ := sat_bnd hz
              refine q_wast C c91 hm92 dX6_fewest_94 ?_
              refine q_iconst C dX6_fewest_95 ⟨by decide, by decide⟩ ?_
              refine q_istore C [(7, Vi 0), (0, Vr 0), (1, Vi p1), (2, Vi p2), (3, Vi p3), (4, Vi p4), (5, Vi (x1.1)), (6, Vi (x1.2.1))] rfl (by decide) dX6_fewest_96 ?_
              refine q_sub C [1, 2, 3, 4, 5, 6, 7, 0] [(0, Vr 0), (1, Vi p1), (2, Vi p2), (3, Vi p3), (4, Vi p4), (5, Vi (x1.1)), (6, Vi (x1.2.1)), (7, Vi 0)] rfl ?_
              refine loop_go (fun x93 => G x93.2 98 [(0, Vr 0), (1, Vi p1), (2, Vi p2), (3, Vi p3), (4, Vi p4), (5, Vi (x1.1)), (6, Vi (x1.2.1)), (7, Vi (x93.1))] []) (sat_bind2 hz) (fun h => h) (fun x93 hz => ?_)
              refine q_iload C 7 rfl dX6_fewest_98 ?_
              refine q_aload_n C 0 rfl dX6_fewest_100 rfl ?_
              refine q_getR tO_X6 C (i := 0) i_X6 rfl rfl (by decide) rfl f_7 dX6_fewest_101 ?_
              refine q_bipush C dX6_fewest_104 ⟨rfl, by decide, by decide⟩ ?_
              obtain ⟨c94, hz⟩ := sat_chk hz
              refine q_wald C c94 dX6_fewest_106 ?_
              refine q_icmp_ge C dX6_fewest_107 (tgt := 145) (by decide) (fun c95 => ?_) (fun c95 => ?_)
              · have hz := sat_t hz c95
                have hz := sat_some hz
                refine q_sub C [0, 1, 2, 3, 4, 5, 6] [(0, Vr 0), (1, Vi p1), (2, Vi p2), (3, Vi p3), (4, Vi p4), (5, Vi (x1.1)), (6, Vi (x1.2.1))] rfl ?_
                refine q_iconst C dX6_fewest_145 ⟨by decide, by decide⟩ ?_
                refine q_istore C [(7, Vi 0), (0, Vr 0), (1, Vi p1), (2, Vi p2), (3, Vi p3), (4, Vi p4), (5, Vi (x1.1)), (6, Vi (x1.2.1))] rfl (by decide) dX6_fewest_146 ?_
                refine q_sub C [1, 2, 3, 4, 5, 6, 7, 0] [(0, Vr 0), (1, Vi p1), (2, Vi p2), (3, Vi p3), (4, Vi p4), (5, Vi (x1.1)), (6, Vi (x1.2.1)), (7, Vi 0)] rfl ?_
                refine loop_go (fun x96 => G x96.2 148 [(0, Vr 0), (1, Vi p1), (2, Vi p2), (3, Vi p3), (4, Vi p4), (5, Vi (x1.1)), (6, Vi (x1.2.1)), (7, Vi (x96.1))] []) (sat_bind2 hz) (fun h => h) (fun x96 hz => ?_)
                refine q_iload C 7 rfl dX6_fewest_148 ?_
                refine q_iload_n C 3 rfl dX6_fewest_150 rfl ?_
                refine q_icmp_ge C dX6_fewest_151 (tgt := 166) (by decide) (fun c97 => ?_) (fun c97 => ?_)
                · have hz := sat_t hz c97
                  have hz := sat_some hz
                  refine q_sub C [0, 1, 2, 3, 4, 5, 6] [(0, Vr 0), (1, Vi p1), (2, Vi p2), (3, Vi p3), (4, Vi p4), (5, Vi (x1.1)), (6, Vi (x1.2.1))] rfl ?_
                  refine q_aload_n C 0 rfl dX6_fewest_166 rfl ?_
                  refine q_getR tO_X6 C (i := 0) i_X6 rfl rfl (by decide) rfl f_7 dX6_fewest_167 ?_
                  refine q_bipush C dX6_fewest_170 ⟨rfl, by decide, by decide⟩ ?_
                  refine q_iload_n C 1 rfl dX6_fewest_172 rfl ?_
                  refine q_iadd C dX6_fewest_173 ?_
                  obtain ⟨c98, hz⟩ := sat_chk hz
                  refine q_wald C c98 dX6_fewest_174 ?_
                  refine q_iload_n C 2 rfl dX6_fewest_175 rfl ?_
                  refine q_icmp_ne C dX6_fewest_176 (tgt := 184) (by decide) (fun c99 => ?_) (fun c99 => ?_)
                  · have hz := sat_f hz c99
                    refine q_iload C 5 rfl dX6_fewest_184 ?_
                    refine q_istore C [(5, Vi (x1.1)), (0, Vr 0), (1, Vi p1), (2, Vi p2), (3, Vi p3), (4, Vi p4), (6, Vi (x1.2.1))] rfl (by decide) dX6_fewest_186 ?_
                    refine q_iinc C 6 rfl [(6, Vi (w3 (x1.2.1 + 1))), (5, Vi (x1.1)), (0, Vr 0), (1, Vi p1), (2, Vi p2), (3, Vi p3), (4, Vi p4)] rfl (by decide) dX6_fewest_188 ?_
                    refine q_goto C dX6_fewest_191 (tgt := 7) (by decide) ?_
                    refine q_sub C [2, 3, 4, 5, 6, 1, 0] [(0, Vr 0), (1, Vi p1), (2, Vi p2), (3, Vi p3), (4, Vi p4), (5, Vi (x1.1)), (6, Vi (w3 (x1.2.1 + 1)))] rfl ?_
                    have hz := sat_some hz
                    exact hz
                  · have hz := sat_t hz c99
                    refine q_iload C 6 rfl dX6_fewest_179 ?_
                    refine q_goto C dX6_fewest_181 (tgt := 186) (by decide) ?_
                    refine q_istore C [(5, Vi (x1.2.1)), (0, Vr 0), (1, Vi p1), (2, Vi p2), (3, Vi p3), (4, Vi p4), (6, Vi (x1.2.1))] rfl (by decide) dX6_fewest_186 ?_
                    refine q_iinc C 6 rfl [(6, Vi (w3 (x1.2.1 + 1))), (5, Vi (x1.2.1)), (0, Vr 0), (1, Vi p1), (2, Vi p2), (3, Vi p3), (4, Vi p4)] rfl (by decide) dX6_fewest_188 ?_
                    refine q_goto C dX6_fewest_191 (tgt := 7) (by decide) ?_
                    refine q_sub C [2, 3, 4, 5, 6, 1, 0] [(0, Vr 0), (1, Vi p1), (2, Vi p2), (3, Vi p3), (4, Vi p4), (5, Vi (x1.2.1)), (6, Vi (w3 (x1.2.1 + 1)))] rfl ?_
                    have hz := sat_some hz
                    exact hz
                · have hz := sat_f hz c97
                  refine q_aload_n C 0 rfl dX6_fewest_154 rfl ?_
                  refine q_bipush C dX6_fewest_155 ⟨rfl, by decide, by decide⟩ ?_
                  obtain ⟨z101, hz101, hz⟩ := sat_bind hz
                  refine q_callVv stZ_t C [Vi 114] [] (c_X6_passes x96.2 114 hz101) tO_X6 rfl gX6_fewest_X6_passes rfl ⟨rfl, rfl⟩ hdX6_passes ⟨by decide, by decide⟩ rfl (Nat.le_of_ble_eq_true rfl) dX6_fewest_157 rfl (fun _ => ?_)
                  refine q_iinc C 7 rfl [(7, Vi (w3 (x96.1 + 1))), (0, Vr 0), (1, Vi p1), (2, Vi p2), (3, Vi p3), (4, Vi p4), (5, Vi (x1.1)), (6, Vi (x1.2.1))] rfl (by decide) dX6_fewest_160 ?_
                  refine q_goto C dX6_fewest_163 (tgt := 148) (by decide) ?_
                  refine q_sub C [1, 2, 3, 4, 5, 6, 7, 0] [(0, Vr 0), (1, Vi p1), (2, Vi p2), (3, Vi p3), (4, Vi p4), (5, Vi (x1.1)), (6, Vi (x1.2.1)), (7, Vi (w3 (x96.1 + 1)))] rfl ?_
                  have hz := sat_some hz
                  exact hz
              · have hz := sat_f hz c95
                refine q_aload_n C 0 rfl dX6_fewest_110 rfl ?_
                refine q_bipush C dX6_fewest_111 ⟨rfl, by decide, by decide⟩ ?_
                refine q_iload C 7 rfl dX6_fewest_113 ?_
                refine q_iload C 4 rfl dX6_fewest_115 ?_
                refine q_if_ne C dX6_fewest_117 (tgt := 135) (by decide) (fun c105 => ?_) (fun c105 => ?_)
                · have hz := sat_f hz c105
                  refine q_iconst C dX6_fewest_135 ⟨by decide, by decide⟩ ?_
                  obtain ⟨z107, hz107, hz⟩ := sat_bind hz
                  refine q_callVv stZ_t C [Vi 114, Vi (x93.1), Vi 0] [] (c_X6_throwsOn x93.2 114 x93.1 0 hz107) tO_X6 rfl gX6_fewest_X6_throwsOn rfl ⟨rfl, rfl⟩ hdX6_throwsOn ⟨by decide, by decide⟩ rfl (Nat.le_of_ble_eq_true rfl) dX6_fewest_136 rfl (fun _ => ?_)
                  refine q_iinc C 7 rfl [(7, Vi (w3 (x93.1 + 1))), (0, Vr 0), (1, Vi p1), (2, Vi p2), (3, Vi p3), (4, Vi p4), (5, Vi (x1.1)), (6, Vi (x1.2.1))] rfl (by decide) dX6_fewest_139 ?_
                  refine q_goto C dX6_fewest_142 (tgt := 98) (by decide) ?_
                  refine q_sub C [1, 2, 3, 4, 5, 6, 7, 0] [(0, Vr 0), (1, Vi p1), (2, Vi p2), (3, Vi p3), (4, Vi p4), (5, Vi (x1.1)), (6, Vi (x1.2.1)), (7, Vi (w3 (x93.1 + 1)))] rfl ?_
                  have hz := sat_some hz
                  exact hz
                · have hz := sat_t hz c105
                  refine q_iload C 6 rfl dX6_fewest_120 ?_
                  refine q_iload C 7 rfl dX6_fewest_122 ?_
                  refine q_callSz stZ_t C [Vi (x1.2.1), Vi (x93.1)] [Vi (x93.1), Vi 114, Vr 0] (c_X6_has x93.2 x1.2.1 x93.1) gX6_fewest_X6_has rfl ⟨rfl, rfl⟩ hdX6_has ⟨by decide, by decide⟩ rfl (Nat.le_of_ble_eq_true rfl) dX6_fewest_124 rfl (fun hb108 _ => ?_)
                  refine q_if_eq C dX6_fewest_127 (tgt := 135) (by decide) (fun c109 => ?_) (fun c109 => ?_)
                  · have hz := sat_t hz c109
                    refine q_iconst C dX6_fewest_135 ⟨by decide, by decide⟩ ?_
                    obtain ⟨z111, hz111, hz⟩ := sat_bind hz
                    refine q_callVv stZ_t C [Vi 114, Vi (x93.1), Vi 0] [] (c_X6_throwsOn x93.2 114 x93.1 0 hz111) tO_X6 rfl gX6_fewest_X6_throwsOn rfl ⟨rfl, rfl⟩ hdX6_throwsOn ⟨by decide, by decide⟩ rfl (Nat.le_of_ble_eq_true rfl) dX6_fewest_136 rfl (fun _ => ?_)
                    refine q_iinc C 7 rfl [(7, Vi (w3 (x93.1 + 1))), (0, Vr 0), (1, Vi p1), (2, Vi p2), (3, Vi p3), (4, Vi p4), (5, Vi (x1.1)), (6, Vi (x1.2.1))] rfl (by decide) dX6_fewest_139 ?_
                    refine q_goto C dX6_fewest_142 (tgt := 98) (by decide) ?_
                    refine q_sub C [1, 2, 3, 4, 5, 6, 7, 0] [(0, Vr 0), (1, Vi p1), (2, Vi p2), (3, Vi p3), (4, Vi p4), (5, Vi (x1.1)), (6, Vi (x1.2.1)), (7, Vi (w3 (x93.1 + 1)))] rfl ?_
                    have hz := sat_some hz
                    exact hz
                  · have hz := sat_f hz c109
                    refine q_bipush C dX6_fewest_130 ⟨rfl, by decide, by decide⟩ ?_
                    refine q_goto C dX6_fewest_132 (tgt := 136) (by decide) ?_
                    obtain ⟨z113, hz113, hz⟩ := sat_bind hz
                    refine q_callVv stZ_t C [Vi 114, Vi (x93.1), Vi 9] [] (c_X6_throwsOn x93.2 114 x93.1 9 hz113) tO_X6 rfl gX6_fewest_X6_throwsOn rfl ⟨rfl, rfl⟩ hdX6_throwsOn ⟨by decide, by decide⟩ rfl (Nat.le_of_ble_eq_true rfl) dX6_fewest_136 rfl (fun _ => ?_)
                    refine q_iinc C 7 rfl [(7, Vi (w3 (x93.1 + 1))), (0, Vr 0), (1, Vi p1), (2, Vi p2), (3, Vi p3), (4, Vi p4), (5, Vi (x1.1)), (6, Vi (x1.2.1))] rfl (by decide) dX6_fewest_139 ?_
                    refine q_goto C dX6_fewest_142 (tgt := 98) (by decide) ?_
                    refine q_sub C [1, 2, 3, 4, 5, 6, 7, 0] [(0, Vr 0), (1, Vi p1), (2, Vi p2), (3, Vi p3), (4, Vi p4), (5, Vi (x1.1)), (6, Vi (x1.2.1)), (7, Vi (w3 (x93.1 + 1)))] rfl ?_
                    have hz := sat_some hz
                    exact hz
            have hz := hv90.symm
            refine q_if_eq C dX6_fewest_84 (tgt := 92) (by decide) (fun c122 => ?_) (fun c122 => ?_)
            · have hz := eq_t hz c122
              refine q_iconst C dX6_fewest_92 ⟨by decide, by decide⟩ ?_
              have hz : _ = v90 := hz
              subst hz
              exact Jv90
            · have hz := eq_f hz c122
              refine q_iload C 6 rfl dX6_fewest_87 ?_
              refine q_goto C dX6_fewest_89 (tgt := 93) (by decide) ?_
              have hz : _ = v90 := hz
              subst hz
              exact Jv90
          · have hz := sat_f hz c86
            refine q_iload C 6 rfl dX6_fewest_57 ?_
            obtain ⟨z124, hz124, hz⟩ := sat_bind hz
            refine q_callSi stZ_t C [Vi (x1.2.1)] [] (c_X6_ones x1.2.2 x1.2.1 hz124) gX6_fewest_X6_ones rfl ⟨rfl, rfl⟩ hdX6_ones ⟨by decide, by decide⟩ rfl (Nat.le_of_ble_eq_true rfl) dX6_fewest_59 rfl (fun _ _ => ?_)
            refine q_iload C 5 rfl dX6_fewest_62 ?_
            obtain ⟨z126, hz126, hz⟩ := sat_bind hz
            refine q_callSi stZ_t C [Vi (x1.1)] [Vi z124] (c_X6_ones x1.2.2 x1.1 hz126) gX6_fewest_X6_ones rfl ⟨rfl, rfl⟩ hdX6_ones ⟨by decide, by decide⟩ rfl (Nat.le_of_ble_eq_true rfl) dX6_fewest_64 rfl (fun _ _ => ?_)
            refine q_icmp_ge C dX6_fewest_67 (tgt := 188) (by decide) (fun c127 => ?_) (fun c127 => ?_)
            · have hz := sat_t hz c127
              refine q_iinc C 6 rfl [(6, Vi (w3 (x1.2.1 + 1))), (0, Vr 0), (1, Vi p1), (2, Vi p2), (3, Vi p3), (4, Vi p4), (5, Vi (x1.1))] rfl (by decide) dX6_fewest_188 ?_
              refine q_goto C dX6_fewest_191 (tgt := 7) (by decide) ?_
              refine q_sub C [1, 2, 3, 4, 5, 6, 0] [(0, Vr 0), (1, Vi p1), (2, Vi p2), (3, Vi p3), (4, Vi p4), (5, Vi (x1.1)), (6, Vi (w3 (x1.2.1 + 1)))] rfl ?_
              have hz := sat_some hz
              exact hz
            · have hz := sat_f hz c127
              refine q_aload_n C 0 rfl dX6_fewest_70 rfl ?_
              obtain ⟨z129, hz129, hz⟩ := sat_bind hz
              refine q_callVv stZ_t C [] [] (c_X6_tries x1.2.2 hz129) tO_X6 rfl gX6_fewest_X6_tries rfl ⟨rfl, rfl⟩ hdX6_tries ⟨by decide, by decide⟩ rfl (Nat.le_of_ble_eq_true rfl) dX6_fewest_71 rfl (fun _ => ?_)
              refine q_aload_n C 0 rfl dX6_fewest_74 rfl ?_
              refine q_getR tO_X6 C (i := 0) i_X6 rfl rfl (by decide) rfl f_7 dX6_fewest_75 ?_
              refine q_bipush C dX6_fewest_78 ⟨rfl, by decide, by decide⟩ ?_
              refine q_dup2 C dX6_fewest_80 rfl rfl ?_
              obtain ⟨c130, hz⟩ := sat_chk hz
              refine q_wald C c130 dX6_fewest_81 ?_
              refine q_iload C 4 rfl dX6_fewest_82 ?_
              obtain ⟨v131, hv131, hz⟩ := sat_bnd hz
              have Jv131 : G z129 93 [(0, Vr 0), (1, Vi p1), (2, Vi p2), (3, Vi p3), (4, Vi p4), (5, Vi (x1.1)), (6, Vi (x1.2.1))] [Vi v131, Vi (rdW z129 124), Vi 124, Vr 1] := by
                refine q_ior C dX6_fewest_93 ?_
                obtain ⟨c132, hz⟩ := sat_chk hz
                obtain ⟨m133, hm133, hz⟩ := sat_bnd hz
                refine q_wast C c132 hm133 dX6_fewest_94 ?_
                refine q_iconst C dX6_fewest_95 ⟨by decide, by decide⟩ ?_
                refine q_istore C [(7, Vi 0), (0, Vr 0), (1, Vi p1), (2, Vi p2), (3, Vi p3), (4, Vi p4), (5, Vi (x1.1)), (6, Vi (x1.2.1))] rfl (by decide) dX6_fewest_96 ?_
                refine q_sub C [1, 2, 3, 4, 5, 6, 7, 0] [(0, Vr 0), (1, Vi p1), (2, Vi p2), (3, Vi p3), (4, Vi p4), (5, Vi (x1.1)), (6, Vi (x1.2.1)), (7, Vi 0)] rfl ?_
                refine loop_go (fun x134 => G x134.2 98 [(0, Vr 0), (1, Vi p1), (2, Vi p2), (3, Vi p3), (4, Vi p4), (5, Vi (x1.1)), (6, Vi (x1.2.1)), (7, Vi (x134.1))] []) (sat_bind2 hz) (fun h => h) (fun x134 hz => ?_)
                refine q_iload C 7 rfl dX6_fewest_98 ?_
                refine q_aload_n C 0 rfl dX6_fewest_100 rfl ?_
                refine q_getR tO_X6 C (i := 0) i_X6 rfl rfl (by decide) rfl f_7 dX6_fewest_101 ?_
                refine q_bipush C dX6_fewest_104 ⟨rfl, by decide, by decide⟩ ?_
                obtain ⟨c135, hz⟩ := sat_chk hz
                refine q_wald C c135 dX6_fewest_106 ?_
                refine q_icmp_ge C dX6_fewest_107 (tgt := 145) (by decide) (fun c136 => ?_) (fun c136 => ?_)
                · have hz := sat_t hz c136
                  have hz := sat_some hz
                  refine q_sub C [0, 1, 2, 3, 4, 5, 6] [(0, Vr 0), (1, Vi p1), (2, Vi p2), (3, Vi p3), (4, Vi p4), (5, Vi (x1.1)), (6, Vi (x1.2.1))] rfl ?_
                  refine q_iconst C dX6_fewest_145 ⟨by decide, by decide⟩ ?_
                  refine q_istore C [(7, Vi 0), (0, Vr 0), (1, Vi p1), (2, Vi p2), (3, Vi p3), (4, Vi p4), (5, Vi (x1.1)), (6, Vi (x1.2.1))] rfl (by decide) dX6_fewest_146 ?_
                  refine q_sub C [1, 2, 3, 4, 5, 6, 7, 0] [(0, Vr 0), (1, Vi p1), (2, Vi p2), (3, Vi p3), (4, Vi p4), (5, Vi (x1.1)), (6, Vi (x1.2.1)), (7, Vi 0)] rfl ?_
                  refine loop_go (fun x137 => G x137.2 148 [(0, Vr 0), (1, Vi p1), (2, Vi p2), (3, Vi p3), (4, Vi p4), (5, Vi (x1.1)), (6, Vi (x1.2.1)), (7, Vi (x137.1))] []) (sat_bind2 hz) (fun h => h) (fun x137 hz => ?_)
                  refine q_iload C 7 rfl dX6_fewest_148 ?_
                  refine q_iload_n C 3 rfl dX6_fewest_150 rfl ?_
                  refine q_icmp_ge C dX6_fewest_151 (tgt := 166) (by decide) (fun c138 => ?_) (fun c138 => ?_)
                  · have hz := sat_t hz c138
                    have hz := sat_some hz
                    refine q_sub C [0, 1, 2, 3, 4, 5, 6] [(0, Vr 0), (1, Vi p1), (2, Vi p2), (3, Vi p3), (4, Vi p4), (5, Vi (x1.1)), (6, Vi (x1.2.1))] rfl ?_
                    refine q_aload_n C 0 rfl dX6_fewest_166 rfl ?_
                    refine q_getR tO_X6 C (i := 0) i_X6 rfl rfl (by decide) rfl f_7 dX6_fewest_167 ?_
                    refine q_bipush C dX6_fewest_170 ⟨rfl, by decide, by decide⟩ ?_
                    refine q_iload_n C 1 rfl dX6_fewest_172 rfl ?_
                    refine q_iadd C dX6_fewest_173 ?_
                    obtain ⟨c139, hz⟩ := sat_chk hz
                    refine q_wald C c139 dX6_fewest_174 ?_
                    refine q_iload_n C 2 rfl dX6_fewest_175 rfl ?_
                    refine q_icmp_ne C dX6_fewest_176 (tgt := 184) (by decide) (fun c140 => ?_) (fun c140 => ?_)
                    · have hz := sat_f hz c140
                      refine q_iload C 5 rfl dX6_fewest_184 ?_
                      refine q_istore C [(5, Vi (x1.1)), (0, Vr 0), (1, Vi p1), (2, Vi p2), (3, Vi p3), (4, Vi p4), (6, Vi (x1.2.1))] rfl (by decide) dX6_fewest_186 ?_
                      refine q_iinc C 6 rfl [(6, Vi (w3 (x1.2.1 + 1))), (5, Vi (x1.1)), (0, Vr 0), (1, Vi p1), (2, Vi p2), (3, Vi p3), (4, Vi p4)] rfl (by decide) dX6_fewest_188 ?_
                      refine q_goto C dX6_fewest_191 (tgt := 7) (by decide) ?_
                      refine q_sub C [2, 3, 4, 5, 6, 1, 0] [(0, Vr 0), (1, Vi p1), (2, Vi p2), (3, Vi p3), (4, Vi p4), (5, Vi (x1.1)), (6, Vi (w3 (x1.2.1 + 1)))] rfl ?_
                      have hz := sat_some hz
                      exact hz
                    · have hz := sat_t hz c140
                      refine q_iload C 6 rfl dX6_fewest_179 ?_
                      refine q_goto C dX6_fewest_181 (tgt := 186) (by decide) ?_
                      refine q_istore C [(5, Vi (x1.2.1)), (0, Vr 0), (1, Vi p1), (2, Vi p2), (3, Vi p3), (4, Vi p4), (6, Vi (x1.2.1))] rfl (by decide) dX6_fewest_186 ?_
                      refine q_iinc C 6 rfl [(6, Vi (w3 (x1.2.1 + 1))), (5, Vi (x1.2.1)), (0, Vr 0), (1, Vi p1), (2, Vi p2), (3, Vi p3), (4, Vi p4)] rfl (by decide) dX6_fewest_188 ?_
                      refine q_goto C dX6_fewest_191 (tgt := 7) (by decide) ?_
                      refine q_sub C [2, 3, 4, 5, 6, 1, 0] [(0, Vr 0), (1, Vi p1), (2, Vi p2), (3, Vi p3), (4, Vi p4), (5, Vi (x1.2.1)), (6, Vi (w3 (x1.2.1 + 1)))] rfl ?_
                      have hz := sat_some hz
                      exact hz
                  · have hz := sat_f hz c138
                    refine q_aload_n C 0 rfl dX6_fewest_154 rfl ?_
                    refine q_bipush C dX6_fewest_155 ⟨rfl, by decide, by decide⟩ ?_
                    obtain ⟨z142, hz142, hz⟩ := sat_bind hz
                    refine q_callVv stZ_t C [Vi 114] [] (c_X6_passes x137.2 114 hz142) tO_X6 rfl gX6_fewest_X6_passes rfl ⟨rfl, rfl⟩ hdX6_passes ⟨by decide, by decide⟩ rfl (Nat.le_of_ble_eq_true rfl) dX6_fewest_157 rfl (fun _ => ?_)
                    refine q_iinc C 7 rfl [(7, Vi (w3 (x137.1 + 1))), (0, Vr 0), (1, Vi p1), (2, Vi p2), (3, Vi p3), (4, Vi p4), (5, Vi (x1.1)), (6, Vi (x1.2.1))] rfl (by decide) dX6_fewest_160 ?_
                    refine q_goto C dX6_fewest_163 (tgt := 148) (by decide) ?_
                    refine q_sub C [1, 2, 3, 4, 5, 6, 7, 0] [(0, Vr 0), (1, Vi p1), (2, Vi p2), (3, Vi p3), (4, Vi p4), (5, Vi (x1.1)), (6, Vi (x1.2.1)), (7, Vi (w3 (x137.1 + 1)))] rfl ?_
                    have hz := sat_some hz
                    exact hz
                · have hz := sat_f hz c136
                  refine q_aload_n C 0 rfl dX6_fewest_110 rfl ?_
                  refine q_bipush C dX6_fewest_111 ⟨rfl, by decide, by decide⟩ ?_
                  refine q_iload C 7 rfl dX6_fewest_113 ?_
                  refine q_iload C 4 rfl dX6_fewest_115 ?_
                  refine q_if_ne C dX6_fewest_117 (tgt := 135) (by decide) (fun c146 => ?_) (fun c146 => ?_)
                  · have hz := sat_f hz c146
                    refine q_iconst C dX6_fewest_135 ⟨by decide, by decide⟩ ?_
                    obtain ⟨z148, hz148, hz⟩ := sat_bind hz
                    refine q_callVv stZ_t C [Vi 114, Vi (x134.1), Vi 0] [] (c_X6_throwsOn x134.2 114 x134.1 0 hz148) tO_X6 rfl gX6_fewest_X6_throwsOn rfl ⟨rfl, rfl⟩ hdX6_throwsOn ⟨by decide, by decide⟩ rfl (Nat.le_of_ble_eq_true rfl) dX6_fewest_136 rfl (fun _ => ?_)
                    refine q_iinc C 7 rfl [(7, Vi (w3 (x134.1 + 1))), (0, Vr 0), (1, Vi p1), (2, Vi p2), (3, Vi p3), (4, Vi p4), (5, Vi (x1.1)), (6, Vi (x1.2.1))] rfl (by decide) dX6_fewest_139 ?_
                    refine q_goto C dX6_fewest_142 (tgt := 98) (by decide) ?_
                    refine q_sub C [1, 2, 3, 4, 5, 6, 7, 0] [(0, Vr 0), (1, Vi p1), (2, Vi p2), (3, Vi p3), (4, Vi p4), (5, Vi (x1.1)), (6, Vi (x1.2.1)), (7, Vi (w3 (x134.1 + 1)))] rfl ?_
                    have hz := sat_some hz
                    exact hz
                  · have hz := sat_t hz c146
                    refine q_iload C 6 rfl dX6_fewest_120 ?_
                    refine q_iload C 7 rfl dX6_fewest_122 ?_
                    refine q_callSz stZ_t C [Vi (x1.2.1), Vi (x134.1)] [Vi (x134.1), Vi 114, Vr 0] (c_X6_has x134.2 x1.2.1 x134.1) gX6_fewest_X6_has rfl ⟨rfl, rfl⟩ hdX6_has ⟨by decide, by decide⟩ rfl (Nat.le_of_ble_eq_true rfl) dX6_fewest_124 rfl (fun hb149 _ => ?_)
                    refine q_if_eq C dX6_fewest_127 (tgt := 135) (by decide) (fun c150 => ?_) (fun c150 => ?_)
                    · have hz := sat_t hz c150
                      refine q_iconst C dX6_fewest_135 ⟨by decide, by decide⟩ ?_
                      obtain ⟨z152, hz152, hz⟩ := sat_bind hz
                      refine q_callVv stZ_t C [Vi 114, Vi (x134.1), Vi 0] [] (c_X6_throwsOn x134.2 114 x134.1 0 hz152) tO_X6 rfl gX6_fewest_X6_throwsOn rfl ⟨rfl, rfl⟩ hdX6_throwsOn ⟨by decide, by decide⟩ rfl (Nat.le_of_ble_eq_true rfl) dX6_fewest_136 rfl (fun _ => ?_)
                      refine q_iinc C 7 rfl [(7, Vi (w3 (x134.1 + 1))), (0, Vr 0), (1, Vi p1), (2, Vi p2), (3, Vi p3), (4, Vi p4), (5, Vi (x1.1)), (6, Vi (x1.2.1))] rfl (by decide) dX6_fewest_139 ?_
                      refine q_goto C dX6_fewest_142 (tgt := 98) (by decide) ?_
                      refine q_sub C [1, 2, 3, 4, 5, 6, 7, 0] [(0, Vr 0), (1, Vi p1), (2, Vi p2), (3, Vi p3), (4, Vi p4), (5, Vi (x1.1)), (6, Vi (x1.2.1)), (7, Vi (w3 (x134.1 + 1)))] rfl ?_
                      have hz := sat_some hz
                      exact hz
                    · have hz := sat_f hz c150
                      refine q_bipush C dX6_fewest_130 ⟨rfl, by decide, by decide⟩ ?_
                      refine q_goto C dX6_fewest_132 (tgt := 136) (by decide) ?_
                      obtain ⟨z154, hz154, hz⟩ := sat_bind hz
                      refine q_callVv stZ_t C [Vi 114, Vi (x134.1), Vi 9] [] (c_X6_throwsOn x134.2 114 x134.1 9 hz154) tO_X6 rfl gX6_fewest_X6_throwsOn rfl ⟨rfl, rfl⟩ hdX6_throwsOn ⟨by decide, by decide⟩ rfl (Nat.le_of_ble_eq_true rfl) dX6_fewest_136 rfl (fun _ => ?_)
                      refine q_iinc C 7 rfl [(7, Vi (w3 (x134.1 + 1))), (0, Vr 0), (1, Vi p1), (2, Vi p2), (3, Vi p3), (4, Vi p4), (5, Vi (x1.1)), (6, Vi (x1.2.1))] rfl (by decide) dX6_fewest_139 ?_
                      refine q_goto C dX6_fewest_142 (tgt := 98) (by decide) ?_
                      refine q_sub C [1, 2, 3, 4, 5, 6, 7, 0] [(0, Vr 0), (1, Vi p1), (2, Vi p2), (3, Vi p3), (4, Vi p4), (5, Vi (x1.1)), (6, Vi (x1.2.1)), (7, Vi (w3 (x134.1 + 1)))] rfl ?_
                      have hz := sat_some hz
                      exact hz
              have hz := hv131.symm
              refine q_if_eq C dX6_fewest_84 (tgt := 92) (by decide) (fun c163 => ?_) (fun c163 => ?_)
              · have hz := eq_t hz c163
                refine q_iconst C dX6_fewest_92 ⟨by decide, by decide⟩ ?_
                have hz : _ = v131 := hz
                subst hz
                exact Jv131
              · have hz := eq_f hz c163
                refine q_iload C 6 rfl dX6_fewest_87 ?_
                refine q_goto C dX6_fewest_89 (tgt := 93) (by decide) ?_
                have hz : _ = v131 := hz
                subst hz
                exact Jv131
  have hz := hv3.symm
  refine q_if_eq C dX6_fewest_19 (tgt := 26) (by decide) (fun c164 => ?_) (fun c164 => ?_)
  · have hz := eq_t hz c164
    refine q_iconst C dX6_fewest_26 ⟨by decide, by decide⟩ ?_
    have hz : _ = v3 := hz
    subst hz
    exact Jv3
  · have hz := eq_f hz c164
    refine q_iconst C dX6_fewest_22 ⟨by decide, by decide⟩ ?_
    refine q_goto C dX6_fewest_23 (tgt := 27) (by decide) ?_
    have hz : _ = v3 := hz
    subst hz
    exact Jv3
