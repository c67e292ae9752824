theorem hdX6_takesLaw : yX6_takesLaw.cls = RX6 ∧ yX6_takesLaw.cls ≠ "java/lang/invoke/MethodHandle" ∧ yX6_takesLaw.cls ≠ "java/lang/invoke/VarHandle" ∧ (parseMethodDescriptor yX6_takesLaw.desc).map (fun d => d.parameters.length) = some 0 := by decide +kernel
set_option maxHeartbeats 4000000 in
set_option maxRecDepth 100000 in
theorem c_X6_takesLaw {l : Launch} {D : va_G} {ad : Nat → Nat} {cI cZ : ClassId} (μ : Mm) {v : Int × Mm} (hz : f_X6_takesLaw μ = some v) : CT l D vwCl (tyM cI cZ) 10 ad (EM ad cI cZ) (fun _ => True) yX6_takesLaw wsX6_takesLaw ({ frames := 3, cells := 0, slots := 0, locals := 67 } : Room) (some .boolean) [Vr 0] μ (v.1, v.2) := by
  refine CT_of [(0, Vr 0)] stZ_t (by decide) rfl rfl (Nat.le_of_ble_eq_true rfl) rfl (fun G C => ?_)
  have i_X6 : ∀ w ∈ u_ws RX6 TX6 19, w ∈ wsX6_takesLaw := by decide +kernel
  have f_7 : Cond.fieldLink (yX6_takesLaw).cls 7 "SwanDeedsModel" "w" "[I" ∈ wsX6_takesLaw := by decide +kernel
  have f_89 : Cond.fieldLink (yX6_takesLaw).cls 89 "SwanDeedsModel" "number" "I" ∈ wsX6_takesLaw := by decide +kernel
  have hz := sat_of hz
  unfold f_X6_takesLaw at hz
  refine q_iconst C dX6_takesLaw_0 ⟨by decide, by decide⟩ ?_
  refine q_istore_n C [(1, Vi 0), (0, Vr 0)] rfl (by decide) dX6_takesLaw_1 rfl ?_
  refine q_sub C [1, 0] [(0, Vr 0), (1, Vi 0)] rfl ?_
  refine loop_go (fun x1 => G x1.2 2 [(0, Vr 0), (1, Vi (x1.1))] []) (sat_bind2 hz) (fun h => h) (fun x1 hz => ?_)
  refine q_iload_n C 1 rfl dX6_takesLaw_2 rfl ?_
  refine q_bipush C dX6_takesLaw_3 ⟨rfl, by decide, by decide⟩ ?_
  refine q_icmp_ge C dX6_takesLaw_5 (tgt := 24) (by decide) (fun c2 => ?_) (fun c2 => ?_)
  · have hz := sat_t hz c2
    have hz := sat_some hz
    refine q_sub C [0] [(0, Vr 0)] rfl ?_
    refine q_aload_n C 0 rfl dX6_takesLaw_24 rfl ?_
    refine q_getR tO_X6 C (i := 0) i_X6 rfl rfl (by decide) rfl f_7 dX6_takesLaw_25 ?_
    refine q_sipush C dX6_takesLaw_28 ⟨rfl, by decide, by decide⟩ ?_
    refine q_iconst C dX6_takesLaw_31 ⟨by decide, by decide⟩ ?_
    obtain ⟨c3, hz⟩ := sat_chk hz
    obtain ⟨m4, hm4, hz⟩ := sat_bnd hz
    refine q_wast C c3 hm4 dX6_takesLaw_32 ?_
    refine q_aload_n C 0 rfl dX6_takesLaw_33 rfl ?_
    refine q_bipush C dX6_takesLaw_34 ⟨rfl, by decide, by decide⟩ ?_
    obtain ⟨z6, hz6, hz⟩ := sat_bind hz
    refine q_callVz stZ_t C [Vi 114] [] (c_X6_takes m4 114 hz6) tO_X6 rfl gX6_takesLaw_X6_takes rfl ⟨rfl, rfl⟩ hdX6_takes ⟨by decide, by decide⟩ rfl (Nat.le_of_ble_eq_true rfl) dX6_takesLaw_36 rfl (fun hb5 _ => ?_)
    refine q_if_eq C dX6_takesLaw_39 (tgt := 54) (by decide) (fun c7 => ?_) (fun c7 => ?_)
    · have hz := sat_t hz c7
      refine q_iconst C dX6_takesLaw_54 ⟨by decide, by decide⟩ ?_
      exact q_zret C (Or.inl rfl) dX6_takesLaw_55 (sat_eq hz)
    · have hz := sat_f hz c7
      refine q_aload_n C 0 rfl dX6_takesLaw_42 rfl ?_
      refine q_iconst C dX6_takesLaw_43 ⟨by decide, by decide⟩ ?_
      refine q_bipush C dX6_takesLaw_44 ⟨rfl, by decide, by decide⟩ ?_
      refine q_bipush C dX6_takesLaw_46 ⟨rfl, by decide, by decide⟩ ?_
      obtain ⟨z9, hz9, hz⟩ := sat_bind hz
      refine q_callVz stZ_t C [Vi 2, Vi 9, Vi 44] [] (c_X6_takesNumber z6.2 2 9 44 hz9) tO_X6 rfl gX6_takesLaw_X6_takesNumber rfl ⟨rfl, rfl⟩ hdX6_takesNumber ⟨by decide, by decide⟩ rfl (Nat.le_of_ble_eq_true rfl) dX6_takesLaw_48 rfl (fun hb8 _ => ?_)
      refine q_if_ne C dX6_takesLaw_51 (tgt := 56) (by decide) (fun c10 => ?_) (fun c10 => ?_)
      · have hz := sat_f hz c10
        refine q_aload_n C 0 rfl dX6_takesLaw_56 rfl ?_
        refine q_getR tO_X6 C (i := 0) i_X6 rfl rfl (by decide) rfl f_7 dX6_takesLaw_57 ?_
        refine q_sipush C dX6_takesLaw_60 ⟨rfl, by decide, by decide⟩ ?_
        refine q_aload_n C 0 rfl dX6_takesLaw_63 rfl ?_
        refine q_get tO_X6 C (i := 15) i_X6 rfl rfl (by decide) rfl f_89 dX6_takesLaw_64 ?_
        obtain ⟨c11, hz⟩ := sat_chk hz
        obtain ⟨m12, hm12, hz⟩ := sat_bnd hz
        refine q_wast C c11 hm12 dX6_takesLaw_67 ?_
        refine q_aload_n C 0 rfl dX6_takesLaw_68 rfl ?_
        refine q_iconst C dX6_takesLaw_69 ⟨by decide, by decide⟩ ?_
        refine q_bipush C dX6_takesLaw_70 ⟨rfl, by decide, by decide⟩ ?_
        refine q_bipush C dX6_takesLaw_72 ⟨rfl, by decide, by decide⟩ ?_
        obtain ⟨z14, hz14, hz⟩ := sat_bind hz
        refine q_callVz stZ_t C [Vi 0, Vi 9, Vi 59] [] (c_X6_takesNumber m12 0 9 59 hz14) tO_X6 rfl gX6_takesLaw_X6_takesNumber rfl ⟨rfl, rfl⟩ hdX6_takesNumber ⟨by decide, by decide⟩ rfl (Nat.le_of_ble_eq_true rfl) dX6_takesLaw_74 rfl (fun hb13 _ => ?_)
        refine q_if_ne C dX6_takesLaw_77 (tgt := 82) (by decide) (fun c15 => ?_) (fun c15 => ?_)
        · have hz := sat_f hz c15
          refine q_iconst C dX6_takesLaw_82 ⟨by decide, by decide⟩ ?_
          refine q_istore_n C [(1, Vi 0), (0, Vr 0)] rfl (by decide) dX6_takesLaw_83 rfl ?_
          refine q_sub C [1, 0] [(0, Vr 0), (1, Vi 0)] rfl ?_
          refine loop_go (fun x16 => G x16.2 84 [(0, Vr 0), (1, Vi (x16.1))] []) (sat_bind2 hz) (fun h => h) (fun x16 hz => ?_)
          refine q_iload_n C 1 rfl dX6_takesLaw_84 rfl ?_
          refine q_aload_n C 0 rfl dX6_takesLaw_85 rfl ?_
          refine q_getR tO_X6 C (i := 0) i_X6 rfl rfl (by decide) rfl f_7 dX6_takesLaw_86 ?_
          refine q_sipush C dX6_takesLaw_89 ⟨rfl, by decide, by decide⟩ ?_
          obtain ⟨c17, hz⟩ := sat_chk hz
          refine q_wald C c17 dX6_takesLaw_92 ?_
          refine q_icmp_ge C dX6_takesLaw_93 (tgt := 115) (by decide) (fun c18 => ?_) (fun c18 => ?_)
          · have hz := sat_t hz c18
            have hz := sat_some hz
            refine q_sub C [] [] rfl ?_
            refine q_iconst C dX6_takesLaw_115 ⟨by decide, by decide⟩ ?_
            exact q_zret C (Or.inr rfl) dX6_takesLaw_116 (sat_eq hz)
          · have hz := sat_f hz c18
            refine q_aload_n C 0 rfl dX6_takesLaw_96 rfl ?_
            refine q_getR tO_X6 C (i := 0) i_X6 rfl rfl (by decide) rfl f_7 dX6_takesLaw_97 ?_
            refine q_bipush C dX6_takesLaw_100 ⟨rfl, by decide, by decide⟩ ?_
            refine q_iload_n C 1 rfl dX6_takesLaw_102 rfl ?_
            refine q_iadd C dX6_takesLaw_103 ?_
            refine q_aload_n C 0 rfl dX6_takesLaw_104 rfl ?_
            refine q_get tO_X6 C (i := 15) i_X6 rfl rfl (by decide) rfl f_89 dX6_takesLaw_105 ?_
            obtain ⟨c19, hz⟩ := sat_chk hz
            obtain ⟨m20, hm20, hz⟩ := sat_bnd hz
            refine q_wast C c19 hm20 dX6_takesLaw_108 ?_
            refine q_iinc C 1 rfl [(1, Vi (w3 (x16.1 + 1))), (0, Vr 0)] rfl (by decide) dX6_takesLaw_109 ?_
            refine q_goto C dX6_takesLaw_112 (tgt := 84) (by decide) ?_
            refine q_sub C [1, 0] [(0, Vr 0), (1, Vi (w3 (x16.1 + 1)))] rfl ?_
            have hz := sat_some hz
            exact hz
        · have hz := sat_t hz c15
          refine q_iconst C dX6_takesLaw_80 ⟨by decide, by decide⟩ ?_
          exact q_zret C (Or.inl rfl) dX6_takesLaw_81 (sat_eq hz)
      · have hz := sat_t hz c10
        refine q_iconst C dX6_takesLaw_54 ⟨by decide, by decide⟩ ?_
        exact q_zret C (Or.inl rfl) dX6_takesLaw_55 (sat_eq hz)
  · have hz := sat_f hz c2
    refine q_aload_n C 0 rfl dX6_takesLaw_8 rfl ?_
    refine q_getR tO_X6 C (i := 0) i_X6 rfl rfl (by decide) rfl f_7 dX6_takesLaw_9 ?_
    refine q_bipush C dX6_takesLaw_12 ⟨rfl, by decide, by decide⟩ ?_
    refine q_iload_n C 1 rfl dX6_takesLaw_14 rfl ?_
    refine q_iadd C dX6_takesLaw_15 ?_
    refine q_iconst C dX6_takesLaw_16 ⟨by decide, by decide⟩ ?_
    obtain ⟨c22, hz⟩ := sat_chk hz
    obtain ⟨m23, hm23, hz⟩ := sat_bnd hz
    refine q_wast C c22 hm23 dX6_takesLaw_17 ?_
    refine q_iinc C 1 rfl [(1, Vi (w3 (x1.1 + 1))), (0, Vr 0)] rfl (by decide) dX6_takesLaw_18 ?_
    refine q_goto C dX6_takesLaw_21 (tgt := 2) (by decide) ?_
    refine q_sub C [1, 0] [(0, Vr 0), (1, Vi (w3 (x1.1 + 1)))] rfl ?_
    have hz := sat_some hz
    exact hz
theorem hdX6_kindOf : yX6_kindOf.cls ≠ "java/lang/invoke/MethodHandle" ∧ yX6_kindOf.cls ≠ "java/lang/invoke/VarHandle" ∧ (parseMethodDescriptor yX6_kindOf.desc).map (fun d => d.parameters.length) = some 1 := by decide +kernel
set_option maxHeartbeats 4000000 in
set_option maxRecDepth 100000 in
theorem c_X6_kindOf {l : Launch} {D : va_G} {ad : Nat → Nat} {cI cZ : ClassId} (μ : Mm) (p0 : Int) : CT l D vwCl (tyM cI cZ) 10 ad (EM ad cI cZ) (fun _ => True) yX6_kindOf wsX6_kindOf ({ frames := 0, cells := 0, slots := 0, locals := 0 } : Room) (some .int) [Vi p0] μ (f_X6_kindOf μ p0, μ) := by
  refine CT_of [(0, Vi p0)] stZ_t (by decide) rfl rfl (Nat.le_of_ble_eq_true rfl) rfl (fun G C => ?_)
  generalize hz : f_X6_kindOf μ p0 = v at C
  unfold f_X6_kindOf at hz
  refine q_iload_n C 0 rfl dX6_kindOf_0 rfl ?_
  refine q_bipush C dX6_kindOf_1 ⟨rfl, by decide, by decide⟩ ?_
  refine q_icmp_ne C dX6_kindOf_3 (tgt := 10) (by decide) (fun c1 => ?_) (fun c1 => ?_)
  · have hz := eq_f hz c1
    refine q_iload_n C 0 rfl dX6_kindOf_10 rfl ?_
    refine q_bipush C dX6_kindOf_11 ⟨rfl, by decide, by decide⟩ ?_
    refine q_icmp_ne C dX6_kindOf_13 (tgt := 20) (by decide) (fun c2 => ?_) (fun c2 => ?_)
    · have hz := eq_f hz c2
      refine q_iload_n C 0 rfl dX6_kindOf_20 rfl ?_
      refine q_bipush C dX6_kindOf_21 ⟨rfl, by decide, by decide⟩ ?_
      refine q_icmp_ne C dX6_kindOf_23 (tgt := 30) (by decide) (fun c3 => ?_) (fun c3 => ?_)
      · have hz := eq_f hz c3
        refine q_iload_n C 0 rfl dX6_kindOf_30 rfl ?_
        refine q_bipush C dX6_kindOf_31 ⟨rfl, by decide, by decide⟩ ?_
        refine q_icmp_ne C dX6_kindOf_33 (tgt := 40) (by decide) (fun c4 => ?_) (fun c4 => ?_)
        · have hz := eq_f hz c4
          refine q_iload_n C 0 rfl dX6_kindOf_40 rfl ?_
          refine q_bipush C dX6_kindOf_41 ⟨rfl, by decide, by decide⟩ ?_
          refine q_icmp_ne C dX6_kindOf_43 (tgt := 50) (by decide) (fun c5 => ?_) (fun c5 => ?_)
          · have hz := eq_f hz c5
            refine q_iconst C dX6_kindOf_50 ⟨by decide, by decide⟩ ?_
            exact q_iret C dX6_kindOf_51 (congrArg (fun q => (q, μ)) hz)
          · have hz := eq_t hz c5
            refine q_iconst C dX6_kindOf_46 ⟨by decide, by decide⟩ ?_
            refine q_goto C dX6_kindOf_47 (tgt := 51) (by decide) ?_
            exact q_iret C dX6_kindOf_51 (congrArg (fun q => (q, μ)) hz)
        · have hz := eq_t hz c4
          refine q_iconst C dX6_kindOf_36 ⟨by decide, by decide⟩ ?_
          refine q_goto C dX6_kindOf_37 (tgt := 51) (by decide) ?_
          exact q_iret C dX6_kindOf_51 (congrArg (fun q => (q, μ)) hz)
      · have hz := eq_t hz c3
        refine q_iconst C dX6_kindOf_26 ⟨by decide, by decide⟩ ?_
        refine q_goto C dX6_kindOf_27 (tgt := 51) (by decide) ?_
        exact q_iret C dX6_kindOf_51 (congrArg (fun q => (q, μ)) hz)
    · have hz := eq_t hz c2
      refine q_iconst C dX6_kindOf_16 ⟨by decide, by decide⟩ ?_
      refine q_goto C dX6_kindOf_17 (tgt := 51) (by decide) ?_
      exact q_iret C dX6_kindOf_51 (congrArg (fun q => (q, μ)) hz)
  · have hz := eq_t hz c1
    refine q_iconst C dX6_kindOf_6 ⟨by decide, by decide⟩ ?_
    refine q_goto C dX6_kindOf_7 (tgt := 51) (by decide) ?_
    exact q_iret C dX6_kindOf_51 (congrArg (fun q => (q, μ)) hz)
theorem hdX6_takesSwan : yX6_takesSwan.cls = RX6 ∧ yX6_takesSwan.cls ≠ "java/lang/invoke/MethodHandle" ∧ yX6_takesSwan.cls ≠ "java/lang/invoke/VarHandle" ∧ (parseMethodDescriptor yX6_takesSwan.desc).map (fun d => d.parameters.length) = some 0 := by decide +kernel
set_option maxHeartbeats 4000000 in
set_option maxRecDepth 100000 in
theorem c_X6_takesSwan {l : Launch} {D : va_G} {ad : Nat → Nat} {cI cZ : ClassId} (μ : Mm) {v : Int × Mm} (hz : f_X6_takesSwan μ = some v) : CT l D vwCl (tyM cI cZ) 10 ad (EM ad cI cZ) (fun _ => True) yX6_takesSwan wsX6_takesSwan ({ frames := 3, cells := 0, slots := 0, locals := 67 } : Room) (some .boolean) [Vr 0] μ (v.1, v.2) := by
  refine CT_of [(0, Vr 0)] stZ_t (by decide) rfl rfl (Nat.le_of_ble_eq_true rfl) rfl (fun G C => ?_)
  have i_X6 : ∀ w ∈ u_ws RX6 TX6 19, w ∈ wsX6_takesSwan := by decide +kernel
  have f_7 : Cond.fieldLink (yX6_takesSwan).cls 7 "SwanDeedsModel" "w" "[I" ∈ wsX6_takesSwan := by decide +kernel
  have f_79 : Cond.fieldLink (yX6_takesSwan).cls 79 "SwanDeedsModel" "at" "I" ∈ wsX6_takesSwan := by decide +kernel
  have f_89 : Cond.fieldLink (yX6_takesSwan).cls 89 "SwanDeedsModel" "number" "I" ∈ wsX6_takesSwan := by decide +kernel
  have hz := sat_of hz
  unfold f_X6_takesSwan at hz
  refine q_aload_n C 0 rfl dX6_takesSwan_0 rfl ?_
  refine q_getR tO_X6 C (i := 0) i_X6 rfl rfl (by decide) rfl f_7 dX6_takesSwan_1 ?_
  refine q_sipush C dX6_takesSwan_4 ⟨rfl, by decide, by decide⟩ ?_
  obtain ⟨c1, hz⟩ := sat_chk hz
  refine q_wald C c1 dX6_takesSwan_7 ?_
  refine q_istore_n C [(1, Vi (rdW μ 139)), (0, Vr 0)] rfl (by decide) dX6_takesSwan_8 rfl ?_
  refine q_aload_n C 1 rfl dX6_takesSwan_9 rfl ?_
  refine q_aload_n C 1 rfl dX6_takesSwan_10 rfl ?_
  refine q_get tO_X6 C (i := 14) i_X6 rfl rfl (by decide) rfl f_79 dX6_takesSwan_11 ?_
  obtain ⟨z3, hz3, hz⟩ := sat_bind hz
  refine q_callVi stZ_t C [Vi (μ 30 5)] [] (c_X6_byteAt μ (μ 30 5) hz3) tO_X6 rfl gX6_takesSwan_X6_byteAt rfl ⟨rfl, rfl⟩ hdX6_byteAt ⟨by decide, by decide⟩ rfl (Nat.le_of_ble_eq_true rfl) dX6_takesSwan_14 rfl (fun _ _ => ?_)
  refine q_callSi stZ_t C [Vi z3] [] (c_X6_kindOf μ z3) gX6_takesSwan_X6_kindOf rfl ⟨rfl, rfl⟩ hdX6_kindOf ⟨by decide, by decide⟩ rfl (Nat.le_of_ble_eq_true rfl) dX6_takesSwan_17 rfl (fun _ _ => ?_)
  refine q_istore_n C [(2, Vi (f_X6_kindOf μ z3)), (1, Vi (rdW μ 139)), (0, Vr 0)] rfl (by decide) dX6_takesSwan_20 rfl ?_
  refine q_iload_n C 0 rfl dX6_takesSwan_21 rfl ?_
  refine q_if_ne C dX6_takesSwan_22 (tgt := 35) (by decide) (fun c5 => ?_) (fun c5 => ?_)
  · have hz := sat_f hz c5
    refine q_iload_n C 1 rfl dX6_takesSwan_35 rfl ?_
    refine q_bipush C dX6_takesSwan_36 ⟨rfl, by decide, by decide⟩ ?_
    refine q_icmp_ne C dX6_takesSwan_38 (tgt := 51) (by decide) (fun c6 => ?_) (fun c6 => ?_)
    · have hz := sat_f hz c6
      refine q_aload_n C 2 rfl dX6_takesSwan_51 rfl ?_
      refine q_dup C dX6_takesSwan_52 rfl ?_
      refine q_get tO_X6 C (i := 14) i_X6 rfl rfl (by decide) rfl f_79 dX6_takesSwan_53 ?_
      refine q_iconst C dX6_takesSwan_56 ⟨by decide, by decide⟩ ?_
      refine q_iadd C dX6_takesSwan_57 ?_
      obtain ⟨m7, hm7, hz⟩ := sat_bnd hz
      refine q_put tO_X6 C hm7 (i := 14) i_X6 tyX6_ok nmX6 rfl rfl (by decide) rfl f_79 dX6_takesSwan_58 ?_
      refine q_aload_n C 2 rfl dX6_takesSwan_61 rfl ?_
      refine q_getR tO_X6 C (i := 0) i_X6 rfl rfl (by decide) rfl f_7 dX6_takesSwan_62 ?_
      refine q_sipush C dX6_takesSwan_65 ⟨rfl, by decide, by decide⟩ ?_
      refine q_iload_n C 1 rfl dX6_takesSwan_68 rfl ?_
      refine q_iadd C dX6_takesSwan_69 ?_
      refine q_iload_n C 0 rfl dX6_takesSwan_70 rfl ?_
      obtain ⟨c8, hz⟩ := sat_chk hz
      obtain ⟨m9, hm9, hz⟩ := sat_bnd hz
      refine q_wast C c8 hm9 dX6_takesSwan_71 ?_
      refine q_aload_n C 2 rfl dX6_takesSwan_72 rfl ?_
      refine q_iconst C dX6_takesSwan_73 ⟨by decide, by decide⟩ ?_
      refine q_aload_n C 2 rfl dX6_takesSwan_74 rfl ?_
      refine q_getR tO_X6 C (i := 0) i_X6 rfl rfl (by decide) rfl f_7 dX6_takesSwan_75 ?_
      refine q_sipush C dX6_takesSwan_78 ⟨rfl, by decide, by decide⟩ ?_
      obtain ⟨c10, hz⟩ := sat_chk hz
      refine q_wald C c10 dX6_takesSwan_81 ?_
      refine q_iconst C dX6_takesSwan_82 ⟨by decide, by decide⟩ ?_
      refine q_isub C dX6_takesSwan_83 ?_
      refine q_bipush C dX6_takesSwan_84 ⟨rfl, by decide, by decide⟩ ?_
      obtain ⟨z12, hz12, hz⟩ := sat_bind hz
      refine q_callVz stZ_t C [Vi 0, Vi (w3 ((rdW m9 138) - 1)), Vi 44] [] (c_X6_takesNumber m9 0 (w3 ((rdW m9 138) - 1)) 44 hz12) tO_X6 rfl gX6_takesSwan_X6_takesNumber rfl ⟨rfl, rfl⟩ hdX6_takesNumber ⟨by decide, by decide⟩ rfl (Nat.le_of_ble_eq_true rfl) dX6_takesSwan_86 rfl (fun hb11 _ => ?_)
      refine q_if_ne C dX6_takesSwan_89 (tgt := 94) (by decide) (fun c13 => ?_) (fun c13 => ?_)
      · have hz := sat_f hz c13
        refine q_aload_n C 2 rfl dX6_takesSwan_94 rfl ?_
        refine q_getR tO_X6 C (i := 0) i_X6 rfl rfl (by decide) rfl f_7 dX6_takesSwan_95 ?_
        refine q_bipush C dX6_takesSwan_98 ⟨rfl, by decide, by decide⟩ ?_
        refine q_iload_n C 1 rfl dX6_takesSwan_100 rfl ?_
        refine q_iadd C dX6_takesSwan_101 ?_
        refine q_aload_n C 2 rfl dX6_takesSwan_102 rfl ?_
        refine q_get tO_X6 C (i := 15) i_X6 rfl rfl (by decide) rfl f_89 dX6_takesSwan_103 ?_
        obtain ⟨c14, hz⟩ := sat_chk hz
        obtain ⟨m15, hm15, hz⟩ := sat_bnd hz
        refine q_wast C c14 hm15 dX6_takesSwan_106 ?_
        refine q_aload_n C 2 rfl dX6_takesSwan_107 rfl ?_
        refine q_iconst C dX6_takesSwan_108 ⟨by decide, by decide⟩ ?_
        refine q_aload_n C 2 rfl dX6_takesSwan_109 rfl ?_
        refine q_getR tO_X6 C (i := 0) i_X6 rfl rfl (by decide) rfl f_7 dX6_takesSwan_110 ?_
        refine q_sipush C dX6_takesSwan_113 ⟨rfl, by decide, by decide⟩ ?_
        obtain ⟨c16, hz⟩ := sat_chk hz
        refine q_wald C c16 dX6_takesSwan_116 ?_
        refine q_iconst C dX6_takesSwan_117 ⟨by decide, by decide⟩ ?_
        refine q_isub C dX6_takesSwan_118 ?_
        refine q_bipush C dX6_takesSwan_119 ⟨rfl, by decide, by decide⟩ ?_
        obtain ⟨z18, hz18, hz⟩ := sat_bind hz
        refine q_callVz stZ_t C [Vi 0, Vi (w3 ((rdW m15 138) - 1)), Vi 44] [] (c_X6_takesNumber m15 0 (w3 ((rdW m15 138) - 1)) 44 hz18) tO_X6 rfl gX6_takesSwan_X6_takesNumber rfl ⟨rfl, rfl⟩ hdX6_takesNumber ⟨by decide, by decide⟩ rfl (Nat.le_of_ble_eq_true rfl) dX6_takesSwan_121 rfl (fun hb17 _ => ?_)
        refine q_if_ne C dX6_takesSwan_124 (tgt := 129) (by decide) (fun c19 => ?_) (fun c19 => ?_)
        · have hz := sat_f hz c19
          refine q_aload_n C 2 rfl dX6_takesSwan_129 rfl ?_
          refine q_getR tO_X6 C (i := 0) i_X6 rfl rfl (by decide) rfl f_7 dX6_takesSwan_130 ?_
          refine q_sipush C dX6_takesSwan_133 ⟨rfl, by decide, by decide⟩ ?_
          refine q_iload_n C 1 rfl dX6_takesSwan_136 rfl ?_
          refine q_iadd C dX6_takesSwan_137 ?_
          refine q_aload_n C 2 rfl dX6_takesSwan_138 rfl ?_
          refine q_get tO_X6 C (i := 15) i_X6 rfl rfl (by decide) rfl f_89 dX6_takesSwan_139 ?_
          obtain ⟨c20, hz⟩ := sat_chk hz
          obtain ⟨m21, hm21, hz⟩ := sat_bnd hz
          refine q_wast C c20 hm21 dX6_takesSwan_142 ?_
          refine q_aload_n C 2 rfl dX6_takesSwan_143 rfl ?_
          refine q_iconst C dX6_takesSwan_144 ⟨by decide, by decide⟩ ?_
          refine q_bipush C dX6_takesSwan_145 ⟨rfl, by decide, by decide⟩ ?_
          refine q_bipush C dX6_takesSwan_147 ⟨rfl, by decide, by decide⟩ ?_
          obtain ⟨z23, hz23, hz⟩ := sat_bind hz
          refine q_callVz stZ_t C [Vi 1, Vi 9, Vi 59] [] (c_X6_takesNumber m21 1 9 59 hz23) tO_X6 rfl gX6_takesSwan_X6_takesNumber rfl ⟨rfl, rfl⟩ hdX6_takesNumber ⟨by decide, by decide⟩ rfl (Nat.le_of_ble_eq_true rfl) dX6_takesSwan_149 rfl (fun hb22 _ => ?_)
          refine q_if_ne C dX6_takesSwan_152 (tgt := 157) (by decide) (fun c24 => ?_) (fun c24 => ?_)
          · have hz := sat_f hz c24
            refine q_aload_n C 2 rfl dX6_takesSwan_157 rfl ?_
            refine q_getR tO_X6 C (i := 0) i_X6 rfl rfl (by decide) rfl f_7 dX6_takesSwan_158 ?_
            refine q_sipush C dX6_takesSwan_161 ⟨rfl, by decide, by decide⟩ ?_
            refine q_iload_n C 1 rfl dX6_takesSwan_164 rfl ?_
            refine q_iadd C dX6_takesSwan_165 ?_
            refine q_aload_n C 2 rfl dX6_takesSwan_166 rfl ?_
            refine q_get tO_X6 C (i := 15) i_X6 rfl rfl (by decide) rfl f_89 dX6_takesSwan_167 ?_
            obtain ⟨c25, hz⟩ := sat_chk hz
            obtain ⟨m26, hm26, hz⟩ := sat_bnd hz
            refine q_wast C c25 hm26 dX6_takesSwan_170 ?_
            refine q_aload_n C 2 rfl dX6_takesSwan_171 rfl ?_
            refine q_getR tO_X6 C (i := 0) i_X6 rfl rfl (by decide) rfl f_7 dX6_takesSwan_172 ?_
            refine q_sipush C dX6_takesSwan_175 ⟨rfl, by decide, by decide⟩ ?_
            refine q_dup2 C dX6_takesSwan_178 rfl rfl ?_
            obtain ⟨c27, hz⟩ := sat_chk hz
            refine q_wald C c27 dX6_takesSwan_179 ?_
            refine q_iconst C dX6_takesSwan_180 ⟨by decide, by decide⟩ ?_
            refine q_iadd C dX6_takesSwan_181 ?_
            obtain ⟨c28, hz⟩ := sat_chk hz
            obtain ⟨m29, hm29, hz⟩ := sat_bnd hz
            refine q_wast C c28 hm29 dX6_takesSwan_182 ?_
            refine q_iconst C dX6_takesSwan_183 ⟨by decide, by decide⟩ ?_
            exact q_zret C (Or.inr rfl) dX6_takesSwan_184 (sat_eq hz)
          · have hz := sat_t hz c24
            refine q_iconst C dX6_takesSwan_155 ⟨by decide, by decide⟩ ?_
            exact q_zret C (Or.inl rfl) dX6_takesSwan_156 (sat_eq hz)
        · have hz := sat_t hz c19
          refine q_iconst C dX6_takesSwan_127 ⟨by decide, by decide⟩ ?_
          exact q_zret C (Or.inl rfl) dX6_takesSwan_128 (sat_eq hz)
      · have hz := sat_t hz c13
        refine q_iconst C dX6_takesSwan_92 ⟨by decide, by decide⟩ ?_
        exact q_zret C (Or.inl rfl) dX6_takesSwan_93 (sat_eq hz)
    · have hz := sat_t hz c6
      refine q_aload_n C 2 rfl dX6_takesSwan_41 rfl ?_
      refine q_iconst C dX6_takesSwan_42 ⟨by decide, by decide⟩ ?_
      refine q_aload_n C 2 rfl dX6_takesSwan_43 rfl ?_
      refine q_get tO_X6 C (i := 14) i_X6 rfl rfl (by decide) rfl f_79 dX6_takesSwan_44 ?_
      obtain ⟨z31, hz31, hz⟩ := sat_bind hz
      refine q_callVz stZ_t C [Vi 3, Vi (μ 30 5)] [] (c_X6_fails μ 3 (μ 30 5) hz31) tO_X6 rfl gX6_takesSwan_X6_fails rfl ⟨rfl, rfl⟩ hdX6_fails ⟨by decide, by decide⟩ rfl (Nat.le_of_ble_eq_true rfl) dX6_takesSwan_47 rfl (fun hb30 _ => ?_)
      exact q_zret C (hb30) dX6_takesSwan_50 (sat_eq hz)
  · have hz := sat_t hz c5
    refine q_aload_n C 2 rfl dX6_takesSwan_25 rfl ?_
    refine q_iconst C dX6_takesSwan_26 ⟨by decide, by decide⟩ ?_
    refine q_aload_n C 2 rfl dX6_takesSwan_27 rfl ?_
    refine q_get tO_X6 C (i := 14) i_X6 rfl rfl (by decide) rfl f_79 dX6_takesSwan_28 ?_
    obtain ⟨z33, hz33, hz⟩ := sat_bind hz
    refine q_callVz stZ_t C [Vi 1, Vi (μ 30 5)] [] (c_X6_fails μ 1 (μ 30 5) hz33) tO_X6 rfl gX6_takesSwan_X6_fails rfl ⟨rfl, rfl⟩ hdX6_fails ⟨by decide, by decide⟩ rfl (Nat.le_of_ble_eq_true rfl) dX6_takesSwan_31 rfl (fun hb32 _ => ?_)
    exact q_zret C (hb32) dX6_takesSwan_34 (sat_eq hz)
theorem hdX6_copyAll : yX6_copyAll.cls = RX6 ∧ yX6_copyAll.cls ≠ "java/lang/invoke/MethodHandle" ∧ yX6_copyAll.cls ≠ "java/lang/invoke/VarHandle" ∧ (parseMethodDescriptor yX6_copyAll.desc).map (fun d => d.parameters.length) = some 2 := by decide +kernel
set_option maxHeartbeats 4000000 in
set_option maxRecDepth 100000 in
theorem c_X6_copyAll {l : Launch} {D : va_G} {ad : Nat → Nat} {cI cZ : ClassId} (μ : Mm) (p1 p2 : Int) {v : Mm} (hz : f_X6_copyAll μ p1 p2 = some v) : CT l D vwCl (tyM cI cZ) 10 ad (EM ad cI cZ) (fun _ => True) yX6_copyAll wsX6_copyAll ({ frames := 0, cells := 0, slots := 0, locals := 0 } : Room) none [Vr 0, Vi p1, Vi p2] μ ((0 : Int), v) := by
  refine CT_of [(0, Vr 0), (1, Vi p1), (2, Vi p2)] stZ_t (by decide) rfl rfl (Nat.le_of_ble_eq_true rfl) rfl (fun G C => ?_)
  have i_X6 : ∀ w ∈ u_ws RX6 TX6 19, w ∈ wsX6_copyAll := by decide +kernel
  have f_7 : Cond.fieldLink (yX6_copyAll).cls 7 "SwanDeedsModel" "w" "[I" ∈ wsX6_copyAll := by decide +kernel
  have hz := sat_of hz
  unfold f_X6_copyAll at hz
  refine q_iconst C dX6_copyAll_0 ⟨by decide, by decide⟩ ?_
  refine q_istore_n C [(3, Vi 0), (0, Vr 0), (1, Vi p1), (2, Vi p2)] rfl (by decide) dX6_copyAll_1 rfl ?_
  refine q_sub C [1, 2, 3, 0] [(0, Vr 0), (1, Vi p1), (2, Vi p2), (3, Vi 0)] rfl ?_
  refine loop_go (fun x1 => G x1.2 2 [(0, Vr 0), (1, Vi p1), (2, Vi p2), (3, Vi (x1.1))] []) (sat_bind2 hz) (fun h => h) (fun x1 hz => ?_)
  refine q_iload_n C 3 rfl dX6_copyAll_2 rfl ?_
  refine q_bipush C dX6_copyAll_3 ⟨rfl, by decide, by decide⟩ ?_
  refine q_icmp_ge C dX6_copyAll_5 (tgt := 30) (by decide) (fun c2 => ?_) (fun c2 => ?_)
  · have hz := sat_t hz c2
    have hz := sat_some hz
    refine q_sub C [] [] rfl ?_
    exact q_vret C dX6_copyAll_30 (congrArg (fun q => ((0 : Int), q)) (sat_eq hz))
  · have hz := sat_f hz c2
    refine q_aload_n C 0 rfl dX6_copyAll_8 rfl ?_
    refine q_getR tO_X6 C (i := 0) i_X6 rfl rfl (by decide) rfl f_7 dX6_copyAll_9 ?_
    refine q_iload_n C 2 rfl dX6_copyAll_12 rfl ?_
    refine q_iload_n C 3 rfl dX6_copyAll_13 rfl ?_
    refine q_iadd C dX6_copyAll_14 ?_
    refine q_aload_n C 0 rfl dX6_copyAll_15 rfl ?_
    refine q_getR tO_X6 C (i := 0) i_X6 rfl rfl (by decide) rfl f_7 dX6_copyAll_16 ?_
    refine q_iload_n C 1 rfl dX6_copyAll_19 rfl ?_
    refine q_iload_n C 3 rfl dX6_copyAll_20 rfl ?_
    refine q_iadd C dX6_copyAll_21 ?_
    obtain ⟨c3, hz⟩ := sat_chk hz
    refine q_wald C c3 dX6_copyAll_22 ?_
    obtain ⟨c4, hz⟩ := sat_chk hz
    obtain ⟨m5, hm5, hz⟩ := sat_bnd hz
    refine q_wast C c4 hm5 dX6_copyAll_23 ?_
    refine q_iinc C 3 rfl [(3, Vi (w3 (x1.1 + 1))), (0, Vr 0), (1, Vi p1), (2, Vi p2)] rfl (by decide) dX6_copyAll_24 ?_
    refine q_goto C dX6_copyAll_27 (tgt := 2) (by decide) ?_
    refine q_sub C [1, 2, 3, 0] [(0, Vr 0), (1, Vi p1), (2, Vi p2), (3, Vi (w3 (x1.1 + 1)))] rfl ?_
    have hz := sat_some hz
    exact hz
theorem hdX6_river : yX6_river.cls = RX6 ∧ yX6_river.cls ≠ "java/lang/invoke/MethodHandle" ∧ yX6_river.cls ≠ "java/lang/invoke/VarHandle" ∧ (parseMethodDescriptor yX6_river.desc).map (fun d => d.parameters.length) = some 0 := by decide +kernel
set_option maxHeartbeats 4000000 in
set_option maxRecDepth 100000 in
theorem c_X6_river {l : Launch} {D : va_G} {ad : Nat → Nat} {cI cZ : ClassId} (μ : Mm) {v : Int × Mm} (hz : f_X6_river μ = some v) : CT l D vwCl (tyM cI cZ) 10 ad (EM ad cI cZ) (fun _ => True) yX6_river wsX6_river ({ frames := 4, cells := 0, slots := 0, locals := 89 } : Room) (some .int) [Vr 0] μ (v.1, v.2) := by
  refine CT_of [(0, Vr 0)] stZ_t (by decide) rfl rfl (Nat.le_of_ble_eq_true rfl) rfl (fun G C => ?_)
  have i_X6 : ∀ w ∈ u_ws RX6 TX6 19, w ∈ wsX6_river := by decide +kernel
  have f_7 : Cond.fieldLink (yX6_river).cls 7 "SwanDeedsModel" "w" "[I" ∈ wsX6_river := by decide +kernel
  have f_69 : Cond.fieldLink (yX6_river).cls 69 "SwanDeedsModel" "taped" "I" ∈ wsX6_river := by decide +kernel
  have f_76 : Cond.fieldLink (yX6_river).cls 76 "SwanDeedsModel" "faultAt" "I" ∈ wsX6_river := by decide +kernel
  have f_79 : Cond.fieldLink (yX6_river).cls 79 "SwanDeedsModel" "at" "I" ∈ wsX6_river := by decide +kernel
  have f_117 : Cond.fieldLink (yX6_river).cls 117 "SwanDeedsModel" "acted" "I" ∈ wsX6_river := by decide +kernel
  have hz := sat_of hz
  unfold f_X6_river at hz
  refine q_aload_n C 0 rfl dX6_river_0 rfl ?_
  refine q_iconst C dX6_river_1 ⟨by decide, by decide⟩ ?_
  obtain ⟨m1, hm1, hz⟩ := sat_bnd hz
  refine q_put tO_X6 C hm1 (i := 14) i_X6 tyX6_ok nmX6 rfl rfl (by decide) rfl f_79 dX6_river_2 ?_
  refine q_aload_n C 0 rfl dX6_river_5 rfl ?_
  obtain ⟨z3, hz3, hz⟩ := sat_bind hz
  refine q_callVz stZ_t C [] [] (c_X6_takesLaw m1 hz3) tO_X6 rfl gX6_river_X6_takesLaw rfl ⟨rfl, rfl⟩ hdX6_takesLaw ⟨by decide, by decide⟩ rfl (Nat.le_of_ble_eq_true rfl) dX6_river_6 rfl (fun hb2 _ => ?_)
  refine q_istore_n C [(1, Vi (z3.1)), (0, Vr 0)] rfl (by decide) dX6_river_9 rfl ?_
  refine q_sub C [1, 0] [(0, Vr 0), (1, Vi (z3.1))] rfl ?_
  refine loop_go (fun x4 => G x4.2 10 [(0, Vr 0), (1, Vi (x4.1))] []) (sat_bind2 hz) (fun h => h) (fun x4 hz => ?_)
  refine q_iload_n C 1 rfl dX6_river_10 rfl ?_
  refine q_if_eq C dX6_river_11 (tgt := 44) (by decide) (fun c5 => ?_) (fun c5 => ?_)
  · have hz := sat_t hz c5
    have hz := sat_some hz
    refine q_aload_n C 0 rfl dX6_river_44 rfl ?_
    refine q_iconst C dX6_river_45 ⟨by decide, by decide⟩ ?_
    obtain ⟨m6, hm6, hz⟩ := sat_bnd hz
    refine q_put tO_X6 C hm6 (i := 9) i_X6 tyX6_ok nmX6 rfl rfl (by decide) rfl f_69 dX6_river_46 ?_
    refine q_iload_n C 1 rfl dX6_river_49 rfl ?_
    refine q_if_ne C dX6_river_50 (tgt := 61) (by decide) (fun c7 => ?_) (fun c7 => ?_)
    · have hz := sat_f hz c7
      refine q_aload_n C 0 rfl dX6_river_61 rfl ?_
      refine q_bipush C dX6_river_62 ⟨rfl, by decide, by decide⟩ ?_
      refine q_iconst C dX6_river_64 ⟨by decide, by decide⟩ ?_
      obtain ⟨z9, hz9, hz⟩ := sat_bind hz
      refine q_callVv stZ_t C [Vi 114, Vi 0] [] (c_X6_copyAll m6 114 0 hz9) tO_X6 rfl gX6_river_X6_copyAll rfl ⟨rfl, rfl⟩ hdX6_copyAll ⟨by decide, by decide⟩ rfl (Nat.le_of_ble_eq_true rfl) dX6_river_65 rfl (fun _ => ?_)
      refine q_aload_n C 0 rfl dX6_river_68 rfl ?_
      refine q_iconst C dX6_river_69 ⟨by decide, by decide⟩ ?_
      obtain ⟨m10, hm10, hz⟩ := sat_bnd hz
      refine q_put tO_X6 C hm10 (i := 3) i_X6 tyX6_ok nmX6 rfl rfl (by decide) rfl f_117 dX6_river_70 ?_
      refine q_aload_n C 0 rfl dX6_river_73 rfl ?_
      refine q_getR tO_X6 C (i := 0) i_X6 rfl rfl (by decide) rfl f_7 dX6_river_74 ?_
      refine q_bipush C dX6_river_77 ⟨rfl, by decide, by decide⟩ ?_
      obtain ⟨c11, hz⟩ := sat_chk hz
      refine q_wald C c11 dX6_river_79 ?_
      exact q_iret C dX6_river_80 (sat_eq hz)
    · have hz := sat_t hz c7
      refine q_ldc (v := (-1000100)) (x := (-1000100)) C (by decide +kernel) dX6_river_53 ⟨by decide +kernel, by decide, by decide⟩ ?_
      refine q_aload_n C 0 rfl dX6_river_55 rfl ?_
      refine q_get tO_X6 C (i := 16) i_X6 rfl rfl (by decide) rfl f_76 dX6_river_56 ?_
      refine q_isub C dX6_river_59 ?_
      exact q_iret C dX6_river_60 (sat_eq hz)
  · have hz := sat_f hz c5
    refine q_aload_n C 0 rfl dX6_river_14 rfl ?_
    refine q_get tO_X6 C (i := 14) i_X6 rfl rfl (by decide) rfl f_79 dX6_river_15 ?_
    refine q_aload_n C 0 rfl dX6_river_18 rfl ?_
    refine q_get tO_X6 C (i := 9) i_X6 rfl rfl (by decide) rfl f_69 dX6_river_19 ?_
    refine q_icmp_lt C dX6_river_22 (tgt := 36) (by decide) (fun c12 => ?_) (fun c12 => ?_)
    · have hz := sat_t hz c12
      refine q_aload_n C 0 rfl dX6_river_36 rfl ?_
      obtain ⟨z14, hz14, hz⟩ := sat_bind hz
      refine q_callVz stZ_t C [] [] (c_X6_takesSwan x4.2 hz14) tO_X6 rfl gX6_river_X6_takesSwan rfl ⟨rfl, rfl⟩ hdX6_takesSwan ⟨by decide, by decide⟩ rfl (Nat.le_of_ble_eq_true rfl) dX6_river_37 rfl (fun hb13 _ => ?_)
      refine q_istore_n C [(1, Vi (z14.1)), (0, Vr 0)] rfl (by decide) dX6_river_40 rfl ?_
      refine q_goto C dX6_river_41 (tgt := 10) (by decide) ?_
      refine q_sub C [1, 0] [(0, Vr 0), (1, Vi (z14.1))] rfl ?_
      have hz := sat_some hz
      exact hz
    · have hz := sat_f hz c12
      refine q_aload_n C 0 rfl dX6_river_25 rfl ?_
      refine q_getR tO_X6 C (i := 0) i_X6 rfl rfl (by decide) rfl f_7 dX6_river_26 ?_
      refine q_sipush C dX6_river_29 ⟨rfl, by decide, by decide⟩ ?_
      obtain ⟨c15, hz⟩ := sat_chk hz
      refine q_wald C c15 dX6_river_32 ?_
      refine q_if_ne C dX6_river_33 (tgt := 44) (by decide) (fun c16 => ?_) (fun c16 => ?_)
      · have hz := sat_f hz c16
        have hz := sat_some hz
        refine q_aload_n C 0 rfl dX6_river_44 rfl ?_
        refine q_iconst C dX6_river_45 ⟨by decide, by decide⟩ ?_
        obtain ⟨m17, hm17, hz⟩ := sat_bnd hz
        refine q_put tO_X6 C hm17 (i := 9) i_X6 tyX6_ok nmX6 rfl rfl (by decide) rfl f_69 dX6_river_46 ?_
        refine q_iload_n C 1 rfl dX6_river_49 rfl ?_
        refine q_if_ne C dX6_river_50 (tgt := 61) (by decide) (fun c18 => ?_) (fun c18 => ?_)
        · have hz := sat_f hz c18
          refine q_aload_n C 0 rfl dX6_river_61 rfl ?_
          refine q_bipush C dX6_river_62 ⟨rfl, by decide, by decide⟩ ?_
          refine q_iconst C dX6_river_64 ⟨by decide, by decide⟩ ?_
          obtain ⟨z20, hz20, hz⟩ := sat_bind hz
          refine q_callVv stZ_t C [Vi 114, Vi 0] [] (c_X6_copyAll m17 114 0 hz20) tO_X6 rfl gX6_river_X6_copyAll rfl ⟨rfl, rfl⟩ hdX6_copyAll ⟨by decide, by decide⟩ rfl (Nat.le_of_ble_eq_true rfl) dX6_river_65 rfl (fun _ => ?_)
          refine q_aload_n C 0 rfl dX6_river_68 rfl ?_
          refine q_iconst C dX6_river_69 ⟨by decide, by decide⟩ ?_
          obtain ⟨m21, hm21, hz⟩ := sat_bnd hz
          refine q_put tO_X6 C hm21 (i := 3) i_X6 tyX6_ok nmX6 rfl rfl (by decide) rfl f_117 dX6_river_70 ?_
          refine q_aload_n C 0 rfl dX6_river_73 rfl ?_
          refine q_getR tO_X6 C (i := 0) i_X6 rfl rfl (by decide) rfl f_7 dX6_river_74 ?_
          refine q_bipush C dX6_river_77 ⟨rfl, by decide, by decide⟩ ?_
          obtain ⟨c22, hz⟩ := sat_chk hz
          refine q_wald C c22 dX6_river_79 ?_
          exact q_iret C dX6_river_80 (sat_eq hz)
        · have hz := sat_t hz c18
          refine q_ldc (v := (-1000100)) (x := (-1000100)) C (by decide +kernel) dX6_river_53 ⟨by decide +kernel, by decide, by decide⟩ ?_
          refine q_aload_n C 0 rfl dX6_river_55 rfl ?_
          refine q_get tO_X6 C (i := 16) i_X6 rfl rfl (by decide) rfl f_76 dX6_river_56 ?_
          refine q_isub C dX6_river_59 ?_
          exact q_iret C dX6_river_60 (sat_eq hz)
      · have hz := sat_t hz c16
        refine q_aload_n C 0 rfl dX6_river_36 rfl ?_
        obtain ⟨z24, hz24, hz⟩ := sat_bind hz
        refine q_callVz stZ_t C [] [] (c_X6_takesSwan x4.2 hz24) tO_X6 rfl gX6_river_X6_takesSwan rfl ⟨rfl, rfl⟩ hdX6_takesSwan ⟨by decide, by decide⟩ rfl (Nat.le_of_ble_eq_true rfl) dX6_river_37 rfl (fun hb23 _ => ?_)
        refine q_istore_n C [(1, Vi (z24.1)), (0, Vr 0)] rfl (by decide) dX6_river_40 rfl ?_
        refine q_goto C dX6_river_41 (tgt := 10) (by decide) ?_
        refine q_sub C [1, 0] [(0, Vr 0), (1, Vi (z24.1))] rfl ?_
        have hz := sat_some hz
        exact hz
theorem hdX6_fault : yX6_fault.cls = RX6 ∧ yX6_fault.cls ≠ "java/lang/invoke/MethodHandle" ∧ yX6_fault.cls ≠ "java/lang/invoke/VarHandle" ∧ (parseMethodDescriptor yX6_fault.desc).map (fun d => d.parameters.length) = some 0 := by decide +kernel
set_option maxHeartbeats 4000000 in
set_option maxRecDepth 100000 in
theorem c_X6_fault {l : Launch} {D : va_G} {ad : Nat → Nat} {cI cZ : ClassId} (μ : Mm) : CT l D vwCl (tyM cI cZ) 10 ad (EM ad cI cZ) (fun _ => True) yX6_fault wsX6_fault ({ frames := 0, cells := 0, slots := 0, locals := 0 } : Room) (some .int) [Vr 0] μ (f_X6_fault μ, μ) := by
  refine CT_of [(0, Vr 0)] stZ_t (by decide) rfl rfl (Nat.le_of_ble_eq_true rfl) rfl (fun G C => ?_)
  have i_X6 : ∀ w ∈ u_ws RX6 TX6 19, w ∈ wsX6_fault := by decide +kernel
  have f_73 : Cond.fieldLink (yX6_fault).cls 73 "SwanDeedsModel" "faulty" "I" ∈ wsX6_fault := by decide +kernel
  generalize hz : f_X6_fault μ = v at C
  unfold f_X6_fault at hz
  refine q_aload_n C 0 rfl dX6_fault_0 rfl ?_
  refine q_get tO_X6 C (i := 10) i_X6 rfl rfl (by decide) rfl f_73 dX6_fault_1 ?_
  exact q_iret C dX6_fault_4 (congrArg (fun q => (q, μ)) hz)
theorem hdX6_isRiver : yX6_isRiver.cls = RX6 ∧ yX6_isRiver.cls ≠ "java/lang/invoke/MethodHandle" ∧ yX6_isRiver.cls ≠ "java/lang/invoke/VarHandle" ∧ (parseMethodDescriptor yX6_isRiver.desc).map (fun d => d.parameters.length) = some 0 := by decide +kernel
set_option maxHeartbeats 4000000 in
set_option maxRecDepth 100000 in
theorem c_X6_isRiver {l : Launch} {D : va_G} {ad : Nat → Nat} {cI cZ : ClassId} (μ : Mm) {v : Int} (hz : f_X6_isRiver μ = some v) : CT l D vwCl (tyM cI cZ) 10 ad (EM ad cI cZ) (fun _ => True) yX6_isRiver wsX6_isRiver ({ frames := 0, cells := 0, slots := 0, locals := 0 } : Room) (some .boolean) [Vr 0] μ (v, μ) := by
  refine CT_of [(0, Vr 0)] stZ_t (by decide) rfl rfl (Nat.le_of_ble_eq_true rfl) rfl (fun G C => ?_)
  have i_X6 : ∀ w ∈ u_ws RX6 TX6 19, w ∈ wsX6_isRiver := by decide +kernel
  have f_7 : Cond.fieldLink (yX6_isRiver).cls 7 "SwanDeedsModel" "w" "[I" ∈ wsX6_isRiver := by decide +kernel
  have hz := sat_of hz
  unfold f_X6_isRiver at hz
  refine q_aload_n C 0 rfl dX6_isRiver_0 rfl ?_
  refine q_getR tO_X6 C (i := 0) i_X6 rfl rfl (by decide) rfl f_7 dX6_isRiver_1 ?_
  refine q_bipush C dX6_isRiver_4 ⟨rfl, by decide, by decide⟩ ?_
  obtain ⟨c1, hz⟩ := sat_chk hz
  refine q_wald C c1 dX6_isRiver_6 ?_
  refine q_iconst C dX6_isRiver_7 ⟨by decide, by decide⟩ ?_
  refine q_icmp_ne C dX6_isRiver_8 (tgt := 15) (by decide) (fun c2 => ?_) (fun c2 => ?_)
  · have hz := sat_f hz c2
    refine q_iconst C dX6_isRiver_15 ⟨by decide, by decide⟩ ?_
    exact q_zret C (Or.inl rfl) dX6_isRiver_16 (congrArg (fun q => (q, μ)) (sat_eq hz))
  · have hz := sat_t hz c2
    refine q_iconst C dX6_isRiver_11 ⟨by decide, by decide⟩ ?_
    refine q_goto C dX6_isRiver_12 (tgt := 16) (by decide) ?_
    exact q_zret C (Or.inr rfl) dX6_isRiver_16 (congrArg (fun q => (q, μ)) (sat_eq hz))
theorem hdX6_isSwan : yX6_isSwan.cls = RX6 ∧ yX6_isSwan.cls ≠ "java/lang/invoke/MethodHandle" ∧ yX6_isSwan.cls ≠ "java/lang/invoke/VarHandle" ∧ (parseMethodDescriptor yX6_isSwan.desc).map (fun d => d.parameters.length) = some 1 := by decide +kernel
set_option maxHeartbeats 4000000 in
set_option maxRecDepth 100000 in
theorem c_X6_isSwan {l : Launch} {D : va_G} {ad : Nat → Nat} {cI cZ : ClassId} (μ : Mm) (p1 : Int) {v : Int} (hz : f_X6_isSwan μ p1 = some v) : CT l D vwCl (tyM cI cZ) 10 ad (EM ad cI cZ) (fun _ => True) yX6_isSwan wsX6_isSwan ({ frames := 1, cells := 0, slots := 0, locals := 25 } : Room) (some .boolean) [Vr 0, Vi p1] μ (v, μ) := by
  refine CT_of [(0, Vr 0), (1, Vi p1)] stZ_t (by decide) rfl rfl (Nat.le_of_ble_eq_true rfl) rfl (fun G C => ?_)
  have i_X6 : ∀ w ∈ u_ws RX6 TX6 19, w ∈ wsX6_isSwan := by decide +kernel
  have f_7 : Cond.fieldLink (yX6_isSwan).cls 7 "SwanDeedsModel" "w" "[I" ∈ wsX6_isSwan := by decide +kernel
  have hz := sat_of hz
  unfold f_X6_isSwan at hz
  refine q_iload_n C 1 rfl dX6_isSwan_0 rfl ?_
  refine q_i2l C dX6_isSwan_1 ?_
  refine q_lconst (x := 0) C dX6_isSwan_2 ⟨rfl, by decide, by decide⟩ ?_
  refine q_aload_n C 0 rfl dX6_isSwan_3 rfl ?_
  refine q_getR tO_X6 C (i := 0) i_X6 rfl rfl (by decide) rfl f_7 dX6_isSwan_4 ?_
  refine q_bipush C dX6_isSwan_7 ⟨rfl, by decide, by decide⟩ ?_
  obtain ⟨c1, hz⟩ := sat_chk hz
  refine q_wald C c1 dX6_isSwan_9 ?_
  refine q_iconst C dX6_isSwan_10 ⟨by decide, by decide⟩ ?_
  refine q_isub C dX6_isSwan_11 ?_
  refine q_i2l C dX6_isSwan_12 ?_
  refine q_callSz stZ_t C [Vl p1, Vl 0, Vl (w3 ((rdW μ 25) - 1))] [] (c_X6_in μ p1 0 (w3 ((rdW μ 25) - 1))) gX6_isSwan_X6_in rfl ⟨rfl, rfl⟩ hdX6_in ⟨by decide, by decide⟩ rfl (Nat.le_of_ble_eq_true rfl) dX6_isSwan_13 rfl (fun hb2 _ => ?_)
  exact q_zret C (hb2) dX6_isSwan_16 (congrArg (fun q => (q, μ)) (sat_eq hz))
theorem hdX6_isLawn : yX6_isLawn.cls = RX6 ∧ yX6_isLawn.cls ≠ "java/lang/invoke/MethodHandle" ∧ yX6_isLawn.cls ≠ "java/lang/invoke/VarHandle" ∧ (parseMethodDescriptor yX6_isLawn.desc).map (fun d => d.parameters.length) = some 1 := by decide +kernel
set_option maxHeartbeats 4000000 in
set_option maxRecDepth 100000 in
theorem c_X6_isLawn {l : Launch} {D : va_G} {ad : Nat → Nat} {cI cZ : ClassId} (μ : Mm) (p1 : Int) {v : Int} (hz : f_X6_isLawn μ p1 = some v) : CT l D vwCl (tyM cI cZ) 10 ad (EM ad cI cZ) (fun _ => True) yX6_isLawn wsX6_isLawn ({ frames := 1, cells := 0, slots := 0, locals := 25 } : Room) (some .boolean) [Vr 0, Vi p1] μ (v, μ) := by
  refine CT_of [(0, Vr 0), (1, Vi p1)] stZ_t (by decide) rfl rfl (Nat.le_of_ble_eq_true rfl) rfl (fun G C => ?_)
  have i_X6 : ∀ w ∈ u_ws RX6 TX6 19, w ∈ wsX6_isLawn := by decide +kernel
  have f_7 : Cond.fieldLink (yX6_isLawn).cls 7 "SwanDeedsModel" "w" "[I" ∈ wsX6_isLawn := by decide +kernel
  have hz := sat_of hz
  unfold f_X6_isLawn at hz
  refine q_iload_n C 1 rfl dX6_isLawn_0 rfl ?_
  refine q_i2l C dX6_isLawn_1 ?_
  refine q_lconst (x := 0) C dX6_isLawn_2 ⟨rfl, by decide, by decide⟩ ?_
  refine q_aload_n C 0 rfl dX6_isLawn_3 rfl ?_
  refine q_getR tO_X6 C (i := 0) i_X6 rfl rfl (by decide) rfl f_7 dX6_isLawn_4 ?_
  refine q_bipush C dX6_isLawn_7 ⟨rfl, by decide, by decide⟩ ?_
  obtain ⟨c1, hz⟩ := sat_chk hz
  refine q_wald C c1 dX6_isLawn_9 ?_
  refine q_iconst C dX6_isLawn_10 ⟨by decide, by decide⟩ ?_
  refine q_isub C dX6_isLawn_11 ?_
  refine q_i2l C dX6_isLawn_12 ?_
  refine q_callSz stZ_t C [Vl p1, Vl 0, Vl (w3 ((rdW μ 24) - 1))] [] (c_X6_in μ p1 0 (w3 ((rdW μ 24) - 1))) gX6_isLawn_X6_in rfl ⟨rfl, rfl⟩ hdX6_in ⟨by decide, by decide⟩ rfl (Nat.le_of_ble_eq_true rfl) dX6_isLawn_13 rfl (fun hb2 _ => ?_)
  exact q_zret C (hb2) dX6_isLawn_16 (congrArg (fun q => (q, μ)) (sat_eq hz))
theorem hdX6_isOpen : yX6_isOpen.cls = RX6 ∧ yX6_isOpen.cls ≠ "java/lang/invoke/MethodHandle" ∧ yX6_isOpen.cls ≠ "java/lang/invoke/VarHandle" ∧ (parseMethodDescriptor yX6_isOpen.desc).map (fun d => d.parameters.length) = some 3 := by decide +kernel
set_option maxHeartbeats 4000000 in
set_option maxRecDepth 100000 in
theorem c_X6_isOpen {l : Launch} {D : va_G} {ad : Nat → Nat} {cI cZ : ClassId} (μ : Mm) (p1 p2 p3 : Int) {v : Int} (hz : f_X6_isOpen μ p1 p2 p3 = some v) : CT l D vwCl (tyM cI cZ) 10 ad (EM ad cI cZ) (fun _ => True) yX6_isOpen wsX6_isOpen ({ frames := 1, cells := 0, slots := 0, locals := 25 } : Room) (some .boolean) [Vr 0, Vi p1, Vi p2, Vi p3] μ (v, μ) := by
  refine CT_of [(0, Vr 0), (1, Vi p1), (2, Vi p2), (3, Vi p3)] stZ_t (by decide) rfl rfl (Nat.le_of_ble_eq_true rfl) rfl (fun G C => ?_)
  have i_X6 : ∀ w ∈ u_ws RX6 TX6 19, w ∈ wsX6_isOpen := by decide +kernel
  have f_7 : Cond.fieldLink (yX6_isOpen).cls 7 "SwanDeedsModel" "w" "[I" ∈ wsX6_isOpen := by decide +kernel
  have hz := sat_of hz
  unfold f_X6_isOpen at hz
  refine q_iload_n C 2 rfl dX6_isOpen_0 rfl ?_
  refine q_iload_n C 3 rfl dX6_isOpen_1 rfl ?_
  refine q_iadd C dX6_isOpen_2 ?_
  refine q_istore C [(4, Vi (w3 (p2 + p3))), (0, Vr 0), (1, Vi p1), (2, Vi p2), (3, Vi p3)] rfl (by decide) dX6_isOpen_3 ?_
  refine q_iload_n C 4 rfl dX6_isOpen_5 rfl ?_
  obtain ⟨v1, hv1, hz⟩ := sat_bnd hz
  have Jv1 : G μ 15 [(0, Vr 0), (1, Vi p1), (4, Vi (w3 (p2 + p3)))] [Vi v1] := by
    refine q_istore C [(5, Vi v1), (0, Vr 0), (1, Vi p1), (4, Vi (w3 (p2 + p3)))] rfl (by decide) dX6_isOpen_15 ?_
    refine q_iload C 3 rfl dX6_isOpen_17 ?_
    refine q_i2l C dX6_isOpen_19 ?_
    refine q_lconst (x := 0) C dX6_isOpen_20 ⟨rfl, by decide, by decide⟩ ?_
    refine q_aload_n C 1 rfl dX6_isOpen_21 rfl ?_
    refine q_getR tO_X6 C (i := 0) i_X6 rfl rfl (by decide) rfl f_7 dX6_isOpen_22 ?_
    refine q_iload_n C 2 rfl dX6_isOpen_25 rfl ?_
    refine q_bipush C dX6_isOpen_26 ⟨rfl, by decide, by decide⟩ ?_
    refine q_iadd C dX6_isOpen_28 ?_
    obtain ⟨c2, hz⟩ := sat_chk hz
    refine q_wald C c2 dX6_isOpen_29 ?_
    refine q_iconst C dX6_isOpen_30 ⟨by decide, by decide⟩ ?_
    refine q_isub C dX6_isOpen_31 ?_
    refine q_i2l C dX6_isOpen_32 ?_
    refine q_callSz stZ_t C [Vl (w3 (p2 + p3)), Vl 0, Vl (w3 ((rdW μ (w3 (p1 + 24))) - 1))] [] (c_X6_in μ (w3 (p2 + p3)) 0 (w3 ((rdW μ (w3 (p1 + 24))) - 1))) gX6_isOpen_X6_in rfl ⟨rfl, rfl⟩ hdX6_in ⟨by decide, by decide⟩ rfl (Nat.le_of_ble_eq_true rfl) dX6_isOpen_33 rfl (fun hb3 _ => ?_)
    refine q_if_eq C dX6_isOpen_36 (tgt := 60) (by decide) (fun c4 => ?_) (fun c4 => ?_)
    · have hz := sat_t hz c4
      refine q_iconst C dX6_isOpen_60 ⟨by decide, by decide⟩ ?_
      exact q_zret C (Or.inl rfl) dX6_isOpen_61 (congrArg (fun q => (q, μ)) (sat_eq hz))
    · have hz := sat_f hz c4
      refine q_aload_n C 1 rfl dX6_isOpen_39 rfl ?_
      refine q_getR tO_X6 C (i := 0) i_X6 rfl rfl (by decide) rfl f_7 dX6_isOpen_40 ?_
      refine q_iload_n C 2 rfl dX6_isOpen_43 rfl ?_
      refine q_bipush C dX6_isOpen_44 ⟨rfl, by decide, by decide⟩ ?_
      refine q_iadd C dX6_isOpen_46 ?_
      obtain ⟨c5, hz⟩ := sat_chk hz
      refine q_wald C c5 dX6_isOpen_47 ?_
      refine q_iload C 0 rfl dX6_isOpen_48 ?_
      refine q_callSz stZ_t C [Vi (rdW μ (w3 (p1 + 10))), Vi v1] [] (c_X6_has μ (rdW μ (w3 (p1 + 10))) v1) gX6_isOpen_X6_has rfl ⟨rfl, rfl⟩ hdX6_has ⟨by decide, by decide⟩ rfl (Nat.le_of_ble_eq_true rfl) dX6_isOpen_50 rfl (fun hb6 _ => ?_)
      refine q_if_ne C dX6_isOpen_53 (tgt := 60) (by decide) (fun c7 => ?_) (fun c7 => ?_)
      · have hz := sat_f hz c7
        refine q_iconst C dX6_isOpen_60 ⟨by decide, by decide⟩ ?_
        exact q_zret C (Or.inl rfl) dX6_isOpen_61 (congrArg (fun q => (q, μ)) (sat_eq hz))
      · have hz := sat_t hz c7
        refine q_iconst C dX6_isOpen_56 ⟨by decide, by decide⟩ ?_
        refine q_goto C dX6_isOpen_57 (tgt := 61) (by decide) ?_
        exact q_zret C (Or.inr rfl) dX6_isOpen_61 (congrArg (fun q => (q, μ)) (sat_eq hz))
  have hz := hv1.symm
  refine q_if_le C dX6_isOpen_6 (tgt := 13) (by decide) (fun c8 => ?_) (fun c8 => ?_)
  · have hz := eq_t hz c8
    refine q_iload C 0 rfl dX6_isOpen_13 ?_
    have hz : _ = v1 := hz
    refine q_sub C [1, 2, 0] [(0, Vr 0), (1, Vi p1), (4, Vi (w3 (p2 + p3)))] rfl ?_
    subst hz
    exact Jv1
  · have hz := eq_f hz c8
    refine q_iload_n C 3 rfl dX6_isOpen_9 rfl ?_
    refine q_goto C dX6_isOpen_10 (tgt := 15) (by decide) ?_
    have hz : _ = v1 := hz
    refine q_sub C [1, 2, 0] [(0, Vr 0), (1, Vi p1), (4, Vi (w3 (p2 + p3)))] rfl ?_
    subst hz
    exact Jv1
theorem hdX6_seesOn : yX6_seesOn.cls = RX6 ∧ yX6_seesOn.cls ≠ "java/lang/invoke/MethodHandle" ∧ yX6_seesOn.cls ≠ "java/lang/invoke/VarHandle" ∧ (parseMethodDescriptor yX6_seesOn.desc).map (fun d => d.parameters.length) = some 3 := by decide +kernel
set_option maxHeartbeats 4000000 in
set_option maxRecDepth 100000 in
theorem c_X6_seesOn {l : Launch} {D : va_G} {ad : Nat → Nat} {cI cZ : ClassId} (μ : Mm) (p1 p2 p3 : Int) {v : Int} (hz : f_X6_seesOn μ p1 p2 p3 = some v) : CT l D vwCl (tyM cI cZ) 10 ad (EM ad cI cZ) (fun _ => True) yX6_seesOn wsX6_seesOn ({ frames := 0, cells := 0, slots := 0, locals := 0 } : Room) (some .int) [Vr 0, Vi p1, Vi p2, Vi p3] μ (v, μ) := by
  refine CT_of [(0, Vr 0), (1, Vi p1), (2, Vi p2), (3, Vi p3)] stZ_t (by decide) rfl rfl (Nat.le_of_ble_eq_true rfl) rfl (fun G C => ?_)
  have i_X6 : ∀ w ∈ u_ws RX6 TX6 19, w ∈ wsX6_seesOn := by decide +kernel
  have f_7 : Cond.fieldLink (yX6_seesOn).cls 7 "SwanDeedsModel" "w" "[I" ∈ wsX6_seesOn := by decide +kernel
  have hz := sat_of hz
  unfold f_X6_seesOn at hz
  refine q_iconst C dX6_seesOn_0 ⟨by decide, by decide⟩ ?_
  refine q_istore C [(4, Vi 0), (0, Vr 0), (1, Vi p1), (2, Vi p2), (3, Vi p3)] rfl (by decide) dX6_seesOn_1 ?_
  refine q_aload_n C 1 rfl dX6_seesOn_3 rfl ?_
  refine q_getR tO_X6 C (i := 0) i_X6 rfl rfl (by decide) rfl f_7 dX6_seesOn_4 ?_
  refine q_iload_n C 2 rfl dX6_seesOn_7 rfl ?_
  refine q_bipush C dX6_seesOn_8 ⟨rfl, by decide, by decide⟩ ?_
  refine q_iadd C dX6_seesOn_10 ?_
  refine q_iload_n C 3 rfl dX6_seesOn_11 rfl ?_
  refine q_iadd C dX6_seesOn_12 ?_
  obtain ⟨c1, hz⟩ := sat_chk hz
  refine q_wald C c1 dX6_seesOn_13 ?_
  refine q_iconst C dX6_seesOn_14 ⟨by decide, by decide⟩ ?_
  obtain ⟨v2, hv2, hz⟩ := sat_bind hz
  have Jv2 : G μ 91 [(0, Vr 0), (1, Vi p1), (3, Vi p3), (4, Vi v2)] [] := by
    refine q_iload C 3 rfl dX6_seesOn_91 ?_
    refine q_if_eq C dX6_seesOn_93 (tgt := 100) (by decide) (fun c3 => ?_) (fun c3 => ?_)
    · have hz := sat_t hz c3
      refine q_aload_n C 0 rfl dX6_seesOn_100 rfl ?_
      refine q_getR tO_X6 C (i := 0) i_X6 rfl rfl (by decide) rfl f_7 dX6_seesOn_101 ?_
      refine q_iload_n C 1 rfl dX6_seesOn_104 rfl ?_
      refine q_iconst C dX6_seesOn_105 ⟨by decide, by decide⟩ ?_
      refine q_iadd C dX6_seesOn_106 ?_
      refine q_iload_n C 2 rfl dX6_seesOn_107 rfl ?_
      refine q_iadd C dX6_seesOn_108 ?_
      obtain ⟨c4, hz⟩ := sat_chk hz
      refine q_wald C c4 dX6_seesOn_109 ?_
      exact q_iret C dX6_seesOn_110 (congrArg (fun q => (q, μ)) (sat_eq hz))
    · have hz := sat_f hz c3
      refine q_iconst C dX6_seesOn_96 ⟨by decide, by decide⟩ ?_
      refine q_goto C dX6_seesOn_97 (tgt := 110) (by decide) ?_
      exact q_iret C dX6_seesOn_110 (congrArg (fun q => (q, μ)) (sat_eq hz))
  have hz := sat_of hv2
  refine q_icmp_ne C dX6_seesOn_15 (tgt := 91) (by decide) (fun c5 => ?_) (fun c5 => ?_)
  · have hz := sat_f hz c5
    have hz := sat_some hz
    have hz : _ = v2 := hz
    refine q_sub C [1, 2, 4, 0] [(0, Vr 0), (1, Vi p1), (3, Vi p3), (4, Vi 0)] rfl ?_
    subst hz
    exact Jv2
  · have hz := sat_t hz c5
    refine q_iconst C dX6_seesOn_18 ⟨by decide, by decide⟩ ?_
    refine q_istore C [(5, Vi 0), (4, Vi 0), (0, Vr 0), (1, Vi p1), (2, Vi p2), (3, Vi p3)] rfl (by decide) dX6_seesOn_19 ?_
    refine q_sub C [2, 3, 4, 5, 1, 0] [(0, Vr 0), (1, Vi p1), (2, Vi p2), (3, Vi p3), (4, Vi 0), (5, Vi 0)] rfl ?_
    refine loop_go (fun x6 => G μ 21 [(0, Vr 0), (1, Vi p1), (2, Vi p2), (3, Vi p3), (4, Vi (x6.1)), (5, Vi (x6.2))] []) (sat_bind2 hz) (fun h => h) (fun x6 hz => ?_)
    refine q_iload C 5 rfl dX6_seesOn_21 ?_
    refine q_aload_n C 0 rfl dX6_seesOn_23 rfl ?_
    refine q_getR tO_X6 C (i := 0) i_X6 rfl rfl (by decide) rfl f_7 dX6_seesOn_24 ?_
    refine q_iload_n C 1 rfl dX6_seesOn_27 rfl ?_
    refine q_bipush C dX6_seesOn_28 ⟨rfl, by decide, by decide⟩ ?_
    refine q_iadd C dX6_seesOn_30 ?_
    obtain ⟨c7, hz⟩ := sat_chk hz
    refine q_wald C c7 dX6_seesOn_31 ?_
    refine q_icmp_ge C dX6_seesOn_32 (tgt := 91) (by decide) (fun c8 => ?_) (fun c8 => ?_)
    · have hz := sat_t hz c8
      have hz := sat_some hz
      refine q_sub C [0, 1, 3, 4] [(0, Vr 0), (1, Vi p1), (3, Vi p3), (4, Vi (x6.1))] rfl ?_
      have hz := sat_some hz
      have hz : _ = v2 := hz
      subst hz
      exact Jv2
    · have hz := sat_f hz c8
      refine q_iload C 4 rfl dX6_seesOn_35 ?_
      refine q_if_ne C dX6_seesOn_37 (tgt := 78) (by decide) (fun c9 => ?_) (fun c9 => ?_)
      · have hz := sat_f hz c9
        refine q_iconst C dX6_seesOn_78 ⟨by decide, by decide⟩ ?_
        refine q_goto C dX6_seesOn_79 (tgt := 83) (by decide) ?_
        refine q_istore C [(4, Vi 1), (0, Vr 0), (1, Vi p1), (2, Vi p2), (3, Vi p3), (5, Vi (x6.2))] rfl (by decide) dX6_seesOn_83 ?_
        refine q_iinc C 5 rfl [(5, Vi (w3 (x6.2 + 1))), (4, Vi 1), (0, Vr 0), (1, Vi p1), (2, Vi p2), (3, Vi p3)] rfl (by decide) dX6_seesOn_85 ?_
        refine q_goto C dX6_seesOn_88 (tgt := 21) (by decide) ?_
        refine q_sub C [2, 3, 4, 5, 1, 0] [(0, Vr 0), (1, Vi p1), (2, Vi p2), (3, Vi p3), (4, Vi 1), (5, Vi (w3 (x6.2 + 1)))] rfl ?_
        have hz := sat_some hz
        exact hz
      · have hz := sat_t hz c9
        refine q_iload C 5 rfl dX6_seesOn_40 ?_
        refine q_iload_n C 2 rfl dX6_seesOn_42 rfl ?_
        refine q_icmp_eq C dX6_seesOn_43 (tgt := 82) (by decide) (fun c10 => ?_) (fun c10 => ?_)
        · have hz := sat_t hz c10
          refine q_iconst C dX6_seesOn_82 ⟨by decide, by decide⟩ ?_
          refine q_istore C [(4, Vi 0), (0, Vr 0), (1, Vi p1), (2, Vi p2), (3, Vi p3), (5, Vi (x6.2))] rfl (by decide) dX6_seesOn_83 ?_
          refine q_iinc C 5 rfl [(5, Vi (w3 (x6.2 + 1))), (4, Vi 0), (0, Vr 0), (1, Vi p1), (2, Vi p2), (3, Vi p3)] rfl (by decide) dX6_seesOn_85 ?_
          refine q_goto C dX6_seesOn_88 (tgt := 21) (by decide) ?_
          refine q_sub C [2, 3, 4, 5, 1, 0] [(0, Vr 0), (1, Vi p1), (2, Vi p2), (3, Vi p3), (4, Vi 0), (5, Vi (w3 (x6.2 + 1)))] rfl ?_
          have hz := sat_some hz
          exact hz
        · have hz := sat_f hz c10
          refine q_aload_n C 0 rfl dX6_seesOn_46 rfl ?_
          refine q_getR tO_X6 C (i := 0) i_X6 rfl rfl (by decide) rfl f_7 dX6_seesOn_47 ?_
          refine q_iload_n C 1 rfl dX6_seesOn_50 rfl ?_
          refine q_bipush C dX6_seesOn_51 ⟨rfl, by decide, by decide⟩ ?_
          refine q_iadd C dX6_seesOn_53 ?_
          refine q_iload C 5 rfl dX6_seesOn_54 ?_
          refine q_iadd C dX6_seesOn_56 ?_
          obtain ⟨c11, hz⟩ := sat_chk hz
          refine q_wald C c11 dX6_seesOn_57 ?_
          refine q_iconst C dX6_seesOn_58 ⟨by decide, by decide⟩ ?_
          refine q_icmp_ne C dX6_seesOn_59 (tgt := 82) (by decide) (fun c12 => ?_) (fun c12 => ?_)
          · have hz := sat_f hz c12
            refine q_iconst C dX6_seesOn_82 ⟨by decide, by decide⟩ ?_
            refine q_istore C [(4, Vi 0), (0, Vr 0), (1, Vi p1), (2, Vi p2), (3, Vi p3), (5, Vi (x6.2))] rfl (by decide) dX6_seesOn_83 ?_
            refine q_iinc C 5 rfl [(5, Vi (w3 (x6.2 + 1))), (4, Vi 0), (0, Vr 0), (1, Vi p1), (2, Vi p2), (3, Vi p3)] rfl (by decide) dX6_seesOn_85 ?_
            refine q_goto C dX6_seesOn_88 (tgt := 21) (by decide) ?_
            refine q_sub C [2, 3, 4, 5, 1, 0] [(0, Vr 0), (1, Vi p1), (2, Vi p2), (3, Vi p3), (4, Vi 0), (5, Vi (w3 (x6.2 + 1)))] rfl ?_
            have hz := sat_some hz
            exact hz
          · have hz := sat_t hz c12
            refine q_aload_n C 0 rfl dX6_seesOn_62 rfl ?_
            refine q_getR tO_X6 C (i := 0) i_X6 rfl rfl (by decide) rfl f_7 dX6_seesOn_63 ?_
            refine q_iload_n C 1 rfl dX6_seesOn_66 rfl ?_
            refine q_bipush C dX6_seesOn_67 ⟨rfl, by decide, by decide⟩ ?_
            refine q_iadd C dX6_seesOn_69 ?_
            refine q_iload C 5 rfl dX6_seesOn_70 ?_
            refine q_iadd C dX6_seesOn_72 ?_
            obtain ⟨c13, hz⟩ := sat_chk hz
            refine q_wald C c13 dX6_seesOn_73 ?_
            refine q_iload_n C 3 rfl dX6_seesOn_74 rfl ?_
            refine q_icmp_ne C dX6_seesOn_75 (tgt := 82) (by decide) (fun c14 => ?_) (fun c14 => ?_)
            · have hz := sat_f hz c14
              refine q_iconst C dX6_seesOn_82 ⟨by decide, by decide⟩ ?_
              refine q_istore C [(4, Vi 0), (0, Vr 0), (1, Vi p1), (2, Vi p2), (3, Vi p3), (5, Vi (x6.2))] rfl (by decide) dX6_seesOn_83 ?_
              refine q_iinc C 5 rfl [(5, Vi (w3 (x6.2 + 1))), (4, Vi 0), (0, Vr 0), (1, Vi p1), (2, Vi p2), (3, Vi p3)] rfl (by decide) dX6_seesOn_85 ?_
              refine q_goto C dX6_seesOn_88 (tgt := 21) (by decide) ?_
              refine q_sub C [2, 3, 4, 5, 1, 0] [(0, Vr 0), (1, Vi p1), (2, Vi p2), (3, Vi p3), (4, Vi 0), (5, Vi (w3 (x6.2 + 1)))] rfl ?_
              have hz := sat_some hz
              exact hz
            · have hz := sat_t hz c14
              refine q_iconst C dX6_seesOn_78 ⟨by decide, by decide⟩ ?_
              refine q_goto C dX6_seesOn_79 (tgt := 83) (by decide) ?_
              refine q_istore C [(4, Vi 1), (0, Vr 0), (1, Vi p1), (2, Vi p2), (3, Vi p3), (5, Vi (x6.2))] rfl (by decide) dX6_seesOn_83 ?_
              refine q_iinc C 5 rfl [(5, Vi (w3 (x6.2 + 1))), (4, Vi 1), (0, Vr 0), (1, Vi p1), (2, Vi p2), (3, Vi p3)] rfl (by decide) dX6_seesOn_85 ?_
              refine q_goto C dX6_seesOn_88 (tgt := 21) (by decide) ?_
              refine q_sub C [2, 3, 4, 5, 1, 0] [(0, Vr 0), (1, Vi p1), (2, Vi p2), (3, Vi p3), (4, Vi 1), (5, Vi (w3 (x6.2 + 1)))] rfl ?_
              have hz := sat_some hz
              exact hz
theorem hdX6_towards : yX6_towards.cls = RX6 ∧ yX6_towards.cls ≠ "java/lang/invoke/MethodHandle" ∧ yX6_towards.cls ≠ "java/lang/invoke/VarHandle" ∧ (parseMethodDescriptor yX6_towards.desc).map (fun d => d.parameters.length) = some 3 := by decide +kernel
set_option maxHeartbeats 4000000 in
set_option maxRecDepth 100000 in
theorem c_X6_towards {l : Launch} {D : va_G} {ad : Nat → Nat} {cI cZ : ClassId} (μ : Mm) (p1 p2 p3 : Int) {v : Int} (hz : f_X6_towards μ p1 p2 p3 = some v) : CT l D vwCl (tyM cI cZ) 10 ad (EM ad cI cZ) (fun _ => True) yX6_towards wsX6_towards ({ frames := 2, cells := 0, slots := 0, locals := 50 } : Room) (some .int) [Vr 0, Vi p1, Vi p2, Vi p3] μ (v, μ) := by
  refine CT_of [(0, Vr 0), (1, Vi p1), (2, Vi p2), (3, Vi p3)] stZ_t (by decide) rfl rfl (Nat.le_of_ble_eq_true rfl) rfl (fun G C => ?_)
  have i_X6 : ∀ w ∈ u_ws RX6 TX6 19, w ∈ wsX6_towards := by decide +kernel
  have f_7 : Cond.fieldLink (yX6_towards).cls 7 "SwanDeedsModel" "w" "[I" ∈ wsX6_towards := by decide +kernel
  have hz := sat_of hz
  unfold f_X6_towards at hz
  refine q_aload_n C 0 rfl dX6_towards_0 rfl ?_
  refine q_getR tO_X6 C (i := 0) i_X6 rfl rfl (by decide) rfl f_7 dX6_towards_1 ?_
  refine q_iload_n C 1 rfl dX6_towards_4 rfl ?_
  refine q_bipush C dX6_towards_5 ⟨rfl, by decide, by decide⟩ ?_
  refine q_iadd C dX6_towards_7 ?_
  refine q_iload_n C 2 rfl dX6_towards_8 rfl ?_
  refine q_iadd C dX6_towards_9 ?_
  obtain ⟨c1, hz⟩ := sat_chk hz
  refine q_wald C c1 dX6_towards_10 ?_
  obtain ⟨a2, ha2, hz⟩ := sat_bnd hz
  refine q_nmi ha2 ?_
  refine q_istore C [(4, Vi a2), (0, Vr 0), (1, Vi p1), (2, Vi p2), (3, Vi p3)] rfl (by decide) dX6_towards_11 ?_
  refine q_aload_n C 1 rfl dX6_towards_13 rfl ?_
  refine q_iload_n C 2 rfl dX6_towards_14 rfl ?_
  refine q_iload_n C 3 rfl dX6_towards_15 rfl ?_
  refine q_iload C 0 rfl dX6_towards_16 ?_
  obtain ⟨z4, hz4, hz⟩ := sat_bind hz
  refine q_callVi stZ_t C [Vi p1, Vi p2, Vi a2] [] (c_X6_seesOn μ p1 p2 a2 hz4) tO_X6 rfl gX6_towards_X6_seesOn rfl ⟨rfl, rfl⟩ hdX6_seesOn ⟨by decide, by decide⟩ rfl (Nat.le_of_ble_eq_true rfl) dX6_towards_18 rfl (fun _ _ => ?_)
  refine q_istore C [(5, Vi z4), (4, Vi a2), (0, Vr 0), (1, Vi p1), (2, Vi p2), (3, Vi p3)] rfl (by decide) dX6_towards_21 ?_
  refine q_iload C 1 rfl dX6_towards_23 ?_
  refine q_istore C [(6, Vi a2), (5, Vi z4), (4, Vi a2), (0, Vr 0), (1, Vi p1), (2, Vi p2), (3, Vi p3)] rfl (by decide) dX6_towards_25 ?_
  refine q_iconst C dX6_towards_27 ⟨by decide, by decide⟩ ?_
  refine q_istore C [(7, Vi 1), (6, Vi a2), (5, Vi z4), (4, Vi a2), (0, Vr 0), (1, Vi p1), (2, Vi p2), (3, Vi p3)] rfl (by decide) dX6_towards_28 ?_
  refine q_iconst C dX6_towards_30 ⟨by decide, by decide⟩ ?_
  refine q_istore C [(8, Vi 1), (7, Vi 1), (6, Vi a2), (5, Vi z4), (4, Vi a2), (0, Vr 0), (1, Vi p1), (2, Vi p2), (3, Vi p3)] rfl (by decide) dX6_towards_31 ?_
  refine q_iconst C dX6_towards_33 ⟨by decide, by decide⟩ ?_
  refine q_istore C [(9, Vi 1), (8, Vi 1), (7, Vi 1), (6, Vi a2), (5, Vi z4), (4, Vi a2), (0, Vr 0), (1, Vi p1), (2, Vi p2), (3, Vi p3)] rfl (by decide) dX6_towards_34 ?_
  refine q_sub C [6, 7, 8, 9, 5, 4, 3, 2, 1, 0] [(0, Vr 0), (1, Vi p1), (2, Vi p2), (3, Vi p3), (4, Vi a2), (5, Vi z4), (6, Vi a2), (7, Vi 1), (8, Vi 1), (9, Vi 1)] rfl ?_
  refine loop_go (fun x5 => G μ 36 [(0, Vr 0), (1, Vi p1), (2, Vi p2), (3, Vi p3), (4, Vi a2), (5, Vi (x5.1)), (6, Vi (x5.2.1)), (7, Vi (x5.2.2.1)), (8, Vi (x5.2.2.2.1)), (9, Vi (x5.2.2.2.2))] []) (sat_bind2 hz) (fun h => h) (fun x5 hz => ?_)
  refine q_iload C 9 rfl dX6_towards_36 ?_
  refine q_iload_n C 3 rfl dX6_towards_38 rfl ?_
  refine q_icmp_gt C dX6_towards_39 (tgt := 184) (by decide) (fun c6 => ?_) (fun c6 => ?_)
  · have hz := sat_t hz c6
    have hz := sat_some hz
    refine q_sub C [6] [(6, Vi (x5.2.1))] rfl ?_
    refine q_iload C 0 rfl dX6_towards_184 ?_
    exact q_iret C dX6_towards_186 (congrArg (fun q => (q, μ)) (sat_eq hz))
  · have hz := sat_f hz c6
    refine q_iload C 7 rfl dX6_towards_42 ?_
    obtain ⟨v7, hv7, hz⟩ := sat_bind hz
    have Jv7 : G μ 68 [(0, Vr 0), (1, Vi p1), (2, Vi p2), (3, Vi p3), (4, Vi a2), (5, Vi (x5.1)), (6, Vi (x5.2.1)), (8, Vi (x5.2.2.2.1)), (9, Vi (x5.2.2.2.2))] [Vi v7] := by
      refine q_istore C [(7, Vi v7), (0, Vr 0), (1, Vi p1), (2, Vi p2), (3, Vi p3), (4, Vi a2), (5, Vi (x5.1)), (6, Vi (x5.2.1)), (8, Vi (x5.2.2.2.1)), (9, Vi (x5.2.2.2.2))] rfl (by decide) dX6_towards_68 ?_
      refine q_iload C 8 rfl dX6_towards_70 ?_
      obtain ⟨v8, hv8, hz⟩ := sat_bind hz
      have Jv8 : G μ 96 [(0, Vr 0), (1, Vi p1), (2, Vi p2), (3, Vi p3), (4, Vi a2), (5, Vi (x5.1)), (6, Vi (x5.2.1)), (7, Vi v7), (9, Vi (x5.2.2.2.2))] [Vi v8] := by
        refine q_istore C [(8, Vi v8), (0, Vr 0), (1, Vi p1), (2, Vi p2), (3, Vi p3), (4, Vi a2), (5, Vi (x5.1)), (6, Vi (x5.2.1)), (7, Vi v7), (9, Vi (x5.2.2.2.2))] rfl (by decide) dX6_towards_96 ?_
        refine q_iload C 8 rfl dX6_towards_98 ?_
        obtain ⟨v9, hv9, hz⟩ := sat_bind hz
        have Jv9 : G μ 138 [(0, Vr 0), (1, Vi p1), (2, Vi p2), (3, Vi p3), (4, Vi a2), (5, Vi (v9.1)), (6, Vi (v9.2)), (7, Vi v7), (8, Vi v8), (9, Vi (x5.2.2.2.2))] [] := by
          refine q_iload C 8 rfl dX6_towards_138 ?_
          refine q_if_eq C dX6_towards_140 (tgt := 178) (by decide) (fun c10 => ?_) (fun c10 => ?_)
          · have hz := sat_t hz c10
            refine q_iinc C 9 rfl [(9, Vi (w3 (x5.2.2.2.2 + 1))), (0, Vr 0), (1, Vi p1), (2, Vi p2), (3, Vi p3), (4, Vi a2), (5, Vi (v9.1)), (6, Vi (v9.2)), (7, Vi v7), (8, Vi v8)] rfl (by decide) dX6_towards_178 ?_
            refine q_goto C dX6_towards_181 (tgt := 36) (by decide) ?_
            refine q_sub C [1, 2, 3, 4, 5, 6, 7, 8, 9, 0] [(0, Vr 0), (1, Vi p1), (2, Vi p2), (3, Vi p3), (4, Vi a2), (5, Vi (v9.1)), (6, Vi (v9.2)), (7, Vi v7), (8, Vi v8), (9, Vi (w3 (x5.2.2.2.2 + 1)))] rfl ?_
            have hz := sat_some hz
            exact hz
          · have hz := sat_f hz c10
            refine q_aload_n C 0 rfl dX6_towards_143 rfl ?_
            refine q_iload_n C 1 rfl dX6_towards_144 rfl ?_
            refine q_iload_n C 2 rfl dX6_towards_145 rfl ?_
            refine q_iload C 4 rfl dX6_towards_146 ?_
            refine q_iload C 9 rfl dX6_towards_148 ?_
            refine q_iadd C dX6_towards_150 ?_
            obtain ⟨z12, hz12, hz⟩ := sat_bind hz
            refine q_callVi stZ_t C [Vi p1, Vi p2, Vi (w3 (a2 + x5.2.2.2.2))] [] (c_X6_seesOn μ p1 p2 (w3 (a2 + x5.2.2.2.2)) hz12) tO_X6 rfl gX6_towards_X6_seesOn rfl ⟨rfl, rfl⟩ hdX6_seesOn ⟨by decide, by decide⟩ rfl (Nat.le_of_ble_eq_true rfl) dX6_towards_151 rfl (fun _ _ => ?_)
            refine q_iload C 5 rfl dX6_towards_154 ?_
            refine q_icmp_le C dX6_towards_156 (tgt := 178) (by decide) (fun c13 => ?_) (fun c13 => ?_)
            · have hz := sat_t hz c13
              refine q_iinc C 9 rfl [(9, Vi (w3 (x5.2.2.2.2 + 1))), (0, Vr 0), (1, Vi p1), (2, Vi p2), (3, Vi p3), (4, Vi a2), (5, Vi (v9.1)), (6, Vi (v9.2)), (7, Vi v7), (8, Vi v8)] rfl (by decide) dX6_towards_178 ?_
              refine q_goto C dX6_towards_181 (tgt := 36) (by decide) ?_
              refine q_sub C [1, 2, 3, 4, 5, 6, 7, 8, 9, 0] [(0, Vr 0), (1, Vi p1), (2, Vi p2), (3, Vi p3), (4, Vi a2), (5, Vi (v9.1)), (6, Vi (v9.2)), (7, Vi v7), (8, Vi v8), (9, Vi (w3 (x5.2.2.2.2 + 1)))] rfl ?_
              have hz := sat_some hz
              exact hz
            · have hz := sat_f hz c13
              refine q_aload_n C 0 rfl dX6_towards_159 rfl ?_
              refine q_iload_n C 1 rfl dX6_towards_160 rfl ?_
              refine q_iload_n C 2 rfl dX6_towards_161 rfl ?_
              refine q_iload C 4 rfl dX6_towards_162 ?_
              refine q_iload C 9 rfl dX6_towards_164 ?_
              refine q_iadd C dX6_towards_166 ?_
              obtain ⟨z15, hz15, hz⟩ := sat_bind hz
              refine q_callVi stZ_t C [Vi p1, Vi p2, Vi (w3 (a2 + x5.2.2.2.2))] [] (c_X6_seesOn μ p1 p2 (w3 (a2 + x5.2.2.2.2)) hz15) tO_X6 rfl gX6_towards_X6_seesOn rfl ⟨rfl, rfl⟩ hdX6_seesOn ⟨by decide, by decide⟩ rfl (Nat.le_of_ble_eq_true rfl) dX6_towards_167 rfl (fun _ _ => ?_)
              refine q_istore C [(5, Vi z15), (0, Vr 0), (1, Vi p1), (2, Vi p2), (3, Vi p3), (4, Vi a2), (6, Vi (v9.2)), (7, Vi v7), (8, Vi v8), (9, Vi (x5.2.2.2.2))] rfl (by decide) dX6_towards_170 ?_
              refine q_iload C 5 rfl dX6_towards_172 ?_
              refine q_iconst C dX6_towards_174 ⟨by decide, by decide⟩ ?_
              refine q_iadd C dX6_towards_175 ?_
              refine q_istore C [(6, Vi (w3 (a2 + 1))), (5, Vi z15), (0, Vr 0), (1, Vi p1), (2, Vi p2), (3, Vi p3), (4, Vi a2), (7, Vi v7), (8, Vi v8), (9, Vi (x5.2.2.2.2))] rfl (by decide) dX6_towards_176 ?_
              refine q_iinc C 9 rfl [(9, Vi (w3 (x5.2.2.2.2 + 1))), (6, Vi (w3 (a2 + 1))), (5, Vi z15), (0, Vr 0), (1, Vi p1), (2, Vi p2), (3, Vi p3), (4, Vi a2), (7, Vi v7), (8, Vi v8)] rfl (by decide) dX6_towards_178 ?_
              refine q_goto C dX6_towards_181 (tgt := 36) (by decide) ?_
              refine q_sub C [3, 4, 5, 6, 7, 2, 1, 8, 9, 0] [(0, Vr 0), (1, Vi p1), (2, Vi p2), (3, Vi p3), (4, Vi a2), (5, Vi z15), (6, Vi (w3 (a2 + 1))), (7, Vi v7), (8, Vi v8), (9, Vi (w3 (x5.2.2.2.2 + 1)))] rfl ?_
              have hz := sat_some hz
              exact hz
        have hz := sat_of hv9
        refine q_if_eq C dX6_towards_100 (tgt := 138) (by decide) (fun c16 => ?_) (fun c16 => ?_)
        · have hz := sat_t hz c16
          have hz := sat_some hz
          have hz : _ = v9 := hz
          refine q_sub C [1, 2, 3, 4, 5, 6, 7, 8, 0, 9] [(0, Vr 0), (1, Vi p1), (2, Vi p2), (3, Vi p3), (4, Vi a2), (5, Vi (x5.1)), (6, Vi (x5.2.1)), (7, Vi v7), (8, Vi v8), (9, Vi (x5.2.2.2.2))] rfl ?_
          subst hz
          exact Jv9
        · have hz := sat_f hz c16
          refine q_aload_n C 1 rfl dX6_towards_103 rfl ?_
          refine q_iload_n C 2 rfl dX6_towards_104 rfl ?_
          refine q_iload_n C 3 rfl dX6_towards_105 rfl ?_
          refine q_iload C 5 rfl dX6_towards_106 ?_
          refine q_iload C 9 rfl dX6_towards_108 ?_
          refine q_isub C dX6_towards_110 ?_
          obtain ⟨z18, hz18, hz⟩ := sat_bind hz
          refine q_callVi stZ_t C [Vi p1, Vi p2, Vi (w3 (a2 - x5.2.2.2.2))] [] (c_X6_seesOn μ p1 p2 (w3 (a2 - x5.2.2.2.2)) hz18) tO_X6 rfl gX6_towards_X6_seesOn rfl ⟨rfl, rfl⟩ hdX6_seesOn ⟨by decide, by decide⟩ rfl (Nat.le_of_ble_eq_true rfl) dX6_towards_111 rfl (fun _ _ => ?_)
          refine q_iload C 6 rfl dX6_towards_114 ?_
          refine q_icmp_le C dX6_towards_116 (tgt := 138) (by decide) (fun c19 => ?_) (fun c19 => ?_)
          · have hz := sat_t hz c19
            have hz := sat_some hz
            have hz : _ = v9 := hz
            refine q_sub C [1, 2, 3, 4, 5, 6, 7, 8, 0, 9] [(0, Vr 0), (1, Vi p1), (2, Vi p2), (3, Vi p3), (4, Vi a2), (5, Vi (x5.1)), (6, Vi (x5.2.1)), (7, Vi v7), (8, Vi v8), (9, Vi (x5.2.2.2.2))] rfl ?_
            subst hz
            exact Jv9
          · have hz := sat_f hz c19
            refine q_aload_n C 1 rfl dX6_towards_119 rfl ?_
            refine q_iload_n C 2 rfl dX6_towards_120 rfl ?_
            refine q_iload_n C 3 rfl dX6_towards_121 rfl ?_
            refine q_iload C 5 rfl dX6_towards_122 ?_
            refine q_iload C 9 rfl dX6_towards_124 ?_
            refine q_isub C dX6_towards_126 ?_
            obtain ⟨z21, hz21, hz⟩ := sat_bind hz
            refine q_callVi stZ_t C [Vi p1, Vi p2, Vi (w3 (a2 - x5.2.2.2.2))] [] (c_X6_seesOn μ p1 p2 (w3 (a2 - x5.2.2.2.2)) hz21) tO_X6 rfl gX6_towards_X6_seesOn rfl ⟨rfl, rfl⟩ hdX6_seesOn ⟨by decide, by decide⟩ rfl (Nat.le_of_ble_eq_true rfl) dX6_towards_127 rfl (fun _ _ => ?_)
            refine q_istore C [(5, Vi z21), (8, Vi v8), (0, Vr 0), (1, Vi p1), (2, Vi p2), (3, Vi p3), (4, Vi a2), (6, Vi (x5.2.1)), (7, Vi v7), (9, Vi (x5.2.2.2.2))] rfl (by decide) dX6_towards_130 ?_
            refine q_iload C 6 rfl dX6_towards_132 ?_
            refine q_iconst C dX6_towards_134 ⟨by decide, by decide⟩ ?_
            refine q_isub C dX6_towards_135 ?_
            refine q_istore C [(6, Vi (w3 (a2 - 1))), (5, Vi z21), (8, Vi v8), (0, Vr 0), (1, Vi p1), (2, Vi p2), (3, Vi p3), (4, Vi a2), (7, Vi v7), (9, Vi (x5.2.2.2.2))] rfl (by decide) dX6_towards_136 ?_
            have hz := sat_some hz
            have hz : _ = v9 := hz
            refine q_sub C [3, 4, 5, 6, 7, 1, 0, 8, 2, 9] [(0, Vr 0), (1, Vi p1), (2, Vi p2), (3, Vi p3), (4, Vi a2), (5, Vi z21), (6, Vi (w3 (a2 - 1))), (7, Vi v7), (8, Vi v8), (9, Vi (x5.2.2.2.2))] rfl ?_
            subst hz
            exact Jv9
      have hz := sat_of hv8
      refine q_if_eq C dX6_towards_72 (tgt := 95) (by decide) (fun c22 => ?_) (fun c22 => ?_)
      · have hz := sat_t hz c22
        refine q_iconst C dX6_towards_95 ⟨by decide, by decide⟩ ?_
        have hz := sat_some hz
        have hz : _ = v8 := hz
        refine q_sub C [1, 2, 3, 4, 5, 6, 7, 0, 9] [(0, Vr 0), (1, Vi p1), (2, Vi p2), (3, Vi p3), (4, Vi a2), (5, Vi (x5.1)), (6, Vi (x5.2.1)), (7, Vi v7), (9, Vi (x5.2.2.2.2))] rfl ?_
        subst hz
        exact Jv8
      · have hz := sat_f hz c22
        refine q_aload_n C 1 rfl dX6_towards_75 rfl ?_
        refine q_iload_n C 2 rfl dX6_towards_76 rfl ?_
        refine q_iload C 5 rfl dX6_towards_77 ?_
        refine q_iload C 9 rfl dX6_towards_79 ?_
        refine q_iadd C dX6_towards_81 ?_
        refine q_iconst C dX6_towards_82 ⟨by decide, by decide⟩ ?_
        refine q_isub C dX6_towards_83 ?_
        refine q_iconst C dX6_towards_84 ⟨by decide, by decide⟩ ?_
        obtain ⟨z24, hz24, hz⟩ := sat_bind hz
        refine q_callVz stZ_t C [Vi p1, Vi (w3 ((w3 (a2 + x5.2.2.2.2)) - 1)), Vi 1] [] (c_X6_isOpen μ p1 (w3 ((w3 (a2 + x5.2.2.2.2)) - 1)) 1 hz24) tO_X6 rfl gX6_towards_X6_isOpen rfl ⟨rfl, rfl⟩ hdX6_isOpen ⟨by decide, by decide⟩ rfl (Nat.le_of_ble_eq_true rfl) dX6_towards_85 rfl (fun hb23 _ => ?_)
        refine q_if_eq C dX6_towards_88 (tgt := 95) (by decide) (fun c25 => ?_) (fun c25 => ?_)
        · have hz := sat_t hz c25
          refine q_iconst C dX6_towards_95 ⟨by decide, by decide⟩ ?_
          have hz := sat_some hz
          have hz : _ = v8 := hz
          refine q_sub C [1, 2, 3, 4, 5, 6, 7, 0, 9] [(0, Vr 0), (1, Vi p1), (2, Vi p2), (3, Vi p3), (4, Vi a2), (5, Vi (x5.1)), (6, Vi (x5.2.1)), (7, Vi v7), (9, Vi (x5.2.2.2.2))] rfl ?_
          subst hz
          exact Jv8
        · have hz := sat_f hz c25
          refine q_iconst C dX6_towards_91 ⟨by decide, by decide⟩ ?_
          refine q_goto C dX6_towards_92 (tgt := 96) (by decide) ?_
          have hz := sat_some hz
          have hz : _ = v8 := hz
          refine q_sub C [1, 2, 3, 4, 5, 6, 7, 0, 9] [(0, Vr 0), (1, Vi p1), (2, Vi p2), (3, Vi p3), (4, Vi a2), (5, Vi (x5.1)), (6, Vi (x5.2.1)), (7, Vi v7), (9, Vi (x5.2.2.2.2))] rfl ?_
          subst hz
          exact Jv8
    have hz := sat_of hv7
    refine q_if_eq C dX6_towards_44 (tgt := 67) (by decide) (fun c26 => ?_) (fun c26 => ?_)
    · have hz := sat_t hz c26
      refine q_iconst C dX6_towards_67 ⟨by decide, by decide⟩ ?_
      have hz := sat_some hz
      have hz : _ = v7 := hz
      refine q_sub C [0, 1, 2, 3, 4, 5, 6, 8, 9] [(0, Vr 0), (1, Vi p1), (2, Vi p2), (3, Vi p3), (4, Vi a2), (5, Vi (x5.1)), (6, Vi (x5.2.1)), (8, Vi (x5.2.2.2.1)), (9, Vi (x5.2.2.2.2))] rfl ?_
      subst hz
      exact Jv7
    · have hz := sat_f hz c26
      refine q_aload_n C 0 rfl dX6_towards_47 rfl ?_
      refine q_iload_n C 1 rfl dX6_towards_48 rfl ?_
      refine q_iload C 4 rfl dX6_towards_49 ?_
      refine q_iload C 9 rfl dX6_towards_51 ?_
      refine q_isub C dX6_towards_53 ?_
      refine q_iconst C dX6_towards_54 ⟨by decide, by decide⟩ ?_
      refine q_iadd C dX6_towards_55 ?_
      refine q_iconst C dX6_towards_56 ⟨by decide, by decide⟩ ?_
      obtain ⟨z28, hz28, hz⟩ := sat_bind hz
      refine q_callVz stZ_t C [Vi p1, Vi (w3 ((w3 (a2 - x5.2.2.2.2)) + 1)), Vi (-1)] [] (c_X6_isOpen μ p1 (w3 ((w3 (a2 - x5.2.2.2.2)) + 1)) (-1) hz28) tO_X6 rfl gX6_towards_X6_isOpen rfl ⟨rfl, rfl⟩ hdX6_isOpen ⟨by decide, by decide⟩ rfl (Nat.le_of_ble_eq_true rfl) dX6_towards_57 rfl (fun hb27 _ => ?_)
      refine q_if_eq C dX6_towards_60 (tgt := 67) (by decide) (fun c29 => ?_) (fun c29 => ?_)
      · have hz := sat_t hz c29
        refine q_iconst C dX6_towards_67 ⟨by decide, by decide⟩ ?_
        have hz := sat_some hz
        have hz : _ = v7 := hz
        refine q_sub C [0, 1, 2, 3, 4, 5, 6, 8, 9] [(0, Vr 0), (1, Vi p1), (2, Vi p2), (3, Vi p3), (4, Vi a2), (5, Vi (x5.1)), (6, Vi (x5.2.1)), (8, Vi (x5.2.2.2.1)), (9, Vi (x5.2.2.2.2))] rfl ?_
        subst hz
        exact Jv7
      · have hz := sat_f hz c29
        refine q_iconst C dX6_towards_63 ⟨by decide, by decide⟩ ?_
        refine q_goto C dX6_towards_64 (tgt := 68) (by decide) ?_
        have hz := sat_some hz
        have hz : _ = v7 := hz
        refine q_sub C [0, 1, 2, 3, 4, 5, 6, 8, 9] [(0, Vr 0), (1, Vi p1), (2, Vi p2), (3, Vi p3), (4, Vi a2), (5, Vi (x5.1)), (6, Vi (x5.2.1)), (8, Vi (x5.2.2.2.1)), (9, Vi (x5.2.2.2.2))] rfl ?_
        subst hz
        exact Jv7
