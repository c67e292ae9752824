theorem hdX6_which : yX6_which.cls = RX6 ∧ yX6_which.cls ≠ "java/lang/invoke/MethodHandle" ∧ yX6_which.cls ≠ "java/lang/invoke/VarHandle" ∧ (parseMethodDescriptor yX6_which.desc).map (fun d => d.parameters.length) = some 3 := by decide +kernel
set_option maxHeartbeats 4000000 in
set_option maxRecDepth 100000 in
theorem c_X6_which {l : Launch} {D : va_G} {ad : Nat → Nat} {cI cZ : ClassId} (μ : Mm) (p1 p2 p3 : Int) {v : Int × Mm} (hz : f_X6_which μ p1 p2 p3 = some v) : CT l D vwCl (tyM cI cZ) 10 ad (EM ad cI cZ) (fun _ => True) yX6_which wsX6_which ({ frames := 6, cells := 0, slots := 0, locals := 150 } : Room) (some .int) [Vr 0, Vi p1, Vi p2, Vi p3] μ (v.1, v.2) := by
  refine CT_of [(0, Vr 0), (1, Vi p1), (2, Vi p2), (3, Vi p3)] stZ_t (by decide) rfl rfl (Nat.le_of_ble_eq_true rfl) rfl (fun G C => ?_)
  have i_X6 : ∀ w ∈ u_ws RX6 TX6 19, w ∈ wsX6_which := by decide +kernel
  have f_7 : Cond.fieldLink (yX6_which).cls 7 "SwanDeedsModel" "w" "[I" ∈ wsX6_which := by decide +kernel
  have hz := sat_of hz
  unfold f_X6_which at hz
  refine q_aload_n C 0 rfl dX6_which_0 rfl ?_
  obtain ⟨z2, hz2, hz⟩ := sat_bind hz
  refine q_callVz stZ_t C [] [] (c_X6_isRiver μ hz2) tO_X6 rfl gX6_which_X6_isRiver rfl ⟨rfl, rfl⟩ hdX6_isRiver ⟨by decide, by decide⟩ rfl (Nat.le_of_ble_eq_true rfl) dX6_which_1 rfl (fun hb1 _ => ?_)
  refine q_if_ne C dX6_which_4 (tgt := 10) (by decide) (fun c3 => ?_) (fun c3 => ?_)
  · have hz := sat_f hz c3
    refine q_iload_n C 1 rfl dX6_which_10 rfl ?_
    refine q_callSz stZ_t C [Vi p1] [] (c_X6_isRow μ p1) gX6_which_X6_isRow rfl ⟨rfl, rfl⟩ hdX6_isRow ⟨by decide, by decide⟩ rfl (Nat.le_of_ble_eq_true rfl) dX6_which_11 rfl (fun hb4 _ => ?_)
    refine q_if_eq C dX6_which_14 (tgt := 29) (by decide) (fun c5 => ?_) (fun c5 => ?_)
    · have hz := sat_t hz c5
      refine q_ldc (v := (-1000001)) (x := (-1000001)) C (by decide +kernel) dX6_which_29 ⟨by decide +kernel, by decide, by decide⟩ ?_
      exact q_iret C dX6_which_31 (sat_eq hz)
    · have hz := sat_f hz c5
      refine q_iload_n C 3 rfl dX6_which_17 rfl ?_
      refine q_i2l C dX6_which_18 ?_
      refine q_lconst (x := 1) C dX6_which_19 ⟨rfl, by decide, by decide⟩ ?_
      refine q_ldc2 (v := 12) (x := 12) C (by decide +kernel) dX6_which_20 ⟨by decide +kernel, by decide, by decide⟩ ?_
      refine q_callSz stZ_t C [Vl p3, Vl 1, Vl 12] [] (c_X6_in μ p3 1 12) gX6_which_X6_in rfl ⟨rfl, rfl⟩ hdX6_in ⟨by decide, by decide⟩ rfl (Nat.le_of_ble_eq_true rfl) dX6_which_23 rfl (fun hb6 _ => ?_)
      refine q_if_ne C dX6_which_26 (tgt := 32) (by decide) (fun c7 => ?_) (fun c7 => ?_)
      · have hz := sat_f hz c7
        refine q_aload_n C 0 rfl dX6_which_32 rfl ?_
        refine q_iload_n C 1 rfl dX6_which_33 rfl ?_
        refine q_iload_n C 2 rfl dX6_which_34 rfl ?_
        refine q_iload_n C 3 rfl dX6_which_35 rfl ?_
        obtain ⟨z9, hz9, hz⟩ := sat_bind hz
        refine q_callVi stZ_t C [Vi p1, Vi p2, Vi p3] [] (c_X6_against μ p1 p2 p3 hz9) tO_X6 rfl gX6_which_X6_against rfl ⟨rfl, rfl⟩ hdX6_against ⟨by decide, by decide⟩ rfl (Nat.le_of_ble_eq_true rfl) dX6_which_36 rfl (fun _ _ => ?_)
        refine q_istore C [(4, Vi (z9.1)), (0, Vr 0), (1, Vi p1), (2, Vi p2), (3, Vi p3)] rfl (by decide) dX6_which_39 ?_
        refine q_iload C 0 rfl dX6_which_41 ?_
        refine q_if_ge C dX6_which_43 (tgt := 49) (by decide) (fun c10 => ?_) (fun c10 => ?_)
        · have hz := sat_t hz c10
          refine q_iconst C dX6_which_49 ⟨by decide, by decide⟩ ?_
          refine q_istore C [(5, Vi 0), (4, Vi (z9.1)), (0, Vr 0), (1, Vi p1), (2, Vi p2), (3, Vi p3)] rfl (by decide) dX6_which_50 ?_
          refine q_iconst C dX6_which_52 ⟨by decide, by decide⟩ ?_
          refine q_istore C [(6, Vi 0), (5, Vi 0), (4, Vi (z9.1)), (0, Vr 0), (1, Vi p1), (2, Vi p2), (3, Vi p3)] rfl (by decide) dX6_which_53 ?_
          refine q_sub C [3, 4, 5, 6, 1, 0] [(0, Vr 0), (1, Vi p1), (2, Vi p2), (3, Vi p3), (5, Vi 0), (6, Vi 0)] rfl ?_
          refine loop_go (fun x11 => G x11.2.2 55 [(0, Vr 0), (1, Vi p1), (2, Vi p2), (3, Vi p3), (5, Vi (x11.1)), (6, Vi (x11.2.1))] []) (sat_bind2 hz) (fun h => h) (fun x11 hz => ?_)
          refine q_iload C 5 rfl dX6_which_55 ?_
          refine q_aload_n C 0 rfl dX6_which_57 rfl ?_
          refine q_getR tO_X6 C (i := 0) i_X6 rfl rfl (by decide) rfl f_7 dX6_which_58 ?_
          refine q_bipush C dX6_which_61 ⟨rfl, by decide, by decide⟩ ?_
          obtain ⟨c12, hz⟩ := sat_chk hz
          refine q_wald C c12 dX6_which_63 ?_
          refine q_icmp_ge C dX6_which_64 (tgt := 106) (by decide) (fun c13 => ?_) (fun c13 => ?_)
          · have hz := sat_t hz c13
            have hz := sat_some hz
            refine q_sub C [0, 4] [(0, Vr 0), (5, Vi (x11.1))] rfl ?_
            refine q_aload_n C 0 rfl dX6_which_106 rfl ?_
            refine q_iload C 1 rfl dX6_which_107 ?_
            obtain ⟨z15, hz15, hz⟩ := sat_bind hz
            refine q_callVi stZ_t C [Vi (x11.1)] [] (c_X6_good x11.2.2 x11.1 hz15) tO_X6 rfl gX6_which_X6_good rfl ⟨rfl, rfl⟩ hdX6_good ⟨by decide, by decide⟩ rfl (Nat.le_of_ble_eq_true rfl) dX6_which_109 rfl (fun _ _ => ?_)
            exact q_iret C dX6_which_112 (sat_eq hz)
          · have hz := sat_f hz c13
            refine q_aload_n C 0 rfl dX6_which_67 rfl ?_
            obtain ⟨z17, hz17, hz⟩ := sat_bind hz
            refine q_callVv stZ_t C [] [] (c_X6_tries x11.2.2 hz17) tO_X6 rfl gX6_which_X6_tries rfl ⟨rfl, rfl⟩ hdX6_tries ⟨by decide, by decide⟩ rfl (Nat.le_of_ble_eq_true rfl) dX6_which_68 rfl (fun _ => ?_)
            refine q_iload C 4 rfl dX6_which_71 ?_
            refine q_aload_n C 0 rfl dX6_which_73 rfl ?_
            refine q_iload C 5 rfl dX6_which_74 ?_
            refine q_bipush C dX6_which_76 ⟨rfl, by decide, by decide⟩ ?_
            refine q_iload_n C 1 rfl dX6_which_78 rfl ?_
            refine q_imul C dX6_which_79 ?_
            refine q_iload_n C 2 rfl dX6_which_80 rfl ?_
            refine q_iadd C dX6_which_81 ?_
            refine q_iload_n C 3 rfl dX6_which_82 rfl ?_
            obtain ⟨z19, hz19, hz⟩ := sat_bind hz
            refine q_callVz stZ_t C [Vi (x11.2.1), Vi (w3 ((w3 (40 * p1)) + p2)), Vi p3] [Vi (x11.1)] (c_X6_isSo z17 x11.2.1 (w3 ((w3 (40 * p1)) + p2)) p3 hz19) tO_X6 rfl gX6_which_X6_isSo rfl ⟨rfl, rfl⟩ hdX6_isSo ⟨by decide, by decide⟩ rfl (Nat.le_of_ble_eq_true rfl) dX6_which_83 rfl (fun hb18 _ => ?_)
            refine q_if_eq C dX6_which_86 (tgt := 96) (by decide) (fun c20 => ?_) (fun c20 => ?_)
            · have hz := sat_t hz c20
              refine q_iconst C dX6_which_96 ⟨by decide, by decide⟩ ?_
              refine q_ior C dX6_which_97 ?_
              refine q_istore C [(5, Vi (bOr x11.1 0)), (0, Vr 0), (1, Vi p1), (2, Vi p2), (3, Vi p3), (6, Vi (x11.2.1))] rfl (by decide) dX6_which_98 ?_
              refine q_iinc C 5 rfl [(6, Vi (w3 (x11.2.1 + 1))), (5, Vi (bOr x11.1 0)), (0, Vr 0), (1, Vi p1), (2, Vi p2), (3, Vi p3)] rfl (by decide) dX6_which_100 ?_
              refine q_goto C dX6_which_103 (tgt := 55) (by decide) ?_
              refine q_sub C [2, 3, 4, 5, 1, 0] [(0, Vr 0), (1, Vi p1), (2, Vi p2), (3, Vi p3), (5, Vi (bOr x11.1 0)), (6, Vi (w3 (x11.2.1 + 1)))] rfl ?_
              have hz := sat_some hz
              exact hz
            · have hz := sat_f hz c20
              refine q_iconst C dX6_which_89 ⟨by decide, by decide⟩ ?_
              refine q_iload C 5 rfl dX6_which_90 ?_
              refine q_ishl C dX6_which_92 ?_
              refine q_goto C dX6_which_93 (tgt := 97) (by decide) ?_
              refine q_ior C dX6_which_97 ?_
              obtain ⟨a21, ha21, hz⟩ := sat_bnd hz
              refine q_nmi ha21 ?_
              refine q_istore C [(5, Vi a21), (0, Vr 0), (1, Vi p1), (2, Vi p2), (3, Vi p3), (6, Vi (x11.2.1))] rfl (by decide) dX6_which_98 ?_
              refine q_iinc C 5 rfl [(6, Vi (w3 (x11.2.1 + 1))), (5, Vi a21), (0, Vr 0), (1, Vi p1), (2, Vi p2), (3, Vi p3)] rfl (by decide) dX6_which_100 ?_
              refine q_goto C dX6_which_103 (tgt := 55) (by decide) ?_
              refine q_sub C [2, 3, 4, 5, 1, 0] [(0, Vr 0), (1, Vi p1), (2, Vi p2), (3, Vi p3), (5, Vi a21), (6, Vi (w3 (x11.2.1 + 1)))] rfl ?_
              have hz := sat_some hz
              exact hz
        · have hz := sat_f hz c10
          refine q_iload C 0 rfl dX6_which_46 ?_
          exact q_iret C dX6_which_48 (sat_eq hz)
      · have hz := sat_t hz c7
        refine q_ldc (v := (-1000001)) (x := (-1000001)) C (by decide +kernel) dX6_which_29 ⟨by decide +kernel, by decide, by decide⟩ ?_
        exact q_iret C dX6_which_31 (sat_eq hz)
  · have hz := sat_t hz c3
    refine q_ldc (v := (-1000002)) (x := (-1000002)) C (by decide +kernel) dX6_which_7 ⟨by decide +kernel, by decide, by decide⟩ ?_
    exact q_iret C dX6_which_9 (sat_eq hz)
theorem hdX6_hungry : yX6_hungry.cls = RX6 ∧ yX6_hungry.cls ≠ "java/lang/invoke/MethodHandle" ∧ yX6_hungry.cls ≠ "java/lang/invoke/VarHandle" ∧ (parseMethodDescriptor yX6_hungry.desc).map (fun d => d.parameters.length) = some 1 := by decide +kernel
set_option maxHeartbeats 4000000 in
set_option maxRecDepth 100000 in
theorem c_X6_hungry {l : Launch} {D : va_G} {ad : Nat → Nat} {cI cZ : ClassId} (μ : Mm) (p1 : Int) {v : Int × Mm} (hz : f_X6_hungry μ p1 = some v) : CT l D vwCl (tyM cI cZ) 10 ad (EM ad cI cZ) (fun _ => True) yX6_hungry wsX6_hungry ({ frames := 5, cells := 0, slots := 0, locals := 125 } : Room) (some .int) [Vr 0, Vi p1] μ (v.1, v.2) := by
  refine CT_of [(0, Vr 0), (1, Vi p1)] stZ_t (by decide) rfl rfl (Nat.le_of_ble_eq_true rfl) rfl (fun G C => ?_)
  have i_X6 : ∀ w ∈ u_ws RX6 TX6 19, w ∈ wsX6_hungry := by decide +kernel
  have f_7 : Cond.fieldLink (yX6_hungry).cls 7 "SwanDeedsModel" "w" "[I" ∈ wsX6_hungry := by decide +kernel
  have f_136 : Cond.fieldLink (yX6_hungry).cls 136 "SwanDeedsModel" "fed" "I" ∈ wsX6_hungry := by decide +kernel
  have hz := sat_of hz
  unfold f_X6_hungry at hz
  refine q_aload_n C 0 rfl dX6_hungry_0 rfl ?_
  obtain ⟨z2, hz2, hz⟩ := sat_bind hz
  refine q_callVz stZ_t C [] [] (c_X6_isRiver μ hz2) tO_X6 rfl gX6_hungry_X6_isRiver rfl ⟨rfl, rfl⟩ hdX6_isRiver ⟨by decide, by decide⟩ rfl (Nat.le_of_ble_eq_true rfl) dX6_hungry_1 rfl (fun hb1 _ => ?_)
  refine q_if_ne C dX6_hungry_4 (tgt := 10) (by decide) (fun c3 => ?_) (fun c3 => ?_)
  · have hz := sat_f hz c3
    refine q_iload_n C 1 rfl dX6_hungry_10 rfl ?_
    refine q_iconst C dX6_hungry_11 ⟨by decide, by decide⟩ ?_
    refine q_callSz stZ_t C [Vi p1, Vi 1] [] (c_X6_isSpan μ p1 1) gX6_hungry_X6_isSpan rfl ⟨rfl, rfl⟩ hdX6_isSpan ⟨by decide, by decide⟩ rfl (Nat.le_of_ble_eq_true rfl) dX6_hungry_12 rfl (fun hb4 _ => ?_)
    refine q_if_ne C dX6_hungry_15 (tgt := 21) (by decide) (fun c5 => ?_) (fun c5 => ?_)
    · have hz := sat_f hz c5
      refine q_aload_n C 0 rfl dX6_hungry_21 rfl ?_
      obtain ⟨z7, hz7, hz⟩ := sat_bind hz
      refine q_callVv stZ_t C [] [] (c_X6_tries μ hz7) tO_X6 rfl gX6_hungry_X6_tries rfl ⟨rfl, rfl⟩ hdX6_tries ⟨by decide, by decide⟩ rfl (Nat.le_of_ble_eq_true rfl) dX6_hungry_22 rfl (fun _ => ?_)
      refine q_iconst C dX6_hungry_25 ⟨by decide, by decide⟩ ?_
      refine q_istore_n C [(2, Vi 0), (0, Vr 0), (1, Vi p1)] rfl (by decide) dX6_hungry_26 rfl ?_
      refine q_iconst C dX6_hungry_27 ⟨by decide, by decide⟩ ?_
      refine q_istore_n C [(3, Vi 0), (2, Vi 0), (0, Vr 0), (1, Vi p1)] rfl (by decide) dX6_hungry_28 rfl ?_
      refine q_sub C [2, 3, 1, 0] [(0, Vr 0), (1, Vi p1), (2, Vi 0), (3, Vi 0)] rfl ?_
      refine loop_go (fun x8 => G x8.2.2 29 [(0, Vr 0), (1, Vi p1), (2, Vi (x8.1)), (3, Vi (x8.2.1))] []) (sat_bind2 hz) (fun h => h) (fun x8 hz => ?_)
      refine q_iload_n C 3 rfl dX6_hungry_29 rfl ?_
      refine q_iload_n C 1 rfl dX6_hungry_30 rfl ?_
      refine q_icmp_ge C dX6_hungry_31 (tgt := 53) (by decide) (fun c9 => ?_) (fun c9 => ?_)
      · have hz := sat_t hz c9
        have hz := sat_some hz
        refine q_sub C [0, 2] [(0, Vr 0), (2, Vi (x8.1))] rfl ?_
        refine q_iconst C dX6_hungry_53 ⟨by decide, by decide⟩ ?_
        refine q_aload_n C 0 rfl dX6_hungry_54 rfl ?_
        refine q_getR tO_X6 C (i := 0) i_X6 rfl rfl (by decide) rfl f_7 dX6_hungry_55 ?_
        refine q_bipush C dX6_hungry_58 ⟨rfl, by decide, by decide⟩ ?_
        obtain ⟨c10, hz⟩ := sat_chk hz
        refine q_wald C c10 dX6_hungry_60 ?_
        refine q_ishl C dX6_hungry_61 ?_
        refine q_iconst C dX6_hungry_62 ⟨by decide, by decide⟩ ?_
        refine q_isub C dX6_hungry_63 ?_
        refine q_iload_n C 1 rfl dX6_hungry_64 rfl ?_
        refine q_iconst C dX6_hungry_65 ⟨by decide, by decide⟩ ?_
        refine q_ixor C dX6_hungry_66 ?_
        refine q_iand C dX6_hungry_67 ?_
        exact q_iret C dX6_hungry_68 (sat_eq hz)
      · have hz := sat_f hz c9
        refine q_aload_n C 0 rfl dX6_hungry_34 rfl ?_
        refine q_bipush C dX6_hungry_35 ⟨rfl, by decide, by decide⟩ ?_
        obtain ⟨z12, hz12, hz⟩ := sat_bind hz
        refine q_callVv stZ_t C [Vi 114] [] (c_X6_passes x8.2.2 114 hz12) tO_X6 rfl gX6_hungry_X6_passes rfl ⟨rfl, rfl⟩ hdX6_passes ⟨by decide, by decide⟩ rfl (Nat.le_of_ble_eq_true rfl) dX6_hungry_37 rfl (fun _ => ?_)
        refine q_iload_n C 2 rfl dX6_hungry_40 rfl ?_
        refine q_aload_n C 0 rfl dX6_hungry_41 rfl ?_
        refine q_get tO_X6 C (i := 17) i_X6 rfl rfl (by decide) rfl f_136 dX6_hungry_42 ?_
        refine q_ior C dX6_hungry_45 ?_
        refine q_istore_n C [(2, Vi (bOr x8.1 (z12 30 8))), (0, Vr 0), (1, Vi p1), (3, Vi (x8.2.1))] rfl (by decide) dX6_hungry_46 rfl ?_
        refine q_iinc C 3 rfl [(3, Vi (w3 (x8.2.1 + 1))), (2, Vi (bOr x8.1 (z12 30 8))), (0, Vr 0), (1, Vi p1)] rfl (by decide) dX6_hungry_47 ?_
        refine q_goto C dX6_hungry_50 (tgt := 29) (by decide) ?_
        refine q_sub C [2, 3, 1, 0] [(0, Vr 0), (1, Vi p1), (2, Vi (bOr x8.1 (z12 30 8))), (3, Vi (w3 (x8.2.1 + 1)))] rfl ?_
        have hz := sat_some hz
        exact hz
    · have hz := sat_t hz c5
      refine q_ldc (v := (-1000001)) (x := (-1000001)) C (by decide +kernel) dX6_hungry_18 ⟨by decide +kernel, by decide, by decide⟩ ?_
      exact q_iret C dX6_hungry_20 (sat_eq hz)
  · have hz := sat_t hz c3
    refine q_ldc (v := (-1000002)) (x := (-1000002)) C (by decide +kernel) dX6_hungry_7 ⟨by decide +kernel, by decide, by decide⟩ ?_
    exact q_iret C dX6_hungry_9 (sat_eq hz)
theorem hdX6_sink : yX6_sink.cls = RX6 ∧ yX6_sink.cls ≠ "java/lang/invoke/MethodHandle" ∧ yX6_sink.cls ≠ "java/lang/invoke/VarHandle" ∧ (parseMethodDescriptor yX6_sink.desc).map (fun d => d.parameters.length) = some 4 := by decide +kernel
set_option maxHeartbeats 4000000 in
set_option maxRecDepth 100000 in
theorem c_X6_sink {l : Launch} {D : va_G} {ad : Nat → Nat} {cI cZ : ClassId} (μ : Mm) (p1 p2 p3 p4 : Int) {v : Int × Mm} (hz : f_X6_sink μ p1 p2 p3 p4 = some v) : CT l D vwCl (tyM cI cZ) 10 ad (EM ad cI cZ) (fun _ => True) yX6_sink wsX6_sink ({ frames := 5, cells := 0, slots := 0, locals := 125 } : Room) (some .long) [Vr 0, Vi p1, Vi p2, Vi p3, Vi p4] μ (v.1, v.2) := by
  refine CT_of [(0, Vr 0), (1, Vi p1), (2, Vi p2), (3, Vi p3), (4, Vi p4)] stZ_t (by decide) rfl rfl (Nat.le_of_ble_eq_true rfl) rfl (fun G C => ?_)
  have i_X6 : ∀ w ∈ u_ws RX6 TX6 19, w ∈ wsX6_sink := by decide +kernel
  have f_7 : Cond.fieldLink (yX6_sink).cls 7 "SwanDeedsModel" "w" "[I" ∈ wsX6_sink := by decide +kernel
  have hz := sat_of hz
  unfold f_X6_sink at hz
  refine q_aload_n C 0 rfl dX6_sink_0 rfl ?_
  refine q_iload_n C 1 rfl dX6_sink_1 rfl ?_
  obtain ⟨z2, hz2, hz⟩ := sat_bind hz
  refine q_callVz stZ_t C [Vi p1] [] (c_X6_isSwan μ p1 hz2) tO_X6 rfl gX6_sink_X6_isSwan rfl ⟨rfl, rfl⟩ hdX6_isSwan ⟨by decide, by decide⟩ rfl (Nat.le_of_ble_eq_true rfl) dX6_sink_2 rfl (fun hb1 _ => ?_)
  refine q_if_eq C dX6_sink_5 (tgt := 39) (by decide) (fun c3 => ?_) (fun c3 => ?_)
  · have hz := sat_t hz c3
    refine q_ldc2 (v := (-1000001)) (x := (-1000001)) C (by decide +kernel) dX6_sink_39 ⟨by decide +kernel, by decide, by decide⟩ ?_
    exact q_lret C dX6_sink_42 (sat_eq hz)
  · have hz := sat_f hz c3
    refine q_aload_n C 0 rfl dX6_sink_8 rfl ?_
    refine q_iload_n C 2 rfl dX6_sink_9 rfl ?_
    obtain ⟨z5, hz5, hz⟩ := sat_bind hz
    refine q_callVz stZ_t C [Vi p2] [] (c_X6_isLawn μ p2 hz5) tO_X6 rfl gX6_sink_X6_isLawn rfl ⟨rfl, rfl⟩ hdX6_isLawn ⟨by decide, by decide⟩ rfl (Nat.le_of_ble_eq_true rfl) dX6_sink_10 rfl (fun hb4 _ => ?_)
    refine q_if_eq C dX6_sink_13 (tgt := 39) (by decide) (fun c6 => ?_) (fun c6 => ?_)
    · have hz := sat_t hz c6
      refine q_ldc2 (v := (-1000001)) (x := (-1000001)) C (by decide +kernel) dX6_sink_39 ⟨by decide +kernel, by decide, by decide⟩ ?_
      exact q_lret C dX6_sink_42 (sat_eq hz)
    · have hz := sat_f hz c6
      refine q_iload_n C 3 rfl dX6_sink_16 rfl ?_
      refine q_i2l C dX6_sink_17 ?_
      refine q_lconst (x := 0) C dX6_sink_18 ⟨rfl, by decide, by decide⟩ ?_
      refine q_ldc2 (v := 10) (x := 10) C (by decide +kernel) dX6_sink_19 ⟨by decide +kernel, by decide, by decide⟩ ?_
      refine q_callSz stZ_t C [Vl p3, Vl 0, Vl 10] [] (c_X6_in μ p3 0 10) gX6_sink_X6_in rfl ⟨rfl, rfl⟩ hdX6_in ⟨by decide, by decide⟩ rfl (Nat.le_of_ble_eq_true rfl) dX6_sink_22 rfl (fun hb7 _ => ?_)
      refine q_if_eq C dX6_sink_25 (tgt := 39) (by decide) (fun c8 => ?_) (fun c8 => ?_)
      · have hz := sat_t hz c8
        refine q_ldc2 (v := (-1000001)) (x := (-1000001)) C (by decide +kernel) dX6_sink_39 ⟨by decide +kernel, by decide, by decide⟩ ?_
        exact q_lret C dX6_sink_42 (sat_eq hz)
      · have hz := sat_f hz c8
        refine q_iload C 4 rfl dX6_sink_28 ?_
        refine q_i2l C dX6_sink_30 ?_
        refine q_lconst (x := 0) C dX6_sink_31 ⟨rfl, by decide, by decide⟩ ?_
        refine q_lconst (x := 1) C dX6_sink_32 ⟨rfl, by decide, by decide⟩ ?_
        refine q_callSz stZ_t C [Vl p4, Vl 0, Vl 1] [] (c_X6_in μ p4 0 1) gX6_sink_X6_in rfl ⟨rfl, rfl⟩ hdX6_in ⟨by decide, by decide⟩ rfl (Nat.le_of_ble_eq_true rfl) dX6_sink_33 rfl (fun hb9 _ => ?_)
        refine q_if_ne C dX6_sink_36 (tgt := 43) (by decide) (fun c10 => ?_) (fun c10 => ?_)
        · have hz := sat_f hz c10
          refine q_lconst (x := 0) C dX6_sink_43 ⟨rfl, by decide, by decide⟩ ?_
          refine q_lstore C [(5, Vl 0), (0, Vr 0), (1, Vi p1), (2, Vi p2), (3, Vi p3), (4, Vi p4)] rfl (by decide) dX6_sink_44 ?_
          refine q_lconst (x := 1) C dX6_sink_46 ⟨rfl, by decide, by decide⟩ ?_
          refine q_lstore C [(7, Vl 1), (5, Vl 0), (0, Vr 0), (1, Vi p1), (2, Vi p2), (3, Vi p3), (4, Vi p4)] rfl (by decide) dX6_sink_47 ?_
          refine q_iconst C dX6_sink_49 ⟨by decide, by decide⟩ ?_
          refine q_istore C [(9, Vi 0), (7, Vl 1), (5, Vl 0), (0, Vr 0), (1, Vi p1), (2, Vi p2), (3, Vi p3), (4, Vi p4)] rfl (by decide) dX6_sink_50 ?_
          refine q_sub C [3, 4, 5, 6, 7, 2, 1, 0] [(0, Vr 0), (1, Vi p1), (2, Vi p2), (3, Vi p3), (4, Vi p4), (5, Vl 0), (7, Vl 1), (9, Vi 0)] rfl ?_
          refine loop_go (fun x11 => G μ 52 [(0, Vr 0), (1, Vi p1), (2, Vi p2), (3, Vi p3), (4, Vi p4), (5, Vl 0), (7, Vl (x11.1)), (9, Vi (x11.2))] []) (sat_bind2 hz) (fun h => h) (fun x11 hz => ?_)
          refine q_iload C 7 rfl dX6_sink_52 ?_
          refine q_aload_n C 0 rfl dX6_sink_54 rfl ?_
          refine q_getR tO_X6 C (i := 0) i_X6 rfl rfl (by decide) rfl f_7 dX6_sink_55 ?_
          refine q_bipush C dX6_sink_58 ⟨rfl, by decide, by decide⟩ ?_
          obtain ⟨c12, hz⟩ := sat_chk hz
          refine q_wald C c12 dX6_sink_60 ?_
          refine q_icmp_ge C dX6_sink_61 (tgt := 94) (by decide) (fun c13 => ?_) (fun c13 => ?_)
          · have hz := sat_t hz c13
            have hz := sat_some hz
            refine q_sub C [0, 1, 2, 3, 4, 5, 6] [(0, Vr 0), (1, Vi p1), (2, Vi p2), (3, Vi p3), (4, Vi p4), (5, Vl 0), (7, Vl (x11.1))] rfl ?_
            refine q_iconst C dX6_sink_94 ⟨by decide, by decide⟩ ?_
            refine q_istore C [(9, Vi 0), (0, Vr 0), (1, Vi p1), (2, Vi p2), (3, Vi p3), (4, Vi p4), (5, Vl 0), (7, Vl (x11.1))] rfl (by decide) dX6_sink_95 ?_
            refine q_sub C [1, 2, 3, 4, 5, 6, 7, 0] [(0, Vr 0), (1, Vi p1), (2, Vi p2), (3, Vi p3), (4, Vi p4), (5, Vl 0), (7, Vl (x11.1)), (9, Vi 0)] rfl ?_
            refine loop_go (fun x14 => G x14.2.2 97 [(0, Vr 0), (1, Vi p1), (2, Vi p2), (3, Vi p3), (4, Vi p4), (5, Vl (x14.1)), (7, Vl (x11.1)), (9, Vi (x14.2.1))] []) (sat_bind2 hz) (fun h => h) (fun x14 hz => ?_)
            refine q_iload C 7 rfl dX6_sink_97 ?_
            refine q_iconst C dX6_sink_99 ⟨by decide, by decide⟩ ?_
            refine q_aload_n C 0 rfl dX6_sink_100 rfl ?_
            refine q_getR tO_X6 C (i := 0) i_X6 rfl rfl (by decide) rfl f_7 dX6_sink_101 ?_
            refine q_bipush C dX6_sink_104 ⟨rfl, by decide, by decide⟩ ?_
            obtain ⟨c15, hz⟩ := sat_chk hz
            refine q_wald C c15 dX6_sink_106 ?_
            refine q_ishl C dX6_sink_107 ?_
            refine q_icmp_ge C dX6_sink_108 (tgt := 282) (by decide) (fun c16 => ?_) (fun c16 => ?_)
            · have hz := sat_t hz c16
              have hz := sat_some hz
              refine q_sub C [4, 5, 6] [(4, Vi p4), (5, Vl (x14.1)), (7, Vl (x11.1))] rfl ?_
              refine q_lload C 1 rfl dX6_sink_282 ?_
              refine q_lstore C [(9, Vl (x14.1)), (4, Vi p4), (5, Vl (x14.1)), (7, Vl (x11.1))] rfl (by decide) dX6_sink_284 ?_
              refine q_lload C 3 rfl dX6_sink_286 ?_
              refine q_lstore C [(11, Vl (x11.1)), (9, Vl (x14.1)), (4, Vi p4), (5, Vl (x14.1)), (7, Vl (x11.1))] rfl (by decide) dX6_sink_288 ?_
              refine q_sub C [2, 3, 4, 1, 0] [(4, Vi p4), (5, Vl (x14.1)), (7, Vl (x11.1)), (9, Vl (x14.1)), (11, Vl (x11.1))] rfl ?_
              refine loop_go (fun x17 => G x14.2.2 290 [(4, Vi p4), (5, Vl (x14.1)), (7, Vl (x11.1)), (9, Vl (x17.1)), (11, Vl (x17.2))] []) (sat_bind2 hz) (fun h => h) (fun x17 hz => ?_)
              refine q_lload C 4 rfl dX6_sink_290 ?_
              refine q_lconst (x := 0) C dX6_sink_292 ⟨rfl, by decide, by decide⟩ ?_
              refine q_lcmp C dX6_sink_293 ?_
              refine q_if_eq C dX6_sink_294 (tgt := 315) (by decide) (fun c18 => ?_) (fun c18 => ?_)
              · have hz := sat_t hz c18
                have hz := sat_some hz
                refine q_sub C [0, 1, 2, 3] [(4, Vi p4), (5, Vl (x14.1)), (7, Vl (x11.1)), (9, Vl (x17.1))] rfl ?_
                refine q_iload C 0 rfl dX6_sink_315 ?_
                refine q_if_ne C dX6_sink_317 (tgt := 328) (by decide) (fun c19 => ?_) (fun c19 => ?_)
                · have hz := sat_f hz c19
                  refine q_lload C 2 rfl dX6_sink_328 ?_
                  refine q_lload C 3 rfl dX6_sink_330 ?_
                  obtain ⟨c20, hz⟩ := sat_chk hz
                  refine q_ldiv C c20 dX6_sink_332 ?_
                  exact q_lret C dX6_sink_333 (sat_eq hz)
                · have hz := sat_t hz c19
                  refine q_lload C 1 rfl dX6_sink_320 ?_
                  refine q_lload C 3 rfl dX6_sink_322 ?_
                  obtain ⟨c21, hz⟩ := sat_chk hz
                  refine q_ldiv C c21 dX6_sink_324 ?_
                  refine q_goto C dX6_sink_325 (tgt := 333) (by decide) ?_
                  exact q_lret C dX6_sink_333 (sat_eq hz)
              · have hz := sat_f hz c18
                refine q_lload C 3 rfl dX6_sink_297 ?_
                refine q_lload C 4 rfl dX6_sink_299 ?_
                obtain ⟨c22, hz⟩ := sat_chk hz
                refine q_lrem C c22 dX6_sink_301 ?_
                refine q_lstore C [(13, Vl (lRem x17.1 x17.2)), (4, Vi p4), (5, Vl (x14.1)), (7, Vl (x11.1)), (9, Vl (x17.1)), (11, Vl (x17.2))] rfl (by decide) dX6_sink_302 ?_
                refine q_lload C 5 rfl dX6_sink_304 ?_
                refine q_lstore C [(9, Vl (x17.2)), (13, Vl (lRem x17.1 x17.2)), (4, Vi p4), (5, Vl (x14.1)), (7, Vl (x11.1)), (11, Vl (x17.2))] rfl (by decide) dX6_sink_306 ?_
                refine q_lload C 1 rfl dX6_sink_308 ?_
                refine q_lstore C [(11, Vl (lRem x17.1 x17.2)), (9, Vl (x17.2)), (13, Vl (lRem x17.1 x17.2)), (4, Vi p4), (5, Vl (x14.1)), (7, Vl (x11.1))] rfl (by decide) dX6_sink_310 ?_
                refine q_goto C dX6_sink_312 (tgt := 290) (by decide) ?_
                refine q_sub C [3, 4, 5, 1, 0] [(4, Vi p4), (5, Vl (x14.1)), (7, Vl (x11.1)), (9, Vl (x17.2)), (11, Vl (lRem x17.1 x17.2))] rfl ?_
                have hz := sat_some hz
                exact hz
            · have hz := sat_f hz c16
              refine q_lconst (x := 1) C dX6_sink_111 ⟨rfl, by decide, by decide⟩ ?_
              refine q_lstore C [(10, Vl 1), (0, Vr 0), (1, Vi p1), (2, Vi p2), (3, Vi p3), (4, Vi p4), (5, Vl (x14.1)), (7, Vl (x11.1)), (9, Vi (x14.2.1))] rfl (by decide) dX6_sink_112 ?_
              refine q_aload_n C 1 rfl dX6_sink_114 rfl ?_
              obtain ⟨z28, hz28, hz⟩ := sat_bind hz
              refine q_callVv stZ_t C [] [] (c_X6_tries x14.2.2 hz28) tO_X6 rfl gX6_sink_X6_tries rfl ⟨rfl, rfl⟩ hdX6_tries ⟨by decide, by decide⟩ rfl (Nat.le_of_ble_eq_true rfl) dX6_sink_115 rfl (fun _ => ?_)
              refine q_iconst C dX6_sink_118 ⟨by decide, by decide⟩ ?_
              refine q_istore C [(12, Vi 0), (10, Vl 1), (0, Vr 0), (1, Vi p1), (2, Vi p2), (3, Vi p3), (4, Vi p4), (5, Vl (x14.1)), (7, Vl (x11.1)), (9, Vi (x14.2.1))] rfl (by decide) dX6_sink_119 ?_
              refine q_sub C [2, 3, 4, 5, 6, 7, 8, 9, 1, 0] [(0, Vr 0), (1, Vi p1), (2, Vi p2), (3, Vi p3), (4, Vi p4), (5, Vl (x14.1)), (7, Vl (x11.1)), (9, Vi (x14.2.1)), (10, Vl 1), (12, Vi 0)] rfl ?_
              refine loop_go (fun x29 => G x29.2.2 121 [(0, Vr 0), (1, Vi p1), (2, Vi p2), (3, Vi p3), (4, Vi p4), (5, Vl (x14.1)), (7, Vl (x11.1)), (9, Vi (x14.2.1)), (10, Vl (x29.1)), (12, Vi (x29.2.1))] []) (sat_bind2 hz) (fun h => h) (fun x29 hz => ?_)
              refine q_iload C 9 rfl dX6_sink_121 ?_
              refine q_aload_n C 0 rfl dX6_sink_123 rfl ?_
              refine q_getR tO_X6 C (i := 0) i_X6 rfl rfl (by decide) rfl f_7 dX6_sink_124 ?_
              refine q_bipush C dX6_sink_127 ⟨rfl, by decide, by decide⟩ ?_
              obtain ⟨c30, hz⟩ := sat_chk hz
              refine q_wald C c30 dX6_sink_129 ?_
              refine q_icmp_ge C dX6_sink_130 (tgt := 239) (by decide) (fun c31 => ?_) (fun c31 => ?_)
              · have hz := sat_t hz c31
                have hz := sat_some hz
                refine q_sub C [0, 1, 2, 3, 4, 5, 6, 7, 8] [(0, Vr 0), (1, Vi p1), (2, Vi p2), (3, Vi p3), (4, Vi p4), (5, Vl (x14.1)), (7, Vl (x11.1)), (9, Vi (x14.2.1)), (10, Vl (x29.1))] rfl ?_
                refine q_lload C 8 rfl dX6_sink_239 ?_
                refine q_lconst (x := 0) C dX6_sink_241 ⟨rfl, by decide, by decide⟩ ?_
                refine q_lcmp C dX6_sink_242 ?_
                refine q_if_le C dX6_sink_243 (tgt := 276) (by decide) (fun c32 => ?_) (fun c32 => ?_)
                · have hz := sat_t hz c32
                  refine q_iinc C 7 rfl [(9, Vi (w3 (x14.2.1 + 1))), (0, Vr 0), (1, Vi p1), (2, Vi p2), (3, Vi p3), (4, Vi p4), (5, Vl (x14.1)), (7, Vl (x11.1)), (10, Vl (x29.1))] rfl (by decide) dX6_sink_276 ?_
                  refine q_goto C dX6_sink_279 (tgt := 97) (by decide) ?_
                  refine q_sub C [1, 2, 3, 4, 5, 6, 7, 0] [(0, Vr 0), (1, Vi p1), (2, Vi p2), (3, Vi p3), (4, Vi p4), (5, Vl (x14.1)), (7, Vl (x11.1)), (9, Vi (w3 (x14.2.1 + 1)))] rfl ?_
                  have hz := sat_some hz
                  exact hz
                · have hz := sat_f hz c32
                  refine q_aload_n C 0 rfl dX6_sink_246 rfl ?_
                  refine q_bipush C dX6_sink_247 ⟨rfl, by decide, by decide⟩ ?_
                  obtain ⟨z34, hz34, hz⟩ := sat_bind hz
                  refine q_callVv stZ_t C [Vi 114] [] (c_X6_passes x29.2.2 114 hz34) tO_X6 rfl gX6_sink_X6_passes rfl ⟨rfl, rfl⟩ hdX6_passes ⟨by decide, by decide⟩ rfl (Nat.le_of_ble_eq_true rfl) dX6_sink_249 rfl (fun _ => ?_)
                  refine q_lload C 5 rfl dX6_sink_252 ?_
                  refine q_aload_n C 0 rfl dX6_sink_254 rfl ?_
                  refine q_getR tO_X6 C (i := 0) i_X6 rfl rfl (by decide) rfl f_7 dX6_sink_255 ?_
                  refine q_bipush C dX6_sink_258 ⟨rfl, by decide, by decide⟩ ?_
                  refine q_iload_n C 1 rfl dX6_sink_260 rfl ?_
                  refine q_iadd C dX6_sink_261 ?_
                  obtain ⟨c35, hz⟩ := sat_chk hz
                  refine q_wald C c35 dX6_sink_262 ?_
                  refine q_iload_n C 2 rfl dX6_sink_263 rfl ?_
                  refine q_icmp_ne C dX6_sink_264 (tgt := 272) (by decide) (fun c36 => ?_) (fun c36 => ?_)
                  · have hz := sat_f hz c36
                    refine q_lconst (x := 0) C dX6_sink_272 ⟨rfl, by decide, by decide⟩ ?_
                    refine q_ladd C dX6_sink_273 ?_
                    refine q_lstore C [(5, Vl (w6 (x14.1 + 0))), (0, Vr 0), (1, Vi p1), (2, Vi p2), (3, Vi p3), (4, Vi p4), (7, Vl (x11.1)), (9, Vi (x14.2.1)), (10, Vl (x29.1))] rfl (by decide) dX6_sink_274 ?_
                    refine q_iinc C 7 rfl [(9, Vi (w3 (x14.2.1 + 1))), (5, Vl (w6 (x14.1 + 0))), (0, Vr 0), (1, Vi p1), (2, Vi p2), (3, Vi p3), (4, Vi p4), (7, Vl (x11.1)), (10, Vl (x29.1))] rfl (by decide) dX6_sink_276 ?_
                    refine q_goto C dX6_sink_279 (tgt := 97) (by decide) ?_
                    refine q_sub C [2, 3, 4, 5, 6, 1, 7, 0] [(0, Vr 0), (1, Vi p1), (2, Vi p2), (3, Vi p3), (4, Vi p4), (5, Vl (w6 (x14.1 + 0))), (7, Vl (x11.1)), (9, Vi (w3 (x14.2.1 + 1)))] rfl ?_
                    have hz := sat_some hz
                    exact hz
                  · have hz := sat_t hz c36
                    refine q_lload C 8 rfl dX6_sink_267 ?_
                    refine q_goto C dX6_sink_269 (tgt := 273) (by decide) ?_
                    refine q_ladd C dX6_sink_273 ?_
                    refine q_lstore C [(5, Vl (w6 (x14.1 + x29.1))), (0, Vr 0), (1, Vi p1), (2, Vi p2), (3, Vi p3), (4, Vi p4), (7, Vl (x11.1)), (9, Vi (x14.2.1)), (10, Vl (x29.1))] rfl (by decide) dX6_sink_274 ?_
                    refine q_iinc C 7 rfl [(9, Vi (w3 (x14.2.1 + 1))), (5, Vl (w6 (x14.1 + x29.1))), (0, Vr 0), (1, Vi p1), (2, Vi p2), (3, Vi p3), (4, Vi p4), (7, Vl (x11.1)), (10, Vl (x29.1))] rfl (by decide) dX6_sink_276 ?_
                    refine q_goto C dX6_sink_279 (tgt := 97) (by decide) ?_
                    refine q_sub C [2, 3, 4, 5, 6, 1, 7, 0] [(0, Vr 0), (1, Vi p1), (2, Vi p2), (3, Vi p3), (4, Vi p4), (5, Vl (w6 (x14.1 + x29.1))), (7, Vl (x11.1)), (9, Vi (w3 (x14.2.1 + 1)))] rfl ?_
                    have hz := sat_some hz
                    exact hz
              · have hz := sat_f hz c31
                refine q_aload_n C 0 rfl dX6_sink_133 rfl ?_
                refine q_getR tO_X6 C (i := 0) i_X6 rfl rfl (by decide) rfl f_7 dX6_sink_134 ?_
                refine q_iconst C dX6_sink_137 ⟨by decide, by decide⟩ ?_
                refine q_iload C 9 rfl dX6_sink_138 ?_
                refine q_iadd C dX6_sink_140 ?_
                obtain ⟨c37, hz⟩ := sat_chk hz
                refine q_wald C c37 dX6_sink_141 ?_
                obtain ⟨v38, hv38, hz⟩ := sat_bnd hz
                have Jv38 : G x29.2.2 150 [(0, Vr 0), (1, Vi p1), (2, Vi p2), (3, Vi p3), (4, Vi p4), (5, Vl (x14.1)), (7, Vl (x11.1)), (9, Vi (x14.2.1)), (10, Vl (x29.1)), (12, Vi (x29.2.1))] [Vi v38] := by
                  refine q_istore C [(13, Vi v38), (0, Vr 0), (1, Vi p1), (2, Vi p2), (3, Vi p3), (4, Vi p4), (5, Vl (x14.1)), (7, Vl (x11.1)), (9, Vi (x14.2.1)), (10, Vl (x29.1)), (12, Vi (x29.2.1))] rfl (by decide) dX6_sink_150 ?_
                  refine q_lload C 9 rfl dX6_sink_152 ?_
                  refine q_iload C 0 rfl dX6_sink_154 ?_
                  obtain ⟨v39, hv39, hz⟩ := sat_bnd hz
                  have Jv39 : G x29.2.2 197 [(0, Vr 0), (1, Vi p1), (2, Vi p2), (3, Vi p3), (4, Vi p4), (5, Vl (x14.1)), (7, Vl (x11.1)), (9, Vi (x14.2.1)), (12, Vi (x29.2.1))] [Vl v39, Vl (x29.1)] := by
                    refine q_lmul C dX6_sink_197 ?_
                    refine q_lstore C [(10, Vl (w6 (x29.1 * v39))), (0, Vr 0), (1, Vi p1), (2, Vi p2), (3, Vi p3), (4, Vi p4), (5, Vl (x14.1)), (7, Vl (x11.1)), (9, Vi (x14.2.1)), (12, Vi (x29.2.1))] rfl (by decide) dX6_sink_198 ?_
                    refine q_aload_n C 1 rfl dX6_sink_200 rfl ?_
                    refine q_getR tO_X6 C (i := 0) i_X6 rfl rfl (by decide) rfl f_7 dX6_sink_201 ?_
                    refine q_bipush C dX6_sink_204 ⟨rfl, by decide, by decide⟩ ?_
                    refine q_iload C 9 rfl dX6_sink_206 ?_
                    refine q_iadd C dX6_sink_208 ?_
                    refine q_iload C 8 rfl dX6_sink_209 ?_
                    refine q_iload C 9 rfl dX6_sink_211 ?_
                    refine q_callSz stZ_t C [Vi (x14.2.1), Vi (x29.2.1)] [Vi (w3 (115 + x29.2.1)), Vr 1] (c_X6_has x29.2.2 x14.2.1 x29.2.1) gX6_sink_X6_has rfl ⟨rfl, rfl⟩ hdX6_has ⟨by decide, by decide⟩ rfl (Nat.le_of_ble_eq_true rfl) dX6_sink_213 rfl (fun hb40 _ => ?_)
                    refine q_if_eq C dX6_sink_216 (tgt := 223) (by decide) (fun c41 => ?_) (fun c41 => ?_)
                    · have hz := sat_t hz c41
                      refine q_aload_n C 1 rfl dX6_sink_223 rfl ?_
                      refine q_getR tO_X6 C (i := 0) i_X6 rfl rfl (by decide) rfl f_7 dX6_sink_224 ?_
                      refine q_iconst C dX6_sink_227 ⟨by decide, by decide⟩ ?_
                      refine q_iload C 9 rfl dX6_sink_228 ?_
                      refine q_iadd C dX6_sink_230 ?_
                      obtain ⟨c42, hz⟩ := sat_chk hz
                      refine q_wald C c42 dX6_sink_231 ?_
                      obtain ⟨c43, hz⟩ := sat_chk hz
                      obtain ⟨m44, hm44, hz⟩ := sat_bnd hz
                      refine q_wast C c43 hm44 dX6_sink_232 ?_
                      refine q_iinc C 9 rfl [(12, Vi (w3 (x29.2.1 + 1))), (10, Vl (w6 (x29.1 * v39))), (0, Vr 0), (1, Vi p1), (2, Vi p2), (3, Vi p3), (4, Vi p4), (5, Vl (x14.1)), (7, Vl (x11.1)), (9, Vi (x14.2.1))] rfl (by decide) dX6_sink_233 ?_
                      refine q_goto C dX6_sink_236 (tgt := 121) (by decide) ?_
                      refine q_sub C [2, 3, 4, 5, 6, 7, 8, 9, 1, 0] [(0, Vr 0), (1, Vi p1), (2, Vi p2), (3, Vi p3), (4, Vi p4), (5, Vl (x14.1)), (7, Vl (x11.1)), (9, Vi (x14.2.1)), (10, Vl (w6 (x29.1 * v39))), (12, Vi (w3 (x29.2.1 + 1)))] rfl ?_
                      have hz := sat_some hz
                      exact hz
                    · have hz := sat_f hz c41
                      refine q_iconst C dX6_sink_219 ⟨by decide, by decide⟩ ?_
                      refine q_goto C dX6_sink_220 (tgt := 232) (by decide) ?_
                      obtain ⟨c45, hz⟩ := sat_chk hz
                      obtain ⟨m46, hm46, hz⟩ := sat_bnd hz
                      refine q_wast C c45 hm46 dX6_sink_232 ?_
                      refine q_iinc C 9 rfl [(12, Vi (w3 (x29.2.1 + 1))), (10, Vl (w6 (x29.1 * v39))), (0, Vr 0), (1, Vi p1), (2, Vi p2), (3, Vi p3), (4, Vi p4), (5, Vl (x14.1)), (7, Vl (x11.1)), (9, Vi (x14.2.1))] rfl (by decide) dX6_sink_233 ?_
                      refine q_goto C dX6_sink_236 (tgt := 121) (by decide) ?_
                      refine q_sub C [2, 3, 4, 5, 6, 7, 8, 9, 1, 0] [(0, Vr 0), (1, Vi p1), (2, Vi p2), (3, Vi p3), (4, Vi p4), (5, Vl (x14.1)), (7, Vl (x11.1)), (9, Vi (x14.2.1)), (10, Vl (w6 (x29.1 * v39))), (12, Vi (w3 (x29.2.1 + 1)))] rfl ?_
                      have hz := sat_some hz
                      exact hz
                  have hz := hv39.symm
                  refine q_if_eq C dX6_sink_156 (tgt := 182) (by decide) (fun c47 => ?_) (fun c47 => ?_)
                  · have hz := eq_t hz c47
                    refine q_iload C 8 rfl dX6_sink_182 ?_
                    refine q_iload C 10 rfl dX6_sink_184 ?_
                    refine q_callSz stZ_t C [Vi (x14.2.1), Vi (x29.2.1)] [Vl (x29.1)] (c_X6_has x29.2.2 x14.2.1 x29.2.1) gX6_sink_X6_has rfl ⟨rfl, rfl⟩ hdX6_has ⟨by decide, by decide⟩ rfl (Nat.le_of_ble_eq_true rfl) dX6_sink_186 rfl (fun hb48 _ => ?_)
                    refine q_if_eq C dX6_sink_189 (tgt := 196) (by decide) (fun c49 => ?_) (fun c49 => ?_)
                    · have hz := eq_t hz c49
                      refine q_lconst (x := 1) C dX6_sink_196 ⟨rfl, by decide, by decide⟩ ?_
                      have hz : _ = v39 := hz
                      refine q_sub C [1, 2, 3, 4, 5, 6, 7, 8, 10] [(0, Vr 0), (1, Vi p1), (2, Vi p2), (3, Vi p3), (4, Vi p4), (5, Vl (x14.1)), (7, Vl (x11.1)), (9, Vi (x14.2.1)), (12, Vi (x29.2.1))] rfl ?_
                      subst hz
                      exact Jv39
                    · have hz := eq_f hz c49
                      refine q_lconst (x := 0) C dX6_sink_192 ⟨rfl, by decide, by decide⟩ ?_
                      refine q_goto C dX6_sink_193 (tgt := 197) (by decide) ?_
                      have hz : _ = v39 := hz
                      refine q_sub C [1, 2, 3, 4, 5, 6, 7, 8, 10] [(0, Vr 0), (1, Vi p1), (2, Vi p2), (3, Vi p3), (4, Vi p4), (5, Vl (x14.1)), (7, Vl (x11.1)), (9, Vi (x14.2.1)), (12, Vi (x29.2.1))] rfl ?_
                      subst hz
                      exact Jv39
                  · have hz := eq_f hz c47
                    refine q_iload C 8 rfl dX6_sink_159 ?_
                    refine q_iload C 10 rfl dX6_sink_161 ?_
                    refine q_callSz stZ_t C [Vi (x14.2.1), Vi (x29.2.1)] [Vl (x29.1)] (c_X6_has x29.2.2 x14.2.1 x29.2.1) gX6_sink_X6_has rfl ⟨rfl, rfl⟩ hdX6_has ⟨by decide, by decide⟩ rfl (Nat.le_of_ble_eq_true rfl) dX6_sink_163 rfl (fun hb50 _ => ?_)
                    refine q_if_eq C dX6_sink_166 (tgt := 174) (by decide) (fun c51 => ?_) (fun c51 => ?_)
                    · have hz := eq_t hz c51
                      refine q_bipush C dX6_sink_174 ⟨rfl, by decide, by decide⟩ ?_
                      refine q_iload_n C 4 rfl dX6_sink_176 rfl ?_
                      refine q_isub C dX6_sink_177 ?_
                      refine q_i2l C dX6_sink_178 ?_
                      refine q_goto C dX6_sink_179 (tgt := 197) (by decide) ?_
                      have hz : _ = v39 := hz
                      refine q_sub C [1, 2, 3, 4, 5, 6, 7, 8, 10] [(0, Vr 0), (1, Vi p1), (2, Vi p2), (3, Vi p3), (4, Vi p4), (5, Vl (x14.1)), (7, Vl (x11.1)), (9, Vi (x14.2.1)), (12, Vi (x29.2.1))] rfl ?_
                      subst hz
                      exact Jv39
                    · have hz := eq_f hz c51
                      refine q_iload_n C 4 rfl dX6_sink_169 rfl ?_
                      refine q_i2l C dX6_sink_170 ?_
                      refine q_goto C dX6_sink_171 (tgt := 197) (by decide) ?_
                      have hz : _ = v39 := hz
                      refine q_sub C [1, 2, 3, 4, 5, 6, 7, 8, 10] [(0, Vr 0), (1, Vi p1), (2, Vi p2), (3, Vi p3), (4, Vi p4), (5, Vl (x14.1)), (7, Vl (x11.1)), (9, Vi (x14.2.1)), (12, Vi (x29.2.1))] rfl ?_
                      subst hz
                      exact Jv39
                have hz := hv38.symm
                refine q_if_le C dX6_sink_142 (tgt := 149) (by decide) (fun c52 => ?_) (fun c52 => ?_)
                · have hz := eq_t hz c52
                  refine q_iconst C dX6_sink_149 ⟨by decide, by decide⟩ ?_
                  have hz : _ = v38 := hz
                  subst hz
                  exact Jv38
                · have hz := eq_f hz c52
                  refine q_iconst C dX6_sink_145 ⟨by decide, by decide⟩ ?_
                  refine q_goto C dX6_sink_146 (tgt := 150) (by decide) ?_
                  have hz : _ = v38 := hz
                  subst hz
                  exact Jv38
          · have hz := sat_f hz c13
            refine q_lload C 6 rfl dX6_sink_64 ?_
            refine q_aload_n C 0 rfl dX6_sink_66 rfl ?_
            refine q_getR tO_X6 C (i := 0) i_X6 rfl rfl (by decide) rfl f_7 dX6_sink_67 ?_
            refine q_iconst C dX6_sink_70 ⟨by decide, by decide⟩ ?_
            refine q_iload C 7 rfl dX6_sink_71 ?_
            refine q_iadd C dX6_sink_73 ?_
            obtain ⟨c67, hz⟩ := sat_chk hz
            refine q_wald C c67 dX6_sink_74 ?_
            refine q_if_le C dX6_sink_75 (tgt := 84) (by decide) (fun c68 => ?_) (fun c68 => ?_)
            · have hz := sat_t hz c68
              refine q_lconst (x := 1) C dX6_sink_84 ⟨rfl, by decide, by decide⟩ ?_
              refine q_lmul C dX6_sink_85 ?_
              refine q_lstore C [(7, Vl (w6 (x11.1 * 1))), (0, Vr 0), (1, Vi p1), (2, Vi p2), (3, Vi p3), (4, Vi p4), (5, Vl 0), (9, Vi (x11.2))] rfl (by decide) dX6_sink_86 ?_
              refine q_iinc C 7 rfl [(9, Vi (w3 (x11.2 + 1))), (7, Vl (w6 (x11.1 * 1))), (0, Vr 0), (1, Vi p1), (2, Vi p2), (3, Vi p3), (4, Vi p4), (5, Vl 0)] rfl (by decide) dX6_sink_88 ?_
              refine q_goto C dX6_sink_91 (tgt := 52) (by decide) ?_
              refine q_sub C [2, 3, 4, 5, 6, 7, 1, 0] [(0, Vr 0), (1, Vi p1), (2, Vi p2), (3, Vi p3), (4, Vi p4), (5, Vl 0), (7, Vl (w6 (x11.1 * 1))), (9, Vi (w3 (x11.2 + 1)))] rfl ?_
              have hz := sat_some hz
              exact hz
            · have hz := sat_f hz c68
              refine q_ldc2 (v := 10) (x := 10) C (by decide +kernel) dX6_sink_78 ⟨by decide +kernel, by decide, by decide⟩ ?_
              refine q_goto C dX6_sink_81 (tgt := 85) (by decide) ?_
              refine q_lmul C dX6_sink_85 ?_
              refine q_lstore C [(7, Vl (w6 (x11.1 * 10))), (0, Vr 0), (1, Vi p1), (2, Vi p2), (3, Vi p3), (4, Vi p4), (5, Vl 0), (9, Vi (x11.2))] rfl (by decide) dX6_sink_86 ?_
              refine q_iinc C 7 rfl [(9, Vi (w3 (x11.2 + 1))), (7, Vl (w6 (x11.1 * 10))), (0, Vr 0), (1, Vi p1), (2, Vi p2), (3, Vi p3), (4, Vi p4), (5, Vl 0)] rfl (by decide) dX6_sink_88 ?_
              refine q_goto C dX6_sink_91 (tgt := 52) (by decide) ?_
              refine q_sub C [2, 3, 4, 5, 6, 7, 1, 0] [(0, Vr 0), (1, Vi p1), (2, Vi p2), (3, Vi p3), (4, Vi p4), (5, Vl 0), (7, Vl (w6 (x11.1 * 10))), (9, Vi (w3 (x11.2 + 1)))] rfl ?_
              have hz := sat_some hz
              exact hz
        · have hz := sat_t hz c10
          refine q_ldc2 (v := (-1000001)) (x := (-1000001)) C (by decide +kernel) dX6_sink_39 ⟨by decide +kernel, by decide, by decide⟩ ?_
          exact q_lret C dX6_sink_42 (sat_eq hz)
theorem hdX6_drawn : yX6_drawn.cls = RX6 ∧ yX6_drawn.cls ≠ "java/lang/invoke/MethodHandle" ∧ yX6_drawn.cls ≠ "java/lang/invoke/VarHandle" ∧ (parseMethodDescriptor yX6_drawn.desc).map (fun d => d.parameters.length) = some 3 := by decide +kernel
set_option maxHeartbeats 4000000 in
set_option maxRecDepth 100000 in
theorem c_X6_drawn {l : Launch} {D : va_G} {ad : Nat → Nat} {cI cZ : ClassId} (μ : Mm) (p1 p2 p3 : Int) {v : Int × Mm} (hz : f_X6_drawn μ p1 p2 p3 = some v) : CT l D vwCl (tyM cI cZ) 10 ad (EM ad cI cZ) (fun _ => True) yX6_drawn wsX6_drawn ({ frames := 5, cells := 0, slots := 0, locals := 125 } : Room) (some .int) [Vr 0, Vi p1, Vi p2, Vi p3] μ (v.1, v.2) := by
  refine CT_of [(0, Vr 0), (1, Vi p1), (2, Vi p2), (3, Vi p3)] stZ_t (by decide) rfl rfl (Nat.le_of_ble_eq_true rfl) rfl (fun G C => ?_)
  have i_X6 : ∀ w ∈ u_ws RX6 TX6 19, w ∈ wsX6_drawn := by decide +kernel
  have f_7 : Cond.fieldLink (yX6_drawn).cls 7 "SwanDeedsModel" "w" "[I" ∈ wsX6_drawn := by decide +kernel
  have f_35 : Cond.fieldLink (yX6_drawn).cls 35 "SwanDeedsModel" "held" "[I" ∈ wsX6_drawn := by decide +kernel
  have hz := sat_of hz
  unfold f_X6_drawn at hz
  refine q_aload_n C 0 rfl dX6_drawn_0 rfl ?_
  obtain ⟨z2, hz2, hz⟩ := sat_bind hz
  refine q_callVz stZ_t C [] [] (c_X6_isRiver μ hz2) tO_X6 rfl gX6_drawn_X6_isRiver rfl ⟨rfl, rfl⟩ hdX6_isRiver ⟨by decide, by decide⟩ rfl (Nat.le_of_ble_eq_true rfl) dX6_drawn_1 rfl (fun hb1 _ => ?_)
  refine q_if_ne C dX6_drawn_4 (tgt := 10) (by decide) (fun c3 => ?_) (fun c3 => ?_)
  · have hz := sat_f hz c3
    refine q_iload_n C 1 rfl dX6_drawn_10 rfl ?_
    refine q_iconst C dX6_drawn_11 ⟨by decide, by decide⟩ ?_
    refine q_callSz stZ_t C [Vi p1, Vi 0] [] (c_X6_isSpan μ p1 0) gX6_drawn_X6_isSpan rfl ⟨rfl, rfl⟩ hdX6_isSpan ⟨by decide, by decide⟩ rfl (Nat.le_of_ble_eq_true rfl) dX6_drawn_12 rfl (fun hb4 _ => ?_)
    refine q_if_eq C dX6_drawn_15 (tgt := 40) (by decide) (fun c5 => ?_) (fun c5 => ?_)
    · have hz := sat_t hz c5
      refine q_ldc (v := (-1000001)) (x := (-1000001)) C (by decide +kernel) dX6_drawn_40 ⟨by decide +kernel, by decide, by decide⟩ ?_
      exact q_iret C dX6_drawn_42 (sat_eq hz)
    · have hz := sat_f hz c5
      refine q_iload_n C 2 rfl dX6_drawn_18 rfl ?_
      refine q_i2l C dX6_drawn_19 ?_
      refine q_lconst (x := 1) C dX6_drawn_20 ⟨rfl, by decide, by decide⟩ ?_
      refine q_ldc2 (v := 999999) (x := 999999) C (by decide +kernel) dX6_drawn_21 ⟨by decide +kernel, by decide, by decide⟩ ?_
      refine q_callSz stZ_t C [Vl p2, Vl 1, Vl 999999] [] (c_X6_in μ p2 1 999999) gX6_drawn_X6_in rfl ⟨rfl, rfl⟩ hdX6_in ⟨by decide, by decide⟩ rfl (Nat.le_of_ble_eq_true rfl) dX6_drawn_24 rfl (fun hb6 _ => ?_)
      refine q_if_eq C dX6_drawn_27 (tgt := 40) (by decide) (fun c7 => ?_) (fun c7 => ?_)
      · have hz := sat_t hz c7
        refine q_ldc (v := (-1000001)) (x := (-1000001)) C (by decide +kernel) dX6_drawn_40 ⟨by decide +kernel, by decide, by decide⟩ ?_
        exact q_iret C dX6_drawn_42 (sat_eq hz)
      · have hz := sat_f hz c7
        refine q_iload_n C 3 rfl dX6_drawn_30 rfl ?_
        refine q_i2l C dX6_drawn_31 ?_
        refine q_lconst (x := 0) C dX6_drawn_32 ⟨rfl, by decide, by decide⟩ ?_
        refine q_lconst (x := 1) C dX6_drawn_33 ⟨rfl, by decide, by decide⟩ ?_
        refine q_callSz stZ_t C [Vl p3, Vl 0, Vl 1] [] (c_X6_in μ p3 0 1) gX6_drawn_X6_in rfl ⟨rfl, rfl⟩ hdX6_in ⟨by decide, by decide⟩ rfl (Nat.le_of_ble_eq_true rfl) dX6_drawn_34 rfl (fun hb8 _ => ?_)
        refine q_if_ne C dX6_drawn_37 (tgt := 43) (by decide) (fun c9 => ?_) (fun c9 => ?_)
        · have hz := sat_f hz c9
          refine q_aload_n C 0 rfl dX6_drawn_43 rfl ?_
          obtain ⟨z11, hz11, hz⟩ := sat_bind hz
          refine q_callVv stZ_t C [] [] (c_X6_tries μ hz11) tO_X6 rfl gX6_drawn_X6_tries rfl ⟨rfl, rfl⟩ hdX6_tries ⟨by decide, by decide⟩ rfl (Nat.le_of_ble_eq_true rfl) dX6_drawn_44 rfl (fun _ => ?_)
          refine q_iload_n C 2 rfl dX6_drawn_47 rfl ?_
          refine q_i2l C dX6_drawn_48 ?_
          refine q_lstore C [(4, Vl p2), (0, Vr 0), (1, Vi p1), (2, Vi p2), (3, Vi p3)] rfl (by decide) dX6_drawn_49 ?_
          refine q_iconst C dX6_drawn_51 ⟨by decide, by decide⟩ ?_
          refine q_istore C [(6, Vi 0), (4, Vl p2), (0, Vr 0), (1, Vi p1), (2, Vi p2), (3, Vi p3)] rfl (by decide) dX6_drawn_52 ?_
          refine q_iconst C dX6_drawn_54 ⟨by decide, by decide⟩ ?_
          refine q_istore C [(7, Vi 0), (6, Vi 0), (4, Vl p2), (0, Vr 0), (1, Vi p1), (2, Vi p2), (3, Vi p3)] rfl (by decide) dX6_drawn_55 ?_
          refine q_sub C [3, 4, 6, 2, 1, 0] [(0, Vr 0), (1, Vi p1), (3, Vi p3), (4, Vl p2), (6, Vi 0), (7, Vi 0)] rfl ?_
          refine loop_go (fun x12 => G x12.2.2.2 57 [(0, Vr 0), (1, Vi p1), (3, Vi p3), (4, Vl (x12.1)), (6, Vi (x12.2.1)), (7, Vi (x12.2.2.1))] []) (sat_bind2 hz) (fun h => h) (fun x12 hz => ?_)
          refine q_iload C 5 rfl dX6_drawn_57 ?_
          refine q_iload_n C 1 rfl dX6_drawn_59 rfl ?_
          refine q_icmp_ge C dX6_drawn_60 (tgt := 201) (by decide) (fun c13 => ?_) (fun c13 => ?_)
          · have hz := sat_t hz c13
            have hz := sat_some hz
            refine q_sub C [0, 2, 4] [(0, Vr 0), (3, Vi p3), (6, Vi (x12.2.1))] rfl ?_
            refine q_iload_n C 1 rfl dX6_drawn_201 rfl ?_
            refine q_if_ne C dX6_drawn_202 (tgt := 217) (by decide) (fun c14 => ?_) (fun c14 => ?_)
            · have hz := sat_f hz c14
              refine q_iload C 2 rfl dX6_drawn_217 ?_
              exact q_iret C dX6_drawn_219 (sat_eq hz)
            · have hz := sat_t hz c14
              refine q_aload_n C 0 rfl dX6_drawn_205 rfl ?_
              refine q_bipush C dX6_drawn_206 ⟨rfl, by decide, by decide⟩ ?_
              obtain ⟨z16, hz16, hz⟩ := sat_bind hz
              refine q_callVi stZ_t C [Vi 114] [] (c_X6_ownersIn x12.2.2.2 114 hz16) tO_X6 rfl gX6_drawn_X6_ownersIn rfl ⟨rfl, rfl⟩ hdX6_ownersIn ⟨by decide, by decide⟩ rfl (Nat.le_of_ble_eq_true rfl) dX6_drawn_208 rfl (fun _ _ => ?_)
              obtain ⟨z18, hz18, hz⟩ := sat_bind hz
              refine q_callSi stZ_t C [Vi z16] [] (c_X6_ones x12.2.2.2 z16 hz18) gX6_drawn_X6_ones rfl ⟨rfl, rfl⟩ hdX6_ones ⟨by decide, by decide⟩ rfl (Nat.le_of_ble_eq_true rfl) dX6_drawn_211 rfl (fun _ _ => ?_)
              refine q_goto C dX6_drawn_214 (tgt := 219) (by decide) ?_
              exact q_iret C dX6_drawn_219 (sat_eq hz)
          · have hz := sat_f hz c13
            refine q_lload C 3 rfl dX6_drawn_63 ?_
            refine q_ldc2 (v := 16807) (x := 16807) C (by decide +kernel) dX6_drawn_65 ⟨by decide +kernel, by decide, by decide⟩ ?_
            refine q_lmul C dX6_drawn_68 ?_
            refine q_ldc2 (v := 2147483647) (x := 2147483647) C (by decide +kernel) dX6_drawn_69 ⟨by decide +kernel, by decide, by decide⟩ ?_
            obtain ⟨c19, hz⟩ := sat_chk hz
            refine q_lrem C c19 dX6_drawn_72 ?_
            obtain ⟨a20, ha20, hz⟩ := sat_bnd hz
            refine q_nml ha20 ?_
            refine q_lstore C [(4, Vl a20), (0, Vr 0), (1, Vi p1), (3, Vi p3), (6, Vi (x12.2.1)), (7, Vi (x12.2.2.1))] rfl (by decide) dX6_drawn_73 ?_
            refine q_aload_n C 1 rfl dX6_drawn_75 rfl ?_
            refine q_bipush C dX6_drawn_76 ⟨rfl, by decide, by decide⟩ ?_
            refine q_lload C 0 rfl dX6_drawn_78 ?_
            refine q_aload_n C 1 rfl dX6_drawn_80 rfl ?_
            refine q_getR tO_X6 C (i := 0) i_X6 rfl rfl (by decide) rfl f_7 dX6_drawn_81 ?_
            refine q_bipush C dX6_drawn_84 ⟨rfl, by decide, by decide⟩ ?_
            obtain ⟨c21, hz⟩ := sat_chk hz
            refine q_wald C c21 dX6_drawn_86 ?_
            refine q_i2l C dX6_drawn_87 ?_
            obtain ⟨c22, hz⟩ := sat_chk hz
            refine q_lrem C c22 dX6_drawn_88 ?_
            refine q_l2i C dX6_drawn_89 ?_
            refine q_lload C 0 rfl dX6_drawn_90 ?_
            refine q_ldc2 (v := 4) (x := 4) C (by decide +kernel) dX6_drawn_92 ⟨by decide +kernel, by decide, by decide⟩ ?_
            obtain ⟨c23, hz⟩ := sat_chk hz
            refine q_lrem C c23 dX6_drawn_95 ?_
            refine q_l2i C dX6_drawn_96 ?_
            obtain ⟨z25, hz25, hz⟩ := sat_bind hz
            refine q_callVv stZ_t C [Vi 114, Vi (w3 (lRem a20 (rdW x12.2.2.2 24))), Vi (w3 (lRem a20 4))] [] (c_X6_throwsOn x12.2.2.2 114 (w3 (lRem a20 (rdW x12.2.2.2 24))) (w3 (lRem a20 4)) hz25) tO_X6 rfl gX6_drawn_X6_throwsOn rfl ⟨rfl, rfl⟩ hdX6_throwsOn ⟨by decide, by decide⟩ rfl (Nat.le_of_ble_eq_true rfl) dX6_drawn_97 rfl (fun _ => ?_)
            refine q_iconst C dX6_drawn_100 ⟨by decide, by decide⟩ ?_
            refine q_istore C [(8, Vi 0), (4, Vl a20), (0, Vr 0), (1, Vi p1), (3, Vi p3), (6, Vi (x12.2.1)), (7, Vi (x12.2.2.1))] rfl (by decide) dX6_drawn_101 ?_
            refine q_sub C [2, 3, 4, 1, 5, 6, 0] [(0, Vr 0), (1, Vi p1), (3, Vi p3), (4, Vl a20), (6, Vi (x12.2.1)), (7, Vi (x12.2.2.1)), (8, Vi 0)] rfl ?_
            refine loop_go (fun x26 => G x26.2 103 [(0, Vr 0), (1, Vi p1), (3, Vi p3), (4, Vl a20), (6, Vi (x12.2.1)), (7, Vi (x12.2.2.1)), (8, Vi (x26.1))] []) (sat_bind2 hz) (fun h => h) (fun x26 hz => ?_)
            refine q_iload C 6 rfl dX6_drawn_103 ?_
            refine q_aload_n C 0 rfl dX6_drawn_105 rfl ?_
            refine q_getR tO_X6 C (i := 0) i_X6 rfl rfl (by decide) rfl f_7 dX6_drawn_106 ?_
            refine q_bipush C dX6_drawn_109 ⟨rfl, by decide, by decide⟩ ?_
            obtain ⟨c27, hz⟩ := sat_chk hz
            refine q_wald C c27 dX6_drawn_111 ?_
            refine q_icmp_ge C dX6_drawn_112 (tgt := 138) (by decide) (fun c28 => ?_) (fun c28 => ?_)
            · have hz := sat_t hz c28
              have hz := sat_some hz
              refine q_sub C [0, 1, 2, 3, 4, 5] [(0, Vr 0), (1, Vi p1), (3, Vi p3), (4, Vl a20), (6, Vi (x12.2.1)), (7, Vi (x12.2.2.1))] rfl ?_
              refine q_aload_n C 0 rfl dX6_drawn_138 rfl ?_
              refine q_bipush C dX6_drawn_139 ⟨rfl, by decide, by decide⟩ ?_
              obtain ⟨z30, hz30, hz⟩ := sat_bind hz
              refine q_callVv stZ_t C [Vi 114] [] (c_X6_passes x26.2 114 hz30) tO_X6 rfl gX6_drawn_X6_passes rfl ⟨rfl, rfl⟩ hdX6_passes ⟨by decide, by decide⟩ rfl (Nat.le_of_ble_eq_true rfl) dX6_drawn_141 rfl (fun _ => ?_)
              refine q_iconst C dX6_drawn_144 ⟨by decide, by decide⟩ ?_
              refine q_istore C [(8, Vi 0), (0, Vr 0), (1, Vi p1), (3, Vi p3), (4, Vl a20), (6, Vi (x12.2.1)), (7, Vi (x12.2.2.1))] rfl (by decide) dX6_drawn_145 ?_
              refine q_sub C [1, 2, 3, 4, 5, 6, 0] [(0, Vr 0), (1, Vi p1), (3, Vi p3), (4, Vl a20), (6, Vi (x12.2.1)), (7, Vi (x12.2.2.1)), (8, Vi 0)] rfl ?_
              refine loop_go (fun x31 => G z30 147 [(0, Vr 0), (1, Vi p1), (3, Vi p3), (4, Vl a20), (6, Vi (x31.1)), (7, Vi (x12.2.2.1)), (8, Vi (x31.2))] []) (sat_bind2 hz) (fun h => h) (fun x31 hz => ?_)
              refine q_iload C 6 rfl dX6_drawn_147 ?_
              refine q_aload_n C 0 rfl dX6_drawn_149 rfl ?_
              refine q_getR tO_X6 C (i := 0) i_X6 rfl rfl (by decide) rfl f_7 dX6_drawn_150 ?_
              refine q_bipush C dX6_drawn_153 ⟨rfl, by decide, by decide⟩ ?_
              obtain ⟨c32, hz⟩ := sat_chk hz
              refine q_wald C c32 dX6_drawn_155 ?_
              refine q_icmp_ge C dX6_drawn_156 (tgt := 195) (by decide) (fun c33 => ?_) (fun c33 => ?_)
              · have hz := sat_t hz c33
                have hz := sat_some hz
                refine q_sub C [0, 1, 2, 3, 4, 5] [(0, Vr 0), (1, Vi p1), (3, Vi p3), (4, Vl a20), (6, Vi (x31.1)), (7, Vi (x12.2.2.1))] rfl ?_
                refine q_iinc C 5 rfl [(7, Vi (w3 (x12.2.2.1 + 1))), (0, Vr 0), (1, Vi p1), (3, Vi p3), (4, Vl a20), (6, Vi (x31.1))] rfl (by decide) dX6_drawn_195 ?_
                refine q_goto C dX6_drawn_198 (tgt := 57) (by decide) ?_
                refine q_sub C [1, 2, 3, 4, 5, 0] [(0, Vr 0), (1, Vi p1), (3, Vi p3), (4, Vl a20), (6, Vi (x31.1)), (7, Vi (w3 (x12.2.2.1 + 1)))] rfl ?_
                have hz := sat_some hz
                exact hz
              · have hz := sat_f hz c33
                refine q_iload C 4 rfl dX6_drawn_159 ?_
                refine q_aload_n C 0 rfl dX6_drawn_161 rfl ?_
                refine q_getR tO_X6 C (i := 13) i_X6 rfl rfl (by decide) rfl f_35 dX6_drawn_162 ?_
                refine q_iload C 6 rfl dX6_drawn_165 ?_
                obtain ⟨c34, hz⟩ := sat_chk hz
                refine q_iald (tM_held) C 0 rfl c34 dX6_drawn_167 ?_
                refine q_aload_n C 0 rfl dX6_drawn_168 rfl ?_
                refine q_getR tO_X6 C (i := 0) i_X6 rfl rfl (by decide) rfl f_7 dX6_drawn_169 ?_
                refine q_bipush C dX6_drawn_172 ⟨rfl, by decide, by decide⟩ ?_
                refine q_iload C 6 rfl dX6_drawn_174 ?_
                refine q_iadd C dX6_drawn_176 ?_
                obtain ⟨c35, hz⟩ := sat_chk hz
                refine q_wald C c35 dX6_drawn_177 ?_
                refine q_icmp_ne C dX6_drawn_178 (tgt := 185) (by decide) (fun c36 => ?_) (fun c36 => ?_)
                · have hz := sat_f hz c36
                  refine q_iconst C dX6_drawn_185 ⟨by decide, by decide⟩ ?_
                  refine q_iadd C dX6_drawn_186 ?_
                  refine q_istore C [(6, Vi (w3 (x31.1 + 1))), (0, Vr 0), (1, Vi p1), (3, Vi p3), (4, Vl a20), (7, Vi (x12.2.2.1)), (8, Vi (x31.2))] rfl (by decide) dX6_drawn_187 ?_
                  refine q_iinc C 6 rfl [(8, Vi (w3 (x31.2 + 1))), (6, Vi (w3 (x31.1 + 1))), (0, Vr 0), (1, Vi p1), (3, Vi p3), (4, Vl a20), (7, Vi (x12.2.2.1))] rfl (by decide) dX6_drawn_189 ?_
                  refine q_goto C dX6_drawn_192 (tgt := 147) (by decide) ?_
                  refine q_sub C [2, 3, 4, 5, 1, 6, 0] [(0, Vr 0), (1, Vi p1), (3, Vi p3), (4, Vl a20), (6, Vi (w3 (x31.1 + 1))), (7, Vi (x12.2.2.1)), (8, Vi (w3 (x31.2 + 1)))] rfl ?_
                  have hz := sat_some hz
                  exact hz
                · have hz := sat_t hz c36
                  refine q_iconst C dX6_drawn_181 ⟨by decide, by decide⟩ ?_
                  refine q_goto C dX6_drawn_182 (tgt := 186) (by decide) ?_
                  refine q_iadd C dX6_drawn_186 ?_
                  refine q_istore C [(6, Vi (w3 (x31.1 + 0))), (0, Vr 0), (1, Vi p1), (3, Vi p3), (4, Vl a20), (7, Vi (x12.2.2.1)), (8, Vi (x31.2))] rfl (by decide) dX6_drawn_187 ?_
                  refine q_iinc C 6 rfl [(8, Vi (w3 (x31.2 + 1))), (6, Vi (w3 (x31.1 + 0))), (0, Vr 0), (1, Vi p1), (3, Vi p3), (4, Vl a20), (7, Vi (x12.2.2.1))] rfl (by decide) dX6_drawn_189 ?_
                  refine q_goto C dX6_drawn_192 (tgt := 147) (by decide) ?_
                  refine q_sub C [2, 3, 4, 5, 1, 6, 0] [(0, Vr 0), (1, Vi p1), (3, Vi p3), (4, Vl a20), (6, Vi (w3 (x31.1 + 0))), (7, Vi (x12.2.2.1)), (8, Vi (w3 (x31.2 + 1)))] rfl ?_
                  have hz := sat_some hz
                  exact hz
            · have hz := sat_f hz c28
              refine q_aload_n C 0 rfl dX6_drawn_115 rfl ?_
              refine q_getR tO_X6 C (i := 13) i_X6 rfl rfl (by decide) rfl f_35 dX6_drawn_116 ?_
              refine q_iload C 6 rfl dX6_drawn_119 ?_
              refine q_aload_n C 0 rfl dX6_drawn_121 rfl ?_
              refine q_getR tO_X6 C (i := 0) i_X6 rfl rfl (by decide) rfl f_7 dX6_drawn_122 ?_
              refine q_bipush C dX6_drawn_125 ⟨rfl, by decide, by decide⟩ ?_
              refine q_iload C 6 rfl dX6_drawn_127 ?_
              refine q_iadd C dX6_drawn_129 ?_
              obtain ⟨c38, hz⟩ := sat_chk hz
              refine q_wald C c38 dX6_drawn_130 ?_
              obtain ⟨c39, hz⟩ := sat_chk hz
              obtain ⟨m40, hm40, hz⟩ := sat_bnd hz
              refine q_iast (tM_held) C 0 rfl c39 hm40 dX6_drawn_131 ?_
              refine q_iinc C 6 rfl [(8, Vi (w3 (x26.1 + 1))), (0, Vr 0), (1, Vi p1), (3, Vi p3), (4, Vl a20), (6, Vi (x12.2.1)), (7, Vi (x12.2.2.1))] rfl (by decide) dX6_drawn_132 ?_
              refine q_goto C dX6_drawn_135 (tgt := 103) (by decide) ?_
              refine q_sub C [1, 2, 3, 4, 5, 6, 0] [(0, Vr 0), (1, Vi p1), (3, Vi p3), (4, Vl a20), (6, Vi (x12.2.1)), (7, Vi (x12.2.2.1)), (8, Vi (w3 (x26.1 + 1)))] rfl ?_
              have hz := sat_some hz
              exact hz
        · have hz := sat_t hz c9
          refine q_ldc (v := (-1000001)) (x := (-1000001)) C (by decide +kernel) dX6_drawn_40 ⟨by decide +kernel, by decide, by decide⟩ ?_
          exact q_iret C dX6_drawn_42 (sat_eq hz)
  · have hz := sat_t hz c3
    refine q_ldc (v := (-1000002)) (x := (-1000002)) C (by decide +kernel) dX6_drawn_7 ⟨by decide +kernel, by decide, by decide⟩ ?_
    exact q_iret C dX6_drawn_9 (sat_eq hz)
theorem hdX6_image : yX6_image.cls = RX6 ∧ yX6_image.cls ≠ "java/lang/invoke/MethodHandle" ∧ yX6_image.cls ≠ "java/lang/invoke/VarHandle" ∧ (parseMethodDescriptor yX6_image.desc).map (fun d => d.parameters.length) = some 1 := by decide +kernel
set_option maxHeartbeats 4000000 in
set_option maxRecDepth 100000 in
theorem c_X6_image {l : Launch} {D : va_G} {ad : Nat → Nat} {cI cZ : ClassId} (μ : Mm) (p1 : Int) {v : Int × Mm} (hz : f_X6_image μ p1 = some v) : CT l D vwCl (tyM cI cZ) 10 ad (EM ad cI cZ) (fun _ => True) yX6_image wsX6_image ({ frames := 1, cells := 0, slots := 0, locals := 25 } : Room) (some .int) [Vr 0, Vi p1] μ (v.1, v.2) := by
  refine CT_of [(0, Vr 0), (1, Vi p1)] stZ_t (by decide) rfl rfl (Nat.le_of_ble_eq_true rfl) rfl (fun G C => ?_)
  have i_X6 : ∀ w ∈ u_ws RX6 TX6 19, w ∈ wsX6_image := by decide +kernel
  have f_13 : Cond.fieldLink (yX6_image).cls 13 "SwanDeedsModel" "isKept" "[Z" ∈ wsX6_image := by decide +kernel
  have hz := sat_of hz
  unfold f_X6_image at hz
  refine q_iload_n C 1 rfl dX6_image_0 rfl ?_
  refine q_i2l C dX6_image_1 ?_
  refine q_lconst (x := 0) C dX6_image_2 ⟨rfl, by decide, by decide⟩ ?_
  refine q_lconst (x := 1) C dX6_image_3 ⟨rfl, by decide, by decide⟩ ?_
  refine q_callSz stZ_t C [Vl p1, Vl 0, Vl 1] [] (c_X6_in μ p1 0 1) gX6_image_X6_in rfl ⟨rfl, rfl⟩ hdX6_in ⟨by decide, by decide⟩ rfl (Nat.le_of_ble_eq_true rfl) dX6_image_4 rfl (fun hb1 _ => ?_)
  refine q_if_ne C dX6_image_7 (tgt := 13) (by decide) (fun c2 => ?_) (fun c2 => ?_)
  · have hz := sat_f hz c2
    refine q_aload_n C 0 rfl dX6_image_13 rfl ?_
    obtain ⟨z4, hz4, hz⟩ := sat_bind hz
    refine q_callVz stZ_t C [] [] (c_X6_isRiver μ hz4) tO_X6 rfl gX6_image_X6_isRiver rfl ⟨rfl, rfl⟩ hdX6_isRiver ⟨by decide, by decide⟩ rfl (Nat.le_of_ble_eq_true rfl) dX6_image_14 rfl (fun hb3 _ => ?_)
    refine q_if_ne C dX6_image_17 (tgt := 23) (by decide) (fun c5 => ?_) (fun c5 => ?_)
    · have hz := sat_f hz c5
      refine q_aload_n C 0 rfl dX6_image_23 rfl ?_
      refine q_iconst C dX6_image_24 ⟨by decide, by decide⟩ ?_
      refine q_bipush C dX6_image_25 ⟨rfl, by decide, by decide⟩ ?_
      refine q_iconst C dX6_image_27 ⟨by decide, by decide⟩ ?_
      refine q_iload_n C 1 rfl dX6_image_28 rfl ?_
      refine q_iadd C dX6_image_29 ?_
      refine q_imul C dX6_image_30 ?_
      obtain ⟨z7, hz7, hz⟩ := sat_bind hz
      refine q_callVv stZ_t C [Vi 0, Vi (w3 (38 * (w3 (1 + p1))))] [] (c_X6_copyAll μ 0 (w3 (38 * (w3 (1 + p1)))) hz7) tO_X6 rfl gX6_image_X6_copyAll rfl ⟨rfl, rfl⟩ hdX6_copyAll ⟨by decide, by decide⟩ rfl (Nat.le_of_ble_eq_true rfl) dX6_image_31 rfl (fun _ => ?_)
      refine q_aload_n C 0 rfl dX6_image_34 rfl ?_
      refine q_getR tO_X6 C (i := 1) i_X6 rfl rfl (by decide) rfl f_13 dX6_image_35 ?_
      refine q_iload_n C 1 rfl dX6_image_38 rfl ?_
      refine q_iconst C dX6_image_39 ⟨by decide, by decide⟩ ?_
      obtain ⟨c8, hz⟩ := sat_chk hz
      obtain ⟨m9, hm9, hz⟩ := sat_bnd hz
      refine q_zast (tM_isKept) C 1 rfl (Or.inr rfl) c8 hm9 dX6_image_40 ?_
      refine q_iconst C dX6_image_41 ⟨by decide, by decide⟩ ?_
      exact q_iret C dX6_image_42 (sat_eq hz)
    · have hz := sat_t hz c5
      refine q_ldc (v := (-1000002)) (x := (-1000002)) C (by decide +kernel) dX6_image_20 ⟨by decide +kernel, by decide, by decide⟩ ?_
      exact q_iret C dX6_image_22 (sat_eq hz)
  · have hz := sat_t hz c2
    refine q_ldc (v := (-1000001)) (x := (-1000001)) C (by decide +kernel) dX6_image_10 ⟨by decide +kernel, by decide, by decide⟩ ?_
    exact q_iret C dX6_image_12 (sat_eq hz)
