theorem hdX5_trace : yX5_trace.cls = RX5 ∧ yX5_trace.cls ≠ "java/lang/invoke/MethodHandle" ∧ yX5_trace.cls ≠ "java/lang/invoke/VarHandle" ∧ (parseMethodDescriptor yX5_trace.desc).map (fun d => d.parameters.length) = some 1 := by decide +kernel
set_option maxHeartbeats 4000000 in
set_option maxRecDepth 100000 in
theorem c_X5_trace {l : Launch} {D : va_G} {ad : Nat → Nat} {cI cII cR : ClassId} (μ : Mm) (p1 : Int) {v : Int} (hz : f_X5_trace μ p1 = some v) : CT l D vwCl (tyC cI cII cR) 194 ad (EC ad cI cII cR) (ZC ad) yX5_trace wsX5_trace ({ frames := 1, cells := 0, slots := 0, locals := 22 } : Room) (some .int) [Vr 174, Vi p1] μ (v, μ) := by
  refine CT_of [(0, Vr 174), (1, Vi p1)] ZC_st (by decide) rfl rfl (Nat.le_of_ble_eq_true rfl) rfl (fun G C => ?_)
  have i_X1 : ∀ w ∈ u_ws RX1 TX1 6, w ∈ wsX5_trace := by decide +kernel
  have i_X5 : ∀ w ∈ u_ws RX5 TX5 9, w ∈ wsX5_trace := by decide +kernel
  have f_33 : Cond.fieldLink (yX5_trace).cls 33 "SwanDeeds" "asks" "LSwanDeeds$Asks;" ∈ wsX5_trace := by decide +kernel
  have f_301 : Cond.fieldLink (yX5_trace).cls 301 "SwanDeeds$Asks" "begun" "I" ∈ wsX5_trace := by decide +kernel
  have f_304 : Cond.fieldLink (yX5_trace).cls 304 "SwanDeeds$Asks" "bodies" "[I" ∈ wsX5_trace := by decide +kernel
  have hz := sat_of hz
  unfold f_X5_trace at hz
  refine q_iload_n C 1 rfl dX5_trace_0 rfl ?_
  refine q_iconst C dX5_trace_1 ⟨by decide, by decide⟩ ?_
  refine q_aload_n C 0 rfl dX5_trace_2 rfl ?_
  refine q_getR tO_X5 C (i := 3) i_X5 rfl rfl (by decide) rfl f_33 dX5_trace_3 ?_
  refine q_get tO_X1 C (i := 1) i_X1 rfl rfl (by decide) rfl f_301 dX5_trace_6 ?_
  refine q_iconst C dX5_trace_9 ⟨by decide, by decide⟩ ?_
  refine q_isub C dX5_trace_10 ?_
  refine q_callSz ZC_st C [Vi p1, Vi 0, Vi (w3 ((μ 33 0) - 1))] [] (c_X5_within μ p1 0 (w3 ((μ 33 0) - 1))) gX5_trace_X5_within rfl ⟨rfl, rfl⟩ hdX5_within ⟨by decide, by decide⟩ rfl (Nat.le_of_ble_eq_true rfl) dX5_trace_11 rfl (fun hb1 _ => ?_)
  refine q_if_eq C dX5_trace_14 (tgt := 29) (by decide) (fun c2 => ?_) (fun c2 => ?_)
  · have hz := sat_t hz c2
    refine q_ldc (v := (-1000000)) (x := (-1000000)) C (by decide +kernel) dX5_trace_29 ⟨by decide +kernel, by decide, by decide⟩ ?_
    exact q_iret C dX5_trace_31 (congrArg (fun q => (q, μ)) (sat_eq hz))
  · have hz := sat_f hz c2
    refine q_aload_n C 0 rfl dX5_trace_17 rfl ?_
    refine q_getR tO_X5 C (i := 3) i_X5 rfl rfl (by decide) rfl f_33 dX5_trace_18 ?_
    refine q_getR tO_X1 C (i := 0) i_X1 rfl rfl (by decide) rfl f_304 dX5_trace_21 ?_
    refine q_iload_n C 1 rfl dX5_trace_24 rfl ?_
    obtain ⟨c3, hz⟩ := sat_chk hz
    refine q_iald (tA_bodies) C 0 rfl c3 dX5_trace_25 ?_
    refine q_goto C dX5_trace_26 (tgt := 31) (by decide) ?_
    exact q_iret C dX5_trace_31 (congrArg (fun q => (q, μ)) (sat_eq hz))
theorem hdX3_countPresent : yX3_countPresent.cls = RX3 ∧ yX3_countPresent.cls ≠ "java/lang/invoke/MethodHandle" ∧ yX3_countPresent.cls ≠ "java/lang/invoke/VarHandle" ∧ (parseMethodDescriptor yX3_countPresent.desc).map (fun d => d.parameters.length) = some 0 := by decide +kernel
set_option maxHeartbeats 4000000 in
set_option maxRecDepth 100000 in
theorem c_X3_countPresent {l : Launch} {D : va_G} {ad : Nat → Nat} {cI cII cR : ClassId} (μ : Mm) {v : Int} (hz : f_X3_countPresent μ = some v) : CT l D vwCl (tyC cI cII cR) 194 ad (EC ad cI cII cR) (ZC ad) yX3_countPresent wsX3_countPresent ({ frames := 1, cells := 0, slots := 0, locals := 21 } : Room) (some .int) [Vr 175] μ (v, μ) := by
  refine CT_of [(0, Vr 175)] ZC_st (by decide) rfl rfl (Nat.le_of_ble_eq_true rfl) rfl (fun G C => ?_)
  have hz := sat_of hz
  unfold f_X3_countPresent at hz
  refine q_iconst C dX3_countPresent_0 ⟨by decide, by decide⟩ ?_
  refine q_istore_n C [(1, Vi 0), (0, Vr 175)] rfl (by decide) dX3_countPresent_1 rfl ?_
  refine q_iconst C dX3_countPresent_2 ⟨by decide, by decide⟩ ?_
  refine q_istore_n C [(2, Vi 0), (1, Vi 0), (0, Vr 175)] rfl (by decide) dX3_countPresent_3 rfl ?_
  refine q_sub C [2, 1, 0] [(0, Vr 175), (1, Vi 0), (2, Vi 0)] rfl ?_
  refine loop_go (fun x1 => G μ 4 [(0, Vr 175), (1, Vi (x1.1)), (2, Vi (x1.2))] []) (sat_bind2 hz) (fun h => h) (fun x1 hz => ?_)
  refine q_iload_n C 2 rfl dX3_countPresent_4 rfl ?_
  refine q_bipush C dX3_countPresent_5 ⟨rfl, by decide, by decide⟩ ?_
  refine q_icmp_ge C dX3_countPresent_7 (tgt := 27) (by decide) (fun c2 => ?_) (fun c2 => ?_)
  · have hz := sat_t hz c2
    have hz := sat_some hz
    refine q_sub C [1] [(1, Vi (x1.1))] rfl ?_
    refine q_iload_n C 0 rfl dX3_countPresent_27 rfl ?_
    exact q_iret C dX3_countPresent_28 (congrArg (fun q => (q, μ)) (sat_eq hz))
  · have hz := sat_f hz c2
    refine q_aload_n C 0 rfl dX3_countPresent_10 rfl ?_
    refine q_iload_n C 2 rfl dX3_countPresent_11 rfl ?_
    obtain ⟨z4, hz4, hz⟩ := sat_bind hz
    refine q_callVz ZC_st C [Vi (x1.2)] [] (c_X3_isMissing μ x1.2 hz4) tO_X3 rfl gX3_countPresent_X3_isMissing rfl ⟨rfl, rfl⟩ hdX3_isMissing ⟨by decide, by decide⟩ rfl (Nat.le_of_ble_eq_true rfl) dX3_countPresent_12 rfl (fun hb3 _ => ?_)
    refine q_if_ne C dX3_countPresent_15 (tgt := 21) (by decide) (fun c5 => ?_) (fun c5 => ?_)
    · have hz := sat_f hz c5
      refine q_iinc C 2 rfl [(2, Vi (w3 (x1.2 + 1))), (0, Vr 175), (1, Vi (x1.1))] rfl (by decide) dX3_countPresent_21 ?_
      refine q_goto C dX3_countPresent_24 (tgt := 4) (by decide) ?_
      refine q_sub C [1, 2, 0] [(0, Vr 175), (1, Vi (x1.1)), (2, Vi (w3 (x1.2 + 1)))] rfl ?_
      have hz := sat_some hz
      exact hz
    · have hz := sat_t hz c5
      refine q_iinc C 1 rfl [(1, Vi (w3 (x1.1 + 1))), (0, Vr 175), (2, Vi (x1.2))] rfl (by decide) dX3_countPresent_18 ?_
      refine q_iinc C 2 rfl [(2, Vi (w3 (x1.2 + 1))), (1, Vi (w3 (x1.1 + 1))), (0, Vr 175)] rfl (by decide) dX3_countPresent_21 ?_
      refine q_goto C dX3_countPresent_24 (tgt := 4) (by decide) ?_
      refine q_sub C [2, 1, 0] [(0, Vr 175), (1, Vi (w3 (x1.1 + 1))), (2, Vi (w3 (x1.2 + 1)))] rfl ?_
      have hz := sat_some hz
      exact hz
theorem hdX2_crumbSum : yX2_crumbSum.cls = RX2 ∧ yX2_crumbSum.cls ≠ "java/lang/invoke/MethodHandle" ∧ yX2_crumbSum.cls ≠ "java/lang/invoke/VarHandle" ∧ (parseMethodDescriptor yX2_crumbSum.desc).map (fun d => d.parameters.length) = some 0 := by decide +kernel
set_option maxHeartbeats 4000000 in
set_option maxRecDepth 100000 in
theorem c_X2_crumbSum {l : Launch} {D : va_G} {ad : Nat → Nat} {cI cII cR : ClassId} (μ : Mm) (r : Nat) (hr : r < 29) {v : Int} (hz : f_X2_crumbSum μ r = some v) : CT l D vwCl (tyC cI cII cR) 194 ad (EC ad cI cII cR) (ZC ad) yX2_crumbSum wsX2_crumbSum ({ frames := 0, cells := 0, slots := 0, locals := 0 } : Room) (some .int) [Vr (6 * r)] μ (v, μ) := by
  refine CT_of [(0, Vr (6 * r))] ZC_st (by decide) rfl rfl (Nat.le_of_ble_eq_true rfl) rfl (fun G C => ?_)
  have i_X2 : ∀ w ∈ u_ws RX2 TX2 11, w ∈ wsX2_crumbSum := by decide +kernel
  have f_9 : Cond.fieldLink (yX2_crumbSum).cls 9 "SwanDeeds$River" "crumbs" "[I" ∈ wsX2_crumbSum := by decide +kernel
  have f_27 : Cond.fieldLink (yX2_crumbSum).cls 27 "SwanDeeds$River" "lawnCount" "I" ∈ wsX2_crumbSum := by decide +kernel
  have hz := sat_of hz
  unfold f_X2_crumbSum at hz
  refine q_iconst C dX2_crumbSum_0 ⟨by decide, by decide⟩ ?_
  refine q_istore_n C [(1, Vi 0), (0, Vr (6 * r))] rfl (by decide) dX2_crumbSum_1 rfl ?_
  refine q_iconst C dX2_crumbSum_2 ⟨by decide, by decide⟩ ?_
  refine q_istore_n C [(2, Vi 0), (1, Vi 0), (0, Vr (6 * r))] rfl (by decide) dX2_crumbSum_3 rfl ?_
  refine q_sub C [2, 1, 0] [(0, Vr (6 * r)), (1, Vi 0), (2, Vi 0)] rfl ?_
  refine loop_go (fun x1 => G μ 4 [(0, Vr (6 * r)), (1, Vi (x1.1)), (2, Vi (x1.2))] []) (sat_bind2 hz) (fun h => h) (fun x1 hz => ?_)
  refine q_iload_n C 2 rfl dX2_crumbSum_4 rfl ?_
  refine q_aload_n C 0 rfl dX2_crumbSum_5 rfl ?_
  refine q_get (tO_X2 hr) C (i := 0) i_X2 rfl rfl (by decide) rfl f_27 dX2_crumbSum_6 ?_
  refine q_icmp_ge C dX2_crumbSum_9 (tgt := 27) (by decide) (fun c2 => ?_) (fun c2 => ?_)
  · have hz := sat_t hz c2
    have hz := sat_some hz
    refine q_sub C [1] [(1, Vi (x1.1))] rfl ?_
    refine q_iload_n C 0 rfl dX2_crumbSum_27 rfl ?_
    exact q_iret C dX2_crumbSum_28 (congrArg (fun q => (q, μ)) (sat_eq hz))
  · have hz := sat_f hz c2
    refine q_iload_n C 1 rfl dX2_crumbSum_12 rfl ?_
    refine q_aload_n C 0 rfl dX2_crumbSum_13 rfl ?_
    refine q_getR (tO_X2 hr) C (i := 4) i_X2 rfl rfl (by decide) rfl f_9 dX2_crumbSum_14 ?_
    refine q_iload_n C 2 rfl dX2_crumbSum_17 rfl ?_
    obtain ⟨c3, hz⟩ := sat_chk hz
    refine q_iald (tA_crumbs hr) C 0 rfl c3 dX2_crumbSum_18 ?_
    refine q_iadd C dX2_crumbSum_19 ?_
    obtain ⟨a4, ha4, hz⟩ := sat_bnd hz
    refine q_nmi ha4 ?_
    refine q_istore_n C [(1, Vi a4), (0, Vr (6 * r)), (2, Vi (x1.2))] rfl (by decide) dX2_crumbSum_20 rfl ?_
    refine q_iinc C 2 rfl [(2, Vi (w3 (x1.2 + 1))), (1, Vi a4), (0, Vr (6 * r))] rfl (by decide) dX2_crumbSum_21 ?_
    refine q_goto C dX2_crumbSum_24 (tgt := 4) (by decide) ?_
    refine q_sub C [2, 1, 0] [(0, Vr (6 * r)), (1, Vi a4), (2, Vi (w3 (x1.2 + 1)))] rfl ?_
    have hz := sat_some hz
    exact hz
theorem hdX5_count : yX5_count.cls = RX5 ∧ yX5_count.cls ≠ "java/lang/invoke/MethodHandle" ∧ yX5_count.cls ≠ "java/lang/invoke/VarHandle" ∧ (parseMethodDescriptor yX5_count.desc).map (fun d => d.parameters.length) = some 1 := by decide +kernel
set_option maxHeartbeats 4000000 in
set_option maxRecDepth 100000 in
theorem c_X5_count {l : Launch} {D : va_G} {ad : Nat → Nat} {cI cII cR : ClassId} (μ : Mm) (p1 : Int) {v : Int} (hz : f_X5_count μ p1 = some v) : CT l D vwCl (tyC cI cII cR) 194 ad (EC ad cI cII cR) (ZC ad) yX5_count wsX5_count ({ frames := 2, cells := 0, slots := 0, locals := 43 } : Room) (some .int) [Vr 174, Vi p1] μ (v, μ) := by
  refine CT_of [(0, Vr 174), (1, Vi p1)] ZC_st (by decide) rfl rfl (Nat.le_of_ble_eq_true rfl) rfl (fun G C => ?_)
  have i_X0 : ∀ w ∈ u_ws RX0 TX0 3, w ∈ wsX5_count := by decide +kernel
  have i_X2 : ∀ w ∈ u_ws RX2 TX2 11, w ∈ wsX5_count := by decide +kernel
  have i_X4 : ∀ w ∈ u_ws RX4 TX4 8, w ∈ wsX5_count := by decide +kernel
  have i_X5 : ∀ w ∈ u_ws RX5 TX5 9, w ∈ wsX5_count := by decide +kernel
  have f_10 : Cond.fieldLink (yX5_count).cls 10 "SwanDeeds" "rows" "LSwanDeeds$Rows;" ∈ wsX5_count := by decide +kernel
  have f_19 : Cond.fieldLink (yX5_count).cls 19 "SwanDeeds" "tape" "LSwanDeeds$Tape;" ∈ wsX5_count := by decide +kernel
  have f_26 : Cond.fieldLink (yX5_count).cls 26 "SwanDeeds" "acts" "LSwanDeeds$Acts;" ∈ wsX5_count := by decide +kernel
  have f_40 : Cond.fieldLink (yX5_count).cls 40 "SwanDeeds" "now" "LSwanDeeds$River;" ∈ wsX5_count := by decide +kernel
  have f_98 : Cond.fieldLink (yX5_count).cls 98 "SwanDeeds$Tape" "length" "I" ∈ wsX5_count := by decide +kernel
  have f_117 : Cond.fieldLink (yX5_count).cls 117 "SwanDeeds$River" "swanCount" "I" ∈ wsX5_count := by decide +kernel
  have f_126 : Cond.fieldLink (yX5_count).cls 126 "SwanDeeds$Acts" "size" "I" ∈ wsX5_count := by decide +kernel
  have f_134 : Cond.fieldLink (yX5_count).cls 134 "SwanDeeds$River" "day" "I" ∈ wsX5_count := by decide +kernel
  have f_161 : Cond.fieldLink (yX5_count).cls 161 "SwanDeeds$River" "weirBits" "I" ∈ wsX5_count := by decide +kernel
  have f_207 : Cond.fieldLink (yX5_count).cls 207 "SwanDeeds$River" "lawnCount" "I" ∈ wsX5_count := by decide +kernel
  have hz := sat_of hz
  unfold f_X5_count at hz
  refine q_iload_n C 1 rfl dX5_count_0 rfl ?_
  refine sat_ite hz (fun c1 hz => ?_) (fun c1 hz => ?_)
  · have c1 : p1 = 0 := c1
    refine q_tab_in C dX5_count_1 (by omega) (by omega) (off := 47) (by rw [c1]; rfl) (tgt := 48) (by decide) ?_
    refine q_aload_n C 0 rfl dX5_count_48 rfl ?_
    refine q_getR tO_X5 C (i := 0) i_X5 rfl rfl (by decide) rfl f_10 dX5_count_49 ?_
    obtain ⟨z3, hz3, hz⟩ := sat_bind hz
    refine q_callVi ZC_st C [] [] (c_X3_countPresent μ hz3) tO_X3 rfl gX5_count_X3_countPresent rfl ⟨rfl, rfl⟩ hdX3_countPresent ⟨by decide, by decide⟩ rfl (Nat.le_of_ble_eq_true rfl) dX5_count_52 rfl (fun _ _ => ?_)
    exact q_iret C dX5_count_55 (congrArg (fun q => (q, μ)) (sat_eq hz))
  · have c1 : ¬ p1 = 0 := c1
    refine sat_ite hz (fun c4 hz => ?_) (fun c4 hz => ?_)
    · have c4 : p1 = 1 := c4
      refine q_tab_in C dX5_count_1 (by omega) (by omega) (off := 55) (by rw [c4]; rfl) (tgt := 56) (by decide) ?_
      refine q_aload_n C 0 rfl dX5_count_56 rfl ?_
      refine q_getR tO_X5 C (i := 4) i_X5 rfl rfl (by decide) rfl f_40 dX5_count_57 ?_
      refine q_get (tO_X2 (by decide)) C (i := 0) i_X2 rfl rfl (by decide) rfl f_207 dX5_count_60 ?_
      exact q_iret C dX5_count_63 (congrArg (fun q => (q, μ)) (sat_eq hz))
    · have c4 : ¬ p1 = 1 := c4
      refine sat_ite hz (fun c5 hz => ?_) (fun c5 hz => ?_)
      · have c5 : p1 = 2 := c5
        refine q_tab_in C dX5_count_1 (by omega) (by omega) (off := 63) (by rw [c5]; rfl) (tgt := 64) (by decide) ?_
        refine q_aload_n C 0 rfl dX5_count_64 rfl ?_
        refine q_getR tO_X5 C (i := 4) i_X5 rfl rfl (by decide) rfl f_40 dX5_count_65 ?_
        refine q_get (tO_X2 (by decide)) C (i := 1) i_X2 rfl rfl (by decide) rfl f_117 dX5_count_68 ?_
        exact q_iret C dX5_count_71 (congrArg (fun q => (q, μ)) (sat_eq hz))
      · have c5 : ¬ p1 = 2 := c5
        refine sat_ite hz (fun c6 hz => ?_) (fun c6 hz => ?_)
        · have c6 : p1 = 3 := c6
          refine q_tab_in C dX5_count_1 (by omega) (by omega) (off := 71) (by rw [c6]; rfl) (tgt := 72) (by decide) ?_
          refine q_aload_n C 0 rfl dX5_count_72 rfl ?_
          refine q_getR tO_X5 C (i := 4) i_X5 rfl rfl (by decide) rfl f_40 dX5_count_73 ?_
          refine q_get (tO_X2 (by decide)) C (i := 2) i_X2 rfl rfl (by decide) rfl f_134 dX5_count_76 ?_
          exact q_iret C dX5_count_79 (congrArg (fun q => (q, μ)) (sat_eq hz))
        · have c6 : ¬ p1 = 3 := c6
          refine sat_ite hz (fun c7 hz => ?_) (fun c7 hz => ?_)
          · have c7 : p1 = 4 := c7
            refine q_tab_in C dX5_count_1 (by omega) (by omega) (off := 79) (by rw [c7]; rfl) (tgt := 80) (by decide) ?_
            refine q_aload_n C 0 rfl dX5_count_80 rfl ?_
            refine q_getR tO_X5 C (i := 4) i_X5 rfl rfl (by decide) rfl f_40 dX5_count_81 ?_
            obtain ⟨z9, hz9, hz⟩ := sat_bind hz
            refine q_callVi ZC_st C [] [] (c_X2_crumbSum μ 0 (by decide) hz9) (tO_X2 (by decide)) rfl gX5_count_X2_crumbSum rfl ⟨rfl, rfl⟩ hdX2_crumbSum ⟨by decide, by decide⟩ rfl (Nat.le_of_ble_eq_true rfl) dX5_count_84 rfl (fun _ _ => ?_)
            exact q_iret C dX5_count_87 (congrArg (fun q => (q, μ)) (sat_eq hz))
          · have c7 : ¬ p1 = 4 := c7
            refine sat_ite hz (fun c10 hz => ?_) (fun c10 hz => ?_)
            · have c10 : p1 = 5 := c10
              refine q_tab_in C dX5_count_1 (by omega) (by omega) (off := 87) (by rw [c10]; rfl) (tgt := 88) (by decide) ?_
              refine q_aload_n C 0 rfl dX5_count_88 rfl ?_
              refine q_getR tO_X5 C (i := 4) i_X5 rfl rfl (by decide) rfl f_40 dX5_count_89 ?_
              refine q_get (tO_X2 (by decide)) C (i := 3) i_X2 rfl rfl (by decide) rfl f_161 dX5_count_92 ?_
              exact q_iret C dX5_count_95 (congrArg (fun q => (q, μ)) (sat_eq hz))
            · have c10 : ¬ p1 = 5 := c10
              refine sat_ite hz (fun c11 hz => ?_) (fun c11 hz => ?_)
              · have c11 : p1 = 6 := c11
                refine q_tab_in C dX5_count_1 (by omega) (by omega) (off := 95) (by rw [c11]; rfl) (tgt := 96) (by decide) ?_
                refine q_aload_n C 0 rfl dX5_count_96 rfl ?_
                refine q_getR tO_X5 C (i := 2) i_X5 rfl rfl (by decide) rfl f_26 dX5_count_97 ?_
                refine q_get tO_X0 C (i := 2) i_X0 rfl rfl (by decide) rfl f_126 dX5_count_100 ?_
                exact q_iret C dX5_count_103 (congrArg (fun q => (q, μ)) (sat_eq hz))
              · have c11 : ¬ p1 = 6 := c11
                refine sat_ite hz (fun c12 hz => ?_) (fun c12 hz => ?_)
                · have c12 : p1 = 7 := c12
                  refine q_tab_in C dX5_count_1 (by omega) (by omega) (off := 103) (by rw [c12]; rfl) (tgt := 104) (by decide) ?_
                  refine q_aload_n C 0 rfl dX5_count_104 rfl ?_
                  refine q_getR tO_X5 C (i := 1) i_X5 rfl rfl (by decide) rfl f_19 dX5_count_105 ?_
                  refine q_get tO_X4 C (i := 1) i_X4 rfl rfl (by decide) rfl f_98 dX5_count_108 ?_
                  exact q_iret C dX5_count_111 (congrArg (fun q => (q, μ)) (sat_eq hz))
                · have c12 : ¬ p1 = 7 := c12
                  refine q_tab_out C dX5_count_1 (by omega) (tgt := 112) (by decide) ?_
                  refine q_ldc (v := (-1000001)) (x := (-1000001)) C (by decide +kernel) dX5_count_112 ⟨by decide +kernel, by decide, by decide⟩ ?_
                  exact q_iret C dX5_count_114 (congrArg (fun q => (q, μ)) (sat_eq hz))
theorem hdX5_status : yX5_status.cls = RX5 ∧ yX5_status.cls ≠ "java/lang/invoke/MethodHandle" ∧ yX5_status.cls ≠ "java/lang/invoke/VarHandle" ∧ (parseMethodDescriptor yX5_status.desc).map (fun d => d.parameters.length) = some 0 := by decide +kernel
set_option maxHeartbeats 4000000 in
set_option maxRecDepth 100000 in
theorem c_X5_status {l : Launch} {D : va_G} {ad : Nat → Nat} {cI cII cR : ClassId} (μ : Mm) : CT l D vwCl (tyC cI cII cR) 194 ad (EC ad cI cII cR) (ZC ad) yX5_status wsX5_status ({ frames := 0, cells := 0, slots := 0, locals := 0 } : Room) (some .int) [Vr 174] μ (f_X5_status μ, μ) := by
  refine CT_of [(0, Vr 174)] ZC_st (by decide) rfl rfl (Nat.le_of_ble_eq_true rfl) rfl (fun G C => ?_)
  have i_X5 : ∀ w ∈ u_ws RX5 TX5 9, w ∈ wsX5_status := by decide +kernel
  have f_63 : Cond.fieldLink (yX5_status).cls 63 "SwanDeeds" "status" "I" ∈ wsX5_status := by decide +kernel
  generalize hz : f_X5_status μ = v at C
  unfold f_X5_status at hz
  refine q_aload_n C 0 rfl dX5_status_0 rfl ?_
  refine q_get tO_X5 C (i := 8) i_X5 rfl rfl (by decide) rfl f_63 dX5_status_1 ?_
  exact q_iret C dX5_status_4 (congrArg (fun q => (q, μ)) hz)
