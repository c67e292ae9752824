theorem hdX5_copy : yX5_copy.cls = RX5 ∧ yX5_copy.cls ≠ "java/lang/invoke/MethodHandle" ∧ yX5_copy.cls ≠ "java/lang/invoke/VarHandle" ∧ (parseMethodDescriptor yX5_copy.desc).map (fun d => d.parameters.length) = some 5 := by decide +kernel
set_option maxHeartbeats 4000000 in
set_option maxRecDepth 100000 in
theorem c_X5_copy {l : Launch} {D : va_G} {ad : Nat → Nat} {cI cII cR : ClassId} (μ : Mm) (p1 p2 p3 p4 p5 : Int) {v : Int × Mm} (hz : f_X5_copy μ p1 p2 p3 p4 p5 = some v) : CT l D vwCl (tyC cI cII cR) 194 ad (EC ad cI cII cR) (ZC ad) yX5_copy wsX5_copy ({ frames := 2, cells := 0, slots := 0, locals := 85 } : Room) (some .int) [Vr 174, Vi p1, Vi p2, Vi p3, Vi p4, Vi p5] μ (v.1, v.2) := by
  refine CT_of [(0, Vr 174), (1, Vi p1), (2, Vi p2), (3, Vi p3), (4, Vi p4), (5, Vi p5)] ZC_st (by decide) rfl rfl (Nat.le_of_ble_eq_true rfl) rfl (fun G C => ?_)
  have i_X5 : ∀ w ∈ u_ws RX5 TX5 9, w ∈ wsX5_copy := by decide +kernel
  have f_10 : Cond.fieldLink (yX5_copy).cls 10 "SwanDeeds" "rows" "LSwanDeeds$Rows;" ∈ wsX5_copy := by decide +kernel
  have f_63 : Cond.fieldLink (yX5_copy).cls 63 "SwanDeeds" "status" "I" ∈ wsX5_copy := by decide +kernel
  have hz := sat_of hz
  unfold f_X5_copy at hz
  refine q_iload_n C 1 rfl dX5_copy_0 rfl ?_
  refine q_iconst C dX5_copy_1 ⟨by decide, by decide⟩ ?_
  refine q_bipush C dX5_copy_2 ⟨rfl, by decide, by decide⟩ ?_
  refine q_callSz ZC_st C [Vi p1, Vi 0, Vi 7] [] (c_X5_within μ p1 0 7) gX5_copy_X5_within rfl ⟨rfl, rfl⟩ hdX5_within ⟨by decide, by decide⟩ rfl (Nat.le_of_ble_eq_true rfl) dX5_copy_4 rfl (fun hb1 _ => ?_)
  refine q_if_eq C dX5_copy_7 (tgt := 20) (by decide) (fun c2 => ?_) (fun c2 => ?_)
  · have hz := sat_t hz c2
    refine q_ldc (v := (-1000001)) (x := (-1000001)) C (by decide +kernel) dX5_copy_20 ⟨by decide +kernel, by decide, by decide⟩ ?_
    exact q_iret C dX5_copy_22 (sat_eq hz)
  · have hz := sat_f hz c2
    refine q_iload_n C 3 rfl dX5_copy_10 rfl ?_
    refine q_iconst C dX5_copy_11 ⟨by decide, by decide⟩ ?_
    refine q_bipush C dX5_copy_12 ⟨rfl, by decide, by decide⟩ ?_
    refine q_callSz ZC_st C [Vi p3, Vi 0, Vi 7] [] (c_X5_within μ p3 0 7) gX5_copy_X5_within rfl ⟨rfl, rfl⟩ hdX5_within ⟨by decide, by decide⟩ rfl (Nat.le_of_ble_eq_true rfl) dX5_copy_14 rfl (fun hb3 _ => ?_)
    refine q_if_ne C dX5_copy_17 (tgt := 23) (by decide) (fun c4 => ?_) (fun c4 => ?_)
    · have hz := sat_f hz c4
      refine q_aload_n C 0 rfl dX5_copy_23 rfl ?_
      refine q_getR tO_X5 C (i := 0) i_X5 rfl rfl (by decide) rfl f_10 dX5_copy_24 ?_
      refine q_iload_n C 1 rfl dX5_copy_27 rfl ?_
      obtain ⟨z6, hz6, hz⟩ := sat_bind hz
      refine q_callVz ZC_st C [Vi p1] [] (c_X3_isMissing μ p1 hz6) tO_X3 rfl gX5_copy_X3_isMissing rfl ⟨rfl, rfl⟩ hdX3_isMissing ⟨by decide, by decide⟩ rfl (Nat.le_of_ble_eq_true rfl) dX5_copy_28 rfl (fun hb5 _ => ?_)
      refine q_if_ne C dX5_copy_31 (tgt := 45) (by decide) (fun c7 => ?_) (fun c7 => ?_)
      · have hz := sat_f hz c7
        refine q_aload_n C 0 rfl dX5_copy_45 rfl ?_
        refine q_iconst C dX5_copy_46 ⟨by decide, by decide⟩ ?_
        obtain ⟨z9, hz9, hz⟩ := sat_bind hz
        refine q_callVi ZC_st C [Vi 1] [] (c_X5_found μ 1 hz9) tO_X5 rfl gX5_copy_X5_found rfl ⟨rfl, rfl⟩ hdX5_found ⟨by decide, by decide⟩ rfl (Nat.le_of_ble_eq_true rfl) dX5_copy_47 rfl (fun _ _ => ?_)
        exact q_iret C dX5_copy_50 (sat_eq hz)
      · have hz := sat_t hz c7
        refine q_aload_n C 0 rfl dX5_copy_34 rfl ?_
        refine q_getR tO_X5 C (i := 0) i_X5 rfl rfl (by decide) rfl f_10 dX5_copy_35 ?_
        refine q_iload_n C 3 rfl dX5_copy_38 rfl ?_
        obtain ⟨z11, hz11, hz⟩ := sat_bind hz
        refine q_callVz ZC_st C [Vi p3] [] (c_X3_isMissing μ p3 hz11) tO_X3 rfl gX5_copy_X3_isMissing rfl ⟨rfl, rfl⟩ hdX3_isMissing ⟨by decide, by decide⟩ rfl (Nat.le_of_ble_eq_true rfl) dX5_copy_39 rfl (fun hb10 _ => ?_)
        refine q_if_eq C dX5_copy_42 (tgt := 51) (by decide) (fun c12 => ?_) (fun c12 => ?_)
        · have hz := sat_t hz c12
          refine q_aload_n C 0 rfl dX5_copy_51 rfl ?_
          refine q_getR tO_X5 C (i := 0) i_X5 rfl rfl (by decide) rfl f_10 dX5_copy_52 ?_
          refine q_iload_n C 1 rfl dX5_copy_55 rfl ?_
          obtain ⟨z14, hz14, hz⟩ := sat_bind hz
          refine q_callVi ZC_st C [Vi p1] [] (c_X3_laneOf μ p1 hz14) tO_X3 rfl gX5_copy_X3_laneOf rfl ⟨rfl, rfl⟩ hdX3_laneOf ⟨by decide, by decide⟩ rfl (Nat.le_of_ble_eq_true rfl) dX5_copy_56 rfl (fun _ _ => ?_)
          refine q_aload_n C 0 rfl dX5_copy_59 rfl ?_
          refine q_getR tO_X5 C (i := 0) i_X5 rfl rfl (by decide) rfl f_10 dX5_copy_60 ?_
          refine q_iload_n C 3 rfl dX5_copy_63 rfl ?_
          obtain ⟨z16, hz16, hz⟩ := sat_bind hz
          refine q_callVi ZC_st C [Vi p3] [Vi z14] (c_X3_laneOf μ p3 hz16) tO_X3 rfl gX5_copy_X3_laneOf rfl ⟨rfl, rfl⟩ hdX3_laneOf ⟨by decide, by decide⟩ rfl (Nat.le_of_ble_eq_true rfl) dX5_copy_64 rfl (fun _ _ => ?_)
          refine q_icmp_eq C dX5_copy_67 (tgt := 76) (by decide) (fun c17 => ?_) (fun c17 => ?_)
          · have hz := sat_t hz c17
            refine q_aload_n C 0 rfl dX5_copy_76 rfl ?_
            refine q_getR tO_X5 C (i := 0) i_X5 rfl rfl (by decide) rfl f_10 dX5_copy_77 ?_
            refine q_iload_n C 1 rfl dX5_copy_80 rfl ?_
            refine q_iload_n C 2 rfl dX5_copy_81 rfl ?_
            refine q_iload C 5 rfl dX5_copy_82 ?_
            obtain ⟨z19, hz19, hz⟩ := sat_bind hz
            refine q_callVz ZC_st C [Vi p1, Vi p2, Vi p5] [] (c_X3_holds μ p1 p2 p5 hz19) tO_X3 rfl gX5_copy_X3_holds rfl ⟨rfl, rfl⟩ hdX3_holds ⟨by decide, by decide⟩ rfl (Nat.le_of_ble_eq_true rfl) dX5_copy_84 rfl (fun hb18 _ => ?_)
            refine q_if_eq C dX5_copy_87 (tgt := 105) (by decide) (fun c20 => ?_) (fun c20 => ?_)
            · have hz := sat_t hz c20
              refine q_aload_n C 0 rfl dX5_copy_105 rfl ?_
              refine q_iconst C dX5_copy_106 ⟨by decide, by decide⟩ ?_
              obtain ⟨z22, hz22, hz⟩ := sat_bind hz
              refine q_callVi ZC_st C [Vi 2] [] (c_X5_found μ 2 hz22) tO_X5 rfl gX5_copy_X5_found rfl ⟨rfl, rfl⟩ hdX5_found ⟨by decide, by decide⟩ rfl (Nat.le_of_ble_eq_true rfl) dX5_copy_107 rfl (fun _ _ => ?_)
              exact q_iret C dX5_copy_110 (sat_eq hz)
            · have hz := sat_f hz c20
              refine q_aload_n C 0 rfl dX5_copy_90 rfl ?_
              refine q_getR tO_X5 C (i := 0) i_X5 rfl rfl (by decide) rfl f_10 dX5_copy_91 ?_
              refine q_iload_n C 3 rfl dX5_copy_94 rfl ?_
              refine q_iload C 4 rfl dX5_copy_95 ?_
              refine q_iload C 5 rfl dX5_copy_97 ?_
              obtain ⟨z24, hz24, hz⟩ := sat_bind hz
              refine q_callVz ZC_st C [Vi p3, Vi p4, Vi p5] [] (c_X3_holds μ p3 p4 p5 hz24) tO_X3 rfl gX5_copy_X3_holds rfl ⟨rfl, rfl⟩ hdX3_holds ⟨by decide, by decide⟩ rfl (Nat.le_of_ble_eq_true rfl) dX5_copy_99 rfl (fun hb23 _ => ?_)
              refine q_if_ne C dX5_copy_102 (tgt := 111) (by decide) (fun c25 => ?_) (fun c25 => ?_)
              · have hz := sat_f hz c25
                refine q_aload_n C 0 rfl dX5_copy_111 rfl ?_
                refine q_iconst C dX5_copy_112 ⟨by decide, by decide⟩ ?_
                obtain ⟨m26, hm26, hz⟩ := sat_bnd hz
                refine q_put tO_X5 C hm26 (i := 8) i_X5 tyX5_ok nmX5 rfl rfl (by decide) rfl f_63 dX5_copy_113 ?_
                refine q_aload_n C 0 rfl dX5_copy_116 rfl ?_
                refine q_getR tO_X5 C (i := 0) i_X5 rfl rfl (by decide) rfl f_10 dX5_copy_117 ?_
                refine q_iload_n C 1 rfl dX5_copy_120 rfl ?_
                refine q_iload_n C 2 rfl dX5_copy_121 rfl ?_
                refine q_iload_n C 3 rfl dX5_copy_122 rfl ?_
                refine q_iload C 4 rfl dX5_copy_123 ?_
                refine q_iload C 5 rfl dX5_copy_125 ?_
                obtain ⟨z28, hz28, hz⟩ := sat_bind hz
                refine q_callVv ZC_st C [Vi p1, Vi p2, Vi p3, Vi p4, Vi p5] [] (c_X3_carry m26 p1 p2 p3 p4 p5 hz28) tO_X3 rfl gX5_copy_X3_carry rfl ⟨rfl, rfl⟩ hdX3_carry ⟨by decide, by decide⟩ rfl (Nat.le_of_ble_eq_true rfl) dX5_copy_127 rfl (fun _ => ?_)
                refine q_iload C 5 rfl dX5_copy_130 ?_
                exact q_iret C dX5_copy_132 (sat_eq hz)
              · have hz := sat_t hz c25
                refine q_aload_n C 0 rfl dX5_copy_105 rfl ?_
                refine q_iconst C dX5_copy_106 ⟨by decide, by decide⟩ ?_
                obtain ⟨z30, hz30, hz⟩ := sat_bind hz
                refine q_callVi ZC_st C [Vi 2] [] (c_X5_found μ 2 hz30) tO_X5 rfl gX5_copy_X5_found rfl ⟨rfl, rfl⟩ hdX5_found ⟨by decide, by decide⟩ rfl (Nat.le_of_ble_eq_true rfl) dX5_copy_107 rfl (fun _ _ => ?_)
                exact q_iret C dX5_copy_110 (sat_eq hz)
          · have hz := sat_f hz c17
            refine q_aload_n C 0 rfl dX5_copy_70 rfl ?_
            refine q_iconst C dX5_copy_71 ⟨by decide, by decide⟩ ?_
            obtain ⟨z32, hz32, hz⟩ := sat_bind hz
            refine q_callVi ZC_st C [Vi 5] [] (c_X5_found μ 5 hz32) tO_X5 rfl gX5_copy_X5_found rfl ⟨rfl, rfl⟩ hdX5_found ⟨by decide, by decide⟩ rfl (Nat.le_of_ble_eq_true rfl) dX5_copy_72 rfl (fun _ _ => ?_)
            exact q_iret C dX5_copy_75 (sat_eq hz)
        · have hz := sat_f hz c12
          refine q_aload_n C 0 rfl dX5_copy_45 rfl ?_
          refine q_iconst C dX5_copy_46 ⟨by decide, by decide⟩ ?_
          obtain ⟨z34, hz34, hz⟩ := sat_bind hz
          refine q_callVi ZC_st C [Vi 1] [] (c_X5_found μ 1 hz34) tO_X5 rfl gX5_copy_X5_found rfl ⟨rfl, rfl⟩ hdX5_found ⟨by decide, by decide⟩ rfl (Nat.le_of_ble_eq_true rfl) dX5_copy_47 rfl (fun _ _ => ?_)
          exact q_iret C dX5_copy_50 (sat_eq hz)
    · have hz := sat_t hz c4
      refine q_ldc (v := (-1000001)) (x := (-1000001)) C (by decide +kernel) dX5_copy_20 ⟨by decide +kernel, by decide, by decide⟩ ?_
      exact q_iret C dX5_copy_22 (sat_eq hz)
