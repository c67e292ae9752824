theorem hdJ6_compare_7cf53 : yJ6_compare_7cf53.cls ≠ "java/lang/invoke/MethodHandle" ∧ yJ6_compare_7cf53.cls ≠ "java/lang/invoke/VarHandle" ∧ (parseMethodDescriptor yJ6_compare_7cf53.desc).map (fun d => d.parameters.length) = some 2 := by decide +kernel
set_option maxHeartbeats 4000000 in
set_option maxRecDepth 100000 in
theorem c_J6_compare_7cf53 {l : Launch} {D : va_G} {ad : Nat → Nat} {cI cII cR : ClassId} (μ : Mm) (p0 p1 : Int) : CT l D vwCl (tyC cI cII cR) 194 ad (EC ad cI cII cR) (ZC ad) yJ6_compare_7cf53 wsJ6_compare_7cf53 ({ frames := 0, cells := 0, slots := 0, locals := 0 } : Room) (some .int) [Vi p0, Vi p1] μ (f_J6_compare_7cf53 μ p0 p1, μ) := by
  refine CT_of [(0, Vi p0), (1, Vi p1)] ZC_st (by decide) rfl rfl (Nat.le_of_ble_eq_true rfl) rfl (fun G C => ?_)
  generalize hz : f_J6_compare_7cf53 μ p0 p1 = v at C
  unfold f_J6_compare_7cf53 at hz
  refine q_iload_n C 0 rfl dJ6_compare_7cf53_0 rfl ?_
  refine q_iload_n C 1 rfl dJ6_compare_7cf53_1 rfl ?_
  refine q_icmp_ge C dJ6_compare_7cf53_2 (tgt := 9) (by decide) (fun c1 => ?_) (fun c1 => ?_)
  · have hz := eq_t hz c1
    refine q_iload_n C 0 rfl dJ6_compare_7cf53_9 rfl ?_
    refine q_iload_n C 1 rfl dJ6_compare_7cf53_10 rfl ?_
    refine q_icmp_ne C dJ6_compare_7cf53_11 (tgt := 18) (by decide) (fun c2 => ?_) (fun c2 => ?_)
    · have hz := eq_f hz c2
      refine q_iconst C dJ6_compare_7cf53_18 ⟨by decide, by decide⟩ ?_
      exact q_iret C dJ6_compare_7cf53_19 (congrArg (fun q => (q, μ)) hz)
    · have hz := eq_t hz c2
      refine q_iconst C dJ6_compare_7cf53_14 ⟨by decide, by decide⟩ ?_
      refine q_goto C dJ6_compare_7cf53_15 (tgt := 19) (by decide) ?_
      exact q_iret C dJ6_compare_7cf53_19 (congrArg (fun q => (q, μ)) hz)
  · have hz := eq_f hz c1
    refine q_iconst C dJ6_compare_7cf53_5 ⟨by decide, by decide⟩ ?_
    refine q_goto C dJ6_compare_7cf53_6 (tgt := 19) (by decide) ?_
    exact q_iret C dJ6_compare_7cf53_19 (congrArg (fun q => (q, μ)) hz)
theorem hdX2_towardsBread : yX2_towardsBread.cls = RX2 ∧ yX2_towardsBread.cls ≠ "java/lang/invoke/MethodHandle" ∧ yX2_towardsBread.cls ≠ "java/lang/invoke/VarHandle" ∧ (parseMethodDescriptor yX2_towardsBread.desc).map (fun d => d.parameters.length) = some 3 := by decide +kernel
set_option maxHeartbeats 4000000 in
set_option maxRecDepth 100000 in
theorem c_X2_towardsBread {l : Launch} {D : va_G} {ad : Nat → Nat} {cI cII cR : ClassId} (μ : Mm) (r : Nat) (hr : r < 29) (p1 p2 p3 : Int) {v : Int} (hz : f_X2_towardsBread μ r p1 p2 p3 = some v) : CT l D vwCl (tyC cI cII cR) 194 ad (EC ad cI cII cR) (ZC ad) yX2_towardsBread wsX2_towardsBread ({ frames := 1, cells := 0, slots := 0, locals := 24 } : Room) (some .int) [Vr (6 * r), Vi p1, Vi p2, Vi p3] μ (v, μ) := by
  refine CT_of [(0, Vr (6 * r)), (1, Vi p1), (2, Vi p2), (3, Vi p3)] ZC_st (by decide) rfl rfl (Nat.le_of_ble_eq_true rfl) rfl (fun G C => ?_)
  have hz := sat_of hz
  unfold f_X2_towardsBread at hz
  refine q_iload_n C 1 rfl dX2_towardsBread_0 rfl ?_
  refine q_istore C [(4, Vi p1), (0, Vr (6 * r)), (1, Vi p1), (2, Vi p2), (3, Vi p3)] rfl (by decide) dX2_towardsBread_1 ?_
  refine q_aload_n C 1 rfl dX2_towardsBread_3 rfl ?_
  refine q_iload_n C 2 rfl dX2_towardsBread_4 rfl ?_
  refine q_iload_n C 4 rfl dX2_towardsBread_5 rfl ?_
  obtain ⟨z2, hz2, hz⟩ := sat_bind hz
  refine q_callVi ZC_st C [Vi p1, Vi p3] [] (c_X2_crumbsSeen μ r hr p1 p3 hz2) (tO_X2 hr) rfl gX2_towardsBread_X2_crumbsSeen rfl ⟨rfl, rfl⟩ hdX2_crumbsSeen ⟨by decide, by decide⟩ rfl (Nat.le_of_ble_eq_true rfl) dX2_towardsBread_6 rfl (fun _ _ => ?_)
  refine q_istore C [(5, Vi z2), (4, Vi p1), (0, Vr (6 * r)), (1, Vi p1), (2, Vi p2), (3, Vi p3)] rfl (by decide) dX2_towardsBread_9 ?_
  refine q_iload_n C 3 rfl dX2_towardsBread_11 rfl ?_
  refine q_istore C [(6, Vi p1), (5, Vi z2), (4, Vi p1), (0, Vr (6 * r)), (1, Vi p1), (2, Vi p2), (3, Vi p3)] rfl (by decide) dX2_towardsBread_12 ?_
  refine q_iload_n C 4 rfl dX2_towardsBread_14 rfl ?_
  refine q_istore C [(7, Vi p1), (6, Vi p1), (5, Vi z2), (4, Vi p1), (0, Vr (6 * r)), (1, Vi p1), (2, Vi p2), (3, Vi p3)] rfl (by decide) dX2_towardsBread_15 ?_
  refine q_iconst C dX2_towardsBread_17 ⟨by decide, by decide⟩ ?_
  refine q_istore C [(8, Vi 1), (7, Vi p1), (6, Vi p1), (5, Vi z2), (4, Vi p1), (0, Vr (6 * r)), (1, Vi p1), (2, Vi p2), (3, Vi p3)] rfl (by decide) dX2_towardsBread_18 ?_
  refine q_sub C [5, 6, 7, 8, 4, 3, 2, 1, 0] [(0, Vr (6 * r)), (1, Vi p1), (2, Vi p2), (3, Vi p3), (4, Vi p1), (5, Vi z2), (6, Vi p1), (7, Vi p1), (8, Vi 1)] rfl ?_
  refine loop_go (fun x3 => G μ 20 [(0, Vr (6 * r)), (1, Vi p1), (2, Vi p2), (3, Vi p3), (4, Vi (x3.1)), (5, Vi (x3.2.1)), (6, Vi (x3.2.2.1)), (7, Vi (x3.2.2.2.1)), (8, Vi (x3.2.2.2.2))] []) (sat_bind2 hz) (fun h => h) (fun x3 hz => ?_)
  refine q_iload C 8 rfl dX2_towardsBread_20 ?_
  refine q_iload_n C 2 rfl dX2_towardsBread_22 rfl ?_
  refine q_icmp_gt C dX2_towardsBread_23 (tgt := 100) (by decide) (fun c4 => ?_) (fun c4 => ?_)
  · have hz := sat_t hz c4
    have hz := sat_some hz
    refine q_sub C [1, 4] [(1, Vi p1), (4, Vi (x3.1))] rfl ?_
    refine q_iload_n C 0 rfl dX2_towardsBread_100 rfl ?_
    refine q_iload C 1 rfl dX2_towardsBread_101 ?_
    refine q_iload_n C 0 rfl dX2_towardsBread_103 rfl ?_
    refine q_callSi ZC_st C [Vi (x3.1), Vi p1] [Vi p1] (c_J6_compare_7cf53 μ x3.1 p1) gX2_towardsBread_J6_compare_7cf53 rfl ⟨rfl, rfl⟩ hdJ6_compare_7cf53 ⟨by decide, by decide⟩ rfl (Nat.le_of_ble_eq_true rfl) dX2_towardsBread_104 rfl (fun _ _ => ?_)
    refine q_iadd C dX2_towardsBread_107 ?_
    exact q_iret C dX2_towardsBread_108 (congrArg (fun q => (q, μ)) (sat_eq hz))
  · have hz := sat_f hz c4
    refine q_aload_n C 0 rfl dX2_towardsBread_26 rfl ?_
    refine q_iload C 6 rfl dX2_towardsBread_27 ?_
    refine q_iconst C dX2_towardsBread_29 ⟨by decide, by decide⟩ ?_
    refine q_callVi ZC_st C [Vi (x3.2.2.1), Vi (-1)] [] (c_X2_beside μ r hr x3.2.2.1 (-1)) (tO_X2 hr) rfl gX2_towardsBread_X2_beside rfl ⟨rfl, rfl⟩ hdX2_beside ⟨by decide, by decide⟩ rfl (Nat.le_of_ble_eq_true rfl) dX2_towardsBread_30 rfl (fun _ _ => ?_)
    obtain ⟨a7, ha7, hz⟩ := sat_bnd hz
    refine q_nmi ha7 ?_
    refine q_istore C [(6, Vi a7), (0, Vr (6 * r)), (1, Vi p1), (2, Vi p2), (3, Vi p3), (4, Vi (x3.1)), (5, Vi (x3.2.1)), (7, Vi (x3.2.2.2.1)), (8, Vi (x3.2.2.2.2))] rfl (by decide) dX2_towardsBread_33 ?_
    refine q_aload_n C 1 rfl dX2_towardsBread_35 rfl ?_
    refine q_iload C 0 rfl dX2_towardsBread_36 ?_
    refine q_iload_n C 4 rfl dX2_towardsBread_38 rfl ?_
    obtain ⟨z9, hz9, hz⟩ := sat_bind hz
    refine q_callVi ZC_st C [Vi a7, Vi p3] [] (c_X2_crumbsSeen μ r hr a7 p3 hz9) (tO_X2 hr) rfl gX2_towardsBread_X2_crumbsSeen rfl ⟨rfl, rfl⟩ hdX2_crumbsSeen ⟨by decide, by decide⟩ rfl (Nat.le_of_ble_eq_true rfl) dX2_towardsBread_39 rfl (fun _ _ => ?_)
    refine q_iload C 6 rfl dX2_towardsBread_42 ?_
    obtain ⟨v10, hv10, hz⟩ := sat_bind hz
    have Jv10 : G μ 60 [(0, Vr (6 * r)), (1, Vi p1), (2, Vi p2), (3, Vi p3), (4, Vi (v10.1)), (5, Vi (v10.2)), (6, Vi a7), (7, Vi (x3.2.2.2.1)), (8, Vi (x3.2.2.2.2))] [] := by
      refine q_aload_n C 0 rfl dX2_towardsBread_60 rfl ?_
      refine q_iload C 7 rfl dX2_towardsBread_61 ?_
      refine q_iconst C dX2_towardsBread_63 ⟨by decide, by decide⟩ ?_
      refine q_callVi ZC_st C [Vi (x3.2.2.2.1), Vi 1] [] (c_X2_beside μ r hr x3.2.2.2.1 1) (tO_X2 hr) rfl gX2_towardsBread_X2_beside rfl ⟨rfl, rfl⟩ hdX2_beside ⟨by decide, by decide⟩ rfl (Nat.le_of_ble_eq_true rfl) dX2_towardsBread_64 rfl (fun _ _ => ?_)
      obtain ⟨a12, ha12, hz⟩ := sat_bnd hz
      refine q_nmi ha12 ?_
      refine q_istore C [(7, Vi a12), (0, Vr (6 * r)), (1, Vi p1), (2, Vi p2), (3, Vi p3), (4, Vi (v10.1)), (5, Vi (v10.2)), (6, Vi a7), (8, Vi (x3.2.2.2.2))] rfl (by decide) dX2_towardsBread_67 ?_
      refine q_aload_n C 1 rfl dX2_towardsBread_69 rfl ?_
      refine q_iload C 0 rfl dX2_towardsBread_70 ?_
      refine q_iload_n C 4 rfl dX2_towardsBread_72 rfl ?_
      obtain ⟨z14, hz14, hz⟩ := sat_bind hz
      refine q_callVi ZC_st C [Vi a12, Vi p3] [] (c_X2_crumbsSeen μ r hr a12 p3 hz14) (tO_X2 hr) rfl gX2_towardsBread_X2_crumbsSeen rfl ⟨rfl, rfl⟩ hdX2_crumbsSeen ⟨by decide, by decide⟩ rfl (Nat.le_of_ble_eq_true rfl) dX2_towardsBread_73 rfl (fun _ _ => ?_)
      refine q_iload C 6 rfl dX2_towardsBread_76 ?_
      refine q_icmp_le C dX2_towardsBread_78 (tgt := 94) (by decide) (fun c15 => ?_) (fun c15 => ?_)
      · have hz := sat_t hz c15
        refine q_iinc C 8 rfl [(8, Vi (w3 (x3.2.2.2.2 + 1))), (7, Vi a12), (0, Vr (6 * r)), (1, Vi p1), (2, Vi p2), (3, Vi p3), (4, Vi (v10.1)), (5, Vi (v10.2)), (6, Vi a7)] rfl (by decide) dX2_towardsBread_94 ?_
        refine q_goto C dX2_towardsBread_97 (tgt := 20) (by decide) ?_
        refine q_sub C [2, 3, 4, 5, 6, 7, 8, 1, 0] [(0, Vr (6 * r)), (1, Vi p1), (2, Vi p2), (3, Vi p3), (4, Vi (v10.1)), (5, Vi (v10.2)), (6, Vi a7), (7, Vi a12), (8, Vi (w3 (x3.2.2.2.2 + 1)))] rfl ?_
        have hz := sat_some hz
        exact hz
      · have hz := sat_f hz c15
        refine q_iload C 0 rfl dX2_towardsBread_81 ?_
        refine q_istore C [(4, Vi a12), (7, Vi a12), (0, Vr (6 * r)), (1, Vi p1), (2, Vi p2), (3, Vi p3), (5, Vi (v10.2)), (6, Vi a7), (8, Vi (x3.2.2.2.2))] rfl (by decide) dX2_towardsBread_83 ?_
        refine q_aload_n C 2 rfl dX2_towardsBread_85 rfl ?_
        refine q_iload C 1 rfl dX2_towardsBread_86 ?_
        refine q_iload_n C 5 rfl dX2_towardsBread_88 rfl ?_
        obtain ⟨z17, hz17, hz⟩ := sat_bind hz
        refine q_callVi ZC_st C [Vi a12, Vi p3] [] (c_X2_crumbsSeen μ r hr a12 p3 hz17) (tO_X2 hr) rfl gX2_towardsBread_X2_crumbsSeen rfl ⟨rfl, rfl⟩ hdX2_crumbsSeen ⟨by decide, by decide⟩ rfl (Nat.le_of_ble_eq_true rfl) dX2_towardsBread_89 rfl (fun _ _ => ?_)
        refine q_istore C [(5, Vi z17), (4, Vi a12), (7, Vi a12), (0, Vr (6 * r)), (1, Vi p1), (2, Vi p2), (3, Vi p3), (6, Vi a7), (8, Vi (x3.2.2.2.2))] rfl (by decide) dX2_towardsBread_92 ?_
        refine q_iinc C 8 rfl [(8, Vi (w3 (x3.2.2.2.2 + 1))), (5, Vi z17), (4, Vi a12), (7, Vi a12), (0, Vr (6 * r)), (1, Vi p1), (2, Vi p2), (3, Vi p3), (6, Vi a7)] rfl (by decide) dX2_towardsBread_94 ?_
        refine q_goto C dX2_towardsBread_97 (tgt := 20) (by decide) ?_
        refine q_sub C [4, 5, 6, 7, 2, 1, 8, 3, 0] [(0, Vr (6 * r)), (1, Vi p1), (2, Vi p2), (3, Vi p3), (4, Vi a12), (5, Vi z17), (6, Vi a7), (7, Vi a12), (8, Vi (w3 (x3.2.2.2.2 + 1)))] rfl ?_
        have hz := sat_some hz
        exact hz
    have hz := sat_of hv10
    refine q_icmp_le C dX2_towardsBread_44 (tgt := 60) (by decide) (fun c18 => ?_) (fun c18 => ?_)
    · have hz := sat_t hz c18
      have hz := sat_some hz
      have hz : _ = v10 := hz
      refine q_sub C [1, 2, 3, 4, 5, 6, 0, 7, 8] [(0, Vr (6 * r)), (1, Vi p1), (2, Vi p2), (3, Vi p3), (4, Vi (x3.1)), (5, Vi (x3.2.1)), (6, Vi a7), (7, Vi (x3.2.2.2.1)), (8, Vi (x3.2.2.2.2))] rfl ?_
      subst hz
      exact Jv10
    · have hz := sat_f hz c18
      refine q_iload C 0 rfl dX2_towardsBread_47 ?_
      refine q_istore C [(4, Vi a7), (6, Vi a7), (0, Vr (6 * r)), (1, Vi p1), (2, Vi p2), (3, Vi p3), (5, Vi (x3.2.1)), (7, Vi (x3.2.2.2.1)), (8, Vi (x3.2.2.2.2))] rfl (by decide) dX2_towardsBread_49 ?_
      refine q_aload_n C 2 rfl dX2_towardsBread_51 rfl ?_
      refine q_iload C 1 rfl dX2_towardsBread_52 ?_
      refine q_iload_n C 5 rfl dX2_towardsBread_54 rfl ?_
      obtain ⟨z20, hz20, hz⟩ := sat_bind hz
      refine q_callVi ZC_st C [Vi a7, Vi p3] [] (c_X2_crumbsSeen μ r hr a7 p3 hz20) (tO_X2 hr) rfl gX2_towardsBread_X2_crumbsSeen rfl ⟨rfl, rfl⟩ hdX2_crumbsSeen ⟨by decide, by decide⟩ rfl (Nat.le_of_ble_eq_true rfl) dX2_towardsBread_55 rfl (fun _ _ => ?_)
      refine q_istore C [(5, Vi z20), (4, Vi a7), (6, Vi a7), (0, Vr (6 * r)), (1, Vi p1), (2, Vi p2), (3, Vi p3), (7, Vi (x3.2.2.2.1)), (8, Vi (x3.2.2.2.2))] rfl (by decide) dX2_towardsBread_58 ?_
      have hz := sat_some hz
      have hz : _ = v10 := hz
      refine q_sub C [3, 4, 5, 6, 1, 0, 2, 7, 8] [(0, Vr (6 * r)), (1, Vi p1), (2, Vi p2), (3, Vi p3), (4, Vi a7), (5, Vi z20), (6, Vi a7), (7, Vi (x3.2.2.2.1)), (8, Vi (x3.2.2.2.2))] rfl ?_
      subst hz
      exact Jv10
theorem hdX2_lawnsOfOtherCobs : yX2_lawnsOfOtherCobs.cls = RX2 ∧ yX2_lawnsOfOtherCobs.cls ≠ "java/lang/invoke/MethodHandle" ∧ yX2_lawnsOfOtherCobs.cls ≠ "java/lang/invoke/VarHandle" ∧ (parseMethodDescriptor yX2_lawnsOfOtherCobs.desc).map (fun d => d.parameters.length) = some 1 := by decide +kernel
set_option maxHeartbeats 4000000 in
set_option maxRecDepth 100000 in
theorem c_X2_lawnsOfOtherCobs {l : Launch} {D : va_G} {ad : Nat → Nat} {cI cII cR : ClassId} (μ : Mm) (r : Nat) (hr : r < 29) (p1 : Int) {v : Int} (hz : f_X2_lawnsOfOtherCobs μ r p1 = some v) : CT l D vwCl (tyC cI cII cR) 194 ad (EC ad cI cII cR) (ZC ad) yX2_lawnsOfOtherCobs wsX2_lawnsOfOtherCobs ({ frames := 0, cells := 0, slots := 0, locals := 0 } : Room) (some .int) [Vr (6 * r), Vi p1] μ (v, μ) := by
  refine CT_of [(0, Vr (6 * r)), (1, Vi p1)] ZC_st (by decide) rfl rfl (Nat.le_of_ble_eq_true rfl) rfl (fun G C => ?_)
  have i_X2 : ∀ w ∈ u_ws RX2 TX2 11, w ∈ wsX2_lawnsOfOtherCobs := by decide +kernel
  have f_15 : Cond.fieldLink (yX2_lawnsOfOtherCobs).cls 15 "SwanDeeds$River" "kinds" "[I" ∈ wsX2_lawnsOfOtherCobs := by decide +kernel
  have f_21 : Cond.fieldLink (yX2_lawnsOfOtherCobs).cls 21 "SwanDeeds$River" "places" "[I" ∈ wsX2_lawnsOfOtherCobs := by decide +kernel
  have f_31 : Cond.fieldLink (yX2_lawnsOfOtherCobs).cls 31 "SwanDeeds$River" "swanCount" "I" ∈ wsX2_lawnsOfOtherCobs := by decide +kernel
  have hz := sat_of hz
  unfold f_X2_lawnsOfOtherCobs at hz
  refine q_iconst C dX2_lawnsOfOtherCobs_0 ⟨by decide, by decide⟩ ?_
  refine q_istore_n C [(2, Vi 0), (0, Vr (6 * r)), (1, Vi p1)] rfl (by decide) dX2_lawnsOfOtherCobs_1 rfl ?_
  refine q_iconst C dX2_lawnsOfOtherCobs_2 ⟨by decide, by decide⟩ ?_
  refine q_istore_n C [(3, Vi 0), (2, Vi 0), (0, Vr (6 * r)), (1, Vi p1)] rfl (by decide) dX2_lawnsOfOtherCobs_3 rfl ?_
  refine q_sub C [2, 3, 1, 0] [(0, Vr (6 * r)), (1, Vi p1), (2, Vi 0), (3, Vi 0)] rfl ?_
  refine loop_go (fun x1 => G μ 4 [(0, Vr (6 * r)), (1, Vi p1), (2, Vi (x1.1)), (3, Vi (x1.2))] []) (sat_bind2 hz) (fun h => h) (fun x1 hz => ?_)
  refine q_iload_n C 3 rfl dX2_lawnsOfOtherCobs_4 rfl ?_
  refine q_aload_n C 0 rfl dX2_lawnsOfOtherCobs_5 rfl ?_
  refine q_get (tO_X2 hr) C (i := 1) i_X2 rfl rfl (by decide) rfl f_31 dX2_lawnsOfOtherCobs_6 ?_
  refine q_icmp_ge C dX2_lawnsOfOtherCobs_9 (tgt := 44) (by decide) (fun c2 => ?_) (fun c2 => ?_)
  · have hz := sat_t hz c2
    have hz := sat_some hz
    refine q_sub C [2] [(2, Vi (x1.1))] rfl ?_
    refine q_iload_n C 0 rfl dX2_lawnsOfOtherCobs_44 rfl ?_
    exact q_iret C dX2_lawnsOfOtherCobs_45 (congrArg (fun q => (q, μ)) (sat_eq hz))
  · have hz := sat_f hz c2
    refine q_iload_n C 3 rfl dX2_lawnsOfOtherCobs_12 rfl ?_
    refine q_iload_n C 1 rfl dX2_lawnsOfOtherCobs_13 rfl ?_
    refine q_icmp_eq C dX2_lawnsOfOtherCobs_14 (tgt := 38) (by decide) (fun c3 => ?_) (fun c3 => ?_)
    · have hz := sat_t hz c3
      refine q_iinc C 3 rfl [(3, Vi (w3 (x1.2 + 1))), (0, Vr (6 * r)), (1, Vi p1), (2, Vi (x1.1))] rfl (by decide) dX2_lawnsOfOtherCobs_38 ?_
      refine q_goto C dX2_lawnsOfOtherCobs_41 (tgt := 4) (by decide) ?_
      refine q_sub C [1, 2, 3, 0] [(0, Vr (6 * r)), (1, Vi p1), (2, Vi (x1.1)), (3, Vi (w3 (x1.2 + 1)))] rfl ?_
      have hz := sat_some hz
      exact hz
    · have hz := sat_f hz c3
      refine q_aload_n C 0 rfl dX2_lawnsOfOtherCobs_17 rfl ?_
      refine q_getR (tO_X2 hr) C (i := 5) i_X2 rfl rfl (by decide) rfl f_15 dX2_lawnsOfOtherCobs_18 ?_
      refine q_iload_n C 3 rfl dX2_lawnsOfOtherCobs_21 rfl ?_
      obtain ⟨c4, hz⟩ := sat_chk hz
      refine q_iald (tA_kinds hr) C 0 rfl c4 dX2_lawnsOfOtherCobs_22 ?_
      refine q_iconst C dX2_lawnsOfOtherCobs_23 ⟨by decide, by decide⟩ ?_
      refine q_icmp_ne C dX2_lawnsOfOtherCobs_24 (tgt := 38) (by decide) (fun c5 => ?_) (fun c5 => ?_)
      · have hz := sat_f hz c5
        refine q_iinc C 3 rfl [(3, Vi (w3 (x1.2 + 1))), (0, Vr (6 * r)), (1, Vi p1), (2, Vi (x1.1))] rfl (by decide) dX2_lawnsOfOtherCobs_38 ?_
        refine q_goto C dX2_lawnsOfOtherCobs_41 (tgt := 4) (by decide) ?_
        refine q_sub C [1, 2, 3, 0] [(0, Vr (6 * r)), (1, Vi p1), (2, Vi (x1.1)), (3, Vi (w3 (x1.2 + 1)))] rfl ?_
        have hz := sat_some hz
        exact hz
      · have hz := sat_t hz c5
        refine q_iload_n C 2 rfl dX2_lawnsOfOtherCobs_27 rfl ?_
        refine q_iconst C dX2_lawnsOfOtherCobs_28 ⟨by decide, by decide⟩ ?_
        refine q_aload_n C 0 rfl dX2_lawnsOfOtherCobs_29 rfl ?_
        refine q_getR (tO_X2 hr) C (i := 7) i_X2 rfl rfl (by decide) rfl f_21 dX2_lawnsOfOtherCobs_30 ?_
        refine q_iload_n C 3 rfl dX2_lawnsOfOtherCobs_33 rfl ?_
        obtain ⟨c6, hz⟩ := sat_chk hz
        refine q_iald (tA_places hr) C 0 rfl c6 dX2_lawnsOfOtherCobs_34 ?_
        refine q_ishl C dX2_lawnsOfOtherCobs_35 ?_
        refine q_ior C dX2_lawnsOfOtherCobs_36 ?_
        obtain ⟨a7, ha7, hz⟩ := sat_bnd hz
        refine q_nmi ha7 ?_
        refine q_istore_n C [(2, Vi a7), (0, Vr (6 * r)), (1, Vi p1), (3, Vi (x1.2))] rfl (by decide) dX2_lawnsOfOtherCobs_37 rfl ?_
        refine q_iinc C 3 rfl [(3, Vi (w3 (x1.2 + 1))), (2, Vi a7), (0, Vr (6 * r)), (1, Vi p1)] rfl (by decide) dX2_lawnsOfOtherCobs_38 ?_
        refine q_goto C dX2_lawnsOfOtherCobs_41 (tgt := 4) (by decide) ?_
        refine q_sub C [2, 3, 1, 0] [(0, Vr (6 * r)), (1, Vi p1), (2, Vi a7), (3, Vi (w3 (x1.2 + 1)))] rfl ?_
        have hz := sat_some hz
        exact hz
theorem hdX2_goalOf : yX2_goalOf.cls = RX2 ∧ yX2_goalOf.cls ≠ "java/lang/invoke/MethodHandle" ∧ yX2_goalOf.cls ≠ "java/lang/invoke/VarHandle" ∧ (parseMethodDescriptor yX2_goalOf.desc).map (fun d => d.parameters.length) = some 1 := by decide +kernel
set_option maxHeartbeats 4000000 in
set_option maxRecDepth 100000 in
theorem c_X2_goalOf {l : Launch} {D : va_G} {ad : Nat → Nat} {cI cII cR : ClassId} (μ : Mm) (r : Nat) (hr : r < 29) (p1 : Int) {v : Int} (hz : f_X2_goalOf μ r p1 = some v) : CT l D vwCl (tyC cI cII cR) 194 ad (EC ad cI cII cR) (ZC ad) yX2_goalOf wsX2_goalOf ({ frames := 2, cells := 0, slots := 0, locals := 52 } : Room) (some .int) [Vr (6 * r), Vi p1] μ (v, μ) := by
  refine CT_of [(0, Vr (6 * r)), (1, Vi p1)] ZC_st (by decide) rfl rfl (Nat.le_of_ble_eq_true rfl) rfl (fun G C => ?_)
  have i_X2 : ∀ w ∈ u_ws RX2 TX2 11, w ∈ wsX2_goalOf := by decide +kernel
  have f_9 : Cond.fieldLink (yX2_goalOf).cls 9 "SwanDeeds$River" "crumbs" "[I" ∈ wsX2_goalOf := by decide +kernel
  have f_15 : Cond.fieldLink (yX2_goalOf).cls 15 "SwanDeeds$River" "kinds" "[I" ∈ wsX2_goalOf := by decide +kernel
  have f_21 : Cond.fieldLink (yX2_goalOf).cls 21 "SwanDeeds$River" "places" "[I" ∈ wsX2_goalOf := by decide +kernel
  have hz := sat_of hz
  unfold f_X2_goalOf at hz
  refine q_aload_n C 0 rfl dX2_goalOf_0 rfl ?_
  refine q_getR (tO_X2 hr) C (i := 7) i_X2 rfl rfl (by decide) rfl f_21 dX2_goalOf_1 ?_
  refine q_iload_n C 1 rfl dX2_goalOf_4 rfl ?_
  obtain ⟨c1, hz⟩ := sat_chk hz
  refine q_iald (tA_places hr) C 0 rfl c1 dX2_goalOf_5 ?_
  refine q_istore_n C [(2, Vi (μ r (11 + p1))), (0, Vr (6 * r)), (1, Vi p1)] rfl (by decide) dX2_goalOf_6 rfl ?_
  refine q_aload_n C 1 rfl dX2_goalOf_7 rfl ?_
  refine q_getR (tO_X2 hr) C (i := 5) i_X2 rfl rfl (by decide) rfl f_15 dX2_goalOf_8 ?_
  refine q_iload_n C 2 rfl dX2_goalOf_11 rfl ?_
  obtain ⟨c2, hz⟩ := sat_chk hz
  refine q_iald (tA_kinds hr) C 0 rfl c2 dX2_goalOf_12 ?_
  refine sat_ite hz (fun c3 hz => ?_) (fun c3 hz => ?_)
  · have c3 : μ r (26 + p1) = 2 := c3
    refine q_tab_in C dX2_goalOf_13 (by omega) (by omega) (off := 79) (by rw [c3]; rfl) (tgt := 92) (by decide) ?_
    refine q_aload_n C 1 rfl dX2_goalOf_92 rfl ?_
    refine q_iload_n C 0 rfl dX2_goalOf_93 rfl ?_
    refine q_iconst C dX2_goalOf_94 ⟨by decide, by decide⟩ ?_
    refine q_aload_n C 1 rfl dX2_goalOf_95 rfl ?_
    refine q_iload_n C 2 rfl dX2_goalOf_96 rfl ?_
    obtain ⟨z5, hz5, hz⟩ := sat_bind hz
    refine q_callVi ZC_st C [Vi p1] [Vi 2, Vi (μ r (11 + p1)), Vr (6 * r)] (c_X2_lawnsOfOtherCobs μ r hr p1 hz5) (tO_X2 hr) rfl gX2_goalOf_X2_lawnsOfOtherCobs rfl ⟨rfl, rfl⟩ hdX2_lawnsOfOtherCobs ⟨by decide, by decide⟩ rfl (Nat.le_of_ble_eq_true rfl) dX2_goalOf_97 rfl (fun _ _ => ?_)
    obtain ⟨z7, hz7, hz⟩ := sat_bind hz
    refine q_callVi ZC_st C [Vi (μ r (11 + p1)), Vi 2, Vi z5] [] (c_X2_towardsBread μ r hr (μ r (11 + p1)) 2 z5 hz7) (tO_X2 hr) rfl gX2_goalOf_X2_towardsBread rfl ⟨rfl, rfl⟩ hdX2_towardsBread ⟨by decide, by decide⟩ rfl (Nat.le_of_ble_eq_true rfl) dX2_goalOf_100 rfl (fun _ _ => ?_)
    exact q_iret C dX2_goalOf_103 (congrArg (fun q => (q, μ)) (sat_eq hz))
  · have c3 : ¬ μ r (26 + p1) = 2 := c3
    refine sat_ite hz (fun c8 hz => ?_) (fun c8 hz => ?_)
    · have c8 : μ r (26 + p1) = 3 := c8
      refine q_tab_in C dX2_goalOf_13 (by omega) (by omega) (off := 71) (by rw [c8]; rfl) (tgt := 84) (by decide) ?_
      refine q_aload_n C 1 rfl dX2_goalOf_84 rfl ?_
      refine q_iload_n C 0 rfl dX2_goalOf_85 rfl ?_
      refine q_iconst C dX2_goalOf_86 ⟨by decide, by decide⟩ ?_
      refine q_iconst C dX2_goalOf_87 ⟨by decide, by decide⟩ ?_
      obtain ⟨z10, hz10, hz⟩ := sat_bind hz
      refine q_callVi ZC_st C [Vi (μ r (11 + p1)), Vi 1, Vi 0] [] (c_X2_towardsBread μ r hr (μ r (11 + p1)) 1 0 hz10) (tO_X2 hr) rfl gX2_goalOf_X2_towardsBread rfl ⟨rfl, rfl⟩ hdX2_towardsBread ⟨by decide, by decide⟩ rfl (Nat.le_of_ble_eq_true rfl) dX2_goalOf_88 rfl (fun _ _ => ?_)
      exact q_iret C dX2_goalOf_91 (congrArg (fun q => (q, μ)) (sat_eq hz))
    · have c8 : ¬ μ r (26 + p1) = 3 := c8
      refine sat_ite hz (fun c11 hz => ?_) (fun c11 hz => ?_)
      · have c11 : μ r (26 + p1) = 4 := c11
        refine q_tab_in C dX2_goalOf_13 (by omega) (by omega) (off := 31) (by rw [c11]; rfl) (tgt := 44) (by decide) ?_
        refine q_aload_n C 1 rfl dX2_goalOf_44 rfl ?_
        refine q_getR (tO_X2 hr) C (i := 4) i_X2 rfl rfl (by decide) rfl f_9 dX2_goalOf_45 ?_
        refine q_iload_n C 0 rfl dX2_goalOf_48 rfl ?_
        obtain ⟨c12, hz⟩ := sat_chk hz
        refine q_iald (tA_crumbs hr) C 0 rfl c12 dX2_goalOf_49 ?_
        refine q_if_le C dX2_goalOf_50 (tgt := 57) (by decide) (fun c13 => ?_) (fun c13 => ?_)
        · have hz := sat_t hz c13
          refine q_aload_n C 1 rfl dX2_goalOf_57 rfl ?_
          refine q_iload_n C 0 rfl dX2_goalOf_58 rfl ?_
          refine q_iconst C dX2_goalOf_59 ⟨by decide, by decide⟩ ?_
          refine q_callVi ZC_st C [Vi (μ r (11 + p1)), Vi (-1)] [] (c_X2_beside μ r hr (μ r (11 + p1)) (-1)) (tO_X2 hr) rfl gX2_goalOf_X2_beside rfl ⟨rfl, rfl⟩ hdX2_beside ⟨by decide, by decide⟩ rfl (Nat.le_of_ble_eq_true rfl) dX2_goalOf_60 rfl (fun _ _ => ?_)
          exact q_iret C dX2_goalOf_63 (congrArg (fun q => (q, μ)) (sat_eq hz))
        · have hz := sat_f hz c13
          refine q_iload_n C 0 rfl dX2_goalOf_53 rfl ?_
          refine q_goto C dX2_goalOf_54 (tgt := 63) (by decide) ?_
          exact q_iret C dX2_goalOf_63 (congrArg (fun q => (q, μ)) (sat_eq hz))
      · have c11 : ¬ μ r (26 + p1) = 4 := c11
        refine sat_ite hz (fun c15 hz => ?_) (fun c15 hz => ?_)
        · have c15 : μ r (26 + p1) = 5 := c15
          refine q_tab_in C dX2_goalOf_13 (by omega) (by omega) (off := 51) (by rw [c15]; rfl) (tgt := 64) (by decide) ?_
          refine q_aload_n C 1 rfl dX2_goalOf_64 rfl ?_
          refine q_getR (tO_X2 hr) C (i := 4) i_X2 rfl rfl (by decide) rfl f_9 dX2_goalOf_65 ?_
          refine q_iload_n C 0 rfl dX2_goalOf_68 rfl ?_
          obtain ⟨c16, hz⟩ := sat_chk hz
          refine q_iald (tA_crumbs hr) C 0 rfl c16 dX2_goalOf_69 ?_
          refine q_if_le C dX2_goalOf_70 (tgt := 77) (by decide) (fun c17 => ?_) (fun c17 => ?_)
          · have hz := sat_t hz c17
            refine q_aload_n C 1 rfl dX2_goalOf_77 rfl ?_
            refine q_iload_n C 0 rfl dX2_goalOf_78 rfl ?_
            refine q_iconst C dX2_goalOf_79 ⟨by decide, by decide⟩ ?_
            refine q_callVi ZC_st C [Vi (μ r (11 + p1)), Vi 1] [] (c_X2_beside μ r hr (μ r (11 + p1)) 1) (tO_X2 hr) rfl gX2_goalOf_X2_beside rfl ⟨rfl, rfl⟩ hdX2_beside ⟨by decide, by decide⟩ rfl (Nat.le_of_ble_eq_true rfl) dX2_goalOf_80 rfl (fun _ _ => ?_)
            exact q_iret C dX2_goalOf_83 (congrArg (fun q => (q, μ)) (sat_eq hz))
          · have hz := sat_f hz c17
            refine q_iload_n C 0 rfl dX2_goalOf_73 rfl ?_
            refine q_goto C dX2_goalOf_74 (tgt := 83) (by decide) ?_
            exact q_iret C dX2_goalOf_83 (congrArg (fun q => (q, μ)) (sat_eq hz))
        · have c15 : ¬ μ r (26 + p1) = 5 := c15
          refine q_tab_out C dX2_goalOf_13 (by omega) (tgt := 104) (by decide) ?_
          refine q_aload_n C 1 rfl dX2_goalOf_104 rfl ?_
          refine q_iload_n C 0 rfl dX2_goalOf_105 rfl ?_
          refine q_iconst C dX2_goalOf_106 ⟨by decide, by decide⟩ ?_
          refine q_iconst C dX2_goalOf_107 ⟨by decide, by decide⟩ ?_
          obtain ⟨z20, hz20, hz⟩ := sat_bind hz
          refine q_callVi ZC_st C [Vi (μ r (11 + p1)), Vi 2, Vi 0] [] (c_X2_towardsBread μ r hr (μ r (11 + p1)) 2 0 hz20) (tO_X2 hr) rfl gX2_goalOf_X2_towardsBread rfl ⟨rfl, rfl⟩ hdX2_towardsBread ⟨by decide, by decide⟩ rfl (Nat.le_of_ble_eq_true rfl) dX2_goalOf_108 rfl (fun _ _ => ?_)
          exact q_iret C dX2_goalOf_111 (congrArg (fun q => (q, μ)) (sat_eq hz))
theorem hdX2_isBeaten : yX2_isBeaten.cls = RX2 ∧ yX2_isBeaten.cls ≠ "java/lang/invoke/MethodHandle" ∧ yX2_isBeaten.cls ≠ "java/lang/invoke/VarHandle" ∧ (parseMethodDescriptor yX2_isBeaten.desc).map (fun d => d.parameters.length) = some 1 := by decide +kernel
set_option maxHeartbeats 4000000 in
set_option maxRecDepth 100000 in
theorem c_X2_isBeaten {l : Launch} {D : va_G} {ad : Nat → Nat} {cI cII cR : ClassId} (μ : Mm) (r : Nat) (hr : r < 29) (p1 : Int) {v : Int} (hz : f_X2_isBeaten μ r p1 = some v) : CT l D vwCl (tyC cI cII cR) 194 ad (EC ad cI cII cR) (ZC ad) yX2_isBeaten wsX2_isBeaten ({ frames := 0, cells := 0, slots := 0, locals := 0 } : Room) (some .boolean) [Vr (6 * r), Vi p1] μ (v, μ) := by
  refine CT_of [(0, Vr (6 * r)), (1, Vi p1)] ZC_st (by decide) rfl rfl (Nat.le_of_ble_eq_true rfl) rfl (fun G C => ?_)
  have i_X2 : ∀ w ∈ u_ws RX2 TX2 11, w ∈ wsX2_isBeaten := by decide +kernel
  have f_15 : Cond.fieldLink (yX2_isBeaten).cls 15 "SwanDeeds$River" "kinds" "[I" ∈ wsX2_isBeaten := by decide +kernel
  have f_21 : Cond.fieldLink (yX2_isBeaten).cls 21 "SwanDeeds$River" "places" "[I" ∈ wsX2_isBeaten := by decide +kernel
  have f_24 : Cond.fieldLink (yX2_isBeaten).cls 24 "SwanDeeds$River" "weights" "[I" ∈ wsX2_isBeaten := by decide +kernel
  have f_31 : Cond.fieldLink (yX2_isBeaten).cls 31 "SwanDeeds$River" "swanCount" "I" ∈ wsX2_isBeaten := by decide +kernel
  have hz := sat_of hz
  unfold f_X2_isBeaten at hz
  refine q_iconst C dX2_isBeaten_0 ⟨by decide, by decide⟩ ?_
  refine q_istore_n C [(2, Vi 0), (0, Vr (6 * r)), (1, Vi p1)] rfl (by decide) dX2_isBeaten_1 rfl ?_
  refine q_sub C [1, 2, 0] [(0, Vr (6 * r)), (1, Vi p1), (2, Vi 0)] rfl ?_
  refine loop_go (fun x1 => G μ 2 [(0, Vr (6 * r)), (1, Vi p1), (2, Vi x1)] []) (sat_bind2 hz) (fun h => h) (fun x1 hz => ?_)
  refine q_iload_n C 2 rfl dX2_isBeaten_2 rfl ?_
  refine q_aload_n C 0 rfl dX2_isBeaten_3 rfl ?_
  refine q_get (tO_X2 hr) C (i := 1) i_X2 rfl rfl (by decide) rfl f_31 dX2_isBeaten_4 ?_
  refine q_icmp_ge C dX2_isBeaten_7 (tgt := 85) (by decide) (fun c2 => ?_) (fun c2 => ?_)
  · have hz := sat_t hz c2
    have hz := sat_some hz
    refine q_sub C [] [] rfl ?_
    refine q_iconst C dX2_isBeaten_85 ⟨by decide, by decide⟩ ?_
    exact q_zret C (Or.inl rfl) dX2_isBeaten_86 (congrArg (fun q => (q, μ)) (sat_eq hz))
  · have hz := sat_f hz c2
    refine q_iload_n C 2 rfl dX2_isBeaten_10 rfl ?_
    refine q_iload_n C 1 rfl dX2_isBeaten_11 rfl ?_
    refine q_icmp_eq C dX2_isBeaten_12 (tgt := 79) (by decide) (fun c3 => ?_) (fun c3 => ?_)
    · have hz := sat_t hz c3
      refine q_iinc C 2 rfl [(2, Vi (w3 (x1 + 1))), (0, Vr (6 * r)), (1, Vi p1)] rfl (by decide) dX2_isBeaten_79 ?_
      refine q_goto C dX2_isBeaten_82 (tgt := 2) (by decide) ?_
      refine q_sub C [1, 2, 0] [(0, Vr (6 * r)), (1, Vi p1), (2, Vi (w3 (x1 + 1)))] rfl ?_
      have hz := sat_some hz
      exact hz
    · have hz := sat_f hz c3
      refine q_aload_n C 0 rfl dX2_isBeaten_15 rfl ?_
      refine q_getR (tO_X2 hr) C (i := 5) i_X2 rfl rfl (by decide) rfl f_15 dX2_isBeaten_16 ?_
      refine q_iload_n C 2 rfl dX2_isBeaten_19 rfl ?_
      obtain ⟨c4, hz⟩ := sat_chk hz
      refine q_iald (tA_kinds hr) C 0 rfl c4 dX2_isBeaten_20 ?_
      refine q_iconst C dX2_isBeaten_21 ⟨by decide, by decide⟩ ?_
      refine q_icmp_ne C dX2_isBeaten_22 (tgt := 79) (by decide) (fun c5 => ?_) (fun c5 => ?_)
      · have hz := sat_f hz c5
        refine q_iinc C 2 rfl [(2, Vi (w3 (x1 + 1))), (0, Vr (6 * r)), (1, Vi p1)] rfl (by decide) dX2_isBeaten_79 ?_
        refine q_goto C dX2_isBeaten_82 (tgt := 2) (by decide) ?_
        refine q_sub C [1, 2, 0] [(0, Vr (6 * r)), (1, Vi p1), (2, Vi (w3 (x1 + 1)))] rfl ?_
        have hz := sat_some hz
        exact hz
      · have hz := sat_t hz c5
        refine q_aload_n C 0 rfl dX2_isBeaten_25 rfl ?_
        refine q_getR (tO_X2 hr) C (i := 7) i_X2 rfl rfl (by decide) rfl f_21 dX2_isBeaten_26 ?_
        refine q_iload_n C 2 rfl dX2_isBeaten_29 rfl ?_
        obtain ⟨c6, hz⟩ := sat_chk hz
        refine q_iald (tA_places hr) C 0 rfl c6 dX2_isBeaten_30 ?_
        refine q_aload_n C 0 rfl dX2_isBeaten_31 rfl ?_
        refine q_getR (tO_X2 hr) C (i := 7) i_X2 rfl rfl (by decide) rfl f_21 dX2_isBeaten_32 ?_
        refine q_iload_n C 1 rfl dX2_isBeaten_35 rfl ?_
        obtain ⟨c7, hz⟩ := sat_chk hz
        refine q_iald (tA_places hr) C 0 rfl c7 dX2_isBeaten_36 ?_
        refine q_icmp_ne C dX2_isBeaten_37 (tgt := 79) (by decide) (fun c8 => ?_) (fun c8 => ?_)
        · have hz := sat_f hz c8
          refine q_iinc C 2 rfl [(2, Vi (w3 (x1 + 1))), (0, Vr (6 * r)), (1, Vi p1)] rfl (by decide) dX2_isBeaten_79 ?_
          refine q_goto C dX2_isBeaten_82 (tgt := 2) (by decide) ?_
          refine q_sub C [1, 2, 0] [(0, Vr (6 * r)), (1, Vi p1), (2, Vi (w3 (x1 + 1)))] rfl ?_
          have hz := sat_some hz
          exact hz
        · have hz := sat_t hz c8
          refine q_aload_n C 0 rfl dX2_isBeaten_40 rfl ?_
          refine q_getR (tO_X2 hr) C (i := 8) i_X2 rfl rfl (by decide) rfl f_24 dX2_isBeaten_41 ?_
          refine q_iload_n C 2 rfl dX2_isBeaten_44 rfl ?_
          obtain ⟨c9, hz⟩ := sat_chk hz
          refine q_iald (tA_weights hr) C 0 rfl c9 dX2_isBeaten_45 ?_
          refine q_aload_n C 0 rfl dX2_isBeaten_46 rfl ?_
          refine q_getR (tO_X2 hr) C (i := 8) i_X2 rfl rfl (by decide) rfl f_24 dX2_isBeaten_47 ?_
          refine q_iload_n C 1 rfl dX2_isBeaten_50 rfl ?_
          obtain ⟨c10, hz⟩ := sat_chk hz
          refine q_iald (tA_weights hr) C 0 rfl c10 dX2_isBeaten_51 ?_
          refine q_icmp_le C dX2_isBeaten_52 (tgt := 57) (by decide) (fun c11 => ?_) (fun c11 => ?_)
          · have hz := sat_t hz c11
            refine q_aload_n C 0 rfl dX2_isBeaten_57 rfl ?_
            refine q_getR (tO_X2 hr) C (i := 8) i_X2 rfl rfl (by decide) rfl f_24 dX2_isBeaten_58 ?_
            refine q_iload_n C 2 rfl dX2_isBeaten_61 rfl ?_
            obtain ⟨c12, hz⟩ := sat_chk hz
            refine q_iald (tA_weights hr) C 0 rfl c12 dX2_isBeaten_62 ?_
            refine q_aload_n C 0 rfl dX2_isBeaten_63 rfl ?_
            refine q_getR (tO_X2 hr) C (i := 8) i_X2 rfl rfl (by decide) rfl f_24 dX2_isBeaten_64 ?_
            refine q_iload_n C 1 rfl dX2_isBeaten_67 rfl ?_
            obtain ⟨c13, hz⟩ := sat_chk hz
            refine q_iald (tA_weights hr) C 0 rfl c13 dX2_isBeaten_68 ?_
            refine q_icmp_ne C dX2_isBeaten_69 (tgt := 79) (by decide) (fun c14 => ?_) (fun c14 => ?_)
            · have hz := sat_f hz c14
              refine q_iinc C 2 rfl [(2, Vi (w3 (x1 + 1))), (0, Vr (6 * r)), (1, Vi p1)] rfl (by decide) dX2_isBeaten_79 ?_
              refine q_goto C dX2_isBeaten_82 (tgt := 2) (by decide) ?_
              refine q_sub C [1, 2, 0] [(0, Vr (6 * r)), (1, Vi p1), (2, Vi (w3 (x1 + 1)))] rfl ?_
              have hz := sat_some hz
              exact hz
            · have hz := sat_t hz c14
              refine q_iload_n C 2 rfl dX2_isBeaten_72 rfl ?_
              refine q_iload_n C 1 rfl dX2_isBeaten_73 rfl ?_
              refine q_icmp_ge C dX2_isBeaten_74 (tgt := 79) (by decide) (fun c15 => ?_) (fun c15 => ?_)
              · have hz := sat_t hz c15
                refine q_iinc C 2 rfl [(2, Vi (w3 (x1 + 1))), (0, Vr (6 * r)), (1, Vi p1)] rfl (by decide) dX2_isBeaten_79 ?_
                refine q_goto C dX2_isBeaten_82 (tgt := 2) (by decide) ?_
                refine q_sub C [1, 2, 0] [(0, Vr (6 * r)), (1, Vi p1), (2, Vi (w3 (x1 + 1)))] rfl ?_
                have hz := sat_some hz
                exact hz
              · have hz := sat_f hz c15
                refine q_iconst C dX2_isBeaten_77 ⟨by decide, by decide⟩ ?_
                have hz := sat_some hz
                exact q_zret C (Or.inr rfl) dX2_isBeaten_78 (congrArg (fun q => (q, μ)) (sat_eq hz))
          · have hz := sat_f hz c11
            refine q_iconst C dX2_isBeaten_55 ⟨by decide, by decide⟩ ?_
            have hz := sat_some hz
            exact q_zret C (Or.inr rfl) dX2_isBeaten_56 (congrArg (fun q => (q, μ)) (sat_eq hz))
theorem hdX2_sendBeatenDown : yX2_sendBeatenDown.cls = RX2 ∧ yX2_sendBeatenDown.cls ≠ "java/lang/invoke/MethodHandle" ∧ yX2_sendBeatenDown.cls ≠ "java/lang/invoke/VarHandle" ∧ (parseMethodDescriptor yX2_sendBeatenDown.desc).map (fun d => d.parameters.length) = some 0 := by decide +kernel
set_option maxHeartbeats 4000000 in
set_option maxRecDepth 100000 in
theorem c_X2_sendBeatenDown {l : Launch} {D : va_G} {ad : Nat → Nat} {cI cII cR : ClassId} (μ : Mm) (r : Nat) (hr : r < 29) {v : Mm} (hz : f_X2_sendBeatenDown μ r = some v) : CT l D vwCl (tyC cI cII cR) 194 ad (EC ad cI cII cR) (ZC ad) yX2_sendBeatenDown wsX2_sendBeatenDown ({ frames := 1, cells := 0, slots := 0, locals := 24 } : Room) none [Vr (6 * r)] μ ((0 : Int), v) := by
  refine CT_of [(0, Vr (6 * r))] ZC_st (by decide) rfl rfl (Nat.le_of_ble_eq_true rfl) rfl (fun G C => ?_)
  have i_X2 : ∀ w ∈ u_ws RX2 TX2 11, w ∈ wsX2_sendBeatenDown := by decide +kernel
  have f_15 : Cond.fieldLink (yX2_sendBeatenDown).cls 15 "SwanDeeds$River" "kinds" "[I" ∈ wsX2_sendBeatenDown := by decide +kernel
  have f_21 : Cond.fieldLink (yX2_sendBeatenDown).cls 21 "SwanDeeds$River" "places" "[I" ∈ wsX2_sendBeatenDown := by decide +kernel
  have f_31 : Cond.fieldLink (yX2_sendBeatenDown).cls 31 "SwanDeeds$River" "swanCount" "I" ∈ wsX2_sendBeatenDown := by decide +kernel
  have f_40 : Cond.fieldLink (yX2_sendBeatenDown).cls 40 "SwanDeeds$River" "defeats" "I" ∈ wsX2_sendBeatenDown := by decide +kernel
  have hz := sat_of hz
  unfold f_X2_sendBeatenDown at hz
  refine q_iconst C dX2_sendBeatenDown_0 ⟨by decide, by decide⟩ ?_
  refine q_istore_n C [(1, Vi 0), (0, Vr (6 * r))] rfl (by decide) dX2_sendBeatenDown_1 rfl ?_
  refine q_iconst C dX2_sendBeatenDown_2 ⟨by decide, by decide⟩ ?_
  refine q_istore_n C [(2, Vi 0), (1, Vi 0), (0, Vr (6 * r))] rfl (by decide) dX2_sendBeatenDown_3 rfl ?_
  refine q_sub C [2, 1, 0] [(0, Vr (6 * r)), (1, Vi 0), (2, Vi 0)] rfl ?_
  refine loop_go (fun x1 => G μ 4 [(0, Vr (6 * r)), (1, Vi (x1.1)), (2, Vi (x1.2))] []) (sat_bind2 hz) (fun h => h) (fun x1 hz => ?_)
  refine q_iload_n C 2 rfl dX2_sendBeatenDown_4 rfl ?_
  refine q_aload_n C 0 rfl dX2_sendBeatenDown_5 rfl ?_
  refine q_get (tO_X2 hr) C (i := 1) i_X2 rfl rfl (by decide) rfl f_31 dX2_sendBeatenDown_6 ?_
  refine q_icmp_ge C dX2_sendBeatenDown_9 (tgt := 42) (by decide) (fun c2 => ?_) (fun c2 => ?_)
  · have hz := sat_t hz c2
    have hz := sat_some hz
    refine q_sub C [0, 1] [(0, Vr (6 * r)), (1, Vi (x1.1))] rfl ?_
    refine q_iconst C dX2_sendBeatenDown_42 ⟨by decide, by decide⟩ ?_
    refine q_istore_n C [(2, Vi 0), (0, Vr (6 * r)), (1, Vi (x1.1))] rfl (by decide) dX2_sendBeatenDown_43 rfl ?_
    refine q_sub C [1, 2, 0] [(0, Vr (6 * r)), (1, Vi (x1.1)), (2, Vi 0)] rfl ?_
    refine loop_go (fun x3 => G x3.2 44 [(0, Vr (6 * r)), (1, Vi (x1.1)), (2, Vi (x3.1))] []) (sat_bind2 hz) (fun h => h) (fun x3 hz => ?_)
    refine q_iload_n C 2 rfl dX2_sendBeatenDown_44 rfl ?_
    refine q_aload_n C 0 rfl dX2_sendBeatenDown_45 rfl ?_
    refine q_get (tO_X2 hr) C (i := 1) i_X2 rfl rfl (by decide) rfl f_31 dX2_sendBeatenDown_46 ?_
    refine q_icmp_ge C dX2_sendBeatenDown_49 (tgt := 94) (by decide) (fun c4 => ?_) (fun c4 => ?_)
    · have hz := sat_t hz c4
      have hz := sat_some hz
      refine q_sub C [] [] rfl ?_
      exact q_vret C dX2_sendBeatenDown_94 (congrArg (fun q => ((0 : Int), q)) (sat_eq hz))
    · have hz := sat_f hz c4
      refine q_iload_n C 1 rfl dX2_sendBeatenDown_52 rfl ?_
      refine q_iload_n C 2 rfl dX2_sendBeatenDown_53 rfl ?_
      refine q_ishr C dX2_sendBeatenDown_54 ?_
      refine q_iconst C dX2_sendBeatenDown_55 ⟨by decide, by decide⟩ ?_
      refine q_iand C dX2_sendBeatenDown_56 ?_
      refine q_iconst C dX2_sendBeatenDown_57 ⟨by decide, by decide⟩ ?_
      refine q_icmp_ne C dX2_sendBeatenDown_58 (tgt := 88) (by decide) (fun c5 => ?_) (fun c5 => ?_)
      · have hz := sat_f hz c5
        refine q_iinc C 2 rfl [(2, Vi (w3 (x3.1 + 1))), (0, Vr (6 * r)), (1, Vi (x1.1))] rfl (by decide) dX2_sendBeatenDown_88 ?_
        refine q_goto C dX2_sendBeatenDown_91 (tgt := 44) (by decide) ?_
        refine q_sub C [1, 2, 0] [(0, Vr (6 * r)), (1, Vi (x1.1)), (2, Vi (w3 (x3.1 + 1)))] rfl ?_
        have hz := sat_some hz
        exact hz
      · have hz := sat_t hz c5
        refine q_aload_n C 0 rfl dX2_sendBeatenDown_61 rfl ?_
        refine q_getR (tO_X2 hr) C (i := 7) i_X2 rfl rfl (by decide) rfl f_21 dX2_sendBeatenDown_62 ?_
        refine q_iload_n C 2 rfl dX2_sendBeatenDown_65 rfl ?_
        refine q_aload_n C 0 rfl dX2_sendBeatenDown_66 rfl ?_
        refine q_aload_n C 0 rfl dX2_sendBeatenDown_67 rfl ?_
        refine q_getR (tO_X2 hr) C (i := 7) i_X2 rfl rfl (by decide) rfl f_21 dX2_sendBeatenDown_68 ?_
        refine q_iload_n C 2 rfl dX2_sendBeatenDown_71 rfl ?_
        obtain ⟨c6, hz⟩ := sat_chk hz
        refine q_iald (tA_places hr) C 0 rfl c6 dX2_sendBeatenDown_72 ?_
        refine q_iconst C dX2_sendBeatenDown_73 ⟨by decide, by decide⟩ ?_
        refine q_callVi ZC_st C [Vi (x3.2 r (11 + x3.1)), Vi (-1)] [Vi (x3.1), Vr (6 * r + 4)] (c_X2_beside x3.2 r hr (x3.2 r (11 + x3.1)) (-1)) (tO_X2 hr) rfl gX2_sendBeatenDown_X2_beside rfl ⟨rfl, rfl⟩ hdX2_beside ⟨by decide, by decide⟩ rfl (Nat.le_of_ble_eq_true rfl) dX2_sendBeatenDown_74 rfl (fun _ _ => ?_)
        obtain ⟨c8, hz⟩ := sat_chk hz
        obtain ⟨m9, hm9, hz⟩ := sat_bnd hz
        refine q_iast (tA_places hr) C 0 rfl c8 hm9 dX2_sendBeatenDown_77 ?_
        refine q_aload_n C 0 rfl dX2_sendBeatenDown_78 rfl ?_
        refine q_dup C dX2_sendBeatenDown_79 rfl ?_
        refine q_get (tO_X2 hr) C (i := 9) i_X2 rfl rfl (by decide) rfl f_40 dX2_sendBeatenDown_80 ?_
        refine q_iconst C dX2_sendBeatenDown_83 ⟨by decide, by decide⟩ ?_
        refine q_iadd C dX2_sendBeatenDown_84 ?_
        obtain ⟨m10, hm10, hz⟩ := sat_bnd hz
        refine q_put (tO_X2 hr) C hm10 (i := 9) i_X2 tyX2_ok nmX2 rfl rfl (by decide) rfl f_40 dX2_sendBeatenDown_85 ?_
        refine q_iinc C 2 rfl [(2, Vi (w3 (x3.1 + 1))), (0, Vr (6 * r)), (1, Vi (x1.1))] rfl (by decide) dX2_sendBeatenDown_88 ?_
        refine q_goto C dX2_sendBeatenDown_91 (tgt := 44) (by decide) ?_
        refine q_sub C [1, 2, 0] [(0, Vr (6 * r)), (1, Vi (x1.1)), (2, Vi (w3 (x3.1 + 1)))] rfl ?_
        have hz := sat_some hz
        exact hz
  · have hz := sat_f hz c2
    refine q_aload_n C 0 rfl dX2_sendBeatenDown_12 rfl ?_
    refine q_getR (tO_X2 hr) C (i := 5) i_X2 rfl rfl (by decide) rfl f_15 dX2_sendBeatenDown_13 ?_
    refine q_iload_n C 2 rfl dX2_sendBeatenDown_16 rfl ?_
    obtain ⟨c12, hz⟩ := sat_chk hz
    refine q_iald (tA_kinds hr) C 0 rfl c12 dX2_sendBeatenDown_17 ?_
    refine q_iconst C dX2_sendBeatenDown_18 ⟨by decide, by decide⟩ ?_
    refine q_icmp_ne C dX2_sendBeatenDown_19 (tgt := 36) (by decide) (fun c13 => ?_) (fun c13 => ?_)
    · have hz := sat_f hz c13
      refine q_iinc C 2 rfl [(2, Vi (w3 (x1.2 + 1))), (0, Vr (6 * r)), (1, Vi (x1.1))] rfl (by decide) dX2_sendBeatenDown_36 ?_
      refine q_goto C dX2_sendBeatenDown_39 (tgt := 4) (by decide) ?_
      refine q_sub C [1, 2, 0] [(0, Vr (6 * r)), (1, Vi (x1.1)), (2, Vi (w3 (x1.2 + 1)))] rfl ?_
      have hz := sat_some hz
      exact hz
    · have hz := sat_t hz c13
      refine q_aload_n C 0 rfl dX2_sendBeatenDown_22 rfl ?_
      refine q_iload_n C 2 rfl dX2_sendBeatenDown_23 rfl ?_
      obtain ⟨z15, hz15, hz⟩ := sat_bind hz
      refine q_callVz ZC_st C [Vi (x1.2)] [] (c_X2_isBeaten μ r hr x1.2 hz15) (tO_X2 hr) rfl gX2_sendBeatenDown_X2_isBeaten rfl ⟨rfl, rfl⟩ hdX2_isBeaten ⟨by decide, by decide⟩ rfl (Nat.le_of_ble_eq_true rfl) dX2_sendBeatenDown_24 rfl (fun hb14 _ => ?_)
      refine q_if_eq C dX2_sendBeatenDown_27 (tgt := 36) (by decide) (fun c16 => ?_) (fun c16 => ?_)
      · have hz := sat_t hz c16
        refine q_iinc C 2 rfl [(2, Vi (w3 (x1.2 + 1))), (0, Vr (6 * r)), (1, Vi (x1.1))] rfl (by decide) dX2_sendBeatenDown_36 ?_
        refine q_goto C dX2_sendBeatenDown_39 (tgt := 4) (by decide) ?_
        refine q_sub C [1, 2, 0] [(0, Vr (6 * r)), (1, Vi (x1.1)), (2, Vi (w3 (x1.2 + 1)))] rfl ?_
        have hz := sat_some hz
        exact hz
      · have hz := sat_f hz c16
        refine q_iload_n C 1 rfl dX2_sendBeatenDown_30 rfl ?_
        refine q_iconst C dX2_sendBeatenDown_31 ⟨by decide, by decide⟩ ?_
        refine q_iload_n C 2 rfl dX2_sendBeatenDown_32 rfl ?_
        refine q_ishl C dX2_sendBeatenDown_33 ?_
        refine q_ior C dX2_sendBeatenDown_34 ?_
        refine q_istore_n C [(1, Vi (bOr x1.1 (bShl 1 x1.2))), (0, Vr (6 * r)), (2, Vi (x1.2))] rfl (by decide) dX2_sendBeatenDown_35 rfl ?_
        refine q_iinc C 2 rfl [(2, Vi (w3 (x1.2 + 1))), (1, Vi (bOr x1.1 (bShl 1 x1.2))), (0, Vr (6 * r))] rfl (by decide) dX2_sendBeatenDown_36 ?_
        refine q_goto C dX2_sendBeatenDown_39 (tgt := 4) (by decide) ?_
        refine q_sub C [2, 1, 0] [(0, Vr (6 * r)), (1, Vi (bOr x1.1 (bShl 1 x1.2))), (2, Vi (w3 (x1.2 + 1)))] rfl ?_
        have hz := sat_some hz
        exact hz
theorem hdX2_passDay : yX2_passDay.cls = RX2 ∧ yX2_passDay.cls ≠ "java/lang/invoke/MethodHandle" ∧ yX2_passDay.cls ≠ "java/lang/invoke/VarHandle" ∧ (parseMethodDescriptor yX2_passDay.desc).map (fun d => d.parameters.length) = some 0 := by decide +kernel
set_option maxHeartbeats 4000000 in
set_option maxRecDepth 100000 in
theorem c_X2_passDay {l : Launch} {D : va_G} {ad : Nat → Nat} {cI cII cR : ClassId} (μ : Mm) (r : Nat) (hr : r < 29) {v : Mm} (hz : f_X2_passDay μ r = some v) : CT l D vwCl (tyC cI cII cR) 194 ad (EC ad cI cII cR) (ZC ad) yX2_passDay wsX2_passDay ({ frames := 3, cells := 0, slots := 0, locals := 74 } : Room) none [Vr (6 * r)] μ ((0 : Int), v) := by
  refine CT_of [(0, Vr (6 * r))] ZC_st (by decide) rfl rfl (Nat.le_of_ble_eq_true rfl) rfl (fun G C => ?_)
  have i_X2 : ∀ w ∈ u_ws RX2 TX2 11, w ∈ wsX2_passDay := by decide +kernel
  have f_9 : Cond.fieldLink (yX2_passDay).cls 9 "SwanDeeds$River" "crumbs" "[I" ∈ wsX2_passDay := by decide +kernel
  have f_21 : Cond.fieldLink (yX2_passDay).cls 21 "SwanDeeds$River" "places" "[I" ∈ wsX2_passDay := by decide +kernel
  have f_31 : Cond.fieldLink (yX2_passDay).cls 31 "SwanDeeds$River" "swanCount" "I" ∈ wsX2_passDay := by decide +kernel
  have f_34 : Cond.fieldLink (yX2_passDay).cls 34 "SwanDeeds$River" "day" "I" ∈ wsX2_passDay := by decide +kernel
  have f_43 : Cond.fieldLink (yX2_passDay).cls 43 "SwanDeeds$River" "eaters" "I" ∈ wsX2_passDay := by decide +kernel
  have hz := sat_of hz
  unfold f_X2_passDay at hz
  refine q_iconst C dX2_passDay_0 ⟨by decide, by decide⟩ ?_
  refine q_istore_n C [(1, Vi 0), (0, Vr (6 * r))] rfl (by decide) dX2_passDay_1 rfl ?_
  refine q_sub C [1, 0] [(0, Vr (6 * r)), (1, Vi 0)] rfl ?_
  refine loop_go (fun x1 => G x1.2 2 [(0, Vr (6 * r)), (1, Vi (x1.1))] []) (sat_bind2 hz) (fun h => h) (fun x1 hz => ?_)
  refine q_iload_n C 1 rfl dX2_passDay_2 rfl ?_
  refine q_aload_n C 0 rfl dX2_passDay_3 rfl ?_
  refine q_get (tO_X2 hr) C (i := 1) i_X2 rfl rfl (by decide) rfl f_31 dX2_passDay_4 ?_
  refine q_icmp_ge C dX2_passDay_7 (tgt := 60) (by decide) (fun c2 => ?_) (fun c2 => ?_)
  · have hz := sat_t hz c2
    have hz := sat_some hz
    refine q_sub C [0] [(0, Vr (6 * r))] rfl ?_
    refine q_aload_n C 0 rfl dX2_passDay_60 rfl ?_
    obtain ⟨z4, hz4, hz⟩ := sat_bind hz
    refine q_callVv ZC_st C [] [] (c_X2_sendBeatenDown x1.2 r hr hz4) (tO_X2 hr) rfl gX2_passDay_X2_sendBeatenDown rfl ⟨rfl, rfl⟩ hdX2_sendBeatenDown ⟨by decide, by decide⟩ rfl (Nat.le_of_ble_eq_true rfl) dX2_passDay_61 rfl (fun _ => ?_)
    refine q_aload_n C 0 rfl dX2_passDay_64 rfl ?_
    refine q_dup C dX2_passDay_65 rfl ?_
    refine q_get (tO_X2 hr) C (i := 2) i_X2 rfl rfl (by decide) rfl f_34 dX2_passDay_66 ?_
    refine q_iconst C dX2_passDay_69 ⟨by decide, by decide⟩ ?_
    refine q_iadd C dX2_passDay_70 ?_
    obtain ⟨m5, hm5, hz⟩ := sat_bnd hz
    refine q_put (tO_X2 hr) C hm5 (i := 2) i_X2 tyX2_ok nmX2 rfl rfl (by decide) rfl f_34 dX2_passDay_71 ?_
    exact q_vret C dX2_passDay_74 (congrArg (fun q => ((0 : Int), q)) (sat_eq hz))
  · have hz := sat_f hz c2
    refine q_aload_n C 0 rfl dX2_passDay_10 rfl ?_
    refine q_iload_n C 1 rfl dX2_passDay_11 rfl ?_
    obtain ⟨z7, hz7, hz⟩ := sat_bind hz
    refine q_callVi ZC_st C [Vi (x1.1)] [] (c_X2_goalOf x1.2 r hr x1.1 hz7) (tO_X2 hr) rfl gX2_passDay_X2_goalOf rfl ⟨rfl, rfl⟩ hdX2_goalOf ⟨by decide, by decide⟩ rfl (Nat.le_of_ble_eq_true rfl) dX2_passDay_12 rfl (fun _ _ => ?_)
    refine q_istore_n C [(2, Vi z7), (0, Vr (6 * r)), (1, Vi (x1.1))] rfl (by decide) dX2_passDay_15 rfl ?_
    refine q_aload_n C 1 rfl dX2_passDay_16 rfl ?_
    refine q_getR (tO_X2 hr) C (i := 7) i_X2 rfl rfl (by decide) rfl f_21 dX2_passDay_17 ?_
    refine q_iload_n C 2 rfl dX2_passDay_20 rfl ?_
    refine q_iload_n C 0 rfl dX2_passDay_21 rfl ?_
    obtain ⟨c8, hz⟩ := sat_chk hz
    obtain ⟨m9, hm9, hz⟩ := sat_bnd hz
    refine q_iast (tA_places hr) C 0 rfl c8 hm9 dX2_passDay_22 ?_
    refine q_aload_n C 1 rfl dX2_passDay_23 rfl ?_
    refine q_getR (tO_X2 hr) C (i := 4) i_X2 rfl rfl (by decide) rfl f_9 dX2_passDay_24 ?_
    refine q_iload_n C 0 rfl dX2_passDay_27 rfl ?_
    obtain ⟨c10, hz⟩ := sat_chk hz
    refine q_iald (tA_crumbs hr) C 0 rfl c10 dX2_passDay_28 ?_
    refine q_if_le C dX2_passDay_29 (tgt := 54) (by decide) (fun c11 => ?_) (fun c11 => ?_)
    · have hz := sat_t hz c11
      refine q_iinc C 2 rfl [(1, Vi (w3 (x1.1 + 1))), (2, Vi z7), (0, Vr (6 * r))] rfl (by decide) dX2_passDay_54 ?_
      refine q_goto C dX2_passDay_57 (tgt := 2) (by decide) ?_
      refine q_sub C [2, 0] [(0, Vr (6 * r)), (1, Vi (w3 (x1.1 + 1)))] rfl ?_
      have hz := sat_some hz
      exact hz
    · have hz := sat_f hz c11
      refine q_aload_n C 1 rfl dX2_passDay_32 rfl ?_
      refine q_getR (tO_X2 hr) C (i := 4) i_X2 rfl rfl (by decide) rfl f_9 dX2_passDay_33 ?_
      refine q_iload_n C 0 rfl dX2_passDay_36 rfl ?_
      refine q_dup2 C dX2_passDay_37 rfl rfl ?_
      obtain ⟨c12, hz⟩ := sat_chk hz
      refine q_iald (tA_crumbs hr) C 0 rfl c12 dX2_passDay_38 ?_
      refine q_iconst C dX2_passDay_39 ⟨by decide, by decide⟩ ?_
      refine q_isub C dX2_passDay_40 ?_
      obtain ⟨c13, hz⟩ := sat_chk hz
      obtain ⟨m14, hm14, hz⟩ := sat_bnd hz
      refine q_iast (tA_crumbs hr) C 0 rfl c13 hm14 dX2_passDay_41 ?_
      refine q_aload_n C 1 rfl dX2_passDay_42 rfl ?_
      refine q_dup C dX2_passDay_43 rfl ?_
      refine q_get (tO_X2 hr) C (i := 10) i_X2 rfl rfl (by decide) rfl f_43 dX2_passDay_44 ?_
      refine q_iconst C dX2_passDay_47 ⟨by decide, by decide⟩ ?_
      refine q_iload_n C 2 rfl dX2_passDay_48 rfl ?_
      refine q_ishl C dX2_passDay_49 ?_
      refine q_ior C dX2_passDay_50 ?_
      obtain ⟨m15, hm15, hz⟩ := sat_bnd hz
      refine q_put (tO_X2 hr) C hm15 (i := 10) i_X2 tyX2_ok nmX2 rfl rfl (by decide) rfl f_43 dX2_passDay_51 ?_
      refine q_iinc C 2 rfl [(1, Vi (w3 (x1.1 + 1))), (2, Vi z7), (0, Vr (6 * r))] rfl (by decide) dX2_passDay_54 ?_
      refine q_goto C dX2_passDay_57 (tgt := 2) (by decide) ?_
      refine q_sub C [2, 0] [(0, Vr (6 * r)), (1, Vi (w3 (x1.1 + 1)))] rfl ?_
      have hz := sat_some hz
      exact hz
theorem hdX2_emptyLawns : yX2_emptyLawns.cls = RX2 ∧ yX2_emptyLawns.cls ≠ "java/lang/invoke/MethodHandle" ∧ yX2_emptyLawns.cls ≠ "java/lang/invoke/VarHandle" ∧ (parseMethodDescriptor yX2_emptyLawns.desc).map (fun d => d.parameters.length) = some 0 := by decide +kernel
set_option maxHeartbeats 4000000 in
set_option maxRecDepth 100000 in
theorem c_X2_emptyLawns {l : Launch} {D : va_G} {ad : Nat → Nat} {cI cII cR : ClassId} (μ : Mm) (r : Nat) (hr : r < 29) {v : Int} (hz : f_X2_emptyLawns μ r = some v) : CT l D vwCl (tyC cI cII cR) 194 ad (EC ad cI cII cR) (ZC ad) yX2_emptyLawns wsX2_emptyLawns ({ frames := 0, cells := 0, slots := 0, locals := 0 } : Room) (some .int) [Vr (6 * r)] μ (v, μ) := by
  refine CT_of [(0, Vr (6 * r))] ZC_st (by decide) rfl rfl (Nat.le_of_ble_eq_true rfl) rfl (fun G C => ?_)
  have i_X2 : ∀ w ∈ u_ws RX2 TX2 11, w ∈ wsX2_emptyLawns := by decide +kernel
  have f_21 : Cond.fieldLink (yX2_emptyLawns).cls 21 "SwanDeeds$River" "places" "[I" ∈ wsX2_emptyLawns := by decide +kernel
  have f_27 : Cond.fieldLink (yX2_emptyLawns).cls 27 "SwanDeeds$River" "lawnCount" "I" ∈ wsX2_emptyLawns := by decide +kernel
  have f_31 : Cond.fieldLink (yX2_emptyLawns).cls 31 "SwanDeeds$River" "swanCount" "I" ∈ wsX2_emptyLawns := by decide +kernel
  have hz := sat_of hz
  unfold f_X2_emptyLawns at hz
  refine q_iconst C dX2_emptyLawns_0 ⟨by decide, by decide⟩ ?_
  refine q_aload_n C 0 rfl dX2_emptyLawns_1 rfl ?_
  refine q_get (tO_X2 hr) C (i := 0) i_X2 rfl rfl (by decide) rfl f_27 dX2_emptyLawns_2 ?_
  refine q_ishl C dX2_emptyLawns_5 ?_
  refine q_iconst C dX2_emptyLawns_6 ⟨by decide, by decide⟩ ?_
  refine q_isub C dX2_emptyLawns_7 ?_
  obtain ⟨a1, ha1, hz⟩ := sat_bnd hz
  refine q_nmi ha1 ?_
  refine q_istore_n C [(1, Vi a1), (0, Vr (6 * r))] rfl (by decide) dX2_emptyLawns_8 rfl ?_
  refine q_iconst C dX2_emptyLawns_9 ⟨by decide, by decide⟩ ?_
  refine q_istore_n C [(2, Vi 0), (1, Vi a1), (0, Vr (6 * r))] rfl (by decide) dX2_emptyLawns_10 rfl ?_
  refine q_sub C [2, 1, 0] [(0, Vr (6 * r)), (1, Vi a1), (2, Vi 0)] rfl ?_
  refine loop_go (fun x2 => G μ 11 [(0, Vr (6 * r)), (1, Vi (x2.1)), (2, Vi (x2.2))] []) (sat_bind2 hz) (fun h => h) (fun x2 hz => ?_)
  refine q_iload_n C 2 rfl dX2_emptyLawns_11 rfl ?_
  refine q_aload_n C 0 rfl dX2_emptyLawns_12 rfl ?_
  refine q_get (tO_X2 hr) C (i := 1) i_X2 rfl rfl (by decide) rfl f_31 dX2_emptyLawns_13 ?_
  refine q_icmp_ge C dX2_emptyLawns_16 (tgt := 38) (by decide) (fun c3 => ?_) (fun c3 => ?_)
  · have hz := sat_t hz c3
    have hz := sat_some hz
    refine q_sub C [1] [(1, Vi (x2.1))] rfl ?_
    refine q_iload_n C 0 rfl dX2_emptyLawns_38 rfl ?_
    exact q_iret C dX2_emptyLawns_39 (congrArg (fun q => (q, μ)) (sat_eq hz))
  · have hz := sat_f hz c3
    refine q_iload_n C 1 rfl dX2_emptyLawns_19 rfl ?_
    refine q_iconst C dX2_emptyLawns_20 ⟨by decide, by decide⟩ ?_
    refine q_aload_n C 0 rfl dX2_emptyLawns_21 rfl ?_
    refine q_getR (tO_X2 hr) C (i := 7) i_X2 rfl rfl (by decide) rfl f_21 dX2_emptyLawns_22 ?_
    refine q_iload_n C 2 rfl dX2_emptyLawns_25 rfl ?_
    obtain ⟨c4, hz⟩ := sat_chk hz
    refine q_iald (tA_places hr) C 0 rfl c4 dX2_emptyLawns_26 ?_
    refine q_ishl C dX2_emptyLawns_27 ?_
    refine q_iconst C dX2_emptyLawns_28 ⟨by decide, by decide⟩ ?_
    refine q_ixor C dX2_emptyLawns_29 ?_
    refine q_iand C dX2_emptyLawns_30 ?_
    obtain ⟨a5, ha5, hz⟩ := sat_bnd hz
    refine q_nmi ha5 ?_
    refine q_istore_n C [(1, Vi a5), (0, Vr (6 * r)), (2, Vi (x2.2))] rfl (by decide) dX2_emptyLawns_31 rfl ?_
    refine q_iinc C 2 rfl [(2, Vi (w3 (x2.2 + 1))), (1, Vi a5), (0, Vr (6 * r))] rfl (by decide) dX2_emptyLawns_32 ?_
    refine q_goto C dX2_emptyLawns_35 (tgt := 11) (by decide) ?_
    refine q_sub C [2, 1, 0] [(0, Vr (6 * r)), (1, Vi a5), (2, Vi (w3 (x2.2 + 1)))] rfl ?_
    have hz := sat_some hz
    exact hz
theorem hdJ6_bitCount_0f7a4 : yJ6_bitCount_0f7a4.cls ≠ "java/lang/invoke/MethodHandle" ∧ yJ6_bitCount_0f7a4.cls ≠ "java/lang/invoke/VarHandle" ∧ (parseMethodDescriptor yJ6_bitCount_0f7a4.desc).map (fun d => d.parameters.length) = some 1 := by decide +kernel
set_option maxHeartbeats 4000000 in
set_option maxRecDepth 100000 in
theorem c_J6_bitCount_0f7a4 {l : Launch} {D : va_G} {ad : Nat → Nat} {cI cII cR : ClassId} (μ : Mm) (p0 : Int) : CT l D vwCl (tyC cI cII cR) 194 ad (EC ad cI cII cR) (ZC ad) yJ6_bitCount_0f7a4 wsJ6_bitCount_0f7a4 ({ frames := 0, cells := 0, slots := 0, locals := 0 } : Room) (some .int) [Vi p0] μ (f_J6_bitCount_0f7a4 μ p0, μ) := by
  refine CT_of [(0, Vi p0)] ZC_st (by decide) rfl rfl (Nat.le_of_ble_eq_true rfl) rfl (fun G C => ?_)
  generalize hz : f_J6_bitCount_0f7a4 μ p0 = v at C
  unfold f_J6_bitCount_0f7a4 at hz
  refine q_iload_n C 0 rfl dJ6_bitCount_0f7a4_0 rfl ?_
  refine q_iload_n C 0 rfl dJ6_bitCount_0f7a4_1 rfl ?_
  refine q_iconst C dJ6_bitCount_0f7a4_2 ⟨by decide, by decide⟩ ?_
  refine q_iushr C dJ6_bitCount_0f7a4_3 ?_
  refine q_ldcw (v := 1431655765) (x := 1431655765) C (by decide +kernel) dJ6_bitCount_0f7a4_4 ⟨by decide +kernel, by decide, by decide⟩ ?_
  refine q_iand C dJ6_bitCount_0f7a4_7 ?_
  refine q_isub C dJ6_bitCount_0f7a4_8 ?_
  obtain ⟨a1, ha1, hz⟩ := eq_bnd hz
  refine q_nmi ha1 ?_
  refine q_istore_n C [(0, Vi a1)] rfl (by decide) dJ6_bitCount_0f7a4_9 rfl ?_
  refine q_iload_n C 0 rfl dJ6_bitCount_0f7a4_10 rfl ?_
  refine q_ldcw (v := 858993459) (x := 858993459) C (by decide +kernel) dJ6_bitCount_0f7a4_11 ⟨by decide +kernel, by decide, by decide⟩ ?_
  refine q_iand C dJ6_bitCount_0f7a4_14 ?_
  refine q_iload_n C 0 rfl dJ6_bitCount_0f7a4_15 rfl ?_
  refine q_iconst C dJ6_bitCount_0f7a4_16 ⟨by decide, by decide⟩ ?_
  refine q_iushr C dJ6_bitCount_0f7a4_17 ?_
  refine q_ldcw (v := 858993459) (x := 858993459) C (by decide +kernel) dJ6_bitCount_0f7a4_18 ⟨by decide +kernel, by decide, by decide⟩ ?_
  refine q_iand C dJ6_bitCount_0f7a4_21 ?_
  refine q_iadd C dJ6_bitCount_0f7a4_22 ?_
  obtain ⟨a2, ha2, hz⟩ := eq_bnd hz
  refine q_nmi ha2 ?_
  refine q_istore_n C [(0, Vi a2)] rfl (by decide) dJ6_bitCount_0f7a4_23 rfl ?_
  refine q_iload_n C 0 rfl dJ6_bitCount_0f7a4_24 rfl ?_
  refine q_iload_n C 0 rfl dJ6_bitCount_0f7a4_25 rfl ?_
  refine q_iconst C dJ6_bitCount_0f7a4_26 ⟨by decide, by decide⟩ ?_
  refine q_iushr C dJ6_bitCount_0f7a4_27 ?_
  refine q_iadd C dJ6_bitCount_0f7a4_28 ?_
  refine q_ldcw (v := 252645135) (x := 252645135) C (by decide +kernel) dJ6_bitCount_0f7a4_29 ⟨by decide +kernel, by decide, by decide⟩ ?_
  refine q_iand C dJ6_bitCount_0f7a4_32 ?_
  obtain ⟨a3, ha3, hz⟩ := eq_bnd hz
  refine q_nmi ha3 ?_
  refine q_istore_n C [(0, Vi a3)] rfl (by decide) dJ6_bitCount_0f7a4_33 rfl ?_
  refine q_iload_n C 0 rfl dJ6_bitCount_0f7a4_34 rfl ?_
  refine q_iload_n C 0 rfl dJ6_bitCount_0f7a4_35 rfl ?_
  refine q_bipush C dJ6_bitCount_0f7a4_36 ⟨rfl, by decide, by decide⟩ ?_
  refine q_iushr C dJ6_bitCount_0f7a4_38 ?_
  refine q_iadd C dJ6_bitCount_0f7a4_39 ?_
  refine q_istore_n C [(0, Vi (w3 (a3 + (bUsh a3 8))))] rfl (by decide) dJ6_bitCount_0f7a4_40 rfl ?_
  refine q_iload_n C 0 rfl dJ6_bitCount_0f7a4_41 rfl ?_
  refine q_iload_n C 0 rfl dJ6_bitCount_0f7a4_42 rfl ?_
  refine q_bipush C dJ6_bitCount_0f7a4_43 ⟨rfl, by decide, by decide⟩ ?_
  refine q_iushr C dJ6_bitCount_0f7a4_45 ?_
  refine q_iadd C dJ6_bitCount_0f7a4_46 ?_
  obtain ⟨a4, ha4, hz⟩ := eq_bnd hz
  refine q_nmi ha4 ?_
  refine q_istore_n C [(0, Vi a4)] rfl (by decide) dJ6_bitCount_0f7a4_47 rfl ?_
  refine q_iload_n C 0 rfl dJ6_bitCount_0f7a4_48 rfl ?_
  refine q_bipush C dJ6_bitCount_0f7a4_49 ⟨rfl, by decide, by decide⟩ ?_
  refine q_iand C dJ6_bitCount_0f7a4_51 ?_
  exact q_iret C dJ6_bitCount_0f7a4_52 (congrArg (fun q => (q, μ)) hz)
theorem hdX2_ownerCount : yX2_ownerCount.cls = RX2 ∧ yX2_ownerCount.cls ≠ "java/lang/invoke/MethodHandle" ∧ yX2_ownerCount.cls ≠ "java/lang/invoke/VarHandle" ∧ (parseMethodDescriptor yX2_ownerCount.desc).map (fun d => d.parameters.length) = some 0 := by decide +kernel
set_option maxHeartbeats 4000000 in
set_option maxRecDepth 100000 in
theorem c_X2_ownerCount {l : Launch} {D : va_G} {ad : Nat → Nat} {cI cII cR : ClassId} (μ : Mm) (r : Nat) (hr : r < 29) {v : Int} (hz : f_X2_ownerCount μ r = some v) : CT l D vwCl (tyC cI cII cR) 194 ad (EC ad cI cII cR) (ZC ad) yX2_ownerCount wsX2_ownerCount ({ frames := 1, cells := 0, slots := 0, locals := 22 } : Room) (some .int) [Vr (6 * r)] μ (v, μ) := by
  refine CT_of [(0, Vr (6 * r))] ZC_st (by decide) rfl rfl (Nat.le_of_ble_eq_true rfl) rfl (fun G C => ?_)
  have i_X2 : ∀ w ∈ u_ws RX2 TX2 11, w ∈ wsX2_ownerCount := by decide +kernel
  have f_27 : Cond.fieldLink (yX2_ownerCount).cls 27 "SwanDeeds$River" "lawnCount" "I" ∈ wsX2_ownerCount := by decide +kernel
  have hz := sat_of hz
  unfold f_X2_ownerCount at hz
  refine q_aload_n C 0 rfl dX2_ownerCount_0 rfl ?_
  refine q_get (tO_X2 hr) C (i := 0) i_X2 rfl rfl (by decide) rfl f_27 dX2_ownerCount_1 ?_
  refine q_aload_n C 0 rfl dX2_ownerCount_4 rfl ?_
  obtain ⟨z2, hz2, hz⟩ := sat_bind hz
  refine q_callVi ZC_st C [] [Vi (μ r 24)] (c_X2_emptyLawns μ r hr hz2) (tO_X2 hr) rfl gX2_ownerCount_X2_emptyLawns rfl ⟨rfl, rfl⟩ hdX2_emptyLawns ⟨by decide, by decide⟩ rfl (Nat.le_of_ble_eq_true rfl) dX2_ownerCount_5 rfl (fun _ _ => ?_)
  refine q_callSi ZC_st C [Vi z2] [Vi (μ r 24)] (c_J6_bitCount_0f7a4 μ z2) gX2_ownerCount_J6_bitCount_0f7a4 rfl ⟨rfl, rfl⟩ hdJ6_bitCount_0f7a4 ⟨by decide, by decide⟩ rfl (Nat.le_of_ble_eq_true rfl) dX2_ownerCount_8 rfl (fun _ _ => ?_)
  refine q_isub C dX2_ownerCount_11 ?_
  exact q_iret C dX2_ownerCount_12 (congrArg (fun q => (q, μ)) (sat_eq hz))
theorem hdX5_days : yX5_days.cls = RX5 ∧ yX5_days.cls ≠ "java/lang/invoke/MethodHandle" ∧ yX5_days.cls ≠ "java/lang/invoke/VarHandle" ∧ (parseMethodDescriptor yX5_days.desc).map (fun d => d.parameters.length) = some 1 := by decide +kernel
set_option maxHeartbeats 4000000 in
set_option maxRecDepth 100000 in
theorem c_X5_days {l : Launch} {D : va_G} {ad : Nat → Nat} {cI cII cR : ClassId} (μ : Mm) (p1 : Int) {v : Int × Mm} (hz : f_X5_days μ p1 = some v) : CT l D vwCl (tyC cI cII cR) 194 ad (EC ad cI cII cR) (ZC ad) yX5_days wsX5_days ({ frames := 4, cells := 0, slots := 0, locals := 96 } : Room) (some .int) [Vr 174, Vi p1] μ (v.1, v.2) := by
  refine CT_of [(0, Vr 174), (1, Vi p1)] ZC_st (by decide) rfl rfl (Nat.le_of_ble_eq_true rfl) rfl (fun G C => ?_)
  have i_X2 : ∀ w ∈ u_ws RX2 TX2 11, w ∈ wsX5_days := by decide +kernel
  have i_X5 : ∀ w ∈ u_ws RX5 TX5 9, w ∈ wsX5_days := by decide +kernel
  have f_26 : Cond.fieldLink (yX5_days).cls 26 "SwanDeeds" "acts" "LSwanDeeds$Acts;" ∈ wsX5_days := by decide +kernel
  have f_40 : Cond.fieldLink (yX5_days).cls 40 "SwanDeeds" "now" "LSwanDeeds$River;" ∈ wsX5_days := by decide +kernel
  have f_134 : Cond.fieldLink (yX5_days).cls 134 "SwanDeeds$River" "day" "I" ∈ wsX5_days := by decide +kernel
  have hz := sat_of hz
  unfold f_X5_days at hz
  refine q_aload_n C 0 rfl dX5_days_0 rfl ?_
  refine q_callVz ZC_st C [] [] (c_X5_hasRiver μ) tO_X5 rfl gX5_days_X5_hasRiver rfl ⟨rfl, rfl⟩ hdX5_hasRiver ⟨by decide, by decide⟩ rfl (Nat.le_of_ble_eq_true rfl) dX5_days_1 rfl (fun hb1 _ => ?_)
  refine q_if_ne C dX5_days_4 (tgt := 10) (by decide) (fun c2 => ?_) (fun c2 => ?_)
  · have hz := sat_f hz c2
    refine q_iload_n C 1 rfl dX5_days_10 rfl ?_
    refine q_iconst C dX5_days_11 ⟨by decide, by decide⟩ ?_
    refine q_bipush C dX5_days_12 ⟨rfl, by decide, by decide⟩ ?_
    refine q_callSz ZC_st C [Vi p1, Vi 1, Vi 24] [] (c_X5_within μ p1 1 24) gX5_days_X5_within rfl ⟨rfl, rfl⟩ hdX5_within ⟨by decide, by decide⟩ rfl (Nat.le_of_ble_eq_true rfl) dX5_days_14 rfl (fun hb3 _ => ?_)
    refine q_if_ne C dX5_days_17 (tgt := 23) (by decide) (fun c4 => ?_) (fun c4 => ?_)
    · have hz := sat_f hz c4
      refine q_aload_n C 0 rfl dX5_days_23 rfl ?_
      refine q_getR tO_X5 C (i := 4) i_X5 rfl rfl (by decide) rfl f_40 dX5_days_24 ?_
      refine q_get (tO_X2 (by decide)) C (i := 2) i_X2 rfl rfl (by decide) rfl f_134 dX5_days_27 ?_
      refine q_iload_n C 1 rfl dX5_days_30 rfl ?_
      refine q_iadd C dX5_days_31 ?_
      refine q_sipush C dX5_days_32 ⟨rfl, by decide, by decide⟩ ?_
      refine q_icmp_le C dX5_days_35 (tgt := 41) (by decide) (fun c5 => ?_) (fun c5 => ?_)
      · have hz := sat_t hz c5
        refine q_iconst C dX5_days_41 ⟨by decide, by decide⟩ ?_
        refine q_istore_n C [(2, Vi 0), (0, Vr 174), (1, Vi p1)] rfl (by decide) dX5_days_42 rfl ?_
        refine q_sub C [1, 2, 0] [(0, Vr 174), (1, Vi p1), (2, Vi 0)] rfl ?_
        refine loop_go (fun x6 => G x6.2 43 [(0, Vr 174), (1, Vi p1), (2, Vi (x6.1))] []) (sat_bind2 hz) (fun h => h) (fun x6 hz => ?_)
        refine q_iload_n C 2 rfl dX5_days_43 rfl ?_
        refine q_iload_n C 1 rfl dX5_days_44 rfl ?_
        refine q_icmp_ge C dX5_days_45 (tgt := 72) (by decide) (fun c7 => ?_) (fun c7 => ?_)
        · have hz := sat_t hz c7
          have hz := sat_some hz
          refine q_sub C [0] [(0, Vr 174)] rfl ?_
          refine q_aload_n C 0 rfl dX5_days_72 rfl ?_
          refine q_getR tO_X5 C (i := 4) i_X5 rfl rfl (by decide) rfl f_40 dX5_days_73 ?_
          obtain ⟨z9, hz9, hz⟩ := sat_bind hz
          refine q_callVi ZC_st C [] [] (c_X2_ownerCount x6.2 0 (by decide) hz9) (tO_X2 (by decide)) rfl gX5_days_X2_ownerCount rfl ⟨rfl, rfl⟩ hdX2_ownerCount ⟨by decide, by decide⟩ rfl (Nat.le_of_ble_eq_true rfl) dX5_days_76 rfl (fun _ _ => ?_)
          exact q_iret C dX5_days_79 (sat_eq hz)
        · have hz := sat_f hz c7
          refine q_aload_n C 0 rfl dX5_days_48 rfl ?_
          refine q_getR tO_X5 C (i := 2) i_X5 rfl rfl (by decide) rfl f_26 dX5_days_49 ?_
          refine q_aload_n C 0 rfl dX5_days_52 rfl ?_
          refine q_getR tO_X5 C (i := 4) i_X5 rfl rfl (by decide) rfl f_40 dX5_days_53 ?_
          obtain ⟨z11, hz11, hz⟩ := sat_bind hz
          refine q_callVv ZC_st C [Vr (6 * 0)] [] (c_X0_keep x6.2 0 (by decide) hz11) tO_X0 rfl gX5_days_X0_keep rfl ⟨rfl, rfl⟩ hdX0_keep ⟨by decide, by decide⟩ rfl (Nat.le_of_ble_eq_true rfl) dX5_days_56 rfl (fun _ => ?_)
          refine q_aload_n C 0 rfl dX5_days_59 rfl ?_
          refine q_getR tO_X5 C (i := 4) i_X5 rfl rfl (by decide) rfl f_40 dX5_days_60 ?_
          obtain ⟨z13, hz13, hz⟩ := sat_bind hz
          refine q_callVv ZC_st C [] [] (c_X2_passDay z11 0 (by decide) hz13) (tO_X2 (by decide)) rfl gX5_days_X2_passDay rfl ⟨rfl, rfl⟩ hdX2_passDay ⟨by decide, by decide⟩ rfl (Nat.le_of_ble_eq_true rfl) dX5_days_63 rfl (fun _ => ?_)
          refine q_iinc C 2 rfl [(2, Vi (w3 (x6.1 + 1))), (0, Vr 174), (1, Vi p1)] rfl (by decide) dX5_days_66 ?_
          refine q_goto C dX5_days_69 (tgt := 43) (by decide) ?_
          refine q_sub C [1, 2, 0] [(0, Vr 174), (1, Vi p1), (2, Vi (w3 (x6.1 + 1)))] rfl ?_
          have hz := sat_some hz
          exact hz
      · have hz := sat_f hz c5
        refine q_ldc (v := (-1000003)) (x := (-1000003)) C (by decide +kernel) dX5_days_38 ⟨by decide +kernel, by decide, by decide⟩ ?_
        exact q_iret C dX5_days_40 (sat_eq hz)
    · have hz := sat_t hz c4
      refine q_ldc (v := (-1000001)) (x := (-1000001)) C (by decide +kernel) dX5_days_20 ⟨by decide +kernel, by decide, by decide⟩ ?_
      exact q_iret C dX5_days_22 (sat_eq hz)
  · have hz := sat_t hz c2
    refine q_ldc (v := (-1000002)) (x := (-1000002)) C (by decide +kernel) dX5_days_7 ⟨by decide +kernel, by decide, by decide⟩ ?_
    exact q_iret C dX5_days_9 (sat_eq hz)
