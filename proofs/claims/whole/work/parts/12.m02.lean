theorem hdX6_swimsTo : yX6_swimsTo.cls = RX6 ∧ yX6_swimsTo.cls ≠ "java/lang/invoke/MethodHandle" ∧ yX6_swimsTo.cls ≠ "java/lang/invoke/VarHandle" ∧ (parseMethodDescriptor yX6_swimsTo.desc).map (fun d => d.parameters.length) = some 2 := by decide +kernel
set_option maxHeartbeats 4000000 in
set_option maxRecDepth 100000 in
theorem c_X6_swimsTo {l : Launch} {D : va_G} {ad : Nat → Nat} {cI cZ : ClassId} (μ : Mm) (p1 p2 : Int) {v : Int} (hz : f_X6_swimsTo μ p1 p2 = some v) : CT l D vwCl (tyM cI cZ) 10 ad (EM ad cI cZ) (fun _ => True) yX6_swimsTo wsX6_swimsTo ({ frames := 3, cells := 0, slots := 0, locals := 79 } : Room) (some .int) [Vr 0, Vi p1, Vi p2] μ (v, μ) := by
  refine CT_of [(0, Vr 0), (1, Vi p1), (2, Vi p2)] stZ_t (by decide) rfl rfl (Nat.le_of_ble_eq_true rfl) rfl (fun G C => ?_)
  have i_X6 : ∀ w ∈ u_ws RX6 TX6 19, w ∈ wsX6_swimsTo := by decide +kernel
  have f_7 : Cond.fieldLink (yX6_swimsTo).cls 7 "SwanDeedsModel" "w" "[I" ∈ wsX6_swimsTo := by decide +kernel
  have hz := sat_of hz
  unfold f_X6_swimsTo at hz
  refine q_aload_n C 0 rfl dX6_swimsTo_0 rfl ?_
  refine q_getR tO_X6 C (i := 0) i_X6 rfl rfl (by decide) rfl f_7 dX6_swimsTo_1 ?_
  refine q_iload_n C 1 rfl dX6_swimsTo_4 rfl ?_
  refine q_bipush C dX6_swimsTo_5 ⟨rfl, by decide, by decide⟩ ?_
  refine q_iadd C dX6_swimsTo_7 ?_
  refine q_iload_n C 2 rfl dX6_swimsTo_8 rfl ?_
  refine q_iadd C dX6_swimsTo_9 ?_
  obtain ⟨c1, hz⟩ := sat_chk hz
  refine q_wald C c1 dX6_swimsTo_10 ?_
  obtain ⟨a2, ha2, hz⟩ := sat_bnd hz
  refine q_nmi ha2 ?_
  refine q_istore_n C [(3, Vi a2), (0, Vr 0), (1, Vi p1), (2, Vi p2)] rfl (by decide) dX6_swimsTo_11 rfl ?_
  refine q_aload_n C 1 rfl dX6_swimsTo_12 rfl ?_
  refine q_getR tO_X6 C (i := 0) i_X6 rfl rfl (by decide) rfl f_7 dX6_swimsTo_13 ?_
  refine q_iload_n C 2 rfl dX6_swimsTo_16 rfl ?_
  refine q_bipush C dX6_swimsTo_17 ⟨rfl, by decide, by decide⟩ ?_
  refine q_iadd C dX6_swimsTo_19 ?_
  refine q_iload_n C 3 rfl dX6_swimsTo_20 rfl ?_
  refine q_iadd C dX6_swimsTo_21 ?_
  obtain ⟨c3, hz⟩ := sat_chk hz
  refine q_wald C c3 dX6_swimsTo_22 ?_
  refine sat_ite hz (fun c4 hz => ?_) (fun c4 hz => ?_)
  · have c4 : rdW μ (w3 ((w3 (p1 + 26)) + p2)) = 3 := c4
    refine q_tab_in C dX6_swimsTo_23 (by omega) (by omega) (off := 25) (by rw [c4]; rfl) (tgt := 48) (by decide) ?_
    refine q_aload_n C 1 rfl dX6_swimsTo_48 rfl ?_
    refine q_iload_n C 2 rfl dX6_swimsTo_49 rfl ?_
    refine q_iload_n C 3 rfl dX6_swimsTo_50 rfl ?_
    refine q_iconst C dX6_swimsTo_51 ⟨by decide, by decide⟩ ?_
    obtain ⟨z6, hz6, hz⟩ := sat_bind hz
    refine q_callVi stZ_t C [Vi p1, Vi p2, Vi 1] [] (c_X6_towards μ p1 p2 1 hz6) tO_X6 rfl gX6_swimsTo_X6_towards rfl ⟨rfl, rfl⟩ hdX6_towards ⟨by decide, by decide⟩ rfl (Nat.le_of_ble_eq_true rfl) dX6_swimsTo_52 rfl (fun _ _ => ?_)
    exact q_iret C dX6_swimsTo_55 (congrArg (fun q => (q, μ)) (sat_eq hz))
  · have c4 : ¬ rdW μ (w3 ((w3 (p1 + 26)) + p2)) = 3 := c4
    refine sat_ite hz (fun c7 hz => ?_) (fun c7 hz => ?_)
    · have c7 : rdW μ (w3 ((w3 (p1 + 26)) + p2)) = 4 := c7
      refine q_tab_in C dX6_swimsTo_23 (by omega) (by omega) (off := 33) (by rw [c7]; rfl) (tgt := 56) (by decide) ?_
      refine q_aload_n C 1 rfl dX6_swimsTo_56 rfl ?_
      refine q_getR tO_X6 C (i := 0) i_X6 rfl rfl (by decide) rfl f_7 dX6_swimsTo_57 ?_
      refine q_iload_n C 2 rfl dX6_swimsTo_60 rfl ?_
      refine q_iconst C dX6_swimsTo_61 ⟨by decide, by decide⟩ ?_
      refine q_iadd C dX6_swimsTo_62 ?_
      refine q_iload_n C 0 rfl dX6_swimsTo_63 rfl ?_
      refine q_iadd C dX6_swimsTo_64 ?_
      obtain ⟨c8, hz⟩ := sat_chk hz
      refine q_wald C c8 dX6_swimsTo_65 ?_
      refine q_if_ne C dX6_swimsTo_66 (tgt := 85) (by decide) (fun c9 => ?_) (fun c9 => ?_)
      · have hz := sat_f hz c9
        refine q_iload_n C 0 rfl dX6_swimsTo_85 rfl ?_
        exact q_iret C dX6_swimsTo_86 (congrArg (fun q => (q, μ)) (sat_eq hz))
      · have hz := sat_t hz c9
        refine q_aload_n C 1 rfl dX6_swimsTo_69 rfl ?_
        refine q_iload_n C 2 rfl dX6_swimsTo_70 rfl ?_
        refine q_iload_n C 0 rfl dX6_swimsTo_71 rfl ?_
        refine q_iconst C dX6_swimsTo_72 ⟨by decide, by decide⟩ ?_
        obtain ⟨z11, hz11, hz⟩ := sat_bind hz
        refine q_callVz stZ_t C [Vi p1, Vi a2, Vi (-1)] [] (c_X6_isOpen μ p1 a2 (-1) hz11) tO_X6 rfl gX6_swimsTo_X6_isOpen rfl ⟨rfl, rfl⟩ hdX6_isOpen ⟨by decide, by decide⟩ rfl (Nat.le_of_ble_eq_true rfl) dX6_swimsTo_73 rfl (fun hb10 _ => ?_)
        refine q_if_eq C dX6_swimsTo_76 (tgt := 85) (by decide) (fun c12 => ?_) (fun c12 => ?_)
        · have hz := sat_t hz c12
          refine q_iload_n C 0 rfl dX6_swimsTo_85 rfl ?_
          exact q_iret C dX6_swimsTo_86 (congrArg (fun q => (q, μ)) (sat_eq hz))
        · have hz := sat_f hz c12
          refine q_iload_n C 0 rfl dX6_swimsTo_79 rfl ?_
          refine q_iconst C dX6_swimsTo_80 ⟨by decide, by decide⟩ ?_
          refine q_isub C dX6_swimsTo_81 ?_
          refine q_goto C dX6_swimsTo_82 (tgt := 86) (by decide) ?_
          exact q_iret C dX6_swimsTo_86 (congrArg (fun q => (q, μ)) (sat_eq hz))
    · have c7 : ¬ rdW μ (w3 ((w3 (p1 + 26)) + p2)) = 4 := c7
      refine sat_ite hz (fun c13 hz => ?_) (fun c13 hz => ?_)
      · have c13 : rdW μ (w3 ((w3 (p1 + 26)) + p2)) = 5 := c13
        refine q_tab_in C dX6_swimsTo_23 (by omega) (by omega) (off := 64) (by rw [c13]; rfl) (tgt := 87) (by decide) ?_
        refine q_aload_n C 1 rfl dX6_swimsTo_87 rfl ?_
        refine q_getR tO_X6 C (i := 0) i_X6 rfl rfl (by decide) rfl f_7 dX6_swimsTo_88 ?_
        refine q_iload_n C 2 rfl dX6_swimsTo_91 rfl ?_
        refine q_iconst C dX6_swimsTo_92 ⟨by decide, by decide⟩ ?_
        refine q_iadd C dX6_swimsTo_93 ?_
        refine q_iload_n C 0 rfl dX6_swimsTo_94 rfl ?_
        refine q_iadd C dX6_swimsTo_95 ?_
        obtain ⟨c14, hz⟩ := sat_chk hz
        refine q_wald C c14 dX6_swimsTo_96 ?_
        refine q_if_ne C dX6_swimsTo_97 (tgt := 116) (by decide) (fun c15 => ?_) (fun c15 => ?_)
        · have hz := sat_f hz c15
          refine q_iload_n C 0 rfl dX6_swimsTo_116 rfl ?_
          exact q_iret C dX6_swimsTo_117 (congrArg (fun q => (q, μ)) (sat_eq hz))
        · have hz := sat_t hz c15
          refine q_aload_n C 1 rfl dX6_swimsTo_100 rfl ?_
          refine q_iload_n C 2 rfl dX6_swimsTo_101 rfl ?_
          refine q_iload_n C 0 rfl dX6_swimsTo_102 rfl ?_
          refine q_iconst C dX6_swimsTo_103 ⟨by decide, by decide⟩ ?_
          obtain ⟨z17, hz17, hz⟩ := sat_bind hz
          refine q_callVz stZ_t C [Vi p1, Vi a2, Vi 1] [] (c_X6_isOpen μ p1 a2 1 hz17) tO_X6 rfl gX6_swimsTo_X6_isOpen rfl ⟨rfl, rfl⟩ hdX6_isOpen ⟨by decide, by decide⟩ rfl (Nat.le_of_ble_eq_true rfl) dX6_swimsTo_104 rfl (fun hb16 _ => ?_)
          refine q_if_eq C dX6_swimsTo_107 (tgt := 116) (by decide) (fun c18 => ?_) (fun c18 => ?_)
          · have hz := sat_t hz c18
            refine q_iload_n C 0 rfl dX6_swimsTo_116 rfl ?_
            exact q_iret C dX6_swimsTo_117 (congrArg (fun q => (q, μ)) (sat_eq hz))
          · have hz := sat_f hz c18
            refine q_iload_n C 0 rfl dX6_swimsTo_110 rfl ?_
            refine q_iconst C dX6_swimsTo_111 ⟨by decide, by decide⟩ ?_
            refine q_iadd C dX6_swimsTo_112 ?_
            refine q_goto C dX6_swimsTo_113 (tgt := 117) (by decide) ?_
            exact q_iret C dX6_swimsTo_117 (congrArg (fun q => (q, μ)) (sat_eq hz))
      · have c13 : ¬ rdW μ (w3 ((w3 (p1 + 26)) + p2)) = 5 := c13
        refine q_tab_out C dX6_swimsTo_23 (by omega) (tgt := 118) (by decide) ?_
        refine q_aload_n C 1 rfl dX6_swimsTo_118 rfl ?_
        refine q_iload_n C 2 rfl dX6_swimsTo_119 rfl ?_
        refine q_iload_n C 3 rfl dX6_swimsTo_120 rfl ?_
        refine q_iconst C dX6_swimsTo_121 ⟨by decide, by decide⟩ ?_
        obtain ⟨z20, hz20, hz⟩ := sat_bind hz
        refine q_callVi stZ_t C [Vi p1, Vi p2, Vi 2] [] (c_X6_towards μ p1 p2 2 hz20) tO_X6 rfl gX6_swimsTo_X6_towards rfl ⟨rfl, rfl⟩ hdX6_towards ⟨by decide, by decide⟩ rfl (Nat.le_of_ble_eq_true rfl) dX6_swimsTo_122 rfl (fun _ _ => ?_)
        exact q_iret C dX6_swimsTo_125 (congrArg (fun q => (q, μ)) (sat_eq hz))
theorem hdX6_fightsOn : yX6_fightsOn.cls = RX6 ∧ yX6_fightsOn.cls ≠ "java/lang/invoke/MethodHandle" ∧ yX6_fightsOn.cls ≠ "java/lang/invoke/VarHandle" ∧ (parseMethodDescriptor yX6_fightsOn.desc).map (fun d => d.parameters.length) = some 2 := by decide +kernel
set_option maxHeartbeats 4000000 in
set_option maxRecDepth 100000 in
theorem c_X6_fightsOn {l : Launch} {D : va_G} {ad : Nat → Nat} {cI cZ : ClassId} (μ : Mm) (p1 p2 : Int) {v : Mm} (hz : f_X6_fightsOn μ p1 p2 = some v) : CT l D vwCl (tyM cI cZ) 10 ad (EM ad cI cZ) (fun _ => True) yX6_fightsOn wsX6_fightsOn ({ frames := 2, cells := 0, slots := 0, locals := 50 } : Room) none [Vr 0, Vi p1, Vi p2] μ ((0 : Int), v) := by
  refine CT_of [(0, Vr 0), (1, Vi p1), (2, Vi p2)] stZ_t (by decide) rfl rfl (Nat.le_of_ble_eq_true rfl) rfl (fun G C => ?_)
  have i_X6 : ∀ w ∈ u_ws RX6 TX6 19, w ∈ wsX6_fightsOn := by decide +kernel
  have f_7 : Cond.fieldLink (yX6_fightsOn).cls 7 "SwanDeedsModel" "w" "[I" ∈ wsX6_fightsOn := by decide +kernel
  have f_133 : Cond.fieldLink (yX6_fightsOn).cls 133 "SwanDeedsModel" "lost" "I" ∈ wsX6_fightsOn := by decide +kernel
  have hz := sat_of hz
  unfold f_X6_fightsOn at hz
  refine q_iconst C dX6_fightsOn_0 ⟨by decide, by decide⟩ ?_
  refine q_istore_n C [(3, Vi (-1)), (0, Vr 0), (1, Vi p1), (2, Vi p2)] rfl (by decide) dX6_fightsOn_1 rfl ?_
  refine q_iconst C dX6_fightsOn_2 ⟨by decide, by decide⟩ ?_
  refine q_istore C [(4, Vi 0), (3, Vi (-1)), (0, Vr 0), (1, Vi p1), (2, Vi p2)] rfl (by decide) dX6_fightsOn_3 ?_
  refine q_sub C [2, 3, 4, 1, 0] [(0, Vr 0), (1, Vi p1), (2, Vi p2), (3, Vi (-1)), (4, Vi 0)] rfl ?_
  refine loop_go (fun x1 => G μ 5 [(0, Vr 0), (1, Vi p1), (2, Vi p2), (3, Vi (x1.1)), (4, Vi (x1.2))] []) (sat_bind2 hz) (fun h => h) (fun x1 hz => ?_)
  refine q_iload C 4 rfl dX6_fightsOn_5 ?_
  refine q_aload_n C 0 rfl dX6_fightsOn_7 rfl ?_
  refine q_getR tO_X6 C (i := 0) i_X6 rfl rfl (by decide) rfl f_7 dX6_fightsOn_8 ?_
  refine q_iload_n C 1 rfl dX6_fightsOn_11 rfl ?_
  refine q_bipush C dX6_fightsOn_12 ⟨rfl, by decide, by decide⟩ ?_
  refine q_iadd C dX6_fightsOn_14 ?_
  obtain ⟨c2, hz⟩ := sat_chk hz
  refine q_wald C c2 dX6_fightsOn_15 ?_
  refine q_icmp_ge C dX6_fightsOn_16 (tgt := 106) (by decide) (fun c3 => ?_) (fun c3 => ?_)
  · have hz := sat_t hz c3
    have hz := sat_some hz
    refine q_sub C [0, 1, 2, 3] [(0, Vr 0), (1, Vi p1), (2, Vi p2), (3, Vi (x1.1))] rfl ?_
    refine q_iconst C dX6_fightsOn_106 ⟨by decide, by decide⟩ ?_
    refine q_istore C [(4, Vi 0), (0, Vr 0), (1, Vi p1), (2, Vi p2), (3, Vi (x1.1))] rfl (by decide) dX6_fightsOn_107 ?_
    refine q_sub C [1, 2, 3, 4, 0] [(0, Vr 0), (1, Vi p1), (2, Vi p2), (3, Vi (x1.1)), (4, Vi 0)] rfl ?_
    refine loop_go (fun x4 => G x4.2 109 [(0, Vr 0), (1, Vi p1), (2, Vi p2), (3, Vi (x1.1)), (4, Vi (x4.1))] []) (sat_bind2 hz) (fun h => h) (fun x4 hz => ?_)
    refine q_iload C 4 rfl dX6_fightsOn_109 ?_
    refine q_aload_n C 0 rfl dX6_fightsOn_111 rfl ?_
    refine q_getR tO_X6 C (i := 0) i_X6 rfl rfl (by decide) rfl f_7 dX6_fightsOn_112 ?_
    refine q_iload_n C 1 rfl dX6_fightsOn_115 rfl ?_
    refine q_bipush C dX6_fightsOn_116 ⟨rfl, by decide, by decide⟩ ?_
    refine q_iadd C dX6_fightsOn_118 ?_
    obtain ⟨c5, hz⟩ := sat_chk hz
    refine q_wald C c5 dX6_fightsOn_119 ?_
    refine q_icmp_ge C dX6_fightsOn_120 (tgt := 207) (by decide) (fun c6 => ?_) (fun c6 => ?_)
    · have hz := sat_t hz c6
      have hz := sat_some hz
      refine q_sub C [] [] rfl ?_
      exact q_vret C dX6_fightsOn_207 (congrArg (fun q => ((0 : Int), q)) (sat_eq hz))
    · have hz := sat_f hz c6
      refine q_iload C 4 rfl dX6_fightsOn_123 ?_
      refine q_iload_n C 3 rfl dX6_fightsOn_125 rfl ?_
      refine q_icmp_eq C dX6_fightsOn_126 (tgt := 201) (by decide) (fun c7 => ?_) (fun c7 => ?_)
      · have hz := sat_t hz c7
        refine q_iinc C 4 rfl [(4, Vi (w3 (x4.1 + 1))), (0, Vr 0), (1, Vi p1), (2, Vi p2), (3, Vi (x1.1))] rfl (by decide) dX6_fightsOn_201 ?_
        refine q_goto C dX6_fightsOn_204 (tgt := 109) (by decide) ?_
        refine q_sub C [1, 2, 3, 4, 0] [(0, Vr 0), (1, Vi p1), (2, Vi p2), (3, Vi (x1.1)), (4, Vi (w3 (x4.1 + 1)))] rfl ?_
        have hz := sat_some hz
        exact hz
      · have hz := sat_f hz c7
        refine q_aload_n C 0 rfl dX6_fightsOn_129 rfl ?_
        refine q_getR tO_X6 C (i := 0) i_X6 rfl rfl (by decide) rfl f_7 dX6_fightsOn_130 ?_
        refine q_iload_n C 1 rfl dX6_fightsOn_133 rfl ?_
        refine q_bipush C dX6_fightsOn_134 ⟨rfl, by decide, by decide⟩ ?_
        refine q_iadd C dX6_fightsOn_136 ?_
        refine q_iload C 4 rfl dX6_fightsOn_137 ?_
        refine q_iadd C dX6_fightsOn_139 ?_
        obtain ⟨c8, hz⟩ := sat_chk hz
        refine q_wald C c8 dX6_fightsOn_140 ?_
        refine q_iconst C dX6_fightsOn_141 ⟨by decide, by decide⟩ ?_
        refine q_icmp_ne C dX6_fightsOn_142 (tgt := 201) (by decide) (fun c9 => ?_) (fun c9 => ?_)
        · have hz := sat_f hz c9
          refine q_iinc C 4 rfl [(4, Vi (w3 (x4.1 + 1))), (0, Vr 0), (1, Vi p1), (2, Vi p2), (3, Vi (x1.1))] rfl (by decide) dX6_fightsOn_201 ?_
          refine q_goto C dX6_fightsOn_204 (tgt := 109) (by decide) ?_
          refine q_sub C [1, 2, 3, 4, 0] [(0, Vr 0), (1, Vi p1), (2, Vi p2), (3, Vi (x1.1)), (4, Vi (w3 (x4.1 + 1)))] rfl ?_
          have hz := sat_some hz
          exact hz
        · have hz := sat_t hz c9
          refine q_aload_n C 0 rfl dX6_fightsOn_145 rfl ?_
          refine q_getR tO_X6 C (i := 0) i_X6 rfl rfl (by decide) rfl f_7 dX6_fightsOn_146 ?_
          refine q_iload_n C 1 rfl dX6_fightsOn_149 rfl ?_
          refine q_bipush C dX6_fightsOn_150 ⟨rfl, by decide, by decide⟩ ?_
          refine q_iadd C dX6_fightsOn_152 ?_
          refine q_iload C 4 rfl dX6_fightsOn_153 ?_
          refine q_iadd C dX6_fightsOn_155 ?_
          obtain ⟨c10, hz⟩ := sat_chk hz
          refine q_wald C c10 dX6_fightsOn_156 ?_
          refine q_iload_n C 2 rfl dX6_fightsOn_157 rfl ?_
          refine q_icmp_ne C dX6_fightsOn_158 (tgt := 201) (by decide) (fun c11 => ?_) (fun c11 => ?_)
          · have hz := sat_f hz c11
            refine q_iinc C 4 rfl [(4, Vi (w3 (x4.1 + 1))), (0, Vr 0), (1, Vi p1), (2, Vi p2), (3, Vi (x1.1))] rfl (by decide) dX6_fightsOn_201 ?_
            refine q_goto C dX6_fightsOn_204 (tgt := 109) (by decide) ?_
            refine q_sub C [1, 2, 3, 4, 0] [(0, Vr 0), (1, Vi p1), (2, Vi p2), (3, Vi (x1.1)), (4, Vi (w3 (x4.1 + 1)))] rfl ?_
            have hz := sat_some hz
            exact hz
          · have hz := sat_t hz c11
            refine q_aload_n C 0 rfl dX6_fightsOn_161 rfl ?_
            refine q_dup C dX6_fightsOn_162 rfl ?_
            refine q_get tO_X6 C (i := 18) i_X6 rfl rfl (by decide) rfl f_133 dX6_fightsOn_163 ?_
            refine q_iconst C dX6_fightsOn_166 ⟨by decide, by decide⟩ ?_
            refine q_iadd C dX6_fightsOn_167 ?_
            obtain ⟨m12, hm12, hz⟩ := sat_bnd hz
            refine q_put tO_X6 C hm12 (i := 18) i_X6 tyX6_ok nmX6 rfl rfl (by decide) rfl f_133 dX6_fightsOn_168 ?_
            refine q_aload_n C 0 rfl dX6_fightsOn_171 rfl ?_
            refine q_getR tO_X6 C (i := 0) i_X6 rfl rfl (by decide) rfl f_7 dX6_fightsOn_172 ?_
            refine q_iload_n C 1 rfl dX6_fightsOn_175 rfl ?_
            refine q_bipush C dX6_fightsOn_176 ⟨rfl, by decide, by decide⟩ ?_
            refine q_iadd C dX6_fightsOn_178 ?_
            refine q_iload C 4 rfl dX6_fightsOn_179 ?_
            refine q_iadd C dX6_fightsOn_181 ?_
            refine q_dup2 C dX6_fightsOn_182 rfl rfl ?_
            obtain ⟨c13, hz⟩ := sat_chk hz
            refine q_wald C c13 dX6_fightsOn_183 ?_
            refine q_aload_n C 0 rfl dX6_fightsOn_184 rfl ?_
            refine q_iload_n C 1 rfl dX6_fightsOn_185 rfl ?_
            refine q_iload_n C 2 rfl dX6_fightsOn_186 rfl ?_
            refine q_iconst C dX6_fightsOn_187 ⟨by decide, by decide⟩ ?_
            obtain ⟨z15, hz15, hz⟩ := sat_bind hz
            refine q_callVz stZ_t C [Vi p1, Vi p2, Vi (-1)] [Vi (rdW m12 (w3 ((w3 (p1 + 11)) + x4.1))), Vi (w3 ((w3 (p1 + 11)) + x4.1)), Vr 1] (c_X6_isOpen m12 p1 p2 (-1) hz15) tO_X6 rfl gX6_fightsOn_X6_isOpen rfl ⟨rfl, rfl⟩ hdX6_isOpen ⟨by decide, by decide⟩ rfl (Nat.le_of_ble_eq_true rfl) dX6_fightsOn_188 rfl (fun hb14 _ => ?_)
            refine q_if_eq C dX6_fightsOn_191 (tgt := 198) (by decide) (fun c16 => ?_) (fun c16 => ?_)
            · have hz := sat_t hz c16
              refine q_iconst C dX6_fightsOn_198 ⟨by decide, by decide⟩ ?_
              refine q_isub C dX6_fightsOn_199 ?_
              obtain ⟨c17, hz⟩ := sat_chk hz
              obtain ⟨m18, hm18, hz⟩ := sat_bnd hz
              refine q_wast C c17 hm18 dX6_fightsOn_200 ?_
              refine q_iinc C 4 rfl [(4, Vi (w3 (x4.1 + 1))), (0, Vr 0), (1, Vi p1), (2, Vi p2), (3, Vi (x1.1))] rfl (by decide) dX6_fightsOn_201 ?_
              refine q_goto C dX6_fightsOn_204 (tgt := 109) (by decide) ?_
              refine q_sub C [1, 2, 3, 4, 0] [(0, Vr 0), (1, Vi p1), (2, Vi p2), (3, Vi (x1.1)), (4, Vi (w3 (x4.1 + 1)))] rfl ?_
              have hz := sat_some hz
              exact hz
            · have hz := sat_f hz c16
              refine q_iconst C dX6_fightsOn_194 ⟨by decide, by decide⟩ ?_
              refine q_goto C dX6_fightsOn_195 (tgt := 199) (by decide) ?_
              refine q_isub C dX6_fightsOn_199 ?_
              obtain ⟨c19, hz⟩ := sat_chk hz
              obtain ⟨m20, hm20, hz⟩ := sat_bnd hz
              refine q_wast C c19 hm20 dX6_fightsOn_200 ?_
              refine q_iinc C 4 rfl [(4, Vi (w3 (x4.1 + 1))), (0, Vr 0), (1, Vi p1), (2, Vi p2), (3, Vi (x1.1))] rfl (by decide) dX6_fightsOn_201 ?_
              refine q_goto C dX6_fightsOn_204 (tgt := 109) (by decide) ?_
              refine q_sub C [1, 2, 3, 4, 0] [(0, Vr 0), (1, Vi p1), (2, Vi p2), (3, Vi (x1.1)), (4, Vi (w3 (x4.1 + 1)))] rfl ?_
              have hz := sat_some hz
              exact hz
  · have hz := sat_f hz c3
    refine q_aload_n C 0 rfl dX6_fightsOn_19 rfl ?_
    refine q_getR tO_X6 C (i := 0) i_X6 rfl rfl (by decide) rfl f_7 dX6_fightsOn_20 ?_
    refine q_iload_n C 1 rfl dX6_fightsOn_23 rfl ?_
    refine q_bipush C dX6_fightsOn_24 ⟨rfl, by decide, by decide⟩ ?_
    refine q_iadd C dX6_fightsOn_26 ?_
    refine q_iload C 4 rfl dX6_fightsOn_27 ?_
    refine q_iadd C dX6_fightsOn_29 ?_
    obtain ⟨c22, hz⟩ := sat_chk hz
    refine q_wald C c22 dX6_fightsOn_30 ?_
    refine q_iconst C dX6_fightsOn_31 ⟨by decide, by decide⟩ ?_
    obtain ⟨v23, hv23, hz⟩ := sat_bind hz
    have Jv23 : G μ 56 [(0, Vr 0), (1, Vi p1), (2, Vi p2), (3, Vi (x1.1)), (4, Vi (x1.2))] [Vi v23] := by
      refine q_istore C [(5, Vi v23), (0, Vr 0), (1, Vi p1), (2, Vi p2), (3, Vi (x1.1)), (4, Vi (x1.2))] rfl (by decide) dX6_fightsOn_56 ?_
      refine q_iload C 0 rfl dX6_fightsOn_58 ?_
      refine q_if_eq C dX6_fightsOn_60 (tgt := 98) (by decide) (fun c24 => ?_) (fun c24 => ?_)
      · have hz := sat_t hz c24
        refine q_iload_n C 4 rfl dX6_fightsOn_98 rfl ?_
        refine q_istore_n C [(3, Vi (x1.1)), (5, Vi v23), (0, Vr 0), (1, Vi p1), (2, Vi p2), (4, Vi (x1.2))] rfl (by decide) dX6_fightsOn_99 rfl ?_
        refine q_iinc C 5 rfl [(4, Vi (w3 (x1.2 + 1))), (3, Vi (x1.1)), (5, Vi v23), (0, Vr 0), (1, Vi p1), (2, Vi p2)] rfl (by decide) dX6_fightsOn_100 ?_
        refine q_goto C dX6_fightsOn_103 (tgt := 5) (by decide) ?_
        refine q_sub C [3, 4, 5, 1, 0] [(0, Vr 0), (1, Vi p1), (2, Vi p2), (3, Vi (x1.1)), (4, Vi (w3 (x1.2 + 1)))] rfl ?_
        have hz := sat_some hz
        exact hz
      · have hz := sat_f hz c24
        refine q_iload_n C 4 rfl dX6_fightsOn_63 rfl ?_
        refine q_if_lt C dX6_fightsOn_64 (tgt := 93) (by decide) (fun c25 => ?_) (fun c25 => ?_)
        · have hz := sat_t hz c25
          refine q_iload C 5 rfl dX6_fightsOn_93 ?_
          refine q_goto C dX6_fightsOn_95 (tgt := 99) (by decide) ?_
          refine q_istore_n C [(3, Vi (x1.2)), (5, Vi v23), (0, Vr 0), (1, Vi p1), (2, Vi p2), (4, Vi (x1.2))] rfl (by decide) dX6_fightsOn_99 rfl ?_
          refine q_iinc C 5 rfl [(4, Vi (w3 (x1.2 + 1))), (3, Vi (x1.2)), (5, Vi v23), (0, Vr 0), (1, Vi p1), (2, Vi p2)] rfl (by decide) dX6_fightsOn_100 ?_
          refine q_goto C dX6_fightsOn_103 (tgt := 5) (by decide) ?_
          refine q_sub C [3, 4, 5, 1, 0] [(0, Vr 0), (1, Vi p1), (2, Vi p2), (3, Vi (x1.2)), (4, Vi (w3 (x1.2 + 1)))] rfl ?_
          have hz := sat_some hz
          exact hz
        · have hz := sat_f hz c25
          refine q_aload_n C 1 rfl dX6_fightsOn_67 rfl ?_
          refine q_getR tO_X6 C (i := 0) i_X6 rfl rfl (by decide) rfl f_7 dX6_fightsOn_68 ?_
          refine q_iload_n C 2 rfl dX6_fightsOn_71 rfl ?_
          refine q_bipush C dX6_fightsOn_72 ⟨rfl, by decide, by decide⟩ ?_
          refine q_iadd C dX6_fightsOn_74 ?_
          refine q_iload C 5 rfl dX6_fightsOn_75 ?_
          refine q_iadd C dX6_fightsOn_77 ?_
          obtain ⟨c26, hz⟩ := sat_chk hz
          refine q_wald C c26 dX6_fightsOn_78 ?_
          refine q_aload_n C 1 rfl dX6_fightsOn_79 rfl ?_
          refine q_getR tO_X6 C (i := 0) i_X6 rfl rfl (by decide) rfl f_7 dX6_fightsOn_80 ?_
          refine q_iload_n C 2 rfl dX6_fightsOn_83 rfl ?_
          refine q_bipush C dX6_fightsOn_84 ⟨rfl, by decide, by decide⟩ ?_
          refine q_iadd C dX6_fightsOn_86 ?_
          refine q_iload_n C 4 rfl dX6_fightsOn_87 rfl ?_
          refine q_iadd C dX6_fightsOn_88 ?_
          obtain ⟨c27, hz⟩ := sat_chk hz
          refine q_wald C c27 dX6_fightsOn_89 ?_
          refine q_icmp_le C dX6_fightsOn_90 (tgt := 98) (by decide) (fun c28 => ?_) (fun c28 => ?_)
          · have hz := sat_t hz c28
            refine q_iload_n C 4 rfl dX6_fightsOn_98 rfl ?_
            refine q_istore_n C [(3, Vi (x1.1)), (5, Vi v23), (0, Vr 0), (1, Vi p1), (2, Vi p2), (4, Vi (x1.2))] rfl (by decide) dX6_fightsOn_99 rfl ?_
            refine q_iinc C 5 rfl [(4, Vi (w3 (x1.2 + 1))), (3, Vi (x1.1)), (5, Vi v23), (0, Vr 0), (1, Vi p1), (2, Vi p2)] rfl (by decide) dX6_fightsOn_100 ?_
            refine q_goto C dX6_fightsOn_103 (tgt := 5) (by decide) ?_
            refine q_sub C [3, 4, 5, 1, 0] [(0, Vr 0), (1, Vi p1), (2, Vi p2), (3, Vi (x1.1)), (4, Vi (w3 (x1.2 + 1)))] rfl ?_
            have hz := sat_some hz
            exact hz
          · have hz := sat_f hz c28
            refine q_iload C 5 rfl dX6_fightsOn_93 ?_
            refine q_goto C dX6_fightsOn_95 (tgt := 99) (by decide) ?_
            refine q_istore_n C [(3, Vi (x1.2)), (5, Vi v23), (0, Vr 0), (1, Vi p1), (2, Vi p2), (4, Vi (x1.2))] rfl (by decide) dX6_fightsOn_99 rfl ?_
            refine q_iinc C 5 rfl [(4, Vi (w3 (x1.2 + 1))), (3, Vi (x1.2)), (5, Vi v23), (0, Vr 0), (1, Vi p1), (2, Vi p2)] rfl (by decide) dX6_fightsOn_100 ?_
            refine q_goto C dX6_fightsOn_103 (tgt := 5) (by decide) ?_
            refine q_sub C [3, 4, 5, 1, 0] [(0, Vr 0), (1, Vi p1), (2, Vi p2), (3, Vi (x1.2)), (4, Vi (w3 (x1.2 + 1)))] rfl ?_
            have hz := sat_some hz
            exact hz
    have hz := sat_of hv23
    refine q_icmp_ne C dX6_fightsOn_32 (tgt := 55) (by decide) (fun c29 => ?_) (fun c29 => ?_)
    · have hz := sat_f hz c29
      refine q_iconst C dX6_fightsOn_55 ⟨by decide, by decide⟩ ?_
      have hz := sat_some hz
      have hz : _ = v23 := hz
      subst hz
      exact Jv23
    · have hz := sat_t hz c29
      refine q_aload_n C 0 rfl dX6_fightsOn_35 rfl ?_
      refine q_getR tO_X6 C (i := 0) i_X6 rfl rfl (by decide) rfl f_7 dX6_fightsOn_36 ?_
      refine q_iload_n C 1 rfl dX6_fightsOn_39 rfl ?_
      refine q_bipush C dX6_fightsOn_40 ⟨rfl, by decide, by decide⟩ ?_
      refine q_iadd C dX6_fightsOn_42 ?_
      refine q_iload C 4 rfl dX6_fightsOn_43 ?_
      refine q_iadd C dX6_fightsOn_45 ?_
      obtain ⟨c30, hz⟩ := sat_chk hz
      refine q_wald C c30 dX6_fightsOn_46 ?_
      refine q_iload_n C 2 rfl dX6_fightsOn_47 rfl ?_
      refine q_icmp_ne C dX6_fightsOn_48 (tgt := 55) (by decide) (fun c31 => ?_) (fun c31 => ?_)
      · have hz := sat_f hz c31
        refine q_iconst C dX6_fightsOn_55 ⟨by decide, by decide⟩ ?_
        have hz := sat_some hz
        have hz : _ = v23 := hz
        subst hz
        exact Jv23
      · have hz := sat_t hz c31
        refine q_iconst C dX6_fightsOn_51 ⟨by decide, by decide⟩ ?_
        refine q_goto C dX6_fightsOn_52 (tgt := 56) (by decide) ?_
        have hz := sat_some hz
        have hz : _ = v23 := hz
        subst hz
        exact Jv23
theorem hdX6_passes : yX6_passes.cls = RX6 ∧ yX6_passes.cls ≠ "java/lang/invoke/MethodHandle" ∧ yX6_passes.cls ≠ "java/lang/invoke/VarHandle" ∧ (parseMethodDescriptor yX6_passes.desc).map (fun d => d.parameters.length) = some 1 := by decide +kernel
set_option maxHeartbeats 4000000 in
set_option maxRecDepth 100000 in
theorem c_X6_passes {l : Launch} {D : va_G} {ad : Nat → Nat} {cI cZ : ClassId} (μ : Mm) (p1 : Int) {v : Mm} (hz : f_X6_passes μ p1 = some v) : CT l D vwCl (tyM cI cZ) 10 ad (EM ad cI cZ) (fun _ => True) yX6_passes wsX6_passes ({ frames := 4, cells := 0, slots := 0, locals := 102 } : Room) none [Vr 0, Vi p1] μ ((0 : Int), v) := by
  refine CT_of [(0, Vr 0), (1, Vi p1)] stZ_t (by decide) rfl rfl (Nat.le_of_ble_eq_true rfl) rfl (fun G C => ?_)
  have i_X6 : ∀ w ∈ u_ws RX6 TX6 19, w ∈ wsX6_passes := by decide +kernel
  have f_7 : Cond.fieldLink (yX6_passes).cls 7 "SwanDeedsModel" "w" "[I" ∈ wsX6_passes := by decide +kernel
  have f_133 : Cond.fieldLink (yX6_passes).cls 133 "SwanDeedsModel" "lost" "I" ∈ wsX6_passes := by decide +kernel
  have f_136 : Cond.fieldLink (yX6_passes).cls 136 "SwanDeedsModel" "fed" "I" ∈ wsX6_passes := by decide +kernel
  have hz := sat_of hz
  unfold f_X6_passes at hz
  refine q_aload_n C 0 rfl dX6_passes_0 rfl ?_
  refine q_iconst C dX6_passes_1 ⟨by decide, by decide⟩ ?_
  obtain ⟨m1, hm1, hz⟩ := sat_bnd hz
  refine q_put tO_X6 C hm1 (i := 17) i_X6 tyX6_ok nmX6 rfl rfl (by decide) rfl f_136 dX6_passes_2 ?_
  refine q_aload_n C 0 rfl dX6_passes_5 rfl ?_
  refine q_iconst C dX6_passes_6 ⟨by decide, by decide⟩ ?_
  obtain ⟨m2, hm2, hz⟩ := sat_bnd hz
  refine q_put tO_X6 C hm2 (i := 18) i_X6 tyX6_ok nmX6 rfl rfl (by decide) rfl f_133 dX6_passes_7 ?_
  refine q_iconst C dX6_passes_10 ⟨by decide, by decide⟩ ?_
  refine q_istore_n C [(2, Vi 0), (0, Vr 0), (1, Vi p1)] rfl (by decide) dX6_passes_11 rfl ?_
  refine q_sub C [1, 2, 0] [(0, Vr 0), (1, Vi p1), (2, Vi 0)] rfl ?_
  refine loop_go (fun x3 => G x3.2 12 [(0, Vr 0), (1, Vi p1), (2, Vi (x3.1))] []) (sat_bind2 hz) (fun h => h) (fun x3 hz => ?_)
  refine q_iload_n C 2 rfl dX6_passes_12 rfl ?_
  refine q_aload_n C 0 rfl dX6_passes_13 rfl ?_
  refine q_getR tO_X6 C (i := 0) i_X6 rfl rfl (by decide) rfl f_7 dX6_passes_14 ?_
  refine q_iload_n C 1 rfl dX6_passes_17 rfl ?_
  refine q_bipush C dX6_passes_18 ⟨rfl, by decide, by decide⟩ ?_
  refine q_iadd C dX6_passes_20 ?_
  obtain ⟨c4, hz⟩ := sat_chk hz
  refine q_wald C c4 dX6_passes_21 ?_
  refine q_icmp_ge C dX6_passes_22 (tgt := 99) (by decide) (fun c5 => ?_) (fun c5 => ?_)
  · have hz := sat_t hz c5
    have hz := sat_some hz
    refine q_sub C [0, 1] [(0, Vr 0), (1, Vi p1)] rfl ?_
    refine q_iconst C dX6_passes_99 ⟨by decide, by decide⟩ ?_
    refine q_istore_n C [(2, Vi 0), (0, Vr 0), (1, Vi p1)] rfl (by decide) dX6_passes_100 rfl ?_
    refine q_sub C [1, 2, 0] [(0, Vr 0), (1, Vi p1), (2, Vi 0)] rfl ?_
    refine loop_go (fun x6 => G x6.2 101 [(0, Vr 0), (1, Vi p1), (2, Vi (x6.1))] []) (sat_bind2 hz) (fun h => h) (fun x6 hz => ?_)
    refine q_iload_n C 2 rfl dX6_passes_101 rfl ?_
    refine q_aload_n C 0 rfl dX6_passes_102 rfl ?_
    refine q_getR tO_X6 C (i := 0) i_X6 rfl rfl (by decide) rfl f_7 dX6_passes_103 ?_
    refine q_iload_n C 1 rfl dX6_passes_106 rfl ?_
    refine q_bipush C dX6_passes_107 ⟨rfl, by decide, by decide⟩ ?_
    refine q_iadd C dX6_passes_109 ?_
    obtain ⟨c7, hz⟩ := sat_chk hz
    refine q_wald C c7 dX6_passes_110 ?_
    refine q_icmp_ge C dX6_passes_111 (tgt := 126) (by decide) (fun c8 => ?_) (fun c8 => ?_)
    · have hz := sat_t hz c8
      have hz := sat_some hz
      refine q_sub C [0, 1] [(0, Vr 0), (1, Vi p1)] rfl ?_
      refine q_aload_n C 0 rfl dX6_passes_126 rfl ?_
      refine q_getR tO_X6 C (i := 0) i_X6 rfl rfl (by decide) rfl f_7 dX6_passes_127 ?_
      refine q_iload_n C 1 rfl dX6_passes_130 rfl ?_
      refine q_iconst C dX6_passes_131 ⟨by decide, by decide⟩ ?_
      refine q_iadd C dX6_passes_132 ?_
      refine q_dup2 C dX6_passes_133 rfl rfl ?_
      obtain ⟨c9, hz⟩ := sat_chk hz
      refine q_wald C c9 dX6_passes_134 ?_
      refine q_iconst C dX6_passes_135 ⟨by decide, by decide⟩ ?_
      refine q_iadd C dX6_passes_136 ?_
      obtain ⟨c10, hz⟩ := sat_chk hz
      obtain ⟨m11, hm11, hz⟩ := sat_bnd hz
      refine q_wast C c10 hm11 dX6_passes_137 ?_
      exact q_vret C dX6_passes_138 (congrArg (fun q => ((0 : Int), q)) (sat_eq hz))
    · have hz := sat_f hz c8
      refine q_aload_n C 0 rfl dX6_passes_114 rfl ?_
      refine q_iload_n C 1 rfl dX6_passes_115 rfl ?_
      refine q_iload_n C 2 rfl dX6_passes_116 rfl ?_
      obtain ⟨z13, hz13, hz⟩ := sat_bind hz
      refine q_callVv stZ_t C [Vi p1, Vi (x6.1)] [] (c_X6_fightsOn x6.2 p1 x6.1 hz13) tO_X6 rfl gX6_passes_X6_fightsOn rfl ⟨rfl, rfl⟩ hdX6_fightsOn ⟨by decide, by decide⟩ rfl (Nat.le_of_ble_eq_true rfl) dX6_passes_117 rfl (fun _ => ?_)
      refine q_iinc C 2 rfl [(2, Vi (w3 (x6.1 + 1))), (0, Vr 0), (1, Vi p1)] rfl (by decide) dX6_passes_120 ?_
      refine q_goto C dX6_passes_123 (tgt := 101) (by decide) ?_
      refine q_sub C [1, 2, 0] [(0, Vr 0), (1, Vi p1), (2, Vi (w3 (x6.1 + 1)))] rfl ?_
      have hz := sat_some hz
      exact hz
  · have hz := sat_f hz c5
    refine q_aload_n C 0 rfl dX6_passes_25 rfl ?_
    refine q_getR tO_X6 C (i := 0) i_X6 rfl rfl (by decide) rfl f_7 dX6_passes_26 ?_
    refine q_iload_n C 1 rfl dX6_passes_29 rfl ?_
    refine q_bipush C dX6_passes_30 ⟨rfl, by decide, by decide⟩ ?_
    refine q_iadd C dX6_passes_32 ?_
    refine q_iload_n C 2 rfl dX6_passes_33 rfl ?_
    refine q_iadd C dX6_passes_34 ?_
    refine q_aload_n C 0 rfl dX6_passes_35 rfl ?_
    refine q_iload_n C 1 rfl dX6_passes_36 rfl ?_
    refine q_iload_n C 2 rfl dX6_passes_37 rfl ?_
    obtain ⟨z19, hz19, hz⟩ := sat_bind hz
    refine q_callVi stZ_t C [Vi p1, Vi (x3.1)] [Vi (w3 ((w3 (p1 + 11)) + x3.1)), Vr 1] (c_X6_swimsTo x3.2 p1 x3.1 hz19) tO_X6 rfl gX6_passes_X6_swimsTo rfl ⟨rfl, rfl⟩ hdX6_swimsTo ⟨by decide, by decide⟩ rfl (Nat.le_of_ble_eq_true rfl) dX6_passes_38 rfl (fun _ _ => ?_)
    obtain ⟨c20, hz⟩ := sat_chk hz
    obtain ⟨m21, hm21, hz⟩ := sat_bnd hz
    refine q_wast C c20 hm21 dX6_passes_41 ?_
    refine q_aload_n C 0 rfl dX6_passes_42 rfl ?_
    refine q_getR tO_X6 C (i := 0) i_X6 rfl rfl (by decide) rfl f_7 dX6_passes_43 ?_
    refine q_iload_n C 1 rfl dX6_passes_46 rfl ?_
    refine q_bipush C dX6_passes_47 ⟨rfl, by decide, by decide⟩ ?_
    refine q_iadd C dX6_passes_49 ?_
    refine q_iload_n C 2 rfl dX6_passes_50 rfl ?_
    refine q_iadd C dX6_passes_51 ?_
    obtain ⟨c22, hz⟩ := sat_chk hz
    refine q_wald C c22 dX6_passes_52 ?_
    obtain ⟨a23, ha23, hz⟩ := sat_bnd hz
    refine q_nmi ha23 ?_
    refine q_istore_n C [(3, Vi a23), (0, Vr 0), (1, Vi p1), (2, Vi (x3.1))] rfl (by decide) dX6_passes_53 rfl ?_
    refine q_aload_n C 1 rfl dX6_passes_54 rfl ?_
    refine q_getR tO_X6 C (i := 0) i_X6 rfl rfl (by decide) rfl f_7 dX6_passes_55 ?_
    refine q_iload_n C 2 rfl dX6_passes_58 rfl ?_
    refine q_iconst C dX6_passes_59 ⟨by decide, by decide⟩ ?_
    refine q_iadd C dX6_passes_60 ?_
    refine q_iload_n C 0 rfl dX6_passes_61 rfl ?_
    refine q_iadd C dX6_passes_62 ?_
    obtain ⟨c24, hz⟩ := sat_chk hz
    refine q_wald C c24 dX6_passes_63 ?_
    refine q_if_le C dX6_passes_64 (tgt := 93) (by decide) (fun c25 => ?_) (fun c25 => ?_)
    · have hz := sat_t hz c25
      refine q_iinc C 3 rfl [(2, Vi (w3 (x3.1 + 1))), (3, Vi a23), (0, Vr 0), (1, Vi p1)] rfl (by decide) dX6_passes_93 ?_
      refine q_goto C dX6_passes_96 (tgt := 12) (by decide) ?_
      refine q_sub C [2, 3, 0] [(0, Vr 0), (1, Vi p1), (2, Vi (w3 (x3.1 + 1)))] rfl ?_
      have hz := sat_some hz
      exact hz
    · have hz := sat_f hz c25
      refine q_aload_n C 1 rfl dX6_passes_67 rfl ?_
      refine q_getR tO_X6 C (i := 0) i_X6 rfl rfl (by decide) rfl f_7 dX6_passes_68 ?_
      refine q_iload_n C 2 rfl dX6_passes_71 rfl ?_
      refine q_iconst C dX6_passes_72 ⟨by decide, by decide⟩ ?_
      refine q_iadd C dX6_passes_73 ?_
      refine q_iload_n C 0 rfl dX6_passes_74 rfl ?_
      refine q_iadd C dX6_passes_75 ?_
      refine q_dup2 C dX6_passes_76 rfl rfl ?_
      obtain ⟨c26, hz⟩ := sat_chk hz
      refine q_wald C c26 dX6_passes_77 ?_
      refine q_iconst C dX6_passes_78 ⟨by decide, by decide⟩ ?_
      refine q_isub C dX6_passes_79 ?_
      obtain ⟨c27, hz⟩ := sat_chk hz
      obtain ⟨m28, hm28, hz⟩ := sat_bnd hz
      refine q_wast C c27 hm28 dX6_passes_80 ?_
      refine q_aload_n C 1 rfl dX6_passes_81 rfl ?_
      refine q_dup C dX6_passes_82 rfl ?_
      refine q_get tO_X6 C (i := 17) i_X6 rfl rfl (by decide) rfl f_136 dX6_passes_83 ?_
      refine q_iconst C dX6_passes_86 ⟨by decide, by decide⟩ ?_
      refine q_iload_n C 3 rfl dX6_passes_87 rfl ?_
      refine q_ishl C dX6_passes_88 ?_
      refine q_ior C dX6_passes_89 ?_
      obtain ⟨m29, hm29, hz⟩ := sat_bnd hz
      refine q_put tO_X6 C hm29 (i := 17) i_X6 tyX6_ok nmX6 rfl rfl (by decide) rfl f_136 dX6_passes_90 ?_
      refine q_iinc C 3 rfl [(2, Vi (w3 (x3.1 + 1))), (3, Vi a23), (0, Vr 0), (1, Vi p1)] rfl (by decide) dX6_passes_93 ?_
      refine q_goto C dX6_passes_96 (tgt := 12) (by decide) ?_
      refine q_sub C [2, 3, 0] [(0, Vr 0), (1, Vi p1), (2, Vi (w3 (x3.1 + 1)))] rfl ?_
      have hz := sat_some hz
      exact hz
theorem hdX6_swansOn : yX6_swansOn.cls = RX6 ∧ yX6_swansOn.cls ≠ "java/lang/invoke/MethodHandle" ∧ yX6_swansOn.cls ≠ "java/lang/invoke/VarHandle" ∧ (parseMethodDescriptor yX6_swansOn.desc).map (fun d => d.parameters.length) = some 2 := by decide +kernel
set_option maxHeartbeats 4000000 in
set_option maxRecDepth 100000 in
theorem c_X6_swansOn {l : Launch} {D : va_G} {ad : Nat → Nat} {cI cZ : ClassId} (μ : Mm) (p1 p2 : Int) {v : Int} (hz : f_X6_swansOn μ p1 p2 = some v) : CT l D vwCl (tyM cI cZ) 10 ad (EM ad cI cZ) (fun _ => True) yX6_swansOn wsX6_swansOn ({ frames := 0, cells := 0, slots := 0, locals := 0 } : Room) (some .int) [Vr 0, Vi p1, Vi p2] μ (v, μ) := by
  refine CT_of [(0, Vr 0), (1, Vi p1), (2, Vi p2)] stZ_t (by decide) rfl rfl (Nat.le_of_ble_eq_true rfl) rfl (fun G C => ?_)
  have i_X6 : ∀ w ∈ u_ws RX6 TX6 19, w ∈ wsX6_swansOn := by decide +kernel
  have f_7 : Cond.fieldLink (yX6_swansOn).cls 7 "SwanDeedsModel" "w" "[I" ∈ wsX6_swansOn := by decide +kernel
  have hz := sat_of hz
  unfold f_X6_swansOn at hz
  refine q_iconst C dX6_swansOn_0 ⟨by decide, by decide⟩ ?_
  refine q_istore_n C [(3, Vi 0), (0, Vr 0), (1, Vi p1), (2, Vi p2)] rfl (by decide) dX6_swansOn_1 rfl ?_
  refine q_iconst C dX6_swansOn_2 ⟨by decide, by decide⟩ ?_
  refine q_istore C [(4, Vi 0), (3, Vi 0), (0, Vr 0), (1, Vi p1), (2, Vi p2)] rfl (by decide) dX6_swansOn_3 ?_
  refine q_sub C [2, 3, 4, 1, 0] [(0, Vr 0), (1, Vi p1), (2, Vi p2), (3, Vi 0), (4, Vi 0)] rfl ?_
  refine loop_go (fun x1 => G μ 5 [(0, Vr 0), (1, Vi p1), (2, Vi p2), (3, Vi (x1.1)), (4, Vi (x1.2))] []) (sat_bind2 hz) (fun h => h) (fun x1 hz => ?_)
  refine q_iload C 4 rfl dX6_swansOn_5 ?_
  refine q_aload_n C 0 rfl dX6_swansOn_7 rfl ?_
  refine q_getR tO_X6 C (i := 0) i_X6 rfl rfl (by decide) rfl f_7 dX6_swansOn_8 ?_
  refine q_iload_n C 1 rfl dX6_swansOn_11 rfl ?_
  refine q_bipush C dX6_swansOn_12 ⟨rfl, by decide, by decide⟩ ?_
  refine q_iadd C dX6_swansOn_14 ?_
  obtain ⟨c2, hz⟩ := sat_chk hz
  refine q_wald C c2 dX6_swansOn_15 ?_
  refine q_icmp_ge C dX6_swansOn_16 (tgt := 52) (by decide) (fun c3 => ?_) (fun c3 => ?_)
  · have hz := sat_t hz c3
    have hz := sat_some hz
    refine q_sub C [3] [(3, Vi (x1.1))] rfl ?_
    refine q_iload_n C 0 rfl dX6_swansOn_52 rfl ?_
    exact q_iret C dX6_swansOn_53 (congrArg (fun q => (q, μ)) (sat_eq hz))
  · have hz := sat_f hz c3
    refine q_iload_n C 3 rfl dX6_swansOn_19 rfl ?_
    refine q_aload_n C 0 rfl dX6_swansOn_20 rfl ?_
    refine q_getR tO_X6 C (i := 0) i_X6 rfl rfl (by decide) rfl f_7 dX6_swansOn_21 ?_
    refine q_iload_n C 1 rfl dX6_swansOn_24 rfl ?_
    refine q_bipush C dX6_swansOn_25 ⟨rfl, by decide, by decide⟩ ?_
    refine q_iadd C dX6_swansOn_27 ?_
    refine q_iload C 4 rfl dX6_swansOn_28 ?_
    refine q_iadd C dX6_swansOn_30 ?_
    obtain ⟨c4, hz⟩ := sat_chk hz
    refine q_wald C c4 dX6_swansOn_31 ?_
    refine q_iload_n C 2 rfl dX6_swansOn_32 rfl ?_
    refine q_icmp_ne C dX6_swansOn_33 (tgt := 43) (by decide) (fun c5 => ?_) (fun c5 => ?_)
    · have hz := sat_f hz c5
      refine q_iconst C dX6_swansOn_43 ⟨by decide, by decide⟩ ?_
      refine q_ior C dX6_swansOn_44 ?_
      refine q_istore_n C [(3, Vi (bOr x1.1 0)), (0, Vr 0), (1, Vi p1), (2, Vi p2), (4, Vi (x1.2))] rfl (by decide) dX6_swansOn_45 rfl ?_
      refine q_iinc C 4 rfl [(4, Vi (w3 (x1.2 + 1))), (3, Vi (bOr x1.1 0)), (0, Vr 0), (1, Vi p1), (2, Vi p2)] rfl (by decide) dX6_swansOn_46 ?_
      refine q_goto C dX6_swansOn_49 (tgt := 5) (by decide) ?_
      refine q_sub C [2, 3, 4, 1, 0] [(0, Vr 0), (1, Vi p1), (2, Vi p2), (3, Vi (bOr x1.1 0)), (4, Vi (w3 (x1.2 + 1)))] rfl ?_
      have hz := sat_some hz
      exact hz
    · have hz := sat_t hz c5
      refine q_iconst C dX6_swansOn_36 ⟨by decide, by decide⟩ ?_
      refine q_iload C 4 rfl dX6_swansOn_37 ?_
      refine q_ishl C dX6_swansOn_39 ?_
      refine q_goto C dX6_swansOn_40 (tgt := 44) (by decide) ?_
      refine q_ior C dX6_swansOn_44 ?_
      refine q_istore_n C [(3, Vi (bOr x1.1 (bShl 1 x1.2))), (0, Vr 0), (1, Vi p1), (2, Vi p2), (4, Vi (x1.2))] rfl (by decide) dX6_swansOn_45 rfl ?_
      refine q_iinc C 4 rfl [(4, Vi (w3 (x1.2 + 1))), (3, Vi (bOr x1.1 (bShl 1 x1.2))), (0, Vr 0), (1, Vi p1), (2, Vi p2)] rfl (by decide) dX6_swansOn_46 ?_
      refine q_goto C dX6_swansOn_49 (tgt := 5) (by decide) ?_
      refine q_sub C [2, 3, 4, 1, 0] [(0, Vr 0), (1, Vi p1), (2, Vi p2), (3, Vi (bOr x1.1 (bShl 1 x1.2))), (4, Vi (w3 (x1.2 + 1)))] rfl ?_
      have hz := sat_some hz
      exact hz
theorem hdX6_plotsOf : yX6_plotsOf.cls = RX6 ∧ yX6_plotsOf.cls ≠ "java/lang/invoke/MethodHandle" ∧ yX6_plotsOf.cls ≠ "java/lang/invoke/VarHandle" ∧ (parseMethodDescriptor yX6_plotsOf.desc).map (fun d => d.parameters.length) = some 2 := by decide +kernel
set_option maxHeartbeats 4000000 in
set_option maxRecDepth 100000 in
theorem c_X6_plotsOf {l : Launch} {D : va_G} {ad : Nat → Nat} {cI cZ : ClassId} (μ : Mm) (p1 p2 : Int) {v : Int} (hz : f_X6_plotsOf μ p1 p2 = some v) : CT l D vwCl (tyM cI cZ) 10 ad (EM ad cI cZ) (fun _ => True) yX6_plotsOf wsX6_plotsOf ({ frames := 0, cells := 0, slots := 0, locals := 0 } : Room) (some .int) [Vr 0, Vi p1, Vi p2] μ (v, μ) := by
  refine CT_of [(0, Vr 0), (1, Vi p1), (2, Vi p2)] stZ_t (by decide) rfl rfl (Nat.le_of_ble_eq_true rfl) rfl (fun G C => ?_)
  have i_X6 : ∀ w ∈ u_ws RX6 TX6 19, w ∈ wsX6_plotsOf := by decide +kernel
  have f_7 : Cond.fieldLink (yX6_plotsOf).cls 7 "SwanDeedsModel" "w" "[I" ∈ wsX6_plotsOf := by decide +kernel
  have hz := sat_of hz
  unfold f_X6_plotsOf at hz
  refine q_iconst C dX6_plotsOf_0 ⟨by decide, by decide⟩ ?_
  refine q_istore_n C [(3, Vi 0), (0, Vr 0), (1, Vi p1), (2, Vi p2)] rfl (by decide) dX6_plotsOf_1 rfl ?_
  refine q_iconst C dX6_plotsOf_2 ⟨by decide, by decide⟩ ?_
  refine q_istore C [(4, Vi 0), (3, Vi 0), (0, Vr 0), (1, Vi p1), (2, Vi p2)] rfl (by decide) dX6_plotsOf_3 ?_
  refine q_sub C [2, 3, 4, 1, 0] [(0, Vr 0), (1, Vi p1), (2, Vi p2), (3, Vi 0), (4, Vi 0)] rfl ?_
  refine loop_go (fun x1 => G μ 5 [(0, Vr 0), (1, Vi p1), (2, Vi p2), (3, Vi (x1.1)), (4, Vi (x1.2))] []) (sat_bind2 hz) (fun h => h) (fun x1 hz => ?_)
  refine q_iload C 4 rfl dX6_plotsOf_5 ?_
  refine q_aload_n C 0 rfl dX6_plotsOf_7 rfl ?_
  refine q_getR tO_X6 C (i := 0) i_X6 rfl rfl (by decide) rfl f_7 dX6_plotsOf_8 ?_
  refine q_iload_n C 1 rfl dX6_plotsOf_11 rfl ?_
  refine q_bipush C dX6_plotsOf_12 ⟨rfl, by decide, by decide⟩ ?_
  refine q_iadd C dX6_plotsOf_14 ?_
  obtain ⟨c2, hz⟩ := sat_chk hz
  refine q_wald C c2 dX6_plotsOf_15 ?_
  refine q_icmp_ge C dX6_plotsOf_16 (tgt := 62) (by decide) (fun c3 => ?_) (fun c3 => ?_)
  · have hz := sat_t hz c3
    have hz := sat_some hz
    refine q_sub C [3] [(3, Vi (x1.1))] rfl ?_
    refine q_iload_n C 0 rfl dX6_plotsOf_62 rfl ?_
    exact q_iret C dX6_plotsOf_63 (congrArg (fun q => (q, μ)) (sat_eq hz))
  · have hz := sat_f hz c3
    refine q_iload_n C 3 rfl dX6_plotsOf_19 rfl ?_
    refine q_aload_n C 0 rfl dX6_plotsOf_20 rfl ?_
    refine q_getR tO_X6 C (i := 0) i_X6 rfl rfl (by decide) rfl f_7 dX6_plotsOf_21 ?_
    refine q_iload_n C 1 rfl dX6_plotsOf_24 rfl ?_
    refine q_bipush C dX6_plotsOf_25 ⟨rfl, by decide, by decide⟩ ?_
    refine q_iadd C dX6_plotsOf_27 ?_
    refine q_iload C 4 rfl dX6_plotsOf_28 ?_
    refine q_iadd C dX6_plotsOf_30 ?_
    obtain ⟨c4, hz⟩ := sat_chk hz
    refine q_wald C c4 dX6_plotsOf_31 ?_
    refine q_iload_n C 2 rfl dX6_plotsOf_32 rfl ?_
    refine q_icmp_ne C dX6_plotsOf_33 (tgt := 53) (by decide) (fun c5 => ?_) (fun c5 => ?_)
    · have hz := sat_f hz c5
      refine q_iconst C dX6_plotsOf_53 ⟨by decide, by decide⟩ ?_
      refine q_ior C dX6_plotsOf_54 ?_
      refine q_istore_n C [(3, Vi (bOr x1.1 0)), (0, Vr 0), (1, Vi p1), (2, Vi p2), (4, Vi (x1.2))] rfl (by decide) dX6_plotsOf_55 rfl ?_
      refine q_iinc C 4 rfl [(4, Vi (w3 (x1.2 + 1))), (3, Vi (bOr x1.1 0)), (0, Vr 0), (1, Vi p1), (2, Vi p2)] rfl (by decide) dX6_plotsOf_56 ?_
      refine q_goto C dX6_plotsOf_59 (tgt := 5) (by decide) ?_
      refine q_sub C [2, 3, 4, 1, 0] [(0, Vr 0), (1, Vi p1), (2, Vi p2), (3, Vi (bOr x1.1 0)), (4, Vi (w3 (x1.2 + 1)))] rfl ?_
      have hz := sat_some hz
      exact hz
    · have hz := sat_t hz c5
      refine q_iconst C dX6_plotsOf_36 ⟨by decide, by decide⟩ ?_
      refine q_aload_n C 0 rfl dX6_plotsOf_37 rfl ?_
      refine q_getR tO_X6 C (i := 0) i_X6 rfl rfl (by decide) rfl f_7 dX6_plotsOf_38 ?_
      refine q_iload_n C 1 rfl dX6_plotsOf_41 rfl ?_
      refine q_bipush C dX6_plotsOf_42 ⟨rfl, by decide, by decide⟩ ?_
      refine q_iadd C dX6_plotsOf_44 ?_
      refine q_iload C 4 rfl dX6_plotsOf_45 ?_
      refine q_iadd C dX6_plotsOf_47 ?_
      obtain ⟨c6, hz⟩ := sat_chk hz
      refine q_wald C c6 dX6_plotsOf_48 ?_
      refine q_ishl C dX6_plotsOf_49 ?_
      refine q_goto C dX6_plotsOf_50 (tgt := 54) (by decide) ?_
      refine q_ior C dX6_plotsOf_54 ?_
      obtain ⟨a7, ha7, hz⟩ := sat_bnd hz
      refine q_nmi ha7 ?_
      refine q_istore_n C [(3, Vi a7), (0, Vr 0), (1, Vi p1), (2, Vi p2), (4, Vi (x1.2))] rfl (by decide) dX6_plotsOf_55 rfl ?_
      refine q_iinc C 4 rfl [(4, Vi (w3 (x1.2 + 1))), (3, Vi a7), (0, Vr 0), (1, Vi p1), (2, Vi p2)] rfl (by decide) dX6_plotsOf_56 ?_
      refine q_goto C dX6_plotsOf_59 (tgt := 5) (by decide) ?_
      refine q_sub C [2, 3, 4, 1, 0] [(0, Vr 0), (1, Vi p1), (2, Vi p2), (3, Vi a7), (4, Vi (w3 (x1.2 + 1)))] rfl ?_
      have hz := sat_some hz
      exact hz
theorem hdX6_ownersIn : yX6_ownersIn.cls = RX6 ∧ yX6_ownersIn.cls ≠ "java/lang/invoke/MethodHandle" ∧ yX6_ownersIn.cls ≠ "java/lang/invoke/VarHandle" ∧ (parseMethodDescriptor yX6_ownersIn.desc).map (fun d => d.parameters.length) = some 1 := by decide +kernel
set_option maxHeartbeats 4000000 in
set_option maxRecDepth 100000 in
theorem c_X6_ownersIn {l : Launch} {D : va_G} {ad : Nat → Nat} {cI cZ : ClassId} (μ : Mm) (p1 : Int) {v : Int} (hz : f_X6_ownersIn μ p1 = some v) : CT l D vwCl (tyM cI cZ) 10 ad (EM ad cI cZ) (fun _ => True) yX6_ownersIn wsX6_ownersIn ({ frames := 0, cells := 0, slots := 0, locals := 0 } : Room) (some .int) [Vr 0, Vi p1] μ (v, μ) := by
  refine CT_of [(0, Vr 0), (1, Vi p1)] stZ_t (by decide) rfl rfl (Nat.le_of_ble_eq_true rfl) rfl (fun G C => ?_)
  have i_X6 : ∀ w ∈ u_ws RX6 TX6 19, w ∈ wsX6_ownersIn := by decide +kernel
  have f_7 : Cond.fieldLink (yX6_ownersIn).cls 7 "SwanDeedsModel" "w" "[I" ∈ wsX6_ownersIn := by decide +kernel
  have hz := sat_of hz
  unfold f_X6_ownersIn at hz
  refine q_iconst C dX6_ownersIn_0 ⟨by decide, by decide⟩ ?_
  refine q_istore_n C [(2, Vi 0), (0, Vr 0), (1, Vi p1)] rfl (by decide) dX6_ownersIn_1 rfl ?_
  refine q_iconst C dX6_ownersIn_2 ⟨by decide, by decide⟩ ?_
  refine q_istore_n C [(3, Vi 0), (2, Vi 0), (0, Vr 0), (1, Vi p1)] rfl (by decide) dX6_ownersIn_3 rfl ?_
  refine q_sub C [2, 3, 1, 0] [(0, Vr 0), (1, Vi p1), (2, Vi 0), (3, Vi 0)] rfl ?_
  refine loop_go (fun x1 => G μ 4 [(0, Vr 0), (1, Vi p1), (2, Vi (x1.1)), (3, Vi (x1.2))] []) (sat_bind2 hz) (fun h => h) (fun x1 hz => ?_)
  refine q_iload_n C 3 rfl dX6_ownersIn_4 rfl ?_
  refine q_aload_n C 0 rfl dX6_ownersIn_5 rfl ?_
  refine q_getR tO_X6 C (i := 0) i_X6 rfl rfl (by decide) rfl f_7 dX6_ownersIn_6 ?_
  refine q_iload_n C 1 rfl dX6_ownersIn_9 rfl ?_
  refine q_bipush C dX6_ownersIn_10 ⟨rfl, by decide, by decide⟩ ?_
  refine q_iadd C dX6_ownersIn_12 ?_
  obtain ⟨c2, hz⟩ := sat_chk hz
  refine q_wald C c2 dX6_ownersIn_13 ?_
  refine q_icmp_ge C dX6_ownersIn_14 (tgt := 39) (by decide) (fun c3 => ?_) (fun c3 => ?_)
  · have hz := sat_t hz c3
    have hz := sat_some hz
    refine q_sub C [2] [(2, Vi (x1.1))] rfl ?_
    refine q_iload_n C 0 rfl dX6_ownersIn_39 rfl ?_
    exact q_iret C dX6_ownersIn_40 (congrArg (fun q => (q, μ)) (sat_eq hz))
  · have hz := sat_f hz c3
    refine q_iload_n C 2 rfl dX6_ownersIn_17 rfl ?_
    refine q_iconst C dX6_ownersIn_18 ⟨by decide, by decide⟩ ?_
    refine q_aload_n C 0 rfl dX6_ownersIn_19 rfl ?_
    refine q_getR tO_X6 C (i := 0) i_X6 rfl rfl (by decide) rfl f_7 dX6_ownersIn_20 ?_
    refine q_iload_n C 1 rfl dX6_ownersIn_23 rfl ?_
    refine q_bipush C dX6_ownersIn_24 ⟨rfl, by decide, by decide⟩ ?_
    refine q_iadd C dX6_ownersIn_26 ?_
    refine q_iload_n C 3 rfl dX6_ownersIn_27 rfl ?_
    refine q_iadd C dX6_ownersIn_28 ?_
    obtain ⟨c4, hz⟩ := sat_chk hz
    refine q_wald C c4 dX6_ownersIn_29 ?_
    refine q_ishl C dX6_ownersIn_30 ?_
    refine q_ior C dX6_ownersIn_31 ?_
    obtain ⟨a5, ha5, hz⟩ := sat_bnd hz
    refine q_nmi ha5 ?_
    refine q_istore_n C [(2, Vi a5), (0, Vr 0), (1, Vi p1), (3, Vi (x1.2))] rfl (by decide) dX6_ownersIn_32 rfl ?_
    refine q_iinc C 3 rfl [(3, Vi (w3 (x1.2 + 1))), (2, Vi a5), (0, Vr 0), (1, Vi p1)] rfl (by decide) dX6_ownersIn_33 ?_
    refine q_goto C dX6_ownersIn_36 (tgt := 4) (by decide) ?_
    refine q_sub C [2, 3, 1, 0] [(0, Vr 0), (1, Vi p1), (2, Vi a5), (3, Vi (w3 (x1.2 + 1)))] rfl ?_
    have hz := sat_some hz
    exact hz
theorem hdX6_throwsOn : yX6_throwsOn.cls = RX6 ∧ yX6_throwsOn.cls ≠ "java/lang/invoke/MethodHandle" ∧ yX6_throwsOn.cls ≠ "java/lang/invoke/VarHandle" ∧ (parseMethodDescriptor yX6_throwsOn.desc).map (fun d => d.parameters.length) = some 3 := by decide +kernel
set_option maxHeartbeats 4000000 in
set_option maxRecDepth 100000 in
theorem c_X6_throwsOn {l : Launch} {D : va_G} {ad : Nat → Nat} {cI cZ : ClassId} (μ : Mm) (p1 p2 p3 : Int) {v : Mm} (hz : f_X6_throwsOn μ p1 p2 p3 = some v) : CT l D vwCl (tyM cI cZ) 10 ad (EM ad cI cZ) (fun _ => True) yX6_throwsOn wsX6_throwsOn ({ frames := 0, cells := 0, slots := 0, locals := 0 } : Room) none [Vr 0, Vi p1, Vi p2, Vi p3] μ ((0 : Int), v) := by
  refine CT_of [(0, Vr 0), (1, Vi p1), (2, Vi p2), (3, Vi p3)] stZ_t (by decide) rfl rfl (Nat.le_of_ble_eq_true rfl) rfl (fun G C => ?_)
  have i_X6 : ∀ w ∈ u_ws RX6 TX6 19, w ∈ wsX6_throwsOn := by decide +kernel
  have f_7 : Cond.fieldLink (yX6_throwsOn).cls 7 "SwanDeedsModel" "w" "[I" ∈ wsX6_throwsOn := by decide +kernel
  have hz := sat_of hz
  unfold f_X6_throwsOn at hz
  refine q_aload_n C 0 rfl dX6_throwsOn_0 rfl ?_
  refine q_getR tO_X6 C (i := 0) i_X6 rfl rfl (by decide) rfl f_7 dX6_throwsOn_1 ?_
  refine q_iload_n C 1 rfl dX6_throwsOn_4 rfl ?_
  refine q_iconst C dX6_throwsOn_5 ⟨by decide, by decide⟩ ?_
  refine q_iadd C dX6_throwsOn_6 ?_
  refine q_iload_n C 2 rfl dX6_throwsOn_7 rfl ?_
  refine q_iadd C dX6_throwsOn_8 ?_
  obtain ⟨c1, hz⟩ := sat_chk hz
  refine q_wald C c1 dX6_throwsOn_9 ?_
  refine q_iload_n C 3 rfl dX6_throwsOn_10 rfl ?_
  refine q_iadd C dX6_throwsOn_11 ?_
  obtain ⟨a2, ha2, hz⟩ := sat_bnd hz
  refine q_nmi ha2 ?_
  refine q_istore C [(4, Vi a2), (0, Vr 0), (1, Vi p1), (2, Vi p2), (3, Vi p3)] rfl (by decide) dX6_throwsOn_12 ?_
  refine q_aload_n C 1 rfl dX6_throwsOn_14 rfl ?_
  refine q_getR tO_X6 C (i := 0) i_X6 rfl rfl (by decide) rfl f_7 dX6_throwsOn_15 ?_
  refine q_iload_n C 2 rfl dX6_throwsOn_18 rfl ?_
  refine q_iconst C dX6_throwsOn_19 ⟨by decide, by decide⟩ ?_
  refine q_iadd C dX6_throwsOn_20 ?_
  refine q_iload_n C 3 rfl dX6_throwsOn_21 rfl ?_
  refine q_iadd C dX6_throwsOn_22 ?_
  refine q_iload C 0 rfl dX6_throwsOn_23 ?_
  refine q_bipush C dX6_throwsOn_25 ⟨rfl, by decide, by decide⟩ ?_
  refine q_icmp_le C dX6_throwsOn_27 (tgt := 35) (by decide) (fun c3 => ?_) (fun c3 => ?_)
  · have hz := sat_t hz c3
    refine q_iload C 0 rfl dX6_throwsOn_35 ?_
    obtain ⟨c4, hz⟩ := sat_chk hz
    obtain ⟨m5, hm5, hz⟩ := sat_bnd hz
    refine q_wast C c4 hm5 dX6_throwsOn_37 ?_
    exact q_vret C dX6_throwsOn_38 (congrArg (fun q => ((0 : Int), q)) (sat_eq hz))
  · have hz := sat_f hz c3
    refine q_bipush C dX6_throwsOn_30 ⟨rfl, by decide, by decide⟩ ?_
    refine q_goto C dX6_throwsOn_32 (tgt := 37) (by decide) ?_
    obtain ⟨c6, hz⟩ := sat_chk hz
    obtain ⟨m7, hm7, hz⟩ := sat_bnd hz
    refine q_wast C c6 hm7 dX6_throwsOn_37 ?_
    exact q_vret C dX6_throwsOn_38 (congrArg (fun q => ((0 : Int), q)) (sat_eq hz))
theorem hdX6_minds : yX6_minds.cls = RX6 ∧ yX6_minds.cls ≠ "java/lang/invoke/MethodHandle" ∧ yX6_minds.cls ≠ "java/lang/invoke/VarHandle" ∧ (parseMethodDescriptor yX6_minds.desc).map (fun d => d.parameters.length) = some 0 := by decide +kernel
set_option maxHeartbeats 4000000 in
set_option maxRecDepth 100000 in
theorem c_X6_minds {l : Launch} {D : va_G} {ad : Nat → Nat} {cI cZ : ClassId} (μ : Mm) {v : Mm} (hz : f_X6_minds μ = some v) : CT l D vwCl (tyM cI cZ) 10 ad (EM ad cI cZ) (fun _ => True) yX6_minds wsX6_minds ({ frames := 0, cells := 0, slots := 0, locals := 0 } : Room) none [Vr 0] μ ((0 : Int), v) := by
  refine CT_of [(0, Vr 0)] stZ_t (by decide) rfl rfl (Nat.le_of_ble_eq_true rfl) rfl (fun G C => ?_)
  have i_X6 : ∀ w ∈ u_ws RX6 TX6 19, w ∈ wsX6_minds := by decide +kernel
  have f_7 : Cond.fieldLink (yX6_minds).cls 7 "SwanDeedsModel" "w" "[I" ∈ wsX6_minds := by decide +kernel
  have f_17 : Cond.fieldLink (yX6_minds).cls 17 "SwanDeedsModel" "acts" "[I" ∈ wsX6_minds := by decide +kernel
  have f_117 : Cond.fieldLink (yX6_minds).cls 117 "SwanDeedsModel" "acted" "I" ∈ wsX6_minds := by decide +kernel
  have hz := sat_of hz
  unfold f_X6_minds at hz
  refine q_aload_n C 0 rfl dX6_minds_0 rfl ?_
  refine q_get tO_X6 C (i := 3) i_X6 rfl rfl (by decide) rfl f_117 dX6_minds_1 ?_
  refine q_bipush C dX6_minds_4 ⟨rfl, by decide, by decide⟩ ?_
  obtain ⟨v1, hv1, hz⟩ := sat_bind hz
  have Jv1 : G v1 49 [(0, Vr 0)] [] := by
    refine q_iconst C dX6_minds_49 ⟨by decide, by decide⟩ ?_
    refine q_istore_n C [(1, Vi 0), (0, Vr 0)] rfl (by decide) dX6_minds_50 rfl ?_
    refine q_sub C [1, 0] [(0, Vr 0), (1, Vi 0)] rfl ?_
    refine loop_go (fun x2 => G x2.2 51 [(0, Vr 0), (1, Vi (x2.1))] []) (sat_bind2 hz) (fun h => h) (fun x2 hz => ?_)
    refine q_iload_n C 1 rfl dX6_minds_51 rfl ?_
    refine q_bipush C dX6_minds_52 ⟨rfl, by decide, by decide⟩ ?_
    refine q_icmp_ge C dX6_minds_54 (tgt := 83) (by decide) (fun c3 => ?_) (fun c3 => ?_)
    · have hz := sat_t hz c3
      have hz := sat_some hz
      refine q_sub C [0] [(0, Vr 0)] rfl ?_
      refine q_aload_n C 0 rfl dX6_minds_83 rfl ?_
      refine q_dup C dX6_minds_84 rfl ?_
      refine q_get tO_X6 C (i := 3) i_X6 rfl rfl (by decide) rfl f_117 dX6_minds_85 ?_
      refine q_iconst C dX6_minds_88 ⟨by decide, by decide⟩ ?_
      refine q_iadd C dX6_minds_89 ?_
      obtain ⟨m4, hm4, hz⟩ := sat_bnd hz
      refine q_put tO_X6 C hm4 (i := 3) i_X6 tyX6_ok nmX6 rfl rfl (by decide) rfl f_117 dX6_minds_90 ?_
      exact q_vret C dX6_minds_93 (congrArg (fun q => ((0 : Int), q)) (sat_eq hz))
    · have hz := sat_f hz c3
      refine q_aload_n C 0 rfl dX6_minds_57 rfl ?_
      refine q_getR tO_X6 C (i := 2) i_X6 rfl rfl (by decide) rfl f_17 dX6_minds_58 ?_
      refine q_bipush C dX6_minds_61 ⟨rfl, by decide, by decide⟩ ?_
      refine q_aload_n C 0 rfl dX6_minds_63 rfl ?_
      refine q_get tO_X6 C (i := 3) i_X6 rfl rfl (by decide) rfl f_117 dX6_minds_64 ?_
      refine q_imul C dX6_minds_67 ?_
      refine q_iload_n C 1 rfl dX6_minds_68 rfl ?_
      refine q_iadd C dX6_minds_69 ?_
      refine q_aload_n C 0 rfl dX6_minds_70 rfl ?_
      refine q_getR tO_X6 C (i := 0) i_X6 rfl rfl (by decide) rfl f_7 dX6_minds_71 ?_
      refine q_iload_n C 1 rfl dX6_minds_74 rfl ?_
      obtain ⟨c5, hz⟩ := sat_chk hz
      refine q_wald C c5 dX6_minds_75 ?_
      obtain ⟨c6, hz⟩ := sat_chk hz
      obtain ⟨m7, hm7, hz⟩ := sat_bnd hz
      refine q_iast (tM_acts) C 0 rfl c6 hm7 dX6_minds_76 ?_
      refine q_iinc C 1 rfl [(1, Vi (w3 (x2.1 + 1))), (0, Vr 0)] rfl (by decide) dX6_minds_77 ?_
      refine q_goto C dX6_minds_80 (tgt := 51) (by decide) ?_
      refine q_sub C [1, 0] [(0, Vr 0), (1, Vi (w3 (x2.1 + 1)))] rfl ?_
      have hz := sat_some hz
      exact hz
  have hz := sat_of hv1
  refine q_icmp_ne C dX6_minds_6 (tgt := 49) (by decide) (fun c10 => ?_) (fun c10 => ?_)
  · have hz := sat_f hz c10
    have hz := sat_some hz
    have hz : _ = v1 := hz
    subst hz
    exact Jv1
  · have hz := sat_t hz c10
    refine q_iconst C dX6_minds_9 ⟨by decide, by decide⟩ ?_
    refine q_istore_n C [(1, Vi 0), (0, Vr 0)] rfl (by decide) dX6_minds_10 rfl ?_
    refine q_sub C [1, 0] [(0, Vr 0), (1, Vi 0)] rfl ?_
    refine loop_go (fun x11 => G x11.2 11 [(0, Vr 0), (1, Vi (x11.1))] []) (sat_bind2 hz) (fun h => h) (fun x11 hz => ?_)
    refine q_iload_n C 1 rfl dX6_minds_11 rfl ?_
    refine q_sipush C dX6_minds_12 ⟨rfl, by decide, by decide⟩ ?_
    refine q_icmp_ge C dX6_minds_15 (tgt := 39) (by decide) (fun c12 => ?_) (fun c12 => ?_)
    · have hz := sat_t hz c12
      have hz := sat_some hz
      refine q_sub C [0] [(0, Vr 0)] rfl ?_
      refine q_aload_n C 0 rfl dX6_minds_39 rfl ?_
      refine q_dup C dX6_minds_40 rfl ?_
      refine q_get tO_X6 C (i := 3) i_X6 rfl rfl (by decide) rfl f_117 dX6_minds_41 ?_
      refine q_iconst C dX6_minds_44 ⟨by decide, by decide⟩ ?_
      refine q_isub C dX6_minds_45 ?_
      obtain ⟨m13, hm13, hz⟩ := sat_bnd hz
      refine q_put tO_X6 C hm13 (i := 3) i_X6 tyX6_ok nmX6 rfl rfl (by decide) rfl f_117 dX6_minds_46 ?_
      have hz := sat_some hz
      have hz : _ = v1 := hz
      subst hz
      exact Jv1
    · have hz := sat_f hz c12
      refine q_aload_n C 0 rfl dX6_minds_18 rfl ?_
      refine q_getR tO_X6 C (i := 2) i_X6 rfl rfl (by decide) rfl f_17 dX6_minds_19 ?_
      refine q_iload_n C 1 rfl dX6_minds_22 rfl ?_
      refine q_aload_n C 0 rfl dX6_minds_23 rfl ?_
      refine q_getR tO_X6 C (i := 2) i_X6 rfl rfl (by decide) rfl f_17 dX6_minds_24 ?_
      refine q_iload_n C 1 rfl dX6_minds_27 rfl ?_
      refine q_bipush C dX6_minds_28 ⟨rfl, by decide, by decide⟩ ?_
      refine q_iadd C dX6_minds_30 ?_
      obtain ⟨c14, hz⟩ := sat_chk hz
      refine q_iald (tM_acts) C 0 rfl c14 dX6_minds_31 ?_
      obtain ⟨c15, hz⟩ := sat_chk hz
      obtain ⟨m16, hm16, hz⟩ := sat_bnd hz
      refine q_iast (tM_acts) C 0 rfl c15 hm16 dX6_minds_32 ?_
      refine q_iinc C 1 rfl [(1, Vi (w3 (x11.1 + 1))), (0, Vr 0)] rfl (by decide) dX6_minds_33 ?_
      refine q_goto C dX6_minds_36 (tgt := 11) (by decide) ?_
      refine q_sub C [1, 0] [(0, Vr 0), (1, Vi (w3 (x11.1 + 1)))] rfl ?_
      have hz := sat_some hz
      exact hz
theorem hdX6_undo : yX6_undo.cls = RX6 ∧ yX6_undo.cls ≠ "java/lang/invoke/MethodHandle" ∧ yX6_undo.cls ≠ "java/lang/invoke/VarHandle" ∧ (parseMethodDescriptor yX6_undo.desc).map (fun d => d.parameters.length) = some 0 := by decide +kernel
set_option maxHeartbeats 4000000 in
set_option maxRecDepth 100000 in
theorem c_X6_undo {l : Launch} {D : va_G} {ad : Nat → Nat} {cI cZ : ClassId} (μ : Mm) {v : Int × Mm} (hz : f_X6_undo μ = some v) : CT l D vwCl (tyM cI cZ) 10 ad (EM ad cI cZ) (fun _ => True) yX6_undo wsX6_undo ({ frames := 0, cells := 0, slots := 0, locals := 0 } : Room) (some .int) [Vr 0] μ (v.1, v.2) := by
  refine CT_of [(0, Vr 0)] stZ_t (by decide) rfl rfl (Nat.le_of_ble_eq_true rfl) rfl (fun G C => ?_)
  have i_X6 : ∀ w ∈ u_ws RX6 TX6 19, w ∈ wsX6_undo := by decide +kernel
  have f_7 : Cond.fieldLink (yX6_undo).cls 7 "SwanDeedsModel" "w" "[I" ∈ wsX6_undo := by decide +kernel
  have f_17 : Cond.fieldLink (yX6_undo).cls 17 "SwanDeedsModel" "acts" "[I" ∈ wsX6_undo := by decide +kernel
  have f_117 : Cond.fieldLink (yX6_undo).cls 117 "SwanDeedsModel" "acted" "I" ∈ wsX6_undo := by decide +kernel
  have hz := sat_of hz
  unfold f_X6_undo at hz
  refine q_aload_n C 0 rfl dX6_undo_0 rfl ?_
  refine q_get tO_X6 C (i := 3) i_X6 rfl rfl (by decide) rfl f_117 dX6_undo_1 ?_
  refine q_if_ne C dX6_undo_4 (tgt := 10) (by decide) (fun c1 => ?_) (fun c1 => ?_)
  · have hz := sat_f hz c1
    refine q_aload_n C 0 rfl dX6_undo_10 rfl ?_
    refine q_dup C dX6_undo_11 rfl ?_
    refine q_get tO_X6 C (i := 3) i_X6 rfl rfl (by decide) rfl f_117 dX6_undo_12 ?_
    refine q_iconst C dX6_undo_15 ⟨by decide, by decide⟩ ?_
    refine q_isub C dX6_undo_16 ?_
    obtain ⟨m2, hm2, hz⟩ := sat_bnd hz
    refine q_put tO_X6 C hm2 (i := 3) i_X6 tyX6_ok nmX6 rfl rfl (by decide) rfl f_117 dX6_undo_17 ?_
    refine q_iconst C dX6_undo_20 ⟨by decide, by decide⟩ ?_
    refine q_istore_n C [(1, Vi 0), (0, Vr 0)] rfl (by decide) dX6_undo_21 rfl ?_
    refine q_sub C [1, 0] [(0, Vr 0), (1, Vi 0)] rfl ?_
    refine loop_go (fun x3 => G x3.2 22 [(0, Vr 0), (1, Vi (x3.1))] []) (sat_bind2 hz) (fun h => h) (fun x3 hz => ?_)
    refine q_iload_n C 1 rfl dX6_undo_22 rfl ?_
    refine q_bipush C dX6_undo_23 ⟨rfl, by decide, by decide⟩ ?_
    refine q_icmp_ge C dX6_undo_25 (tgt := 54) (by decide) (fun c4 => ?_) (fun c4 => ?_)
    · have hz := sat_t hz c4
      have hz := sat_some hz
      refine q_sub C [0] [(0, Vr 0)] rfl ?_
      refine q_aload_n C 0 rfl dX6_undo_54 rfl ?_
      refine q_get tO_X6 C (i := 3) i_X6 rfl rfl (by decide) rfl f_117 dX6_undo_55 ?_
      exact q_iret C dX6_undo_58 (sat_eq hz)
    · have hz := sat_f hz c4
      refine q_aload_n C 0 rfl dX6_undo_28 rfl ?_
      refine q_getR tO_X6 C (i := 0) i_X6 rfl rfl (by decide) rfl f_7 dX6_undo_29 ?_
      refine q_iload_n C 1 rfl dX6_undo_32 rfl ?_
      refine q_aload_n C 0 rfl dX6_undo_33 rfl ?_
      refine q_getR tO_X6 C (i := 2) i_X6 rfl rfl (by decide) rfl f_17 dX6_undo_34 ?_
      refine q_bipush C dX6_undo_37 ⟨rfl, by decide, by decide⟩ ?_
      refine q_aload_n C 0 rfl dX6_undo_39 rfl ?_
      refine q_get tO_X6 C (i := 3) i_X6 rfl rfl (by decide) rfl f_117 dX6_undo_40 ?_
      refine q_imul C dX6_undo_43 ?_
      refine q_iload_n C 1 rfl dX6_undo_44 rfl ?_
      refine q_iadd C dX6_undo_45 ?_
      obtain ⟨c5, hz⟩ := sat_chk hz
      refine q_iald (tM_acts) C 0 rfl c5 dX6_undo_46 ?_
      obtain ⟨c6, hz⟩ := sat_chk hz
      obtain ⟨m7, hm7, hz⟩ := sat_bnd hz
      refine q_wast C c6 hm7 dX6_undo_47 ?_
      refine q_iinc C 1 rfl [(1, Vi (w3 (x3.1 + 1))), (0, Vr 0)] rfl (by decide) dX6_undo_48 ?_
      refine q_goto C dX6_undo_51 (tgt := 22) (by decide) ?_
      refine q_sub C [1, 0] [(0, Vr 0), (1, Vi (w3 (x3.1 + 1)))] rfl ?_
      have hz := sat_some hz
      exact hz
  · have hz := sat_t hz c1
    refine q_ldc (v := (-1000002)) (x := (-1000002)) C (by decide +kernel) dX6_undo_7 ⟨by decide +kernel, by decide, by decide⟩ ?_
    exact q_iret C dX6_undo_9 (sat_eq hz)
theorem hdX6_days : yX6_days.cls = RX6 ∧ yX6_days.cls ≠ "java/lang/invoke/MethodHandle" ∧ yX6_days.cls ≠ "java/lang/invoke/VarHandle" ∧ (parseMethodDescriptor yX6_days.desc).map (fun d => d.parameters.length) = some 1 := by decide +kernel
set_option maxHeartbeats 4000000 in
set_option maxRecDepth 100000 in
theorem c_X6_days {l : Launch} {D : va_G} {ad : Nat → Nat} {cI cZ : ClassId} (μ : Mm) (p1 : Int) {v : Int × Mm} (hz : f_X6_days μ p1 = some v) : CT l D vwCl (tyM cI cZ) 10 ad (EM ad cI cZ) (fun _ => True) yX6_days wsX6_days ({ frames := 5, cells := 0, slots := 0, locals := 125 } : Room) (some .int) [Vr 0, Vi p1] μ (v.1, v.2) := by
  refine CT_of [(0, Vr 0), (1, Vi p1)] stZ_t (by decide) rfl rfl (Nat.le_of_ble_eq_true rfl) rfl (fun G C => ?_)
  have i_X6 : ∀ w ∈ u_ws RX6 TX6 19, w ∈ wsX6_days := by decide +kernel
  have f_7 : Cond.fieldLink (yX6_days).cls 7 "SwanDeedsModel" "w" "[I" ∈ wsX6_days := by decide +kernel
  have hz := sat_of hz
  unfold f_X6_days at hz
  refine q_aload_n C 0 rfl dX6_days_0 rfl ?_
  obtain ⟨z2, hz2, hz⟩ := sat_bind hz
  refine q_callVz stZ_t C [] [] (c_X6_isRiver μ hz2) tO_X6 rfl gX6_days_X6_isRiver rfl ⟨rfl, rfl⟩ hdX6_isRiver ⟨by decide, by decide⟩ rfl (Nat.le_of_ble_eq_true rfl) dX6_days_1 rfl (fun hb1 _ => ?_)
  refine q_if_ne C dX6_days_4 (tgt := 10) (by decide) (fun c3 => ?_) (fun c3 => ?_)
  · have hz := sat_f hz c3
    refine q_iload_n C 1 rfl dX6_days_10 rfl ?_
    refine q_i2l C dX6_days_11 ?_
    refine q_lconst (x := 1) C dX6_days_12 ⟨rfl, by decide, by decide⟩ ?_
    refine q_ldc2 (v := 24) (x := 24) C (by decide +kernel) dX6_days_13 ⟨by decide +kernel, by decide, by decide⟩ ?_
    refine q_callSz stZ_t C [Vl p1, Vl 1, Vl 24] [] (c_X6_in μ p1 1 24) gX6_days_X6_in rfl ⟨rfl, rfl⟩ hdX6_in ⟨by decide, by decide⟩ rfl (Nat.le_of_ble_eq_true rfl) dX6_days_16 rfl (fun hb4 _ => ?_)
    refine q_if_ne C dX6_days_19 (tgt := 25) (by decide) (fun c5 => ?_) (fun c5 => ?_)
    · have hz := sat_f hz c5
      refine q_aload_n C 0 rfl dX6_days_25 rfl ?_
      refine q_getR tO_X6 C (i := 0) i_X6 rfl rfl (by decide) rfl f_7 dX6_days_26 ?_
      refine q_iconst C dX6_days_29 ⟨by decide, by decide⟩ ?_
      obtain ⟨c6, hz⟩ := sat_chk hz
      refine q_wald C c6 dX6_days_30 ?_
      refine q_iload_n C 1 rfl dX6_days_31 rfl ?_
      refine q_iadd C dX6_days_32 ?_
      refine q_sipush C dX6_days_33 ⟨rfl, by decide, by decide⟩ ?_
      refine q_icmp_le C dX6_days_36 (tgt := 42) (by decide) (fun c7 => ?_) (fun c7 => ?_)
      · have hz := sat_t hz c7
        refine q_iconst C dX6_days_42 ⟨by decide, by decide⟩ ?_
        refine q_istore_n C [(2, Vi 0), (0, Vr 0), (1, Vi p1)] rfl (by decide) dX6_days_43 rfl ?_
        refine q_sub C [1, 2, 0] [(0, Vr 0), (1, Vi p1), (2, Vi 0)] rfl ?_
        refine loop_go (fun x8 => G x8.2 44 [(0, Vr 0), (1, Vi p1), (2, Vi (x8.1))] []) (sat_bind2 hz) (fun h => h) (fun x8 hz => ?_)
        refine q_iload_n C 2 rfl dX6_days_44 rfl ?_
        refine q_iload_n C 1 rfl dX6_days_45 rfl ?_
        refine q_icmp_ge C dX6_days_46 (tgt := 64) (by decide) (fun c9 => ?_) (fun c9 => ?_)
        · have hz := sat_t hz c9
          have hz := sat_some hz
          refine q_sub C [0] [(0, Vr 0)] rfl ?_
          refine q_aload_n C 0 rfl dX6_days_64 rfl ?_
          refine q_iconst C dX6_days_65 ⟨by decide, by decide⟩ ?_
          obtain ⟨z11, hz11, hz⟩ := sat_bind hz
          refine q_callVi stZ_t C [Vi 0] [] (c_X6_ownersIn x8.2 0 hz11) tO_X6 rfl gX6_days_X6_ownersIn rfl ⟨rfl, rfl⟩ hdX6_ownersIn ⟨by decide, by decide⟩ rfl (Nat.le_of_ble_eq_true rfl) dX6_days_66 rfl (fun _ _ => ?_)
          obtain ⟨z13, hz13, hz⟩ := sat_bind hz
          refine q_callSi stZ_t C [Vi z11] [] (c_X6_ones x8.2 z11 hz13) gX6_days_X6_ones rfl ⟨rfl, rfl⟩ hdX6_ones ⟨by decide, by decide⟩ rfl (Nat.le_of_ble_eq_true rfl) dX6_days_69 rfl (fun _ _ => ?_)
          exact q_iret C dX6_days_72 (sat_eq hz)
        · have hz := sat_f hz c9
          refine q_aload_n C 0 rfl dX6_days_49 rfl ?_
          obtain ⟨z15, hz15, hz⟩ := sat_bind hz
          refine q_callVv stZ_t C [] [] (c_X6_minds x8.2 hz15) tO_X6 rfl gX6_days_X6_minds rfl ⟨rfl, rfl⟩ hdX6_minds ⟨by decide, by decide⟩ rfl (Nat.le_of_ble_eq_true rfl) dX6_days_50 rfl (fun _ => ?_)
          refine q_aload_n C 0 rfl dX6_days_53 rfl ?_
          refine q_iconst C dX6_days_54 ⟨by decide, by decide⟩ ?_
          obtain ⟨z17, hz17, hz⟩ := sat_bind hz
          refine q_callVv stZ_t C [Vi 0] [] (c_X6_passes z15 0 hz17) tO_X6 rfl gX6_days_X6_passes rfl ⟨rfl, rfl⟩ hdX6_passes ⟨by decide, by decide⟩ rfl (Nat.le_of_ble_eq_true rfl) dX6_days_55 rfl (fun _ => ?_)
          refine q_iinc C 2 rfl [(2, Vi (w3 (x8.1 + 1))), (0, Vr 0), (1, Vi p1)] rfl (by decide) dX6_days_58 ?_
          refine q_goto C dX6_days_61 (tgt := 44) (by decide) ?_
          refine q_sub C [1, 2, 0] [(0, Vr 0), (1, Vi p1), (2, Vi (w3 (x8.1 + 1)))] rfl ?_
          have hz := sat_some hz
          exact hz
      · have hz := sat_f hz c7
        refine q_ldc (v := (-1000003)) (x := (-1000003)) C (by decide +kernel) dX6_days_39 ⟨by decide +kernel, by decide, by decide⟩ ?_
        exact q_iret C dX6_days_41 (sat_eq hz)
    · have hz := sat_t hz c5
      refine q_ldc (v := (-1000001)) (x := (-1000001)) C (by decide +kernel) dX6_days_22 ⟨by decide +kernel, by decide, by decide⟩ ?_
      exact q_iret C dX6_days_24 (sat_eq hz)
  · have hz := sat_t hz c3
    refine q_ldc (v := (-1000002)) (x := (-1000002)) C (by decide +kernel) dX6_days_7 ⟨by decide +kernel, by decide, by decide⟩ ?_
    exact q_iret C dX6_days_9 (sat_eq hz)
