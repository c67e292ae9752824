/-! THE CONSTRUCTOR of the class itself, its walk. -/
def ZI (U : State) : Prop := va_Nw (.methodLinkNest RX5 18 yX4_init "SwanDeeds") U ∧ va_Nw (.methodLinkNest RX5 32 yX1_init "SwanDeeds") U ∧ va_Nw (.methodLinkNest RX5 39 yX2_init "SwanDeeds") U ∧ va_Nw (.methodLinkNest RX0 17 yX2_init "SwanDeeds") U ∧ va_AO RX2 U ∧ va_AOA .int U
theorem va_AOA.moved {ty : FieldType} {u U : State} (hvm : u.vm.Alike U.vm) (h : va_AOA ty u) : va_AOA ty U := by
  have h1 : (Cond.arrayOver (.array ty)).before #[] (u.setVm U.vm) = true := by
    rw [Cond.arrayOver_setVmC hvm]
    exact h
  exact h1
theorem ZI_st : ∀ s U : State, ZI s → s.WarmedH U.vm → ZI U := fun s U h hW => ⟨va_Nw.warmM hW h.1, va_Nw.warmM hW h.2.1, va_Nw.warmM hW h.2.2.1, va_Nw.warmM hW h.2.2.2.1, va_AO.moved hW.alike h.2.2.2.2.1, va_AOA.moved hW.alike h.2.2.2.2.2⟩
theorem set_mid {B Y : va_W} {x z : Nat × va_E} {n : Nat} (hn : B.length = n) : ((B ++ [x]) ++ Y).set n z = (B ++ [z]) ++ Y := by
  subst hn
  rw [List.append_assoc, List.set_append_right _ _ (Nat.le_refl _), Nat.sub_self]
  simp
theorem set_mid2 {B Y Y2 : va_W} {x z : Nat × va_E} {n : Nat} (hn : B.length = n) : (((B ++ [x]) ++ Y) ++ Y2).set n z = ((B ++ [z]) ++ Y) ++ Y2 := by
  rw [List.append_assoc (B ++ [x]), set_mid hn, ← List.append_assoc]
theorem hdX3_init : yX3_init.cls ≠ "java/lang/invoke/MethodHandle" ∧ yX3_init.cls ≠ "java/lang/invoke/VarHandle" ∧ (parseMethodDescriptor yX3_init.desc).map (fun d => d.parameters.length) = some 0 := by decide +kernel
theorem hdX4_init : yX4_init.cls ≠ "java/lang/invoke/MethodHandle" ∧ yX4_init.cls ≠ "java/lang/invoke/VarHandle" ∧ (parseMethodDescriptor yX4_init.desc).map (fun d => d.parameters.length) = some 0 := by decide +kernel
theorem hdX0_init : yX0_init.cls ≠ "java/lang/invoke/MethodHandle" ∧ yX0_init.cls ≠ "java/lang/invoke/VarHandle" ∧ (parseMethodDescriptor yX0_init.desc).map (fun d => d.parameters.length) = some 0 := by decide +kernel
theorem hdX1_init : yX1_init.cls ≠ "java/lang/invoke/MethodHandle" ∧ yX1_init.cls ≠ "java/lang/invoke/VarHandle" ∧ (parseMethodDescriptor yX1_init.desc).map (fun d => d.parameters.length) = some 0 := by decide +kernel
abbrev fs3 : List Value := [.null, .null, .null]
theorem hfs3 : ∀ j, j < 3 → defaultValue (tyX3 j) = vp_V fs3 j := by decide +kernel
abbrev fs4 : List Value := [.null, .int 0, .int 0, .int 0, .int 0, .int 0, .int 0, .int 0]
theorem hfs4 : ∀ j, j < 8 → defaultValue (tyX4 j) = vp_V fs4 j := by decide +kernel
abbrev fs0 : List Value := [.null, .int 0, .int 0]
theorem hfs0 : ∀ j, j < 3 → defaultValue (tyX0 j) = vp_V fs0 j := by decide +kernel
abbrev fs1 : List Value := [.null, .int 0, .int 0, .int 0, .int 0, .int 0]
theorem hfs1 : ∀ j, j < 6 → defaultValue (tyX1 j) = vp_V fs1 j := by decide +kernel
set_option maxHeartbeats 16000000 in
set_option maxRecDepth 100000 in
theorem k_X5 {l : Launch} {D : va_G} {cI cII cR : ClassId} (wd h0 : Nat) : KI l D vwCl (tyC cI cII cR) ZI yX5_init wsX5_init ({ frames := 3, cells := 193, slots := 1782, locals := 53 } : Room) 5 [.null, .null, .null, .null, .null, .null, .null, .null, .int 0] (fun ad => ad 174 = h0 ∧ ad 1000 = wd) (fun ad => XX 194 ad (EC ad cI cII cR) μ0) 193 1782 h0 := by
  have i_5 : ∀ w ∈ u_ws RX5 TX5 9, w ∈ wsX5_init := by decide +kernel
  have i_3 : ∀ w ∈ u_ws RX3 TX3 3, w ∈ wsX5_init := by decide +kernel
  have i_4 : ∀ w ∈ u_ws RX4 TX4 8, w ∈ wsX5_init := by decide +kernel
  have i_0 : ∀ w ∈ u_ws RX0 TX0 3, w ∈ wsX5_init := by decide +kernel
  have i_1 : ∀ w ∈ u_ws RX1 TX1 6, w ∈ wsX5_init := by decide +kernel
  have i_2 : ∀ w ∈ u_ws RX2 TX2 11, w ∈ wsX5_init := by decide +kernel
  refine KI_of (ws' := _) (cc := cX5_init) (maxL := 1) (by decide) rfl rfl (Nat.le_of_ble_eq_true rfl) (fun G C => ?_)
  refine n_aload C 0 rfl dX5_init_0 rfl ?_
  refine n_obj C (index := 1) (by decide +kernel) (by decide +kernel) (List.mem_cons_of_mem _ (List.mem_of_getElem? (i := 2) rfl)) ⟨Nat.le_of_ble_eq_true rfl, Nat.le_of_ble_eq_true rfl⟩ dX5_init_1 ?_
  refine n_aload C 0 rfl dX5_init_4 rfl ?_
  refine n_new C (ci := 3) i_3 tyX3 tyX3_ok (by decide +kernel) (by decide +kernel) (by decide +kernel) rfl fs3 hfs3 (Nat.le_of_ble_eq_true rfl) (Nat.le_of_ble_eq_true rfl) dX5_init_5 (fun q => ?_)
  refine n_dup C dX5_init_8 ?_
  refine n_callI ZI_st C (k_X3 (fun s hs => hs.2.2.2.2.2) (cI := cI) (cII := cII) (cR := cR) q) gX5_init_X3_init rfl ⟨rfl, rfl⟩ (by decide +kernel) (by decide +kernel) (by decide +kernel) rfl hdX3_init ⟨Nat.le_of_ble_eq_true rfl, Nat.le_of_ble_eq_true rfl⟩ (Nat.le_of_ble_eq_true rfl) ⟨Nat.le_of_ble_eq_true rfl, Nat.le_of_ble_eq_true rfl⟩ dX5_init_9 (fun w hu => ?_)
  subst hu
  refine n_putF C (q0 := 0) (ci := 5) (j := 0) (ty := .object "SwanDeeds$Rows") i_5 tyX5_ok nmX5 rfl rfl (by decide) rfl rfl (by decide +kernel) (by decide +kernel) rfl rfl (Nat.le_of_ble_eq_true rfl) ([(h0, .inr (5, [.ref (w 0), .null, .null, .null, .null, .null, .null, .null, .int 0]))] ++ wfW cI cII w) rfl dX5_init_12 ?_
  refine n_aload C 0 rfl dX5_init_15 rfl ?_
  refine n_new C (ci := 4) i_4 tyX4 tyX4_ok (by decide +kernel) (by decide +kernel) (by decide +kernel) rfl fs4 hfs4 (Nat.le_of_ble_eq_true rfl) (Nat.le_of_ble_eq_true rfl) dX5_init_16 (fun q => ?_)
  refine n_dup C dX5_init_19 ?_
  refine n_callN ZI_st C (k_X4 (cI := cI) (cII := cII) (cR := cR) q) gX5_init_X4_init_n18 rfl ⟨rfl, rfl⟩ (by decide +kernel) (fun s hs => hs.1) (by decide +kernel) rfl hdX4_init ⟨Nat.le_of_ble_eq_true rfl, Nat.le_of_ble_eq_true rfl⟩ (Nat.le_of_ble_eq_true rfl) ⟨Nat.le_of_ble_eq_true rfl, Nat.le_of_ble_eq_true rfl⟩ dX5_init_20 (fun t hu => ?_)
  subst hu
  refine n_putF C (q0 := 0) (ci := 5) (j := 1) (ty := .object "SwanDeeds$Tape") i_5 tyX5_ok nmX5 rfl rfl (by decide) rfl rfl (by decide +kernel) (by decide +kernel) rfl rfl (Nat.le_of_ble_eq_true rfl) (([(h0, .inr (5, [.ref (w 0), .ref (t 0), .null, .null, .null, .null, .null, .null, .int 0]))] ++ wfW cI cII w) ++ wfT cI t) rfl dX5_init_23 ?_
  refine n_aload C 0 rfl dX5_init_26 rfl ?_
  refine n_new C (ci := 0) i_0 tyX0 tyX0_ok (by decide +kernel) (by decide +kernel) (by decide +kernel) rfl fs0 hfs0 (Nat.le_of_ble_eq_true rfl) (Nat.le_of_ble_eq_true rfl) dX5_init_27 (fun q => ?_)
  refine n_dup C dX5_init_30 ?_
  refine n_callI ZI_st C (k_X0 ZI_st (fun s hs => hs.2.2.2.2.1) (fun s hs => hs.2.2.2.1) (cI := cI) (cII := cII) (cR := cR) q) gX5_init_X0_init rfl ⟨rfl, rfl⟩ (by decide +kernel) (by decide +kernel) (by decide +kernel) rfl hdX0_init ⟨Nat.le_of_ble_eq_true rfl, Nat.le_of_ble_eq_true rfl⟩ (Nat.le_of_ble_eq_true rfl) ⟨Nat.le_of_ble_eq_true rfl, Nat.le_of_ble_eq_true rfl⟩ dX5_init_31 (fun kk hu => ?_)
  subst hu
  refine n_putF C (q0 := 0) (ci := 5) (j := 2) (ty := .object "SwanDeeds$Acts") i_5 tyX5_ok nmX5 rfl rfl (by decide) rfl rfl (by decide +kernel) (by decide +kernel) rfl rfl (Nat.le_of_ble_eq_true rfl) ((([(h0, .inr (5, [.ref (w 0), .ref (t 0), .ref (kk 0), .null, .null, .null, .null, .null, .int 0]))] ++ wfW cI cII w) ++ wfT cI t) ++ wfK cI cR 24 kk) rfl dX5_init_34 ?_
  refine n_aload C 0 rfl dX5_init_37 rfl ?_
  refine n_new C (ci := 1) i_1 tyX1 tyX1_ok (by decide +kernel) (by decide +kernel) (by decide +kernel) rfl fs1 hfs1 (Nat.le_of_ble_eq_true rfl) (Nat.le_of_ble_eq_true rfl) dX5_init_38 (fun q => ?_)
  refine n_dup C dX5_init_41 ?_
  refine n_callN ZI_st C (k_X1 (cI := cI) (cII := cII) (cR := cR) q) gX5_init_X1_init_n32 rfl ⟨rfl, rfl⟩ (by decide +kernel) (fun s hs => hs.2.1) (by decide +kernel) rfl hdX1_init ⟨Nat.le_of_ble_eq_true rfl, Nat.le_of_ble_eq_true rfl⟩ (Nat.le_of_ble_eq_true rfl) ⟨Nat.le_of_ble_eq_true rfl, Nat.le_of_ble_eq_true rfl⟩ dX5_init_42 (fun s hu => ?_)
  subst hu
  refine n_putF C (q0 := 0) (ci := 5) (j := 3) (ty := .object "SwanDeeds$Asks") i_5 tyX5_ok nmX5 rfl rfl (by decide) rfl rfl (by decide +kernel) (by decide +kernel) rfl rfl (Nat.le_of_ble_eq_true rfl) (((([(h0, .inr (5, [.ref (w 0), .ref (t 0), .ref (kk 0), .ref (s 0), .null, .null, .null, .null, .int 0]))] ++ wfW cI cII w) ++ wfT cI t) ++ wfK cI cR 24 kk) ++ wfA cI s) rfl dX5_init_45 ?_
  refine n_aload C 0 rfl dX5_init_48 rfl ?_
  refine n_new C (ci := 2) i_2 tyX2 tyX2_ok (by decide +kernel) (by decide +kernel) (by decide +kernel) rfl fs2 hfs2 (Nat.le_of_ble_eq_true rfl) (Nat.le_of_ble_eq_true rfl) dX5_init_49 (fun q => ?_)
  refine n_dup C dX5_init_52 ?_
  refine n_callN ZI_st C (k_X2 (cI := cI) (cII := cII) (cR := cR) q) gX5_init_X2_init_n39 rfl ⟨rfl, rfl⟩ (by decide +kernel) (fun s hs => hs.2.2.1) (by decide +kernel) rfl hdX2_init ⟨Nat.le_of_ble_eq_true rfl, Nat.le_of_ble_eq_true rfl⟩ (Nat.le_of_ble_eq_true rfl) ⟨Nat.le_of_ble_eq_true rfl, Nat.le_of_ble_eq_true rfl⟩ dX5_init_53 (fun r0 hu => ?_)
  subst hu
  refine n_putF C (q0 := 0) (ci := 5) (j := 4) (ty := .object "SwanDeeds$River") i_5 tyX5_ok nmX5 rfl rfl (by decide) rfl rfl (by decide +kernel) (by decide +kernel) rfl rfl (Nat.le_of_ble_eq_true rfl) ((((([(h0, .inr (5, [.ref (w 0), .ref (t 0), .ref (kk 0), .ref (s 0), .ref (r0 0), .null, .null, .null, .int 0]))] ++ wfW cI cII w) ++ wfT cI t) ++ wfK cI cR 24 kk) ++ wfA cI s) ++ wfR cI r0) rfl dX5_init_56 ?_
  refine n_aload C 0 rfl dX5_init_59 rfl ?_
  refine n_new C (ci := 2) i_2 tyX2 tyX2_ok (by decide +kernel) (by decide +kernel) (by decide +kernel) rfl fs2 hfs2 (Nat.le_of_ble_eq_true rfl) (Nat.le_of_ble_eq_true rfl) dX5_init_60 (fun q => ?_)
  refine n_dup C dX5_init_63 ?_
  refine n_callN ZI_st C (k_X2 (cI := cI) (cII := cII) (cR := cR) q) gX5_init_X2_init_n39 rfl ⟨rfl, rfl⟩ (by decide +kernel) (fun s hs => hs.2.2.1) (by decide +kernel) rfl hdX2_init ⟨Nat.le_of_ble_eq_true rfl, Nat.le_of_ble_eq_true rfl⟩ (Nat.le_of_ble_eq_true rfl) ⟨Nat.le_of_ble_eq_true rfl, Nat.le_of_ble_eq_true rfl⟩ dX5_init_64 (fun r3 hu => ?_)
  subst hu
  refine n_putF C (q0 := 0) (ci := 5) (j := 5) (ty := .object "SwanDeeds$River") i_5 tyX5_ok nmX5 rfl rfl (by decide) rfl rfl (by decide +kernel) (by decide +kernel) rfl rfl (Nat.le_of_ble_eq_true rfl) (((((([(h0, .inr (5, [.ref (w 0), .ref (t 0), .ref (kk 0), .ref (s 0), .ref (r0 0), .ref (r3 0), .null, .null, .int 0]))] ++ wfW cI cII w) ++ wfT cI t) ++ wfK cI cR 24 kk) ++ wfA cI s) ++ wfR cI r0) ++ wfR cI r3) rfl dX5_init_67 ?_
  refine n_aload C 0 rfl dX5_init_70 rfl ?_
  refine n_new C (ci := 2) i_2 tyX2 tyX2_ok (by decide +kernel) (by decide +kernel) (by decide +kernel) rfl fs2 hfs2 (Nat.le_of_ble_eq_true rfl) (Nat.le_of_ble_eq_true rfl) dX5_init_71 (fun q => ?_)
  refine n_dup C dX5_init_74 ?_
  refine n_callN ZI_st C (k_X2 (cI := cI) (cII := cII) (cR := cR) q) gX5_init_X2_init_n39 rfl ⟨rfl, rfl⟩ (by decide +kernel) (fun s hs => hs.2.2.1) (by decide +kernel) rfl hdX2_init ⟨Nat.le_of_ble_eq_true rfl, Nat.le_of_ble_eq_true rfl⟩ (Nat.le_of_ble_eq_true rfl) ⟨Nat.le_of_ble_eq_true rfl, Nat.le_of_ble_eq_true rfl⟩ dX5_init_75 (fun r4 hu => ?_)
  subst hu
  refine n_putF C (q0 := 0) (ci := 5) (j := 6) (ty := .object "SwanDeeds$River") i_5 tyX5_ok nmX5 rfl rfl (by decide) rfl rfl (by decide +kernel) (by decide +kernel) rfl rfl (Nat.le_of_ble_eq_true rfl) ((((((([(h0, .inr (5, [.ref (w 0), .ref (t 0), .ref (kk 0), .ref (s 0), .ref (r0 0), .ref (r3 0), .ref (r4 0), .null, .int 0]))] ++ wfW cI cII w) ++ wfT cI t) ++ wfK cI cR 24 kk) ++ wfA cI s) ++ wfR cI r0) ++ wfR cI r3) ++ wfR cI r4) rfl dX5_init_78 ?_
  have e0 : (I3 0).toNatClampNeg = 0 := by decide +kernel
  have e1 : (I3 1).toNatClampNeg = 1 := by decide +kernel
  refine n_aload C 0 rfl dX5_init_81 rfl ?_
  refine n_iconst C dX5_init_82 ?_
  refine n_newq C (Cn' := RX2) (by decide +kernel) (fun s hs => hs.2.2.2.2.1) (t0 := 2) rfl (N' := 2) (by decide +kernel) (by decide +kernel) (Nat.le_of_ble_eq_true rfl) (Nat.le_of_ble_eq_true rfl) (Nat.le_of_ble_eq_true rfl) dX5_init_83 (fun img => ?_)
  refine n_dup C dX5_init_86 ?_
  refine n_iconst C dX5_init_87 ?_
  refine n_new C (ci := 2) i_2 tyX2 tyX2_ok (by decide +kernel) (by decide +kernel) (by decide +kernel) rfl fs2 hfs2 (Nat.le_of_ble_eq_true rfl) (Nat.le_of_ble_eq_true rfl) dX5_init_88 (fun q => ?_)
  refine n_dup C dX5_init_91 ?_
  refine n_callN ZI_st C (k_X2 (cI := cI) (cII := cII) (cR := cR) q) gX5_init_X2_init_n39 rfl ⟨rfl, rfl⟩ (by decide +kernel) (fun s hs => hs.2.2.1) (by decide +kernel) rfl hdX2_init ⟨Nat.le_of_ble_eq_true rfl, Nat.le_of_ble_eq_true rfl⟩ (Nat.le_of_ble_eq_true rfl) ⟨Nat.le_of_ble_eq_true rfl, Nat.le_of_ble_eq_true rfl⟩ dX5_init_92 (fun r1 hu => ?_)
  subst hu
  refine n_astq C (q0 := 181) (t0 := 2) (qk := 182) (ci := 2) (Cn' := RX2) (vs := [.int 0, .int 0, .int 0, .int 0, .ref (r1 1), .ref (r1 2), .ref (r1 3), .ref (r1 4), .ref (r1 5), .int 0, .int 0]) (at_l (at_r (i := 0) (len_7 _) rfl rfl)) rfl (at_r (i := 0) (len_8 _ _) rfl rfl) rfl (I3_in ⟨by decide, by decide⟩ (by decide) (by decide)) ((((((((([(h0, .inr (5, [.ref (w 0), .ref (t 0), .ref (kk 0), .ref (s 0), .ref (r0 0), .ref (r3 0), .ref (r4 0), .null, .int 0]))] ++ wfW cI cII w) ++ wfT cI t) ++ wfK cI cR 24 kk) ++ wfA cI s) ++ wfR cI r0) ++ wfR cI r3) ++ wfR cI r4) ++ [(img, .inl (cR, 2, .inr (.inr (.inr (.inr (fun j => if j = 0 then some (r1 0) else none))))))]) ++ wfR cI r1) (by rw [set_mid (len_7 _), e0]; rfl) dX5_init_95 ?_
  refine n_dup C dX5_init_96 ?_
  refine n_iconst C dX5_init_97 ?_
  refine n_new C (ci := 2) i_2 tyX2 tyX2_ok (by decide +kernel) (by decide +kernel) (by decide +kernel) rfl fs2 hfs2 (Nat.le_of_ble_eq_true rfl) (Nat.le_of_ble_eq_true rfl) dX5_init_98 (fun q => ?_)
  refine n_dup C dX5_init_101 ?_
  refine n_callN ZI_st C (k_X2 (cI := cI) (cII := cII) (cR := cR) q) gX5_init_X2_init_n39 rfl ⟨rfl, rfl⟩ (by decide +kernel) (fun s hs => hs.2.2.1) (by decide +kernel) rfl hdX2_init ⟨Nat.le_of_ble_eq_true rfl, Nat.le_of_ble_eq_true rfl⟩ (Nat.le_of_ble_eq_true rfl) ⟨Nat.le_of_ble_eq_true rfl, Nat.le_of_ble_eq_true rfl⟩ dX5_init_102 (fun r2 hu => ?_)
  subst hu
  refine n_astq C (q0 := 181) (t0 := 2) (qk := 188) (ci := 2) (Cn' := RX2) (vs := [.int 0, .int 0, .int 0, .int 0, .ref (r2 1), .ref (r2 2), .ref (r2 3), .ref (r2 4), .ref (r2 5), .int 0, .int 0]) (at_l (at_l (at_r (i := 0) (len_7 _) rfl rfl))) rfl (at_r (i := 0) (len_9 _ _) rfl rfl) rfl (I3_in ⟨by decide, by decide⟩ (by decide) (by decide)) (((((((((([(h0, .inr (5, [.ref (w 0), .ref (t 0), .ref (kk 0), .ref (s 0), .ref (r0 0), .ref (r3 0), .ref (r4 0), .null, .int 0]))] ++ wfW cI cII w) ++ wfT cI t) ++ wfK cI cR 24 kk) ++ wfA cI s) ++ wfR cI r0) ++ wfR cI r3) ++ wfR cI r4) ++ [(img, .inl (cR, 2, .inr (.inr (.inr (.inr (imW r1 r2))))))]) ++ wfR cI r1) ++ wfR cI r2) (by rw [set_mid2 (len_7 _), e1]; rfl) dX5_init_105 ?_
  refine n_putF C (q0 := 0) (ci := 5) (j := 7) (ty := .array (.object "SwanDeeds$River")) i_5 tyX5_ok nmX5 rfl rfl (by decide) rfl rfl (by decide +kernel) (by decide +kernel) rfl rfl (Nat.le_of_ble_eq_true rfl) (((((((((([(h0, .inr (5, [.ref (w 0), .ref (t 0), .ref (kk 0), .ref (s 0), .ref (r0 0), .ref (r3 0), .ref (r4 0), .ref img, .int 0]))] ++ wfW cI cII w) ++ wfT cI t) ++ wfK cI cR 24 kk) ++ wfA cI s) ++ wfR cI r0) ++ wfR cI r3) ++ wfR cI r4) ++ [(img, .inl (cR, 2, .inr (.inr (.inr (.inr (imW r1 r2))))))]) ++ wfR cI r1) ++ wfR cI r2) rfl dX5_init_106 ?_
  exact n_ret C dX5_init_109 rfl rfl (adW h0 img wd w t kk s r0 r1 r2 r3 r4) ⟨rfl, rfl⟩ (fun H A h1 h2 => WfC_XX (wd := wd) h1 h2)
