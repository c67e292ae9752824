/-! THE LAW: its start; and the claim. -/
theorem mem_p {big : List Cond} (ws : List Cond) (ps : List Nat) (hp : ws = ps.filterMap (fun i => big[i]?)) : ∀ w ∈ ws, w ∈ big := by
  intro w hw
  rw [hp] at hw
  obtain ⟨i, -, hi⟩ := List.mem_filterMap.mp hw
  exact List.mem_of_getElem? hi
set_option maxRecDepth 20000 in
theorem in_wsX50 : ∀ w ∈ wsX50, w ∈ lw_tbl := mem_p _ [254, 256, 258, 260, 262, 264, 266, 268, 270] rfl
set_option maxRecDepth 20000 in
theorem in_wsX60 : ∀ w ∈ wsX60, w ∈ lw_tbl := mem_p _ [799, 801, 803, 805, 807, 809, 811, 813, 815, 817, 819, 821, 823, 825, 827, 829, 831, 833, 835] rfl
set_option maxRecDepth 20000 in
theorem in_wsX30 : ∀ w ∈ wsX30, w ∈ lw_tbl := mem_p _ [96, 98, 100] rfl
set_option maxRecDepth 20000 in
theorem in_wsX40 : ∀ w ∈ wsX40, w ∈ lw_tbl := mem_p _ [121, 123, 125, 127, 129, 131, 133, 135] rfl
set_option maxRecDepth 20000 in
theorem in_wsX00 : ∀ w ∈ wsX00, w ∈ lw_tbl := mem_p _ [209, 211, 213] rfl
set_option maxRecDepth 20000 in
theorem in_wsX10 : ∀ w ∈ wsX10, w ∈ lw_tbl := mem_p _ [230, 232, 234, 236, 238, 240] rfl
set_option maxRecDepth 20000 in
theorem in_wsX20 : ∀ w ∈ wsX20, w ∈ lw_tbl := mem_p _ [182, 184, 186, 188, 190, 192, 194, 196, 198, 200, 202] rfl
abbrev fs5 : List Value := [.null, .null, .null, .null, .null, .null, .null, .null, .int 0]
theorem hfs5 : ∀ j, j < 9 → defaultValue (tyX5 j) = vp_V fs5 j := by decide +kernel
abbrev fs6 : List Value := [.null, .null, .null, .int 0, .null, .null, .null, .int 0, .null, .int 0, .int 0, .null, .int 0, .null, .int 0, .int 0, .int 0, .int 0, .int 0]
theorem hfs6 : ∀ j, j < 19 → defaultValue (tyX6 j) = vp_V fs6 j := by decide +kernel
theorem hdX5_init : yX5_init.cls ≠ "java/lang/invoke/MethodHandle" ∧ yX5_init.cls ≠ "java/lang/invoke/VarHandle" ∧ (parseMethodDescriptor yX5_init.desc).map (fun d => d.parameters.length) = some 0 := by decide +kernel
theorem hdX6_init : yX6_init.cls ≠ "java/lang/invoke/MethodHandle" ∧ yX6_init.cls ≠ "java/lang/invoke/VarHandle" ∧ (parseMethodDescriptor yX6_init.desc).map (fun d => d.parameters.length) = some 0 := by decide +kernel
/-- the kinds' row, of which the Statement says what it holds -/
theorem wid_of {args : Array Value} {s : State} (h : (Jvm.Cond.and given_1 narrow_1).before args s = true) {A : Nat → Prop} (hA : ∀ a : Nat, a < s.heap.size → ¬ A a) (hl : (Cond.laysStatic "SwanDeeds" "WIDER" "[I").before args s = true) (hini : (Cond.initialized "SwanDeeds").before args s = true) : ∃ t : Nat, va_Z "SwanDeeds" "WIDER" "[I" (.ref t) A s s.heap ∧ va_T .int t 6 wid A s s.heap := by
  have hs := flat_of_before _ h
  have h6 : (Term.length (.static "SwanDeeds" "WIDER" "[I")).eval args s none [] s = some (.int (Int32.ofNat 6)) := va_eqt (hs (.eq (.length (.static "SwanDeeds" "WIDER" "[I")) (.int 6)) (by decide +kernel))
  have e0 : (Term.elem (.static "SwanDeeds" "WIDER" "[I") (.int (Int32.ofNat 0))).eval args s none [] s = some (.int 0) := va_eqt (hs (.eq (.elem (.static "SwanDeeds" "WIDER" "[I") (.int 0)) (.int 0)) (by decide +kernel))
  have e1 : (Term.elem (.static "SwanDeeds" "WIDER" "[I") (.int (Int32.ofNat 1))).eval args s none [] s = some (.int 0) := va_eqt (hs (.eq (.elem (.static "SwanDeeds" "WIDER" "[I") (.int 1)) (.int 0)) (by decide +kernel))
  have e2 : (Term.elem (.static "SwanDeeds" "WIDER" "[I") (.int (Int32.ofNat 2))).eval args s none [] s = some (.int 1) := va_eqt (hs (.eq (.elem (.static "SwanDeeds" "WIDER" "[I") (.int 2)) (.int 1)) (by decide +kernel))
  have e3 : (Term.elem (.static "SwanDeeds" "WIDER" "[I") (.int (Int32.ofNat 3))).eval args s none [] s = some (.int 1) := va_eqt (hs (.eq (.elem (.static "SwanDeeds" "WIDER" "[I") (.int 3)) (.int 1)) (by decide +kernel))
  have e4 : (Term.elem (.static "SwanDeeds" "WIDER" "[I") (.int (Int32.ofNat 4))).eval args s none [] s = some (.int 0) := va_eqt (hs (.eq (.elem (.static "SwanDeeds" "WIDER" "[I") (.int 4)) (.int 0)) (by decide +kernel))
  have e5 : (Term.elem (.static "SwanDeeds" "WIDER" "[I") (.int (Int32.ofNat 5))).eval args s none [] s = some (.int 4) := va_eqt (hs (.eq (.elem (.static "SwanDeeds" "WIDER" "[I") (.int 5)) (.int 4)) (by decide +kernel))
  obtain ⟨t, h1, h2⟩ := va_Tof (ty := .int) (N := 6) (f := wid) (A := A) (by decide) (hs (.arrayOf (.static "SwanDeeds" "WIDER" "[I") .int) (by decide +kernel)) h6 (fun j hj => by
    have hj2 : j = 0 ∨ j = 1 ∨ j = 2 ∨ j = 3 ∨ j = 4 ∨ j = 5 := by omega
    rcases hj2 with rfl | rfl | rfl | rfl | rfl | rfl
    · exact e0
    · exact e1
    · exact e2
    · exact e3
    · exact e4
    · exact e5) hA
  exact ⟨t, va_Zof hl hini h1 hA, h2⟩
theorem kind_K {s : State} {c0 c1 c2 c3 c4 c5 c6 : ClassId} {i0 i1 i2 i3 i4 i5 i6 : Nat → Nat} (h0 : u_Kn s RX0 TX0 3 c0 i0) (h1 : u_Kn s RX1 TX1 6 c1 i1) (h2 : u_Kn s RX2 TX2 11 c2 i2) (h3 : u_Kn s RX3 TX3 3 c3 i3) (h4 : u_Kn s RX4 TX4 8 c4 i4) (h5 : u_Kn s RX5 TX5 9 c5 i5) (h6 : u_Kn s RX6 TX6 19 c6 i6) : ∃ D : va_G, ∀ (c : Nat) (q : vw_C), vwCl[c]? = some q → u_Kn s q.1 q.2.1 q.2.2 (D.1 c) (D.2 c) := by
  refine ⟨(fun c => match c with | 0 => c0 | 1 => c1 | 2 => c2 | 3 => c3 | 4 => c4 | 5 => c5 | _ => c6, fun c => match c with | 0 => i0 | 1 => i1 | 2 => i2 | 3 => i3 | 4 => i4 | 5 => i5 | _ => i6), fun c q hq => ?_⟩
  have hc : c < 7 := (List.getElem?_eq_some_iff.mp hq).1
  have hcs : c = 0 ∨ c = 1 ∨ c = 2 ∨ c = 3 ∨ c = 4 ∨ c = 5 ∨ c = 6 := by omega
  rcases hcs with rfl | rfl | rfl | rfl | rfl | rfl | rfl
  · cases hq; exact h0
  · cases hq; exact h1
  · cases hq; exact h2
  · cases hq; exact h3
  · cases hq; exact h4
  · cases hq; exact h5
  · cases hq; exact h6
set_option maxHeartbeats 8000000 in
set_option maxRecDepth 100000 in
/-- YOUR PART: from the entry, for every script of at most 3584 ints, the law comes to its end with true ('hflags': the launch's flags, for a law that throws: no stack traces) -/
theorem whole_start {p : Program} {e : Env} {s : State} {m : MethodId} {below : List Frame} {meth : Method} {c : Code} (l : Launch) (hflags : l.flags = flags0) {b L : Nat} {xs : Nat → Int32} (hL : L ≤ 3584) (C0 : lw_At p s m meth c b L xs) : W p l e room_1 s m #[Value.ref b] below meth c s.heap [] 0 0 (lw_Z below #[Value.ref b] s) (entryFrame m ([Value.ref b] : List Value).toArray 4) := by
  obtain ⟨hx, hb, hr, hml, hown, hts, hX, hbl, hlk, hgv⟩ := C0
  obtain ⟨cI, kI, cpI, a1, a2, a3⟩ := Cond.arrayClass_spec (hts (.arrayClass .int) (List.mem_of_getElem? (i := 103) rfl))
  obtain ⟨cZ, kZ, cpZ, z1, z2, z3⟩ := Cond.arrayClass_spec (hts (.arrayClass .boolean) (List.mem_of_getElem? (i := 838) rfl))
  obtain ⟨cpA, cII, kA, b1, b2, b3, b4⟩ := Cond.arrayOver_specA (hts (.arrayOver (.array .int)) (List.mem_of_getElem? (i := 92) rfl))
  obtain ⟨cpR, cR, kR, d1, d2, d3, d4, d5⟩ := Cond.arrayOver_spec (hts (.arrayOver (.object RX2)) (List.mem_of_getElem? (i := 145) rfl))
  obtain ⟨c0, i0, h0⟩ := u_known hts in_wsX00 (hts (.instantiable RX0 3) (List.mem_of_getElem? (i := 139) rfl))
  obtain ⟨c1, i1, h1⟩ := u_known hts in_wsX10 (hts (.instantiable RX1 6) (List.mem_of_getElem? (i := 217) rfl))
  obtain ⟨c2, i2, h2⟩ := u_known hts in_wsX20 (hts (.instantiable RX2 11) (List.mem_of_getElem? (i := 146) rfl))
  obtain ⟨c3, i3, h3⟩ := u_known hts in_wsX30 (hts (.instantiable RX3 3) (List.mem_of_getElem? (i := 86) rfl))
  obtain ⟨c4, i4, h4⟩ := u_known hts in_wsX40 (hts (.instantiable RX4 8) (List.mem_of_getElem? (i := 105) rfl))
  obtain ⟨c5, i5, h5⟩ := u_known hts in_wsX50 (hts (.instantiable RX5 9) (List.mem_of_getElem? (i := 78) rfl))
  obtain ⟨c6, i6, h6⟩ := u_known hts in_wsX60 (hts (.instantiable RX6 19) (List.mem_of_getElem? (i := 775) rfl))
  obtain ⟨D, hD7⟩ := kind_K h0 h1 h2 h3 h4 h5 h6
  have rI : ArrOfT s cI .int ∧ va_RA s cI .int := ⟨fun n z => ⟨fun k h => (by cases h), kI, a2, cpI, a3⟩, a1⟩
  have rZ : ArrOfT s cZ .boolean ∧ va_RA s cZ .boolean := ⟨fun n z => ⟨fun k h => (by cases h), kZ, z2, cpZ, z3⟩, z1⟩
  have rA : ArrOfT s cII (.array .int) ∧ va_RA s cII (.array .int) := ⟨fun n z => ⟨fun k h => (by cases h), kA, b2, cpA, b3⟩, b4⟩
  have rR : ArrOfT s cR (.object RX2) ∧ va_RA s cR (.object RX2) := ⟨fun n z => ⟨fun k h => (by cases h), kR, d3, cpR, d4⟩, kR, cpR, d3, d4, d1, d5⟩
  have hKC : va_K D vwCl (tyC cI cII cR) s := ⟨hD7, fun k q hq => by
    have hk : k < 3 := (List.getElem?_eq_some_iff.mp hq).1
    have hks : k = 0 ∨ k = 1 ∨ k = 2 := by omega
    rcases hks with rfl | rfl | rfl
    · cases hq; exact rI
    · cases hq; exact rA
    · cases hq; exact rR⟩
  have hKM : va_K D vwCl (tyM cI cZ) s := ⟨hD7, fun k q hq => by
    have hk : k < 2 := (List.getElem?_eq_some_iff.mp hq).1
    have hks : k = 0 ∨ k = 1 := by omega
    rcases hks with rfl | rfl
    · cases hq; exact rI
    · cases hq; exact rZ⟩
  have hZI : ZI s := ⟨va_Nw.of rfl (hts (.methodLinkNest RX5 18 yX4_init "SwanDeeds") (List.mem_of_getElem? (i := 106) rfl)), va_Nw.of rfl (hts (.methodLinkNest RX5 32 yX1_init "SwanDeeds") (List.mem_of_getElem? (i := 218) rfl)), va_Nw.of rfl (hts (.methodLinkNest RX5 39 yX2_init "SwanDeeds") (List.mem_of_getElem? (i := 244) rfl)), va_Nw.of rfl (hts (.methodLinkNest RX0 17 yX2_init "SwanDeeds") (List.mem_of_getElem? (i := 147) rfl)), va_AO.of (hts (.arrayOver (.object RX2)) (List.mem_of_getElem? (i := 145) rfl)), va_AOA.of (hts (.arrayOver (.array .int)) (List.mem_of_getElem? (i := 92) rfl))⟩
  obtain ⟨wd, hw1, hw2⟩ := wid_of hgv (A := fun q => s.heap.size ≤ q) (fun a h1 h2 => by omega) (hts (.laysStatic "SwanDeeds" "WIDER" "[I") (List.mem_of_getElem? (i := 695) rfl)) (hts (.initialized "SwanDeeds") (List.mem_of_getElem? (i := 67) rfl))
  have hA : ∀ q : Nat, s.heap.size ≤ q → (fun q => s.heap.size ≤ q) q := fun q h => h
  have hS : va_S (fun q => s.heap.size ≤ q) s.heap s.heap [] := va_S.rf
  have hl := lv_entry [Value.ref b] (n := 4) (Nat.le_of_ble_eq_true rfl)
  rw [lg_entry_eq]
  generalize (lg_sl [Value.ref b] ++ List.replicate (4 - (lg_sl [Value.ref b]).length) Slot.unset).toArray = ls at hl ⊢
  have hl : lv_has ls 4 [(0, .ref b)] := hl
  have hP0 : va_P D vwCl [] s.heap := fun k q h => by simp at h
  have hD0 : va_D (fun q => s.heap.size ≤ q) [] := ⟨fun i j p q h => by simp at h, fun k q h => by simp at h⟩
  have hF : CallFix p m c code 4 s #[Value.ref b] lw_tbl R_law := ⟨hx, hb, hml, hown, hts⟩
  refine va_new (c0 := c) (C := RX5) (T := TX5) (N := 9) (ci := 5) (Ts := lw_tbl) (own := R_law) hx hb hts in_wsX50 tyX5 tyX5_ok hown (hts (.classLink RL 7 RX5) (List.mem_of_getElem? (i := 77) rfl)) (hts (.instantiable RX5 9) (List.mem_of_getElem? (i := 78) rfl)) (hts (.initialized RX5) (List.mem_of_getElem? (i := 67) rfl)) hKC hP0 hD0 hS hA rfl (fs := fs5) hfs5 (Nat.le_of_ble_eq_true rfl) (Nat.le_of_ble_eq_true rfl) dL_law_0 (fun q H1 hP hD hS => ?_)
  refine lv_dup hx hb dL_law_3 rfl ?_
  have hFc := va_free (wc := [(q, .inr (5, fs5))]) hD hS hA [0] rfl
  refine va_callv (va_runI (As := []) (rest := [.ref q]) (p := p) (l := l) (e := e) (R := room_1) (meth := meth) (below := below) (cells := 1) (slots := 9) (H := H1) (g := F0 m (0 + 3 + 1) ls [.ref q, .ref q]) hF (k_X5 (l := l) (D := D) (cI := cI) (cII := cII) (cR := cR) wd q H1.size) (cwI 0 hts gL_X5_init rfl rfl rfl (hts (.initialized RX5) (List.mem_of_getElem? (i := 67) rfl)) (hts (.methodLink RL 9 yX5_init) (List.mem_of_getElem? (i := 79) rfl)) (hts (.instanceMethod yX5_init) (List.mem_of_getElem? (i := 80) rfl)) rfl hdX5_init ⟨Nat.le_of_ble_eq_true rfl, Nat.le_of_ble_eq_true rfl⟩) ⟨KI_blind ZI_st, fun U hU hW => ⟨rfl, by rw [hU], by rw [hU]; exact hP, va_K.moved hW.alike hKC, hD.weaken (fun _ _ _ _ => trivial), ZI_st s U hZI hW⟩⟩ rfl rfl hl.1 rfl (lv_room (Nat.le_of_ble_eq_true rfl)) dL_law_4 ⟨Nat.le_of_ble_eq_true rfl, Nat.le_of_ble_eq_true rfl⟩) hS (fun q _ h => hFc q h) hFc (fun ad t H2 locs2 ht hvm hw hB hz1 hk1 hS => ?_)
  obtain ⟨hP1, hD1⟩ := hB
  rw [ht] at hP1
  obtain ⟨hPj, hDj⟩ := va_join (wr := []) (wc := [(q, .inr (5, fs5))]) (w1 := XX 194 ad (EC ad cI cII cR) μ0) hP hD [0] [] rfl rfl (by decide) (by decide) hk1 hFc hP1 hD1
  obtain ⟨hq, hwd⟩ := hw
  subst hq hwd
  have hP : va_P D vwCl (XX 194 ad (EC ad cI cII cR) μ0) H2 := hPj
  have hD : va_D (fun q => s.heap.size ≤ q) (XX 194 ad (EC ad cI cII cR) μ0) := hDj
  have hBA : ∀ q : Nat, (∃ k, k < 194 ∧ q = ad k) → s.heap.size ≤ q := fun q h => by
    obtain ⟨k, hk, rfl⟩ := h
    exact hD.2 k _ (XX_get hk)
  have hZC : ZC ad s := ⟨va_Nw.of rfl (hts (.methodLinkNest RX4 82 yX5_within "SwanDeeds") (List.mem_of_getElem? (i := 379) rfl)), hw1.narrow hBA, hw2.narrow hBA⟩
  refine lv_astore_n (nL := 4) (lv' := [(1, .ref (ad 174)), (0, .ref b)]) hx hb dL_law_7 rfl hl (by decide) rfl (fun ls1 hl => ?_)
  refine va_new (c0 := c) (C := RX6) (T := TX6) (N := 19) (ci := 6) (Ts := lw_tbl) (own := R_law) hx hb hts in_wsX60 tyX6 tyX6_ok hown (hts (.classLink RL 10 RX6) (List.mem_of_getElem? (i := 774) rfl)) (hts (.instantiable RX6 19) (List.mem_of_getElem? (i := 775) rfl)) (hts (.initialized RX6) (List.mem_of_getElem? (i := 73) rfl)) hKC hP hD hS hA rfl (fs := fs6) hfs6 (Nat.le_of_ble_eq_true rfl) (Nat.le_of_ble_eq_true rfl) dL_law_8 (fun q2 H3 hP hD hS => ?_)
  refine lv_dup hx hb dL_law_11 rfl ?_
  have hPc : va_P D vwCl [(q2, .inr (6, fs6))] H3 := hP.sub [(XX 194 ad (EC ad cI cII cR) μ0).length] (by simp)
  have hDc : va_D (fun q => s.heap.size ≤ q) [(q2, .inr (6, fs6))] := hD.sub [(XX 194 ad (EC ad cI cII cR) μ0).length] (nd_of (by simp)) (last_map _ _)
  have hFc := va_free (wc := [(q2, .inr (6, fs6))]) hD hS hA [(XX 194 ad (EC ad cI cII cR) μ0).length] (last_map _ _)
  refine va_callv (va_runI (As := []) (rest := [.ref q2]) (p := p) (l := l) (e := e) (R := room_1) (meth := meth) (below := below) (cells := 195) (slots := 1810) (H := H3) (g := F0 m (0 + 3 + 1 + 3 + 1 + 3 + 1) ls1 [.ref q2, .ref q2]) hF (k_X6 (l := l) (D := D) (ZZ := fun _ => True) (cI := cI) (cZ := cZ) q2 H3.size) (cwI 0 hts gL_X6_init rfl rfl rfl (hts (.initialized RX6) (List.mem_of_getElem? (i := 73) rfl)) (hts (.methodLink RL 12 yX6_init) (List.mem_of_getElem? (i := 776) rfl)) (hts (.instanceMethod yX6_init) (List.mem_of_getElem? (i := 777) rfl)) rfl hdX6_init ⟨Nat.le_of_ble_eq_true rfl, Nat.le_of_ble_eq_true rfl⟩) ⟨KI_blind (fun _ _ _ _ => trivial), fun U hU hW => ⟨rfl, by rw [hU], by rw [hU]; exact hPc, va_K.moved hW.alike hKM, hDc.weaken (fun _ _ _ _ => trivial), trivial⟩⟩ rfl rfl hl.1 rfl (lv_room (Nat.le_of_ble_eq_true rfl)) dL_law_12 ⟨Nat.le_of_ble_eq_true rfl, Nat.le_of_ble_eq_true rfl⟩) hS (fun q _ h => hFc q h) hFc (fun am t3 H4 locs4 ht3 hvm3 hw3 hB3 hz3 hk3 hS => ?_)
  obtain ⟨hP1, hD1⟩ := hB3
  rw [ht3] at hP1
  obtain ⟨hPj2, hDj2⟩ := va_join (wr := XX 194 ad (EC ad cI cII cR) μ0) (wc := [(q2, .inr (6, fs6))]) (w1 := XX 10 am (EM am cI cZ) ν0) hP hD [(XX 194 ad (EC ad cI cII cR) μ0).length] (List.range (XX 194 ad (EC ad cI cII cR) μ0).length) (last_map _ _) (front_map _ _) (nd_of List.nodup_range) (fun i hi h9 => by
    have g1 := List.mem_range.mp hi
    have g2 := List.mem_singleton.mp h9
    omega) hk3 hFc hP1 hD1
  have hq2 : am 0 = q2 := hw3
  subst hq2
  refine lv_astore_n (nL := 4) (lv' := [(2, .ref (am 0)), (1, .ref (ad 174)), (0, .ref b)]) hx hb dL_law_15 rfl hl (by decide) rfl (fun ls2 hl => ?_)
  refine lv_iconst (v := I3 ((0 : Nat) : Int)) hx hb dL_law_16 rfl ?_
  refine lv_istore_n (nL := 4) (lv' := [(3, .int (I3 ((0 : Nat) : Int))), (2, .ref (am 0)), (1, .ref (ad 174)), (0, .ref b)]) hx hb dL_law_17 rfl hl (by decide) rfl (fun ls3 hl => ?_)
  have C : Lx l D ad am cI cII cR cZ L xs _ := ⟨p, e, s, m, below, meth, c, b, 204, 3008, hx, hb, hml, hr, hown, hts, hlk, hX, hbl, hKC, hKM, hZC, by decide, by decide, rfl⟩
  exact l_loop C hL L 0 μ0 ν0 (by omega) (by omega) rel_0 ok_μ0 ok_ν0 H4 locs4 ls3 hPj2 hDj2 hS hl

set_option maxHeartbeats 4000000 in
theorem lw_walk (l : Launch) (hflags : l.flags = flags0) (b : Addr) (xs : List Int32) : MetFree l x (headSpec (Jvm.Cond.code x code maxLocals ret :: tables_1) room_1) (lw_P b xs) (fun _ _ _ _ _ => True) lw_Q := by
  refine MetFree.of_bodyS (code := code) (maxLocals := maxLocals) (ret := ret) (by decide) ?_ ?_
  · intro args s m h hn
    obtain ⟨meth, c, h1, h2, h3, h4, h5, h6, -, -⟩ := Cond.code_spec hn (atoms_spec (ws := Jvm.Cond.code x code maxLocals ret :: tables_1) h _ List.mem_cons_self)
    exact ⟨meth, c, h1, h2, h3, h4, h5, h6⟩
  · intro p e s m args below meth c s₁ B hml0 hP _
    obtain ⟨rfl, hx, hbd, hgv⟩ := hP
    obtain ⟨scr, harrAt, hlist, hof, hsmall⟩ := hx
    obtain ⟨hcb, hkn, -, -⟩ := State.arrayAt?_spec harrAt
    have hown : s.vm.findClass R_law = some m.cls := findClass_of_methodNamed B.named
    have hts0 : ∀ c ∈ (Jvm.Cond.code x code maxLocals ret :: tables_1), c.before #[Value.ref b] s = true := atoms_spec (ws := Jvm.Cond.code x code maxLocals ret :: tables_1) B.pre
    have hts : ∀ w ∈ lw_tbl, w.before #[Value.ref b] s = true := k2_hts_sels lw_privs (fun w hw => hts0 w (List.mem_cons_of_mem _ hw)) lw_privs_ok
    have hml : c.maxLocals = 4 := B.maxLocals_eq (hts0 _ List.mem_cons_self)
    have X₀ : Stand p l e room_1 s m #[Value.ref b] below meth c s₁ [] 0 0 := Stand.of_body B
    have hh0 : s₁.heap = s.heap := by rw [B.state]; rfl
    have hsz : scr.slots.size = xs.length := by rw [← Array.length_toList, hlist, List.length_map]
    have hval : ∀ j : Nat, j < xs.length → scr.slots[j]? = some (.int (xs.getD j 0)) := fun j hj => by
      rw [← Array.getElem?_toList, hlist]
      simp [hj]
    have hbl : b < s.heap.size := (Array.getElem?_eq_some_iff.mp hcb).1
    have hX : va_X b xs.length (fun j => xs.getD j 0) s s.heap := ⟨scr, hcb, hof, hkn, hsz, hval⟩
    have K : W p l e room_1 s m #[Value.ref b] below meth c s₁.heap [] 0 0 (lw_Z below #[Value.ref b] s) (entryFrame m ([Value.ref b] : List Value).toArray 4) := by
      rw [hh0]
      exact whole_start l hflags hbd ⟨B.exec, B.bytes, B.returns, hml, hown, hts, hX, hbl, B.notSynchronized, hgv⟩
    obtain ⟨t, a1, o, b1, b2, b3⟩ := K s₁ rfl X₀
    exact ⟨t, o, a1, b1, b2, b3⟩
theorem lw_pre_spec {args : Array Value} {s : State} (h : (Jvm.Cond.and given_1 narrow_1).before args s = true) (hr : rest_1_c.before args s = true) : ∃ (b : Addr) (xs : List Int32), lw_P b xs args s := by
  have hs := flat_of_before _ h
  have hq := flat_of_before _ hr
  have hc : (Cond.count 1).before args s = true := hs _ (by decide +kernel)
  have harr : (Cond.arrayOf (.arg 0) .int).before args s = true := hs _ (by decide +kernel)
  have hle : (Cond.le (.length (.arg 0)) (.int 3584)).before args s = true := hs _ (by decide +kernel)
  have hlen : (Cond.isInt (.length (.arg 0))).before args s = true := hq _ (by decide +kernel)
  have hall : (Cond.all (.arg 0) (.isInt (.elem (.arg 0) (.index 0)))).before args s = true := hq _ (by decide +kernel)
  obtain ⟨b, xs, hb, hx⟩ := State.ints_of_pre rfl harr hlen hall
  have hsm : xs.length < 2 ^ 31 := hx.choose_spec.2.2.2
  have hev : (Term.length (.arg 0)).eval args s none [] s = some (.int xs.length.toInt32) := hx.length_eval hb
  have hv := Cond.le_ints hev (show (Term.int 3584).eval args s none [] s = some (.int 3584) from rfl)
  have hd : xs.length.toInt32 ≤ 3584 := by
    simpa [Cond.before, Cond.holds, hv] using hle
  have hN : xs.length ≤ 3584 := (Int32.ofNat_le_ofNat hsm (by decide)).mp (show Int32.ofNat xs.length ≤ Int32.ofNat 3584 from hd)
  exact ⟨b, xs, Cond.one_arg hc (show args[0]? = some (.ref b) from hb), hx, hN, h⟩
theorem lw_comes (l : Launch) (hflags : l.flags = flags0) : Comes l x (Jvm.Cond.code x code maxLocals ret :: tables_1) room_1 (fun tb e args s => Calls_1 tb e args s ∧ rest_1 tb e args s ∧ Pre_1 tb e args s)
    (fun _ _ args s o t => lw_Q args s o t) := by
  intro p e ha hc hk s m args below hf hfit hheap happ hpre
  obtain ⟨b, xs, hP⟩ := lw_pre_spec hpre.2.2 hpre.2.1
  obtain ⟨k, o, h1, h2, h3, hQ⟩ := lw_walk l hflags b xs p e ha hc hk s m args below hf ((Spec.applies_iff_loose hf).mp happ).1 hP trivial
  exact ⟨k, o, h1, h2, h3, hQ⟩
theorem lw_frame {s t : State} {o : Outcome} {args : Array Value} (h : Framed s o t [] 600000 7302250) :
    Framed s o t (fieldLocs frame_1_writes args s ++ arrayLocs frame_1_arrays args s ++ staticLocs frame_1_statics s) 600000 7302250 := h
theorem lw_limb (L : Cond) (hL : ∀ (args : Array Value) (s t : State), L.after args s (.returned (some (.int 1))) t = true) :
    ArmFor flags0 classFile x code maxLocals ret World_1 tables_1 room_1 Calls_1 rest_1 Pre_1
      (fun tb e a s o t => postC L tb e a s o t ∧ Framed s o t (fieldLocs frame_1_writes a s ++ arrayLocs frame_1_arrays a s ++ staticLocs frame_1_statics s) 600000 7302250) := by
  intro l hflags _ _ p e ha hc hk s m args below hf hfit hheap happ hpre
  obtain ⟨k, o, h1, h2, h3, rfl, hF⟩ := lw_comes l hflags p e ha hc hk s m args below hf hfit hheap happ hpre
  exact ⟨k, _, h1, h2, h3, hL args s _, lw_frame hF⟩
theorem i_vc : Claimed_1_1 ∧ Claimed_1_2 := ⟨lw_limb limb_1_1 (fun args s t => by simp [limb_1_1, Cond.after, Cond.holds, Cond.value]), lw_limb limb_1_2 (fun args s t => Cond.after_iff.mpr (by
  first | (rw [show limb_1_2 = Cond.eq .result (.int 1) from rfl, Cond.eq_ints (x := 1) (y := 1) rfl rfl]; simp; done) | (simp [limb_1_2, Cond.value, Term.eval]; done)))⟩
