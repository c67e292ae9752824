/-! THE CONSTRUCTOR of the rows. -/
def uW (h0 q1 q2 q3 : Nat) (r : Nat → Nat) : Nat → Nat := fun c => if c < 4 then (if c = 0 then h0 else if c = 1 then q1 else if c = 2 then q2 else q3) else r (c - 4)
theorem uW_4 {h0 q1 q2 q3 : Nat} {r : Nat → Nat} (i : Nat) : uW h0 q1 q2 q3 r (4 + i) = r i := by
  unfold uW
  rw [if_neg (by omega), show 4 + i - 4 = i by omega]
def wfW (cI cII : ClassId) (a : Nat → Nat) : va_W := [(a 0, .inr (3, [.ref (a 1), .ref (a 2), .ref (a 3)])), (a 1, .inl (cII, 8, .inr (.inr (.inr (.inr (fun i => if i < 8 then some (a (4 + i)) else none))))))] ++ (List.range 8).map (fun i => (a (4 + i), .inl (cI, 40, .inl zA))) ++ [(a 2, .inl (cI, 8, .inl zA)), (a 3, .inl (cI, 8, .inl (m1 8)))]
set_option maxHeartbeats 8000000 in
set_option maxRecDepth 100000 in
theorem k_X3 {l : Launch} {D : va_G} {ZZ : State → Prop} (hover : ∀ s, ZZ s → va_AOA .int s) {cI cII cR : ClassId} (h0 : Nat) : KI l D vwCl (tyC cI cII cR) ZZ yX3_init wsX3_init ({ frames := 1, cells := 11, slots := 344, locals := 12 } : Room) 3 [.null, .null, .null] (fun a => a 0 = h0) (wfW cI cII) 11 344 h0 := by
  have i_X : ∀ w ∈ u_ws RX3 TX3 3, w ∈ wsX3_init := fun w h => List.mem_cons_of_mem _ (List.mem_append_right _ h)
  have hai : Cond.arrayClass .int ∈ wsX3_init := by decide +kernel
  refine KI_of (ws' := _) (cc := cX3_init) (maxL := 2) (by decide) rfl rfl (Nat.le_of_ble_eq_true rfl) (fun G C => ?_)
  refine n_aload C 0 rfl dX3_init_0 rfl ?_
  refine n_obj C (index := 3) (by decide +kernel) (by decide +kernel) (List.mem_cons_of_mem _ (List.mem_of_getElem? (i := 2) rfl)) ⟨Nat.le_of_ble_eq_true rfl, Nat.le_of_ble_eq_true rfl⟩ dX3_init_1 ?_
  refine n_aload C 0 rfl dX3_init_4 rfl ?_
  refine n_bipush C dX3_init_5 (by decide +kernel) ?_
  refine n_bipush C dX3_init_7 (by decide +kernel) ?_
  refine n_mna C (by decide +kernel) hai hover (t0 := 0) (t1 := 1) rfl rfl (N' := 8) (K' := 40) (by decide +kernel) (by decide +kernel) (by decide +kernel) (by decide +kernel) (Nat.le_of_ble_eq_true rfl) (Nat.le_of_ble_eq_true rfl) (Nat.le_of_ble_eq_true rfl) (Nat.le_of_ble_eq_true rfl) (Nat.le_of_ble_eq_true rfl) dX3_init_9 (fun q1 r => ?_)
  refine n_putF C (q0 := 0) (ci := 3) (j := 0) (ty := .array (.array .int)) i_X tyX3_ok nmX3 rfl rfl (by decide) rfl rfl (by decide +kernel) (by decide +kernel) rfl rfl (Nat.le_of_ble_eq_true rfl) (([(h0, .inr (3, [.ref q1, .null, .null])), (q1, .inl (cII, 8, .inr (.inr (.inr (.inr (fun i => if i < 8 then some (r i) else none))))))] ++ (List.range 8).map (fun i => (r i, .inl (cI, 40, .inl zA)))) ++ []) rfl dX3_init_13 ?_
  refine n_aload C 0 rfl dX3_init_16 rfl ?_
  refine n_bipush C dX3_init_17 (by decide +kernel) ?_
  refine n_newa C (ty := .int) rfl hai (t0 := 0) rfl (N' := 8) (a0 := (8, .inl zA)) (fun c => zA_cell rfl) (by decide +kernel) (by decide +kernel) (Nat.le_of_ble_eq_true rfl) (Nat.le_of_ble_eq_true rfl) (Nat.le_of_ble_eq_true rfl) dX3_init_19 (fun q2 => ?_)
  refine n_putF C (q0 := 0) (ci := 3) (j := 1) (ty := .array .int) i_X tyX3_ok nmX3 rfl rfl (by decide) rfl rfl (by decide +kernel) (by decide +kernel) rfl rfl (Nat.le_of_ble_eq_true rfl) (([(h0, .inr (3, [.ref q1, .ref q2, .null])), (q1, .inl (cII, 8, .inr (.inr (.inr (.inr (fun i => if i < 8 then some (r i) else none))))))] ++ (List.range 8).map (fun i => (r i, .inl (cI, 40, .inl zA)))) ++ [(q2, .inl (cI, 8, .inl zA))]) rfl dX3_init_21 ?_
  refine n_aload C 0 rfl dX3_init_24 rfl ?_
  refine n_bipush C dX3_init_25 (by decide +kernel) ?_
  refine n_newa C (ty := .int) rfl hai (t0 := 0) rfl (N' := 8) (a0 := (8, .inl zA)) (fun c => zA_cell rfl) (by decide +kernel) (by decide +kernel) (Nat.le_of_ble_eq_true rfl) (Nat.le_of_ble_eq_true rfl) (Nat.le_of_ble_eq_true rfl) dX3_init_27 (fun q3 => ?_)
  refine n_putF C (q0 := 0) (ci := 3) (j := 2) (ty := .array .int) i_X tyX3_ok nmX3 rfl rfl (by decide) rfl rfl (by decide +kernel) (by decide +kernel) rfl rfl (Nat.le_of_ble_eq_true rfl) (([(h0, .inr (3, [.ref q1, .ref q2, .ref q3])), (q1, .inl (cII, 8, .inr (.inr (.inr (.inr (fun i => if i < 8 then some (r i) else none))))))] ++ (List.range 8).map (fun i => (r i, .inl (cI, 40, .inl zA)))) ++ [(q2, .inl (cI, 8, .inl zA)), (q3, .inl (cI, 8, .inl zA))]) rfl dX3_init_29 ?_
  refine n_iconst C dX3_init_32 ?_
  refine n_istore C [(1, .int (I3 ((0 : Nat) : Int))), (0, .ref h0)] dX3_init_33 rfl (by decide) rfl ?_
  refine n_to C (([(h0, .inr (3, [.ref q1, .ref q2, .ref q3])), (q1, .inl (cII, 8, .inr (.inr (.inr (.inr (fun i => if i < 8 then some (r i) else none))))))] ++ (List.range 8).map (fun i => (r i, .inl (cI, 40, .inl zA)))) ++ [(q2, .inl (cI, 8, .inl zA)), (q3, .inl (cI, 8, .inl (m1 0)))]) (by rw [m1_0]) ?_
  suffices hs : ∀ d i : Nat, i + d = 8 → G (([(h0, .inr (3, [.ref q1, .ref q2, .ref q3])), (q1, .inl (cII, 8, .inr (.inr (.inr (.inr (fun i => if i < 8 then some (r i) else none))))))] ++ (List.range 8).map (fun i => (r i, .inl (cI, 40, .inl zA)))) ++ [(q2, .inl (cI, 8, .inl zA)), (q3, .inl (cI, 8, .inl (m1 i)))]) 11 344 34 [(1, .int (I3 (i : Int))), (0, .ref h0)] [] from hs 8 0 rfl
  intro d
  induction d with
  | zero =>
    intro i hi
    have h8 : i = 8 := by omega
    subst h8
    refine n_iload C 0 rfl dX3_init_34 rfl ?_
    refine n_bipush C dX3_init_35 (by decide +kernel) ?_
    refine n_icmp_ge C (inR_n (by omega)) ⟨by decide, by decide⟩ dX3_init_37 (tgt := 53) (by decide) (fun _ => ?_) (fun h => absurd (Int.le_refl _) h)
    refine n_ret C dX3_init_53 rfl rfl (uW h0 q1 q2 q3 r) rfl (fun H A h1 h2 => ?_)
    have e : wfW cI cII (uW h0 q1 q2 q3 r) = (([(h0, .inr (3, [.ref q1, .ref q2, .ref q3])), (q1, .inl (cII, 8, .inr (.inr (.inr (.inr (fun i => if i < 8 then some (r i) else none))))))] ++ (List.range 8).map (fun i => (r i, .inl (cI, 40, .inl zA)))) ++ [(q2, .inl (cI, 8, .inl zA)), (q3, .inl (cI, 8, .inl (m1 8)))]) := by
      unfold wfW
      simp only [uW_4]
      rfl
    rw [e]
    exact ⟨h1, h2⟩
  | succ d ih =>
    intro i hi
    refine n_iload C 0 rfl dX3_init_34 rfl ?_
    refine n_bipush C dX3_init_35 (by decide +kernel) ?_
    refine n_icmp_ge C (inR_n (by omega)) ⟨by decide, by decide⟩ dX3_init_37 (tgt := 53) (by decide) (fun h => absurd h (by omega)) (fun _ => ?_)
    refine n_aload C 1 rfl dX3_init_40 rfl ?_
    refine n_getF C (q0 := 0) (ci := 3) (j := 2) i_X rfl rfl (by decide) rfl (by decide +kernel) rfl dX3_init_41 ?_
    refine n_iload C 0 rfl dX3_init_44 rfl ?_
    refine n_iconst C dX3_init_45 ?_
    refine n_iast C (q0 := 11) (t0 := 0) rfl rfl (I3_in (inR_n (by omega)) (by omega) (by omega)) (([(h0, .inr (3, [.ref q1, .ref q2, .ref q3])), (q1, .inl (cII, 8, .inr (.inr (.inr (.inr (fun i => if i < 8 then some (r i) else none))))))] ++ (List.range 8).map (fun i => (r i, .inl (cI, 40, .inl zA)))) ++ [(q2, .inl (cI, 8, .inl zA)), (q3, .inl (cI, 8, .inl (m1 (i + 1))))]) (by rw [m1_s (by omega)]; rfl) dX3_init_46 ?_
    refine n_iinc C [(1, .int (I3 ((i + 1 : Nat) : Int))), (0, .ref h0)] (q := 0) dX3_init_47 rfl I3_inc (by decide) rfl ?_
    refine n_goto C dX3_init_50 (tgt := 34) (by decide) ?_
    exact ih (i + 1) (by omega)
/-! THE CONSTRUCTOR of the acts. -/
theorem rv_congr {cI : ClassId} {a b : Nat → Nat} (h : ∀ c, c < 6 → a c = b c) (c : Nat) : rv cI a c = rv cI b c := by
  unfold rv
  rw [h 1 (by decide), h 2 (by decide), h 3 (by decide), h 4 (by decide), h 5 (by decide)]
def kR (i : Nat) (a : Nat → Nat) : Nat → Option Nat := fun j => if j < i then some (a (2 + 6 * j)) else none
def kL (cI : ClassId) (i : Nat) (a : Nat → Nat) : va_W := (List.range (6 * i)).map (fun k => (a (2 + k), rv cI (fun c => a (2 + 6 * (k / 6) + c)) (k % 6)))
def wfK (cI cR : ClassId) (i : Nat) (a : Nat → Nat) : va_W := (a 0, .inr (0, [.ref (a 1), .int 0, .int 0])) :: (a 1, .inl (cR, 24, .inr (.inr (.inr (.inr (kR i a)))))) :: kL cI i a
def aK (i : Nat) (a u : Nat → Nat) : Nat → Nat := fun c => if c < 2 + 6 * i then a c else u (c - (2 + 6 * i))
theorem aK_l {i c : Nat} {a u : Nat → Nat} (h : c < 2 + 6 * i) : aK i a u c = a c := if_pos h
theorem aK_r {i c : Nat} {a u : Nat → Nat} : aK i a u (2 + 6 * i + c) = u c := by
  unfold aK
  rw [if_neg (by omega), show 2 + 6 * i + c - (2 + 6 * i) = c by omega]
theorem kL_s {cI : ClassId} {i : Nat} {a u : Nat → Nat} : kL cI (i + 1) (aK i a u) = kL cI i a ++ wfR cI u := by
  unfold kL wfR
  rw [show 6 * (i + 1) = 6 * i + 6 by omega, List.range_add, List.map_append, List.map_map]
  congr 1
  · apply List.map_congr_left
    intro k hk
    have h := List.mem_range.mp hk
    rw [aK_l (by omega), rv_congr (b := fun c => a (2 + 6 * (k / 6) + c)) (fun c hc => aK_l (by omega))]
  · apply List.map_congr_left
    intro c hc
    have h := List.mem_range.mp hc
    show (aK i a u (2 + (6 * i + c)), rv cI (fun d => aK i a u (2 + 6 * ((6 * i + c) / 6) + d)) ((6 * i + c) % 6)) = (u c, rv cI u c)
    rw [show 2 + (6 * i + c) = 2 + 6 * i + c by omega, aK_r, show (6 * i + c) / 6 = i by omega, show (6 * i + c) % 6 = c by omega, rv_congr (b := u) (fun d hd => aK_r)]
theorem kR_s {i : Nat} {a u : Nat → Nat} (hi : i ≤ 8 + 16) {v : Nat} (hv : v = u 0) : va_up (kR i a) (I3 (i : Int)).toNatClampNeg (some v) = kR (i + 1) (aK i a u) := by
  have hr : inR (i : Int) := ⟨by omega, by omega⟩
  have hcl := I3_cl hr (Int.natCast_nonneg i)
  have he : (I3 (i : Int)).toNatClampNeg = i := by omega
  rw [he]
  funext j
  unfold va_up kR
  by_cases hj : j = i
  · subst hj
    rw [if_pos rfl, if_pos (by omega), show 2 + 6 * j = 2 + 6 * j + 0 from rfl, aK_r, hv]
  · rw [if_neg hj]
    by_cases h2 : j < i
    · rw [if_pos h2, if_pos (by omega), aK_l (by omega)]
    · rw [if_neg h2, if_neg (by omega)]
theorem app_get (X Y : va_W) (i : Nat) : (X ++ Y)[X.length + i]? = Y[i]? := by
  rw [List.getElem?_append_right (by omega), show X.length + i - X.length = i by omega]
theorem kL_len {cI : ClassId} {i : Nat} {a : Nat → Nat} : (kL cI i a).length = 6 * i := by unfold kL; rw [List.length_map, List.length_range]
theorem wfK_len {cI cR : ClassId} {i : Nat} {a : Nat → Nat} : (wfK cI cR i a).length = 2 + 6 * i := by
  show (kL cI i a).length + 1 + 1 = _
  rw [kL_len]
  omega
abbrev fs2 : List Value := [.int 0, .int 0, .int 0, .int 0, .null, .null, .null, .null, .null, .int 0, .int 0]
theorem hfs2 : ∀ j, j < 11 → defaultValue (tyX2 j) = vp_V fs2 j := by decide +kernel
theorem hdX2_init : yX2_init.cls ≠ "java/lang/invoke/MethodHandle" ∧ yX2_init.cls ≠ "java/lang/invoke/VarHandle" ∧ (parseMethodDescriptor yX2_init.desc).map (fun d => d.parameters.length) = some 0 := by decide +kernel
set_option maxHeartbeats 8000000 in
set_option maxRecDepth 100000 in
theorem k_X0 {l : Launch} {D : va_G} {ZZ : State → Prop} (hst : ∀ s U : State, ZZ s → s.WarmedH U.vm → ZZ U) (hover : ∀ s, ZZ s → va_AO RX2 s) (hlink : ∀ s, ZZ s → va_Nw (.methodLinkNest RX0 17 yX2_init "SwanDeeds") s) {cI cII cR : ClassId} (h0 : Nat) : KI l D vwCl (tyC cI cII cR) ZZ yX0_init wsX0_init ({ frames := 2, cells := 145, slots := 1080, locals := 32 } : Room) 0 [.null, .int 0, .int 0] (fun a => a 0 = h0) (wfK cI cR 24) 145 1080 h0 := by
  have i_X : ∀ w ∈ u_ws RX0 TX0 3, w ∈ wsX0_init := by decide +kernel
  have i_2 : ∀ w ∈ u_ws RX2 TX2 11, w ∈ wsX0_init := by decide +kernel
  refine KI_of (ws' := _) (cc := cX0_init) (maxL := 2) (by decide) rfl rfl (Nat.le_of_ble_eq_true rfl) (fun G C => ?_)
  refine n_aload C 0 rfl dX0_init_0 rfl ?_
  refine n_obj C (index := 3) (by decide +kernel) (by decide +kernel) (List.mem_cons_of_mem _ (List.mem_of_getElem? (i := 2) rfl)) ⟨Nat.le_of_ble_eq_true rfl, Nat.le_of_ble_eq_true rfl⟩ dX0_init_1 ?_
  refine n_aload C 0 rfl dX0_init_4 rfl ?_
  refine n_bipush C dX0_init_5 (by decide +kernel) ?_
  refine n_newq C (Cn' := RX2) (by decide +kernel) hover (t0 := 2) rfl (N' := 24) (by decide +kernel) (by decide +kernel) (Nat.le_of_ble_eq_true rfl) (Nat.le_of_ble_eq_true rfl) (Nat.le_of_ble_eq_true rfl) dX0_init_7 (fun q1 => ?_)
  refine n_putF C (q0 := 0) (ci := 0) (j := 0) (ty := .array (.object "SwanDeeds$River")) i_X tyX0_ok nmX0 rfl rfl (by decide) rfl rfl (by decide +kernel) (by decide +kernel) rfl rfl (Nat.le_of_ble_eq_true rfl) [(h0, .inr (0, [.ref q1, .int 0, .int 0])), (q1, .inl (cR, 24, .inr (.inr (.inr (.inr (fun _ => none))))))] rfl dX0_init_10 ?_
  refine n_iconst C dX0_init_13 ?_
  refine n_istore C [(1, .int (I3 ((0 : Nat) : Int))), (0, .ref h0)] dX0_init_14 rfl (by decide) rfl ?_
  refine n_to C (wfK cI cR 0 (fun c => if c = 0 then h0 else q1)) (by
    have e : kR 0 (fun c => if c = 0 then h0 else q1) = fun _ => none := by
      funext j
      unfold kR
      rw [if_neg (by omega)]
    unfold wfK
    rw [e]
    rfl) ?_
  suffices hs : ∀ d i : Nat, i + d = 24 → ∀ a : Nat → Nat, a 0 = h0 → G (wfK cI cR i a) (1 + 6 * i) (24 + 44 * i) 15 [(1, .int (I3 (i : Int))), (0, .ref h0)] [] from hs 24 0 rfl _ rfl
  intro d
  induction d with
  | zero =>
    intro i hi a ha
    have h8 : i = 24 := by omega
    subst h8
    refine n_iload C 0 rfl dX0_init_15 rfl ?_
    refine n_bipush C dX0_init_16 (by decide +kernel) ?_
    refine n_icmp_ge C ⟨by decide, by decide⟩ ⟨by decide, by decide⟩ dX0_init_18 (tgt := 40) (by decide) (fun _ => ?_) (fun h => absurd (Int.le_refl _) h)
    exact n_ret C dX0_init_40 rfl rfl a ha (fun H A h1 h2 => ⟨h1, h2⟩)
  | succ d ih =>
    intro i hi a ha
    have hir : inR (i : Int) := ⟨by omega, by omega⟩
    refine n_iload C 0 rfl dX0_init_15 rfl ?_
    refine n_bipush C dX0_init_16 (by decide +kernel) ?_
    refine n_icmp_ge C hir ⟨by decide, by decide⟩ dX0_init_18 (tgt := 40) (by decide) (fun h => absurd h (by omega)) (fun _ => ?_)
    refine n_aload C (a := h0) 1 rfl dX0_init_21 rfl ?_
    refine n_getF C (q0 := 0) (ci := 0) (j := 0) (fs := [.ref (a 1), .int 0, .int 0]) i_X (by rw [← ha]; rfl) rfl (by decide) rfl (by decide +kernel) rfl dX0_init_22 ?_
    refine n_iload C 0 rfl dX0_init_25 rfl ?_
    refine n_new C (ci := 2) i_2 tyX2 tyX2_ok (by decide +kernel) (by decide +kernel) (by decide +kernel) rfl fs2 hfs2 (by show 1 + 6 * i + 1 ≤ 145; omega) (by show 24 + 44 * i + 11 ≤ 1080; omega) dX0_init_26 (fun q => ?_)
    refine n_dup C dX0_init_29 ?_
    refine n_callN hst C (k_X2 (cI := cI) (cII := cII) (cR := cR) q) gX0_init_X2_init_n17 rfl ⟨rfl, rfl⟩ (by decide +kernel) hlink (by decide +kernel) rfl hdX2_init ⟨Nat.le_of_ble_eq_true rfl, Nat.le_of_ble_eq_true rfl⟩ (Nat.le_of_ble_eq_true rfl) ⟨by show 1 + 6 * i + 1 + 5 ≤ 145; omega, by show 24 + 44 * i + 11 + 33 ≤ 1080; omega⟩ dX0_init_30 (fun u hu => ?_)
    have hq : (wfK cI cR i a ++ wfR cI u)[2 + 6 * i]? = some (q, .inr (2, [.int 0, .int 0, .int 0, .int 0, .ref (u 1), .ref (u 2), .ref (u 3), .ref (u 4), .ref (u 5), .int 0, .int 0])) := by
      have h := app_get (wfK cI cR i a) (wfR cI u) 0
      rw [wfK_len] at h
      rw [← hu]
      exact h
    refine n_astq C (q0 := 1) (t0 := 2) (qk := 2 + 6 * i) (ci := 2) (Cn' := RX2) (f := kR i a) rfl rfl hq rfl (I3_in hir (by omega) (by omega)) (wfK cI cR (i + 1) (aK i a u)) (by
      show (a 0, _) :: (a 1, _) :: (kL cI i a ++ wfR cI u) = (aK i a u 0, _) :: (aK i a u 1, _) :: kL cI (i + 1) (aK i a u)
      rw [kL_s, aK_l (by omega), aK_l (by omega), kR_s (by omega) hu.symm]) dX0_init_33 ?_
    refine n_iinc C [(1, .int (I3 ((i + 1 : Nat) : Int))), (0, .ref h0)] (q := 0) dX0_init_34 rfl I3_inc (by decide) rfl ?_
    refine n_goto C dX0_init_37 (tgt := 15) (by decide) ?_
    exact n_at (1 + 6 * (i + 1)) (24 + 44 * (i + 1)) (by omega) (by omega) (ih (i + 1) (by omega) (aK i a u) (by rw [aK_l (by omega)]; exact ha))
