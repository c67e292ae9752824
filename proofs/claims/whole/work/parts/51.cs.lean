/-! THE CONSTRUCTORS of single objects and their arrays. -/
def zA : Nat → Int32 := fun _ => 0
theorem zA_cell {c : ClassId} {n : Nat} {ty : FieldType} (h : defaultValue ty = .int 0) : vp_cell c (n, .inl zA) = arrV c n (fun _ => defaultValue ty) := by rw [vp_cell_i, h]; rfl
theorem aF_0 {μ : Mm} {g : Nat} {off : Int} {n : Nat} (h : ∀ o, μ g o = 0) : aF μ g off n = zA := by
  funext j
  unfold aF zA
  split
  · rw [h]; rfl
  · rfl
def rv (cI : ClassId) (a : Nat → Nat) (c : Nat) : va_E := if c = 0 then .inr (2, [.int 0, .int 0, .int 0, .int 0, .ref (a 1), .ref (a 2), .ref (a 3), .ref (a 4), .ref (a 5), .int 0, .int 0]) else if c = 1 then .inl (cI, 9, .inl zA) else .inl (cI, 6, .inl zA)
def wfR (cI : ClassId) (a : Nat → Nat) : va_W := (List.range 6).map (fun c => (a c, rv cI a c))
set_option maxHeartbeats 4000000 in
set_option maxRecDepth 100000 in
theorem k_X2 {l : Launch} {D : va_G} {ZZ : State → Prop} {cI cII cR : ClassId} (h0 : Nat) : KI l D vwCl (tyC cI cII cR) ZZ yX2_init wsX2_init ({ frames := 1, cells := 5, slots := 33, locals := 12 } : Room) 2 [.int 0, .int 0, .int 0, .int 0, .null, .null, .null, .null, .null, .int 0, .int 0] (fun a => a 0 = h0) (wfR cI) 5 33 h0 := by
  have i_X : ∀ w ∈ u_ws RX2 TX2 11, w ∈ wsX2_init := fun w h => List.mem_cons_of_mem _ (List.mem_append_right _ h)
  have hai : Cond.arrayClass .int ∈ wsX2_init := by decide +kernel
  refine KI_of (ws' := _) (cc := cX2_init) (maxL := 1) (by decide) rfl rfl (Nat.le_of_ble_eq_true rfl) (fun G C => ?_)
  refine n_aload C 0 rfl dX2_init_0 rfl ?_
  refine n_obj C (index := 3) (by decide +kernel) (by decide +kernel) (List.mem_cons_of_mem _ (List.mem_of_getElem? (i := 2) rfl)) ⟨Nat.le_of_ble_eq_true rfl, Nat.le_of_ble_eq_true rfl⟩ dX2_init_1 ?_
  refine n_aload C 0 rfl dX2_init_4 rfl ?_
  refine n_bipush C dX2_init_5 (by decide +kernel) ?_
  refine n_newa C (ty := .int) rfl hai (t0 := 0) rfl (N' := 9) (a0 := (9, .inl zA)) (fun c => zA_cell rfl) (by decide +kernel) (by decide +kernel) (Nat.le_of_ble_eq_true rfl) (Nat.le_of_ble_eq_true rfl) (Nat.le_of_ble_eq_true rfl) dX2_init_7 (fun q1 => ?_)
  refine n_putF C (q0 := 0) (ci := 2) (j := 4) (ty := .array .int) i_X tyX2_ok nmX2 rfl rfl (by decide) rfl rfl (by decide +kernel) (by decide +kernel) rfl rfl (Nat.le_of_ble_eq_true rfl) [(h0, .inr (2, [.int 0, .int 0, .int 0, .int 0, .ref q1, .null, .null, .null, .null, .int 0, .int 0])), (q1, .inl (cI, 9, .inl zA))] rfl dX2_init_9 ?_
  refine n_aload C 0 rfl dX2_init_12 rfl ?_
  refine n_bipush C dX2_init_13 (by decide +kernel) ?_
  refine n_newa C (ty := .int) rfl hai (t0 := 0) rfl (N' := 6) (a0 := (6, .inl zA)) (fun c => zA_cell rfl) (by decide +kernel) (by decide +kernel) (Nat.le_of_ble_eq_true rfl) (Nat.le_of_ble_eq_true rfl) (Nat.le_of_ble_eq_true rfl) dX2_init_15 (fun q2 => ?_)
  refine n_putF C (q0 := 0) (ci := 2) (j := 5) (ty := .array .int) i_X tyX2_ok nmX2 rfl rfl (by decide) rfl rfl (by decide +kernel) (by decide +kernel) rfl rfl (Nat.le_of_ble_eq_true rfl) [(h0, .inr (2, [.int 0, .int 0, .int 0, .int 0, .ref q1, .ref q2, .null, .null, .null, .int 0, .int 0])), (q1, .inl (cI, 9, .inl zA)), (q2, .inl (cI, 6, .inl zA))] rfl dX2_init_17 ?_
  refine n_aload C 0 rfl dX2_init_20 rfl ?_
  refine n_bipush C dX2_init_21 (by decide +kernel) ?_
  refine n_newa C (ty := .int) rfl hai (t0 := 0) rfl (N' := 6) (a0 := (6, .inl zA)) (fun c => zA_cell rfl) (by decide +kernel) (by decide +kernel) (Nat.le_of_ble_eq_true rfl) (Nat.le_of_ble_eq_true rfl) (Nat.le_of_ble_eq_true rfl) dX2_init_23 (fun q3 => ?_)
  refine n_putF C (q0 := 0) (ci := 2) (j := 6) (ty := .array .int) i_X tyX2_ok nmX2 rfl rfl (by decide) rfl rfl (by decide +kernel) (by decide +kernel) rfl rfl (Nat.le_of_ble_eq_true rfl) [(h0, .inr (2, [.int 0, .int 0, .int 0, .int 0, .ref q1, .ref q2, .ref q3, .null, .null, .int 0, .int 0])), (q1, .inl (cI, 9, .inl zA)), (q2, .inl (cI, 6, .inl zA)), (q3, .inl (cI, 6, .inl zA))] rfl dX2_init_25 ?_
  refine n_aload C 0 rfl dX2_init_28 rfl ?_
  refine n_bipush C dX2_init_29 (by decide +kernel) ?_
  refine n_newa C (ty := .int) rfl hai (t0 := 0) rfl (N' := 6) (a0 := (6, .inl zA)) (fun c => zA_cell rfl) (by decide +kernel) (by decide +kernel) (Nat.le_of_ble_eq_true rfl) (Nat.le_of_ble_eq_true rfl) (Nat.le_of_ble_eq_true rfl) dX2_init_31 (fun q4 => ?_)
  refine n_putF C (q0 := 0) (ci := 2) (j := 7) (ty := .array .int) i_X tyX2_ok nmX2 rfl rfl (by decide) rfl rfl (by decide +kernel) (by decide +kernel) rfl rfl (Nat.le_of_ble_eq_true rfl) [(h0, .inr (2, [.int 0, .int 0, .int 0, .int 0, .ref q1, .ref q2, .ref q3, .ref q4, .null, .int 0, .int 0])), (q1, .inl (cI, 9, .inl zA)), (q2, .inl (cI, 6, .inl zA)), (q3, .inl (cI, 6, .inl zA)), (q4, .inl (cI, 6, .inl zA))] rfl dX2_init_33 ?_
  refine n_aload C 0 rfl dX2_init_36 rfl ?_
  refine n_bipush C dX2_init_37 (by decide +kernel) ?_
  refine n_newa C (ty := .int) rfl hai (t0 := 0) rfl (N' := 6) (a0 := (6, .inl zA)) (fun c => zA_cell rfl) (by decide +kernel) (by decide +kernel) (Nat.le_of_ble_eq_true rfl) (Nat.le_of_ble_eq_true rfl) (Nat.le_of_ble_eq_true rfl) dX2_init_39 (fun q5 => ?_)
  refine n_putF C (q0 := 0) (ci := 2) (j := 8) (ty := .array .int) i_X tyX2_ok nmX2 rfl rfl (by decide) rfl rfl (by decide +kernel) (by decide +kernel) rfl rfl (Nat.le_of_ble_eq_true rfl) [(h0, .inr (2, [.int 0, .int 0, .int 0, .int 0, .ref q1, .ref q2, .ref q3, .ref q4, .ref q5, .int 0, .int 0])), (q1, .inl (cI, 9, .inl zA)), (q2, .inl (cI, 6, .inl zA)), (q3, .inl (cI, 6, .inl zA)), (q4, .inl (cI, 6, .inl zA)), (q5, .inl (cI, 6, .inl zA))] rfl dX2_init_41 ?_
  exact n_ret C dX2_init_44 rfl rfl (fun c => if c = 0 then h0 else if c = 1 then q1 else if c = 2 then q2 else if c = 3 then q3 else if c = 4 then q4 else if c = 5 then q5 else 0) rfl (fun H A h1 h2 => ⟨h1, h2⟩)
def wfT (cI : ClassId) (a : Nat → Nat) : va_W := [(a 0, .inr (4, [.ref (a 1), .int 0, .int 0, .int 0, .int 0, .int 0, .int 0, .int 0])), (a 1, .inl (cI, 100, .inl zA))]
set_option maxHeartbeats 4000000 in
set_option maxRecDepth 100000 in
theorem k_X4 {l : Launch} {D : va_G} {ZZ : State → Prop} {cI cII cR : ClassId} (h0 : Nat) : KI l D vwCl (tyC cI cII cR) ZZ yX4_init wsX4_init ({ frames := 1, cells := 1, slots := 100, locals := 12 } : Room) 4 [.null, .int 0, .int 0, .int 0, .int 0, .int 0, .int 0, .int 0] (fun a => a 0 = h0) (wfT cI) 1 100 h0 := by
  have i_X : ∀ w ∈ u_ws RX4 TX4 8, w ∈ wsX4_init := fun w h => List.mem_cons_of_mem _ (List.mem_append_right _ h)
  have hai : Cond.arrayClass .int ∈ wsX4_init := by decide +kernel
  refine KI_of (ws' := _) (cc := cX4_init) (maxL := 1) (by decide) rfl rfl (Nat.le_of_ble_eq_true rfl) (fun G C => ?_)
  refine n_aload C 0 rfl dX4_init_0 rfl ?_
  refine n_obj C (index := 3) (by decide +kernel) (by decide +kernel) (List.mem_cons_of_mem _ (List.mem_of_getElem? (i := 2) rfl)) ⟨Nat.le_of_ble_eq_true rfl, Nat.le_of_ble_eq_true rfl⟩ dX4_init_1 ?_
  refine n_aload C 0 rfl dX4_init_4 rfl ?_
  refine n_bipush C dX4_init_5 (by decide +kernel) ?_
  refine n_newa C (ty := .int) rfl hai (t0 := 0) rfl (N' := 100) (a0 := (100, .inl zA)) (fun c => zA_cell rfl) (by decide +kernel) (by decide +kernel) (Nat.le_of_ble_eq_true rfl) (Nat.le_of_ble_eq_true rfl) (Nat.le_of_ble_eq_true rfl) dX4_init_7 (fun q1 => ?_)
  refine n_putF C (q0 := 0) (ci := 4) (j := 0) (ty := .array .int) i_X tyX4_ok nmX4 rfl rfl (by decide) rfl rfl (by decide +kernel) (by decide +kernel) rfl rfl (Nat.le_of_ble_eq_true rfl) [(h0, .inr (4, [.ref q1, .int 0, .int 0, .int 0, .int 0, .int 0, .int 0, .int 0])), (q1, .inl (cI, 100, .inl zA))] rfl dX4_init_9 ?_
  exact n_ret C dX4_init_12 rfl rfl (fun c => if c = 0 then h0 else if c = 1 then q1 else 0) rfl (fun H A h1 h2 => ⟨h1, h2⟩)
def wfA (cI : ClassId) (a : Nat → Nat) : va_W := [(a 0, .inr (1, [.ref (a 1), .int 0, .int 0, .int 0, .int 0, .int 0])), (a 1, .inl (cI, 16, .inl zA))]
set_option maxHeartbeats 4000000 in
set_option maxRecDepth 100000 in
theorem k_X1 {l : Launch} {D : va_G} {ZZ : State → Prop} {cI cII cR : ClassId} (h0 : Nat) : KI l D vwCl (tyC cI cII cR) ZZ yX1_init wsX1_init ({ frames := 1, cells := 1, slots := 16, locals := 12 } : Room) 1 [.null, .int 0, .int 0, .int 0, .int 0, .int 0] (fun a => a 0 = h0) (wfA cI) 1 16 h0 := by
  have i_X : ∀ w ∈ u_ws RX1 TX1 6, w ∈ wsX1_init := fun w h => List.mem_cons_of_mem _ (List.mem_append_right _ h)
  have hai : Cond.arrayClass .int ∈ wsX1_init := by decide +kernel
  refine KI_of (ws' := _) (cc := cX1_init) (maxL := 1) (by decide) rfl rfl (Nat.le_of_ble_eq_true rfl) (fun G C => ?_)
  refine n_aload C 0 rfl dX1_init_0 rfl ?_
  refine n_obj C (index := 3) (by decide +kernel) (by decide +kernel) (List.mem_cons_of_mem _ (List.mem_of_getElem? (i := 2) rfl)) ⟨Nat.le_of_ble_eq_true rfl, Nat.le_of_ble_eq_true rfl⟩ dX1_init_1 ?_
  refine n_aload C 0 rfl dX1_init_4 rfl ?_
  refine n_bipush C dX1_init_5 (by decide +kernel) ?_
  refine n_newa C (ty := .int) rfl hai (t0 := 0) rfl (N' := 16) (a0 := (16, .inl zA)) (fun c => zA_cell rfl) (by decide +kernel) (by decide +kernel) (Nat.le_of_ble_eq_true rfl) (Nat.le_of_ble_eq_true rfl) (Nat.le_of_ble_eq_true rfl) dX1_init_7 (fun q1 => ?_)
  refine n_putF C (q0 := 0) (ci := 1) (j := 0) (ty := .array .int) i_X tyX1_ok nmX1 rfl rfl (by decide) rfl rfl (by decide +kernel) (by decide +kernel) rfl rfl (Nat.le_of_ble_eq_true rfl) [(h0, .inr (1, [.ref q1, .int 0, .int 0, .int 0, .int 0, .int 0])), (q1, .inl (cI, 16, .inl zA))] rfl dX1_init_9 ?_
  exact n_ret C dX1_init_12 rfl rfl (fun c => if c = 0 then h0 else if c = 1 then q1 else 0) rfl (fun H A h1 h2 => ⟨h1, h2⟩)
def m1 (i : Nat) : Nat → Int32 := fun j => if j < i then I3 (-1) else 0
theorem m1_0 : m1 0 = zA := by
  funext j
  unfold m1 zA
  rw [if_neg (by omega)]
theorem inR_n {i : Nat} (h : i ≤ 8) : inR (i : Int) := ⟨by omega, by omega⟩
theorem m1_s {i : Nat} (h : i ≤ 8) : upd (m1 i) (I3 (i : Int)).toNatClampNeg (I3 (-1)) = m1 (i + 1) := by
  have hcl := I3_cl (inR_n h) (Int.natCast_nonneg i)
  have hi : (I3 (i : Int)).toNatClampNeg = i := by omega
  rw [hi]
  funext j
  unfold upd m1
  by_cases hj : j = i
  · subst hj; rw [if_pos rfl, if_pos (by omega)]
  · rw [if_neg hj]
    by_cases h2 : j < i
    · rw [if_pos h2, if_pos (by omega)]
    · rw [if_neg h2, if_neg (by omega)]
theorem I3_inc {i : Nat} : I3 (i : Int) + Int32.ofInt 1 = I3 ((i + 1 : Nat) : Int) := by
  show Int32.ofInt (i : Int) + Int32.ofInt 1 = Int32.ofInt ((i + 1 : Nat) : Int)
  rw [← Int32.ofInt_add]
  rfl
def ν0 : Mm := fun g _ => if g = 33 then -1 else 0
theorem ν0_z {g : Nat} (h : g ≠ 33) (o : Int) : ν0 g o = 0 := if_neg h
def wfM (cI cZ : ClassId) (am : Nat → Nat) : va_W := XX 10 am (EM am cI cZ) ν0
set_option maxHeartbeats 4000000 in
set_option maxRecDepth 100000 in
theorem k_X6 {l : Launch} {D : va_G} {ZZ : State → Prop} {cI cZ : ClassId} (h0 : Nat) : KI l D vwCl (tyM cI cZ) ZZ yX6_init wsX6_init ({ frames := 1, cells := 9, slots := 1198, locals := 12 } : Room) 6 [.null, .null, .null, .int 0, .null, .null, .null, .int 0, .null, .int 0, .int 0, .null, .int 0, .null, .int 0, .int 0, .int 0, .int 0, .int 0] (fun a => a 0 = h0) (wfM cI cZ) 9 1198 h0 := by
  have i_X : ∀ w ∈ u_ws RX6 TX6 19, w ∈ wsX6_init := fun w h => List.mem_cons_of_mem _ (List.mem_append_right _ h)
  have hai : Cond.arrayClass .int ∈ wsX6_init := by decide +kernel
  have haz : Cond.arrayClass .boolean ∈ wsX6_init := by decide +kernel
  refine KI_of (ws' := _) (cc := cX6_init) (maxL := 2) (by decide) rfl rfl (Nat.le_of_ble_eq_true rfl) (fun G C => ?_)
  refine n_aload C 0 rfl dX6_init_0 rfl ?_
  refine n_obj C (index := 1) (by decide +kernel) (by decide +kernel) (List.mem_cons_of_mem _ (List.mem_of_getElem? (i := 2) rfl)) ⟨Nat.le_of_ble_eq_true rfl, Nat.le_of_ble_eq_true rfl⟩ dX6_init_1 ?_
  refine n_aload C 0 rfl dX6_init_4 rfl ?_
  refine n_sipush C dX6_init_5 (by decide +kernel) ?_
  refine n_newa C (ty := .int) rfl hai (t0 := 0) rfl (N' := 152) (a0 := (152, .inl zA)) (fun c => zA_cell rfl) (by decide +kernel) (by decide +kernel) (Nat.le_of_ble_eq_true rfl) (Nat.le_of_ble_eq_true rfl) (Nat.le_of_ble_eq_true rfl) dX6_init_8 (fun q1 => ?_)
  refine n_putF C (q0 := 0) (ci := 6) (j := 0) (ty := .array .int) i_X tyX6_ok nmX6 rfl rfl (by decide) rfl rfl (by decide +kernel) (by decide +kernel) rfl rfl (Nat.le_of_ble_eq_true rfl) [(h0, .inr (6, [.ref q1, .null, .null, .int 0, .null, .null, .null, .int 0, .null, .int 0, .int 0, .null, .int 0, .null, .int 0, .int 0, .int 0, .int 0, .int 0])), (q1, .inl (cI, 152, .inl zA))] rfl dX6_init_10 ?_
  refine n_aload C 0 rfl dX6_init_13 rfl ?_
  refine n_iconst C dX6_init_14 ?_
  refine n_newa C (ty := .boolean) rfl haz (t0 := 1) rfl (N' := 2) (a0 := (2, .inl zA)) (fun c => zA_cell rfl) (by decide +kernel) (by decide +kernel) (Nat.le_of_ble_eq_true rfl) (Nat.le_of_ble_eq_true rfl) (Nat.le_of_ble_eq_true rfl) dX6_init_15 (fun q2 => ?_)
  refine n_putF C (q0 := 0) (ci := 6) (j := 1) (ty := .array .boolean) i_X tyX6_ok nmX6 rfl rfl (by decide) rfl rfl (by decide +kernel) (by decide +kernel) rfl rfl (Nat.le_of_ble_eq_true rfl) [(h0, .inr (6, [.ref q1, .ref q2, .null, .int 0, .null, .null, .null, .int 0, .null, .int 0, .int 0, .null, .int 0, .null, .int 0, .int 0, .int 0, .int 0, .int 0])), (q1, .inl (cI, 152, .inl zA)), (q2, .inl (cZ, 2, .inl zA))] rfl dX6_init_17 ?_
  refine n_aload C 0 rfl dX6_init_20 rfl ?_
  refine n_sipush C dX6_init_21 (by decide +kernel) ?_
  refine n_newa C (ty := .int) rfl hai (t0 := 0) rfl (N' := 552) (a0 := (552, .inl zA)) (fun c => zA_cell rfl) (by decide +kernel) (by decide +kernel) (Nat.le_of_ble_eq_true rfl) (Nat.le_of_ble_eq_true rfl) (Nat.le_of_ble_eq_true rfl) dX6_init_24 (fun q3 => ?_)
  refine n_putF C (q0 := 0) (ci := 6) (j := 2) (ty := .array .int) i_X tyX6_ok nmX6 rfl rfl (by decide) rfl rfl (by decide +kernel) (by decide +kernel) rfl rfl (Nat.le_of_ble_eq_true rfl) [(h0, .inr (6, [.ref q1, .ref q2, .ref q3, .int 0, .null, .null, .null, .int 0, .null, .int 0, .int 0, .null, .int 0, .null, .int 0, .int 0, .int 0, .int 0, .int 0])), (q1, .inl (cI, 152, .inl zA)), (q2, .inl (cZ, 2, .inl zA)), (q3, .inl (cI, 552, .inl zA))] rfl dX6_init_26 ?_
  refine n_aload C 0 rfl dX6_init_29 rfl ?_
  refine n_sipush C dX6_init_30 (by decide +kernel) ?_
  refine n_newa C (ty := .int) rfl hai (t0 := 0) rfl (N' := 320) (a0 := (320, .inl zA)) (fun c => zA_cell rfl) (by decide +kernel) (by decide +kernel) (Nat.le_of_ble_eq_true rfl) (Nat.le_of_ble_eq_true rfl) (Nat.le_of_ble_eq_true rfl) dX6_init_33 (fun q4 => ?_)
  refine n_putF C (q0 := 0) (ci := 6) (j := 4) (ty := .array .int) i_X tyX6_ok nmX6 rfl rfl (by decide) rfl rfl (by decide +kernel) (by decide +kernel) rfl rfl (Nat.le_of_ble_eq_true rfl) [(h0, .inr (6, [.ref q1, .ref q2, .ref q3, .int 0, .ref q4, .null, .null, .int 0, .null, .int 0, .int 0, .null, .int 0, .null, .int 0, .int 0, .int 0, .int 0, .int 0])), (q1, .inl (cI, 152, .inl zA)), (q2, .inl (cZ, 2, .inl zA)), (q3, .inl (cI, 552, .inl zA)), (q4, .inl (cI, 320, .inl zA))] rfl dX6_init_35 ?_
  refine n_aload C 0 rfl dX6_init_38 rfl ?_
  refine n_bipush C dX6_init_39 (by decide +kernel) ?_
  refine n_newa C (ty := .int) rfl hai (t0 := 0) rfl (N' := 8) (a0 := (8, .inl zA)) (fun c => zA_cell rfl) (by decide +kernel) (by decide +kernel) (Nat.le_of_ble_eq_true rfl) (Nat.le_of_ble_eq_true rfl) (Nat.le_of_ble_eq_true rfl) dX6_init_41 (fun q5 => ?_)
  refine n_putF C (q0 := 0) (ci := 6) (j := 5) (ty := .array .int) i_X tyX6_ok nmX6 rfl rfl (by decide) rfl rfl (by decide +kernel) (by decide +kernel) rfl rfl (Nat.le_of_ble_eq_true rfl) [(h0, .inr (6, [.ref q1, .ref q2, .ref q3, .int 0, .ref q4, .ref q5, .null, .int 0, .null, .int 0, .int 0, .null, .int 0, .null, .int 0, .int 0, .int 0, .int 0, .int 0])), (q1, .inl (cI, 152, .inl zA)), (q2, .inl (cZ, 2, .inl zA)), (q3, .inl (cI, 552, .inl zA)), (q4, .inl (cI, 320, .inl zA)), (q5, .inl (cI, 8, .inl zA))] rfl dX6_init_43 ?_
  refine n_aload C 0 rfl dX6_init_46 rfl ?_
  refine n_bipush C dX6_init_47 (by decide +kernel) ?_
  refine n_newa C (ty := .int) rfl hai (t0 := 0) rfl (N' := 8) (a0 := (8, .inl zA)) (fun c => zA_cell rfl) (by decide +kernel) (by decide +kernel) (Nat.le_of_ble_eq_true rfl) (Nat.le_of_ble_eq_true rfl) (Nat.le_of_ble_eq_true rfl) dX6_init_49 (fun q6 => ?_)
  refine n_putF C (q0 := 0) (ci := 6) (j := 6) (ty := .array .int) i_X tyX6_ok nmX6 rfl rfl (by decide) rfl rfl (by decide +kernel) (by decide +kernel) rfl rfl (Nat.le_of_ble_eq_true rfl) [(h0, .inr (6, [.ref q1, .ref q2, .ref q3, .int 0, .ref q4, .ref q5, .ref q6, .int 0, .null, .int 0, .int 0, .null, .int 0, .null, .int 0, .int 0, .int 0, .int 0, .int 0])), (q1, .inl (cI, 152, .inl zA)), (q2, .inl (cZ, 2, .inl zA)), (q3, .inl (cI, 552, .inl zA)), (q4, .inl (cI, 320, .inl zA)), (q5, .inl (cI, 8, .inl zA)), (q6, .inl (cI, 8, .inl zA))] rfl dX6_init_51 ?_
  refine n_aload C 0 rfl dX6_init_54 rfl ?_
  refine n_bipush C dX6_init_55 (by decide +kernel) ?_
  refine n_newa C (ty := .int) rfl hai (t0 := 0) rfl (N' := 100) (a0 := (100, .inl zA)) (fun c => zA_cell rfl) (by decide +kernel) (by decide +kernel) (Nat.le_of_ble_eq_true rfl) (Nat.le_of_ble_eq_true rfl) (Nat.le_of_ble_eq_true rfl) dX6_init_57 (fun q7 => ?_)
  refine n_putF C (q0 := 0) (ci := 6) (j := 8) (ty := .array .int) i_X tyX6_ok nmX6 rfl rfl (by decide) rfl rfl (by decide +kernel) (by decide +kernel) rfl rfl (Nat.le_of_ble_eq_true rfl) [(h0, .inr (6, [.ref q1, .ref q2, .ref q3, .int 0, .ref q4, .ref q5, .ref q6, .int 0, .ref q7, .int 0, .int 0, .null, .int 0, .null, .int 0, .int 0, .int 0, .int 0, .int 0])), (q1, .inl (cI, 152, .inl zA)), (q2, .inl (cZ, 2, .inl zA)), (q3, .inl (cI, 552, .inl zA)), (q4, .inl (cI, 320, .inl zA)), (q5, .inl (cI, 8, .inl zA)), (q6, .inl (cI, 8, .inl zA)), (q7, .inl (cI, 100, .inl zA))] rfl dX6_init_59 ?_
  refine n_aload C 0 rfl dX6_init_62 rfl ?_
  refine n_bipush C dX6_init_63 (by decide +kernel) ?_
  refine n_newa C (ty := .int) rfl hai (t0 := 0) rfl (N' := 16) (a0 := (16, .inl zA)) (fun c => zA_cell rfl) (by decide +kernel) (by decide +kernel) (Nat.le_of_ble_eq_true rfl) (Nat.le_of_ble_eq_true rfl) (Nat.le_of_ble_eq_true rfl) dX6_init_65 (fun q8 => ?_)
  refine n_putF C (q0 := 0) (ci := 6) (j := 11) (ty := .array .int) i_X tyX6_ok nmX6 rfl rfl (by decide) rfl rfl (by decide +kernel) (by decide +kernel) rfl rfl (Nat.le_of_ble_eq_true rfl) [(h0, .inr (6, [.ref q1, .ref q2, .ref q3, .int 0, .ref q4, .ref q5, .ref q6, .int 0, .ref q7, .int 0, .int 0, .ref q8, .int 0, .null, .int 0, .int 0, .int 0, .int 0, .int 0])), (q1, .inl (cI, 152, .inl zA)), (q2, .inl (cZ, 2, .inl zA)), (q3, .inl (cI, 552, .inl zA)), (q4, .inl (cI, 320, .inl zA)), (q5, .inl (cI, 8, .inl zA)), (q6, .inl (cI, 8, .inl zA)), (q7, .inl (cI, 100, .inl zA)), (q8, .inl (cI, 16, .inl zA))] rfl dX6_init_67 ?_
  refine n_aload C 0 rfl dX6_init_70 rfl ?_
  refine n_bipush C dX6_init_71 (by decide +kernel) ?_
  refine n_newa C (ty := .int) rfl hai (t0 := 0) rfl (N' := 40) (a0 := (40, .inl zA)) (fun c => zA_cell rfl) (by decide +kernel) (by decide +kernel) (Nat.le_of_ble_eq_true rfl) (Nat.le_of_ble_eq_true rfl) (Nat.le_of_ble_eq_true rfl) dX6_init_73 (fun q9 => ?_)
  refine n_putF C (q0 := 0) (ci := 6) (j := 13) (ty := .array .int) i_X tyX6_ok nmX6 rfl rfl (by decide) rfl rfl (by decide +kernel) (by decide +kernel) rfl rfl (Nat.le_of_ble_eq_true rfl) [(h0, .inr (6, [.ref q1, .ref q2, .ref q3, .int 0, .ref q4, .ref q5, .ref q6, .int 0, .ref q7, .int 0, .int 0, .ref q8, .int 0, .ref q9, .int 0, .int 0, .int 0, .int 0, .int 0])), (q1, .inl (cI, 152, .inl zA)), (q2, .inl (cZ, 2, .inl zA)), (q3, .inl (cI, 552, .inl zA)), (q4, .inl (cI, 320, .inl zA)), (q5, .inl (cI, 8, .inl zA)), (q6, .inl (cI, 8, .inl zA)), (q7, .inl (cI, 100, .inl zA)), (q8, .inl (cI, 16, .inl zA)), (q9, .inl (cI, 40, .inl zA))] rfl dX6_init_75 ?_
  refine n_iconst C dX6_init_78 ?_
  refine n_istore C [(1, .int (I3 ((0 : Nat) : Int))), (0, .ref h0)] dX6_init_79 rfl (by decide) rfl ?_
  refine n_to C [(h0, .inr (6, [.ref q1, .ref q2, .ref q3, .int 0, .ref q4, .ref q5, .ref q6, .int 0, .ref q7, .int 0, .int 0, .ref q8, .int 0, .ref q9, .int 0, .int 0, .int 0, .int 0, .int 0])), (q1, .inl (cI, 152, .inl zA)), (q2, .inl (cZ, 2, .inl zA)), (q3, .inl (cI, 552, .inl zA)), (q4, .inl (cI, 320, .inl zA)), (q5, .inl (cI, 8, .inl (m1 0))), (q6, .inl (cI, 8, .inl zA)), (q7, .inl (cI, 100, .inl zA)), (q8, .inl (cI, 16, .inl zA)), (q9, .inl (cI, 40, .inl zA))] (by rw [m1_0]) ?_
  suffices hs : ∀ d i : Nat, i + d = 8 → G [(h0, .inr (6, [.ref q1, .ref q2, .ref q3, .int 0, .ref q4, .ref q5, .ref q6, .int 0, .ref q7, .int 0, .int 0, .ref q8, .int 0, .ref q9, .int 0, .int 0, .int 0, .int 0, .int 0])), (q1, .inl (cI, 152, .inl zA)), (q2, .inl (cZ, 2, .inl zA)), (q3, .inl (cI, 552, .inl zA)), (q4, .inl (cI, 320, .inl zA)), (q5, .inl (cI, 8, .inl (m1 i))), (q6, .inl (cI, 8, .inl zA)), (q7, .inl (cI, 100, .inl zA)), (q8, .inl (cI, 16, .inl zA)), (q9, .inl (cI, 40, .inl zA))] 9 1198 80 [(1, .int (I3 (i : Int))), (0, .ref h0)] [] from hs 8 0 rfl
  intro d
  induction d with
  | zero =>
    intro i hi
    have h8 : i = 8 := by omega
    subst h8
    refine n_iload C 0 rfl dX6_init_80 rfl ?_
    refine n_bipush C dX6_init_81 (by decide +kernel) ?_
    refine n_icmp_ge C (inR_n (by omega)) ⟨by decide, by decide⟩ dX6_init_83 (tgt := 99) (by decide) (fun _ => ?_) (fun h => absurd (Int.le_refl _) h)
    refine n_ret C dX6_init_99 rfl rfl (fun c => if c = 0 then h0 else if c = 1 then q1 else if c = 2 then q2 else if c = 3 then q3 else if c = 4 then q4 else if c = 5 then q5 else if c = 6 then q6 else if c = 7 then q7 else if c = 8 then q8 else if c = 9 then q9 else 0) rfl (fun H A h1 h2 => ?_)
    have e : wfM cI cZ (fun c => if c = 0 then h0 else if c = 1 then q1 else if c = 2 then q2 else if c = 3 then q3 else if c = 4 then q4 else if c = 5 then q5 else if c = 6 then q6 else if c = 7 then q7 else if c = 8 then q8 else if c = 9 then q9 else 0) = [(h0, .inr (6, [.ref q1, .ref q2, .ref q3, .int 0, .ref q4, .ref q5, .ref q6, .int 0, .ref q7, .int 0, .int 0, .ref q8, .int 0, .ref q9, .int 0, .int 0, .int 0, .int 0, .int 0])), (q1, .inl (cI, 152, .inl zA)), (q2, .inl (cZ, 2, .inl zA)), (q3, .inl (cI, 552, .inl zA)), (q4, .inl (cI, 320, .inl zA)), (q5, .inl (cI, 8, .inl (m1 8))), (q6, .inl (cI, 8, .inl zA)), (q7, .inl (cI, 100, .inl zA)), (q8, .inl (cI, 16, .inl zA)), (q9, .inl (cI, 40, .inl zA))] := by
      show [(_, EM _ _ _ _ 0), (_, EM _ _ _ _ 1), (_, EM _ _ _ _ 2), (_, EM _ _ _ _ 3), (_, EM _ _ _ _ 4), (_, EM _ _ _ _ 5), (_, EM _ _ _ _ 6), (_, EM _ _ _ _ 7), (_, EM _ _ _ _ 8), (_, EM _ _ _ _ 9)] = _
      have e2 : EM (fun c => if c = 0 then h0 else if c = 1 then q1 else if c = 2 then q2 else if c = 3 then q3 else if c = 4 then q4 else if c = 5 then q5 else if c = 6 then q6 else if c = 7 then q7 else if c = 8 then q8 else if c = 9 then q9 else 0) cI cZ ν0 2 = .inl (cZ, 2, .inl zA) := by show arrE cZ 38 0 2 ν0 = _; unfold arrE; rw [aF_0 (ν0_z (by decide))]
      have e3 : EM (fun c => if c = 0 then h0 else if c = 1 then q1 else if c = 2 then q2 else if c = 3 then q3 else if c = 4 then q4 else if c = 5 then q5 else if c = 6 then q6 else if c = 7 then q7 else if c = 8 then q8 else if c = 9 then q9 else 0) cI cZ ν0 3 = .inl (cI, 552, .inl zA) := by show arrE cI 31 0 552 ν0 = _; unfold arrE; rw [aF_0 (ν0_z (by decide))]
      have e4 : EM (fun c => if c = 0 then h0 else if c = 1 then q1 else if c = 2 then q2 else if c = 3 then q3 else if c = 4 then q4 else if c = 5 then q5 else if c = 6 then q6 else if c = 7 then q7 else if c = 8 then q8 else if c = 9 then q9 else 0) cI cZ ν0 4 = .inl (cI, 320, .inl zA) := by show arrE cI 32 0 320 ν0 = _; unfold arrE; rw [aF_0 (ν0_z (by decide))]
      have e5 : EM (fun c => if c = 0 then h0 else if c = 1 then q1 else if c = 2 then q2 else if c = 3 then q3 else if c = 4 then q4 else if c = 5 then q5 else if c = 6 then q6 else if c = 7 then q7 else if c = 8 then q8 else if c = 9 then q9 else 0) cI cZ ν0 5 = .inl (cI, 8, .inl (m1 8)) := rfl
      have e6 : EM (fun c => if c = 0 then h0 else if c = 1 then q1 else if c = 2 then q2 else if c = 3 then q3 else if c = 4 then q4 else if c = 5 then q5 else if c = 6 then q6 else if c = 7 then q7 else if c = 8 then q8 else if c = 9 then q9 else 0) cI cZ ν0 6 = .inl (cI, 8, .inl zA) := by show arrE cI 34 0 8 ν0 = _; unfold arrE; rw [aF_0 (ν0_z (by decide))]
      have e7 : EM (fun c => if c = 0 then h0 else if c = 1 then q1 else if c = 2 then q2 else if c = 3 then q3 else if c = 4 then q4 else if c = 5 then q5 else if c = 6 then q6 else if c = 7 then q7 else if c = 8 then q8 else if c = 9 then q9 else 0) cI cZ ν0 7 = .inl (cI, 100, .inl zA) := by show arrE cI 35 0 100 ν0 = _; unfold arrE; rw [aF_0 (ν0_z (by decide))]
      have e8 : EM (fun c => if c = 0 then h0 else if c = 1 then q1 else if c = 2 then q2 else if c = 3 then q3 else if c = 4 then q4 else if c = 5 then q5 else if c = 6 then q6 else if c = 7 then q7 else if c = 8 then q8 else if c = 9 then q9 else 0) cI cZ ν0 8 = .inl (cI, 16, .inl zA) := by show arrE cI 36 0 16 ν0 = _; unfold arrE; rw [aF_0 (ν0_z (by decide))]
      have e9 : EM (fun c => if c = 0 then h0 else if c = 1 then q1 else if c = 2 then q2 else if c = 3 then q3 else if c = 4 then q4 else if c = 5 then q5 else if c = 6 then q6 else if c = 7 then q7 else if c = 8 then q8 else if c = 9 then q9 else 0) cI cZ ν0 9 = .inl (cI, 40, .inl zA) := by show arrE cI 37 0 40 ν0 = _; unfold arrE; rw [aF_0 (ν0_z (by decide))]
      have e1 : EM (fun c => if c = 0 then h0 else if c = 1 then q1 else if c = 2 then q2 else if c = 3 then q3 else if c = 4 then q4 else if c = 5 then q5 else if c = 6 then q6 else if c = 7 then q7 else if c = 8 then q8 else if c = 9 then q9 else 0) cI cZ ν0 1 = .inl (cI, 152, .inl zA) := by
        have ew : wF ν0 = zA := by
          funext j
          unfold wF zA rdW
          split
          · rw [ν0_z (by omega)]; rfl
          · rfl
        show (Sum.inl (cI, 152, .inl (wF ν0)) : va_E) = _
        rw [ew]
      rw [e1, e2, e3, e4, e5, e6, e7, e8, e9]
      rfl
    rw [e]
    exact ⟨h1, h2⟩
  | succ d ih =>
    intro i hi
    refine n_iload C 0 rfl dX6_init_80 rfl ?_
    refine n_bipush C dX6_init_81 (by decide +kernel) ?_
    refine n_icmp_ge C (inR_n (by omega)) ⟨by decide, by decide⟩ dX6_init_83 (tgt := 99) (by decide) (fun h => absurd h (by omega)) (fun _ => ?_)
    refine n_aload C 1 rfl dX6_init_86 rfl ?_
    refine n_getF C (q0 := 0) (ci := 6) (j := 5) i_X rfl rfl (by decide) rfl (by decide +kernel) rfl dX6_init_87 ?_
    refine n_iload C 0 rfl dX6_init_90 rfl ?_
    refine n_iconst C dX6_init_91 ?_
    refine n_iast C (q0 := 5) (t0 := 0) rfl rfl (I3_in (inR_n (by omega)) (by omega) (by omega)) [(h0, .inr (6, [.ref q1, .ref q2, .ref q3, .int 0, .ref q4, .ref q5, .ref q6, .int 0, .ref q7, .int 0, .int 0, .ref q8, .int 0, .ref q9, .int 0, .int 0, .int 0, .int 0, .int 0])), (q1, .inl (cI, 152, .inl zA)), (q2, .inl (cZ, 2, .inl zA)), (q3, .inl (cI, 552, .inl zA)), (q4, .inl (cI, 320, .inl zA)), (q5, .inl (cI, 8, .inl (m1 (i + 1)))), (q6, .inl (cI, 8, .inl zA)), (q7, .inl (cI, 100, .inl zA)), (q8, .inl (cI, 16, .inl zA)), (q9, .inl (cI, 40, .inl zA))] (by rw [m1_s (by omega)]; rfl) dX6_init_92 ?_
    refine n_iinc C [(1, .int (I3 ((i + 1 : Nat) : Int))), (0, .ref h0)] (q := 0) dX6_init_93 rfl I3_inc (by decide) rfl ?_
    refine n_goto C dX6_init_96 (tgt := 80) (by decide) ?_
    exact ih (i + 1) (by omega)
