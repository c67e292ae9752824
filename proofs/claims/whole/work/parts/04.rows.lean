/-! ONE ROW AN INSTRUCTION, over the pure level. -/
theorem cmp3_R (x y : Int) : inR (cmp3 x y) := by
  unfold cmp3
  split
  · exact ⟨by decide, by decide⟩
  · split <;> exact ⟨by decide, by decide⟩
theorem ok_c {v : Vv} {S : List Vv} (h : okV v) (hS : ∀ w ∈ S, okV w) : ∀ w ∈ v :: S, okV w := fun w hw => by
  rcases List.mem_cons.mp hw with h2 | h2
  · rw [h2]; exact h
  · exact hS w h2
theorem ok_t {v : Vv} {S : List Vv} (hS : ∀ w ∈ v :: S, okV w) : ∀ w ∈ S, okV w := fun w h => hS w (List.mem_cons_of_mem _ h)
theorem ok_h {v : Vv} {S : List Vv} (hS : ∀ w ∈ v :: S, okV w) : okV v := hS v List.mem_cons_self
def catV (v : Vv) : Nat := match v with
  | .inl _ => 1
  | .inr (.inl _) => 2
  | .inr (.inr _) => 1
theorem cat_tv (ad : Nat → Nat) (v : Vv) : (tv ad v).category = catV v := by rcases v with x | x | x <;> rfl
def lf1 (i : Nat) (q : Nat × Vv) : Bool := !(q.1 == i) && !(q.1 + 1 == i && catV q.2 == 2)
def lf2 (i : Nat) (q : Nat × Vv) : Bool := !(q.1 == i) && (!(q.1 == i + 1) && !(q.1 + 1 == i && catV q.2 == 2))
theorem lf1_map (ad : Nat → Nat) (i : Nat) (L : List (Nat × Vv)) : (L.map (fun q => (q.1, tv ad q.2))).filter (fun q => !(q.1 == i) && !(q.1 + 1 == i && q.2.category == 2)) = (L.filter (lf1 i)).map (fun q => (q.1, tv ad q.2)) := by
  rw [List.filter_map]
  congr 1
  apply List.filter_congr
  intro q _
  simp only [Function.comp, lf1, cat_tv]
theorem lf2_map (ad : Nat → Nat) (i : Nat) (L : List (Nat × Vv)) : (L.map (fun q => (q.1, tv ad q.2))).filter (fun q => !(q.1 == i) && (!(q.1 == i + 1) && !(q.1 + 1 == i && q.2.category == 2))) = (L.filter (lf2 i)).map (fun q => (q.1, tv ad q.2)) := by
  rw [List.filter_map]
  congr 1
  apply List.filter_congr
  intro q _
  simp only [Function.comp, lf2, cat_tv]
theorem ok_L {i : Nat} {v : Vv} {L : List (Nat × Vv)} {f : Nat × Vv → Bool} (h : okV v) (hL : ∀ q ∈ L, okV q.2) : ∀ q ∈ ((i, v) :: L.filter f), okV q.2 := fun q hq => by
  rcases List.mem_cons.mp hq with h2 | h2
  · rw [h2]; exact h
  · exact hL q (List.mem_filter.mp h2).1
theorem at_L {ad : Nat → Nat} {nL : Nat} {ls : Array Slot} {L : List (Nat × Vv)} (hl : lv_has ls nL (L.map (fun q => (q.1, tv ad q.2)))) (i : Nat) {n : Nat} {v : Vv} (hk : L[i]? = some (n, v)) : ls[n]? = some (.val (tv ad v)) := lv_at hl i (by rw [List.getElem?_map, hk]; rfl)
section RQ
variable {l : Launch} {D : va_G} {cl : List vw_C} {tys : List (ClassId × FieldType)} {N : Nat} {ad : Nat → Nat} {E : Mm → Nat → va_E} {Z : State → Prop} {own : String} {Ts : List Cond} {cc : ByteArray} {nL : Nat} {R : Room} {ret : Option FieldType} {z : Int × Mm} {G : Mm → Nat → List (Nat × Vv) → List Vv → Prop} {μ : Mm} {pc : Nat} {L : List (Nat × Vv)} {S : List Vv}
theorem q_iconst (C : Cx l D cl tys N ad E Z own Ts cc nL R ret z G) {n : Int} (hd : decode cc pc = .ok (.iconst n, 1)) (hn : inR n) (k : G μ (pc + 1) L (Vi n :: S)) : G μ pc L S := by
  obtain ⟨p, e, s, m, args, below, meth, c, A, hx, hb, hml, hr, hown, hts, hlk, hK, hD, hA, hZ, hA2, rfl⟩ := C
  intro H locs ls hM hS hL hP hSs hl
  refine lv_iconst (v := I3 n) hx hb hd rfl ?_
  exact k H locs ls hM (ok_c hn hS) hL hP hSs hl
theorem q_bipush (C : Cx l D cl tys N ad E Z own Ts cc nL R ret z G) {n : Int} (hd : decode cc pc = .ok (.bipush n, 2)) (hn : (Int8.ofInt n).toInt32 = I3 n ∧ inR n) (k : G μ (pc + 2) L (Vi n :: S)) : G μ pc L S := by
  obtain ⟨p, e, s, m, args, below, meth, c, A, hx, hb, hml, hr, hown, hts, hlk, hK, hD, hA, hZ, hA2, rfl⟩ := C
  intro H locs ls hM hS hL hP hSs hl
  refine lv_bipush (v := I3 n) hx hb hd hn.1 ?_
  exact k H locs ls hM (ok_c hn.2 hS) hL hP hSs hl
theorem q_sipush (C : Cx l D cl tys N ad E Z own Ts cc nL R ret z G) {n : Int} (hd : decode cc pc = .ok (.sipush n, 3)) (hn : (Int16.ofInt n).toInt32 = I3 n ∧ inR n) (k : G μ (pc + 3) L (Vi n :: S)) : G μ pc L S := by
  obtain ⟨p, e, s, m, args, below, meth, c, A, hx, hb, hml, hr, hown, hts, hlk, hK, hD, hA, hZ, hA2, rfl⟩ := C
  intro H locs ls hM hS hL hP hSs hl
  refine lv_sipush (v := I3 n) hx hb hd hn.1 ?_
  exact k H locs ls hM (ok_c hn.2 hS) hL hP hSs hl
theorem q_lconst (C : Cx l D cl tys N ad E Z own Ts cc nL R ret z G) {n : Fin 2} {x : Int} (hd : decode cc pc = .ok (.lconst n, 1)) (hn : Int64.ofNat (n : Nat) = J6 x ∧ inL x) (k : G μ (pc + 1) L (Vl x :: S)) : G μ pc L S := by
  obtain ⟨p, e, s, m, args, below, meth, c, A, hx, hb, hml, hr, hown, hts, hlk, hK, hD, hA, hZ, hA2, rfl⟩ := C
  intro H locs ls hM hS hL hP hSs hl
  refine lv_lconst (v := J6 x) hx hb hd hn.1 ?_
  exact k H locs ls hM (ok_c hn.2 hS) hL hP hSs hl
theorem q_ldc (C : Cx l D cl tys N ad E Z own Ts cc nL R ret z G) {index : Nat} {v : Int32} {x : Int} (hw : Cond.constant own index v ∈ Ts) (hd : decode cc pc = .ok (.ldc index, 2)) (hn : v = I3 x ∧ inR x) (k : G μ (pc + 2) L (Vi x :: S)) : G μ pc L S := by
  obtain ⟨p, e, s, m, args, below, meth, c, A, hx, hb, hml, hr, hown, hts, hlk, hK, hD, hA, hZ, hA2, rfl⟩ := C
  intro H locs ls hM hS hL hP hSs hl
  refine lv_ldc (v := v) hx hb hown (hts _ hw) hd ?_
  rw [hn.1]
  exact k H locs ls hM (ok_c hn.2 hS) hL hP hSs hl
theorem q_ldcw (C : Cx l D cl tys N ad E Z own Ts cc nL R ret z G) {index : Nat} {v : Int32} {x : Int} (hw : Cond.constant own index v ∈ Ts) (hd : decode cc pc = .ok (.ldc_w index, 3)) (hn : v = I3 x ∧ inR x) (k : G μ (pc + 3) L (Vi x :: S)) : G μ pc L S := by
  obtain ⟨p, e, s, m, args, below, meth, c, A, hx, hb, hml, hr, hown, hts, hlk, hK, hD, hA, hZ, hA2, rfl⟩ := C
  intro H locs ls hM hS hL hP hSs hl
  refine lv_ldcw (v := v) hx hb hown (hts _ hw) hd ?_
  rw [hn.1]
  exact k H locs ls hM (ok_c hn.2 hS) hL hP hSs hl
theorem q_ldc2 (C : Cx l D cl tys N ad E Z own Ts cc nL R ret z G) {index : Nat} {v : Int64} {x : Int} (hw : Cond.constantLong own index v ∈ Ts) (hd : decode cc pc = .ok (.ldc2_w index, 3)) (hn : v = J6 x ∧ inL x) (k : G μ (pc + 3) L (Vl x :: S)) : G μ pc L S := by
  obtain ⟨p, e, s, m, args, below, meth, c, A, hx, hb, hml, hr, hown, hts, hlk, hK, hD, hA, hZ, hA2, rfl⟩ := C
  intro H locs ls hM hS hL hP hSs hl
  refine lv_ldc2 (v := v) hx hb hown (hts _ hw) hd ?_
  rw [hn.1]
  exact k H locs ls hM (ok_c hn.2 hS) hL hP hSs hl
theorem q_iload_n (C : Cx l D cl tys N ad E Z own Ts cc nL R ret z G) {k : Fin 4} {n : Nat} {x : Int} (i : Nat) (hk : L[i]? = some (n, Vi x)) (hd : decode cc pc = .ok (.iload_n k, 1)) (hn : (k : Nat) = n) (kk : G μ (pc + 1) L (Vi x :: S)) : G μ pc L S := by
  obtain ⟨p, e, s, m, args, below, meth, c, A, hx, hb, hml, hr, hown, hts, hlk, hK, hD, hA, hZ, hA2, rfl⟩ := C
  intro H locs ls hM hS hL hP hSs hl
  refine lv_iload_n hx hb hd hn (at_L hl i hk) ?_
  exact kk H locs ls hM (ok_c (hL _ (List.mem_of_getElem? hk)) hS) hL hP hSs hl
theorem q_iload (C : Cx l D cl tys N ad E Z own Ts cc nL R ret z G) {n : Nat} {x : Int} (i : Nat) (hk : L[i]? = some (n, Vi x)) (hd : decode cc pc = .ok (.iload n, 2)) (kk : G μ (pc + 2) L (Vi x :: S)) : G μ pc L S := by
  obtain ⟨p, e, s, m, args, below, meth, c, A, hx, hb, hml, hr, hown, hts, hlk, hK, hD, hA, hZ, hA2, rfl⟩ := C
  intro H locs ls hM hS hL hP hSs hl
  refine lv_iload hx hb hd (at_L hl i hk) ?_
  exact kk H locs ls hM (ok_c (hL _ (List.mem_of_getElem? hk)) hS) hL hP hSs hl
theorem q_istore_n (C : Cx l D cl tys N ad E Z own Ts cc nL R ret z G) {k : Fin 4} {n : Nat} {x : Int} (L' : List (Nat × Vv)) (hL' : (n, Vi x) :: L.filter (lf1 n) = L') (hlt : n < nL) (hd : decode cc pc = .ok (.istore_n k, 1)) (hn : (k : Nat) = n) (kk : G μ (pc + 1) L' S) : G μ pc L (Vi x :: S) := by
  obtain ⟨p, e, s, m, args, below, meth, c, A, hx, hb, hml, hr, hown, hts, hlk, hK, hD, hA, hZ, hA2, rfl⟩ := C
  intro H locs ls hM hS hL hP hSs hl
  subst hL'
  refine lv_istore_n hx hb hd hn hl hlt rfl (fun ls' hl' => ?_)
  rw [lf1_map] at hl'
  exact kk H locs ls' hM (ok_t hS) (ok_L (ok_h hS) hL) hP hSs hl'
theorem q_istore (C : Cx l D cl tys N ad E Z own Ts cc nL R ret z G) {n : Nat} {x : Int} (L' : List (Nat × Vv)) (hL' : (n, Vi x) :: L.filter (lf1 n) = L') (hlt : n < nL) (hd : decode cc pc = .ok (.istore n, 2)) (kk : G μ (pc + 2) L' S) : G μ pc L (Vi x :: S) := by
  obtain ⟨p, e, s, m, args, below, meth, c, A, hx, hb, hml, hr, hown, hts, hlk, hK, hD, hA, hZ, hA2, rfl⟩ := C
  intro H locs ls hM hS hL hP hSs hl
  subst hL'
  refine lv_istore hx hb hd hl hlt rfl (fun ls' hl' => ?_)
  rw [lf1_map] at hl'
  exact kk H locs ls' hM (ok_t hS) (ok_L (ok_h hS) hL) hP hSs hl'
theorem q_lload_n (C : Cx l D cl tys N ad E Z own Ts cc nL R ret z G) {k : Fin 4} {n : Nat} {x : Int} (i : Nat) (hk : L[i]? = some (n, Vl x)) (hd : decode cc pc = .ok (.lload_n k, 1)) (hn : (k : Nat) = n) (kk : G μ (pc + 1) L (Vl x :: S)) : G μ pc L S := by
  obtain ⟨p, e, s, m, args, below, meth, c, A, hx, hb, hml, hr, hown, hts, hlk, hK, hD, hA, hZ, hA2, rfl⟩ := C
  intro H locs ls hM hS hL hP hSs hl
  refine lv_lload_n hx hb hd hn (at_L hl i hk) ?_
  exact kk H locs ls hM (ok_c (hL _ (List.mem_of_getElem? hk)) hS) hL hP hSs hl
theorem q_lload (C : Cx l D cl tys N ad E Z own Ts cc nL R ret z G) {n : Nat} {x : Int} (i : Nat) (hk : L[i]? = some (n, Vl x)) (hd : decode cc pc = .ok (.lload n, 2)) (kk : G μ (pc + 2) L (Vl x :: S)) : G μ pc L S := by
  obtain ⟨p, e, s, m, args, below, meth, c, A, hx, hb, hml, hr, hown, hts, hlk, hK, hD, hA, hZ, hA2, rfl⟩ := C
  intro H locs ls hM hS hL hP hSs hl
  refine lv_lload hx hb hd (at_L hl i hk) ?_
  exact kk H locs ls hM (ok_c (hL _ (List.mem_of_getElem? hk)) hS) hL hP hSs hl
theorem q_lstore_n (C : Cx l D cl tys N ad E Z own Ts cc nL R ret z G) {k : Fin 4} {n : Nat} {x : Int} (L' : List (Nat × Vv)) (hL' : (n, Vl x) :: L.filter (lf2 n) = L') (hlt : n + 1 < nL) (hd : decode cc pc = .ok (.lstore_n k, 1)) (hn : (k : Nat) = n) (kk : G μ (pc + 1) L' S) : G μ pc L (Vl x :: S) := by
  obtain ⟨p, e, s, m, args, below, meth, c, A, hx, hb, hml, hr, hown, hts, hlk, hK, hD, hA, hZ, hA2, rfl⟩ := C
  intro H locs ls hM hS hL hP hSs hl
  subst hL'
  refine lv_lstore_n hx hb hd hn hl hlt rfl (fun ls' hl' => ?_)
  rw [lf2_map] at hl'
  exact kk H locs ls' hM (ok_t hS) (ok_L (ok_h hS) hL) hP hSs hl'
theorem q_lstore (C : Cx l D cl tys N ad E Z own Ts cc nL R ret z G) {n : Nat} {x : Int} (L' : List (Nat × Vv)) (hL' : (n, Vl x) :: L.filter (lf2 n) = L') (hlt : n + 1 < nL) (hd : decode cc pc = .ok (.lstore n, 2)) (kk : G μ (pc + 2) L' S) : G μ pc L (Vl x :: S) := by
  obtain ⟨p, e, s, m, args, below, meth, c, A, hx, hb, hml, hr, hown, hts, hlk, hK, hD, hA, hZ, hA2, rfl⟩ := C
  intro H locs ls hM hS hL hP hSs hl
  subst hL'
  refine lv_lstore hx hb hd hl hlt rfl (fun ls' hl' => ?_)
  rw [lf2_map] at hl'
  exact kk H locs ls' hM (ok_t hS) (ok_L (ok_h hS) hL) hP hSs hl'
theorem q_aload_n (C : Cx l D cl tys N ad E Z own Ts cc nL R ret z G) {k : Fin 4} {n : Nat} {x : Nat} (i : Nat) (hk : L[i]? = some (n, Vr x)) (hd : decode cc pc = .ok (.aload_n k, 1)) (hn : (k : Nat) = n) (kk : G μ (pc + 1) L (Vr x :: S)) : G μ pc L S := by
  obtain ⟨p, e, s, m, args, below, meth, c, A, hx, hb, hml, hr, hown, hts, hlk, hK, hD, hA, hZ, hA2, rfl⟩ := C
  intro H locs ls hM hS hL hP hSs hl
  refine lv_aload_n hx hb hd hn (at_L hl i hk) ?_
  exact kk H locs ls hM (ok_c (hL _ (List.mem_of_getElem? hk)) hS) hL hP hSs hl
theorem q_aload (C : Cx l D cl tys N ad E Z own Ts cc nL R ret z G) {n : Nat} {x : Nat} (i : Nat) (hk : L[i]? = some (n, Vr x)) (hd : decode cc pc = .ok (.aload n, 2)) (kk : G μ (pc + 2) L (Vr x :: S)) : G μ pc L S := by
  obtain ⟨p, e, s, m, args, below, meth, c, A, hx, hb, hml, hr, hown, hts, hlk, hK, hD, hA, hZ, hA2, rfl⟩ := C
  intro H locs ls hM hS hL hP hSs hl
  refine lv_aload hx hb hd (at_L hl i hk) ?_
  exact kk H locs ls hM (ok_c (hL _ (List.mem_of_getElem? hk)) hS) hL hP hSs hl
theorem q_astore_n (C : Cx l D cl tys N ad E Z own Ts cc nL R ret z G) {k : Fin 4} {n : Nat} {x : Nat} (L' : List (Nat × Vv)) (hL' : (n, Vr x) :: L.filter (lf1 n) = L') (hlt : n < nL) (hd : decode cc pc = .ok (.astore_n k, 1)) (hn : (k : Nat) = n) (kk : G μ (pc + 1) L' S) : G μ pc L (Vr x :: S) := by
  obtain ⟨p, e, s, m, args, below, meth, c, A, hx, hb, hml, hr, hown, hts, hlk, hK, hD, hA, hZ, hA2, rfl⟩ := C
  intro H locs ls hM hS hL hP hSs hl
  subst hL'
  refine lv_astore_n hx hb hd hn hl hlt rfl (fun ls' hl' => ?_)
  rw [lf1_map] at hl'
  exact kk H locs ls' hM (ok_t hS) (ok_L (ok_h hS) hL) hP hSs hl'
theorem q_astore (C : Cx l D cl tys N ad E Z own Ts cc nL R ret z G) {n : Nat} {x : Nat} (L' : List (Nat × Vv)) (hL' : (n, Vr x) :: L.filter (lf1 n) = L') (hlt : n < nL) (hd : decode cc pc = .ok (.astore n, 2)) (kk : G μ (pc + 2) L' S) : G μ pc L (Vr x :: S) := by
  obtain ⟨p, e, s, m, args, below, meth, c, A, hx, hb, hml, hr, hown, hts, hlk, hK, hD, hA, hZ, hA2, rfl⟩ := C
  intro H locs ls hM hS hL hP hSs hl
  subst hL'
  refine lv_astore hx hb hd hl hlt rfl (fun ls' hl' => ?_)
  rw [lf1_map] at hl'
  exact kk H locs ls' hM (ok_t hS) (ok_L (ok_h hS) hL) hP hSs hl'
theorem q_iinc (C : Cx l D cl tys N ad E Z own Ts cc nL R ret z G) {n : Nat} {d x : Int} (i : Nat) (hk : L[i]? = some (n, Vi x)) (L' : List (Nat × Vv)) (hL' : (n, Vi (w3 (x + d))) :: L.filter (lf1 n) = L') (hlt : n < nL) (hd : decode cc pc = .ok (.iinc n d, 3)) (kk : G μ (pc + 3) L' S) : G μ pc L S := by
  obtain ⟨p, e, s, m, args, below, meth, c, A, hx, hb, hml, hr, hown, hts, hlk, hK, hD, hA, hZ, hA2, rfl⟩ := C
  intro H locs ls hM hS hL hP hSs hl
  subst hL'
  refine lv_iinc (v := I3 (w3 (x + d))) (x := I3 x) hx hb hd hl (k := i) (by rw [List.getElem?_map, hk]; rfl) (I3_add x d) hlt rfl (fun ls' hl' => ?_)
  rw [lf1_map] at hl'
  exact kk H locs ls' hM hS (ok_L (w3_R _) hL) hP hSs hl'
theorem q_iadd (C : Cx l D cl tys N ad E Z own Ts cc nL R ret z G) {x y : Int} (hd : decode cc pc = .ok (.iadd, 1)) (k : G μ (pc + 1) L (Vi (w3 (x + y)) :: S)) : G μ pc L (Vi y :: Vi x :: S) := by
  obtain ⟨p, e, s, m, args, below, meth, c, A, hx, hb, hml, hr, hown, hts, hlk, hK, hD, hA, hZ, hA2, rfl⟩ := C
  intro H locs ls hM hS hL hP hSs hl
  refine lv_iadd hx hb hd ?_
  rw [I3_add]
  exact k H locs ls hM (ok_c (w3_R _) (ok_t (ok_t hS))) hL hP hSs hl
theorem q_isub (C : Cx l D cl tys N ad E Z own Ts cc nL R ret z G) {x y : Int} (hd : decode cc pc = .ok (.isub, 1)) (k : G μ (pc + 1) L (Vi (w3 (x - y)) :: S)) : G μ pc L (Vi y :: Vi x :: S) := by
  obtain ⟨p, e, s, m, args, below, meth, c, A, hx, hb, hml, hr, hown, hts, hlk, hK, hD, hA, hZ, hA2, rfl⟩ := C
  intro H locs ls hM hS hL hP hSs hl
  refine lv_isub hx hb hd ?_
  rw [I3_sub]
  exact k H locs ls hM (ok_c (w3_R _) (ok_t (ok_t hS))) hL hP hSs hl
theorem q_imul (C : Cx l D cl tys N ad E Z own Ts cc nL R ret z G) {x y : Int} (hd : decode cc pc = .ok (.imul, 1)) (k : G μ (pc + 1) L (Vi (w3 (x * y)) :: S)) : G μ pc L (Vi y :: Vi x :: S) := by
  obtain ⟨p, e, s, m, args, below, meth, c, A, hx, hb, hml, hr, hown, hts, hlk, hK, hD, hA, hZ, hA2, rfl⟩ := C
  intro H locs ls hM hS hL hP hSs hl
  refine lv_imul hx hb hd ?_
  rw [I3_mul]
  exact k H locs ls hM (ok_c (w3_R _) (ok_t (ok_t hS))) hL hP hSs hl
theorem q_iand (C : Cx l D cl tys N ad E Z own Ts cc nL R ret z G) {x y : Int} (hd : decode cc pc = .ok (.iand, 1)) (k : G μ (pc + 1) L (Vi (bAnd x y) :: S)) : G μ pc L (Vi y :: Vi x :: S) := by
  obtain ⟨p, e, s, m, args, below, meth, c, A, hx, hb, hml, hr, hown, hts, hlk, hK, hD, hA, hZ, hA2, rfl⟩ := C
  intro H locs ls hM hS hL hP hSs hl
  refine lv_iand hx hb hd ?_
  rw [show I3 x &&& I3 y = I3 (bAnd x y) from (I3_toInt _).symm]
  exact k H locs ls hM (ok_c (toInt_R _) (ok_t (ok_t hS))) hL hP hSs hl
theorem q_ior (C : Cx l D cl tys N ad E Z own Ts cc nL R ret z G) {x y : Int} (hd : decode cc pc = .ok (.ior, 1)) (k : G μ (pc + 1) L (Vi (bOr x y) :: S)) : G μ pc L (Vi y :: Vi x :: S) := by
  obtain ⟨p, e, s, m, args, below, meth, c, A, hx, hb, hml, hr, hown, hts, hlk, hK, hD, hA, hZ, hA2, rfl⟩ := C
  intro H locs ls hM hS hL hP hSs hl
  refine lv_ior hx hb hd ?_
  rw [show I3 x ||| I3 y = I3 (bOr x y) from (I3_toInt _).symm]
  exact k H locs ls hM (ok_c (toInt_R _) (ok_t (ok_t hS))) hL hP hSs hl
theorem q_ixor (C : Cx l D cl tys N ad E Z own Ts cc nL R ret z G) {x y : Int} (hd : decode cc pc = .ok (.ixor, 1)) (k : G μ (pc + 1) L (Vi (bXor x y) :: S)) : G μ pc L (Vi y :: Vi x :: S) := by
  obtain ⟨p, e, s, m, args, below, meth, c, A, hx, hb, hml, hr, hown, hts, hlk, hK, hD, hA, hZ, hA2, rfl⟩ := C
  intro H locs ls hM hS hL hP hSs hl
  refine lv_ixor hx hb hd ?_
  rw [show I3 x ^^^ I3 y = I3 (bXor x y) from (I3_toInt _).symm]
  exact k H locs ls hM (ok_c (toInt_R _) (ok_t (ok_t hS))) hL hP hSs hl
theorem q_ishl (C : Cx l D cl tys N ad E Z own Ts cc nL R ret z G) {x y : Int} (hd : decode cc pc = .ok (.ishl, 1)) (k : G μ (pc + 1) L (Vi (bShl x y) :: S)) : G μ pc L (Vi y :: Vi x :: S) := by
  obtain ⟨p, e, s, m, args, below, meth, c, A, hx, hb, hml, hr, hown, hts, hlk, hK, hD, hA, hZ, hA2, rfl⟩ := C
  intro H locs ls hM hS hL hP hSs hl
  refine lv_ishl hx hb hd ?_
  rw [show I3 x <<< (I3 y &&& 31) = I3 (bShl x y) from (I3_toInt _).symm]
  exact k H locs ls hM (ok_c (toInt_R _) (ok_t (ok_t hS))) hL hP hSs hl
theorem q_ishr (C : Cx l D cl tys N ad E Z own Ts cc nL R ret z G) {x y : Int} (hd : decode cc pc = .ok (.ishr, 1)) (k : G μ (pc + 1) L (Vi (bShr x y) :: S)) : G μ pc L (Vi y :: Vi x :: S) := by
  obtain ⟨p, e, s, m, args, below, meth, c, A, hx, hb, hml, hr, hown, hts, hlk, hK, hD, hA, hZ, hA2, rfl⟩ := C
  intro H locs ls hM hS hL hP hSs hl
  refine lv_ishr hx hb hd ?_
  rw [show I3 x >>> (I3 y &&& 31) = I3 (bShr x y) from (I3_toInt _).symm]
  exact k H locs ls hM (ok_c (toInt_R _) (ok_t (ok_t hS))) hL hP hSs hl
theorem q_iushr (C : Cx l D cl tys N ad E Z own Ts cc nL R ret z G) {x y : Int} (hd : decode cc pc = .ok (.iushr, 1)) (k : G μ (pc + 1) L (Vi (bUsh x y) :: S)) : G μ pc L (Vi y :: Vi x :: S) := by
  obtain ⟨p, e, s, m, args, below, meth, c, A, hx, hb, hml, hr, hown, hts, hlk, hK, hD, hA, hZ, hA2, rfl⟩ := C
  intro H locs ls hM hS hL hP hSs hl
  refine lv_iushr (v := I3 (bUsh x y)) hx hb hd (I3_toInt _).symm ?_
  exact k H locs ls hM (ok_c (toInt_R _) (ok_t (ok_t hS))) hL hP hSs hl
theorem q_ineg (C : Cx l D cl tys N ad E Z own Ts cc nL R ret z G) {x : Int} (hd : decode cc pc = .ok (.ineg, 1)) (k : G μ (pc + 1) L (Vi (w3 (-x)) :: S)) : G μ pc L (Vi x :: S) := by
  obtain ⟨p, e, s, m, args, below, meth, c, A, hx, hb, hml, hr, hown, hts, hlk, hK, hD, hA, hZ, hA2, rfl⟩ := C
  intro H locs ls hM hS hL hP hSs hl
  refine lv_ineg hx hb hd ?_
  rw [I3_neg]
  exact k H locs ls hM (ok_c (w3_R _) (ok_t hS)) hL hP hSs hl
theorem q_i2b (C : Cx l D cl tys N ad E Z own Ts cc nL R ret z G) {x : Int} (hd : decode cc pc = .ok (.i2b, 1)) (k : G μ (pc + 1) L (Vi (n8 x) :: S)) : G μ pc L (Vi x :: S) := by
  obtain ⟨p, e, s, m, args, below, meth, c, A, hx, hb, hml, hr, hown, hts, hlk, hK, hD, hA, hZ, hA2, rfl⟩ := C
  intro H locs ls hM hS hL hP hSs hl
  refine lv_i2b (v := I3 (n8 x)) hx hb hd (I3_toInt _).symm ?_
  exact k H locs ls hM (ok_c (toInt_R _) (ok_t hS)) hL hP hSs hl
theorem q_i2s (C : Cx l D cl tys N ad E Z own Ts cc nL R ret z G) {x : Int} (hd : decode cc pc = .ok (.i2s, 1)) (k : G μ (pc + 1) L (Vi (n16 x) :: S)) : G μ pc L (Vi x :: S) := by
  obtain ⟨p, e, s, m, args, below, meth, c, A, hx, hb, hml, hr, hown, hts, hlk, hK, hD, hA, hZ, hA2, rfl⟩ := C
  intro H locs ls hM hS hL hP hSs hl
  refine lv_i2s (v := I3 (n16 x)) hx hb hd (I3_toInt _).symm ?_
  exact k H locs ls hM (ok_c (toInt_R _) (ok_t hS)) hL hP hSs hl
theorem q_i2l (C : Cx l D cl tys N ad E Z own Ts cc nL R ret z G) {x : Int} (hd : decode cc pc = .ok (.i2l, 1)) (k : G μ (pc + 1) L (Vl x :: S)) : G μ pc L (Vi x :: S) := by
  obtain ⟨p, e, s, m, args, below, meth, c, A, hx, hb, hml, hr, hown, hts, hlk, hK, hD, hA, hZ, hA2, rfl⟩ := C
  intro H locs ls hM hS hL hP hSs hl
  have hxr : inR x := ok_h hS
  refine lv_i2l (v := J6 x) hx hb hd (by rw [← Int64.toInt_inj, Int32.toInt_toInt64, I3_t hxr, J6_t (inR_L hxr)]) ?_
  exact k H locs ls hM (ok_c (inR_L hxr) (ok_t hS)) hL hP hSs hl
theorem q_l2i (C : Cx l D cl tys N ad E Z own Ts cc nL R ret z G) {x : Int} (hd : decode cc pc = .ok (.l2i, 1)) (k : G μ (pc + 1) L (Vi (w3 x) :: S)) : G μ pc L (Vl x :: S) := by
  obtain ⟨p, e, s, m, args, below, meth, c, A, hx, hb, hml, hr, hown, hts, hlk, hK, hD, hA, hZ, hA2, rfl⟩ := C
  intro H locs ls hM hS hL hP hSs hl
  refine lv_l2i (v := I3 (w3 x)) hx hb hd (by rw [I3_w3]; exact Int64.toInt32_ofInt) ?_
  exact k H locs ls hM (ok_c (w3_R _) (ok_t hS)) hL hP hSs hl
theorem q_ladd (C : Cx l D cl tys N ad E Z own Ts cc nL R ret z G) {x y : Int}  (hd : decode cc pc = .ok (.ladd, 1)) (k : G μ (pc + 1) L (Vl (w6 (x + y)) :: S)) : G μ pc L (Vl y :: Vl x :: S) := by
  obtain ⟨p, e, s, m, args, below, meth, c, A, hx, hb, hml, hr, hown, hts, hlk, hK, hD, hA, hZ, hA2, rfl⟩ := C
  intro H locs ls hM hS hL hP hSs hl
  refine lv_ladd hx hb hd  ?_
  rw [J6_add]
  exact k H locs ls hM (ok_c (w6_L _) (ok_t (ok_t hS))) hL hP hSs hl
theorem q_lmul (C : Cx l D cl tys N ad E Z own Ts cc nL R ret z G) {x y : Int}  (hd : decode cc pc = .ok (.lmul, 1)) (k : G μ (pc + 1) L (Vl (w6 (x * y)) :: S)) : G μ pc L (Vl y :: Vl x :: S) := by
  obtain ⟨p, e, s, m, args, below, meth, c, A, hx, hb, hml, hr, hown, hts, hlk, hK, hD, hA, hZ, hA2, rfl⟩ := C
  intro H locs ls hM hS hL hP hSs hl
  refine lv_lmul hx hb hd  ?_
  rw [J6_mul]
  exact k H locs ls hM (ok_c (w6_L _) (ok_t (ok_t hS))) hL hP hSs hl
theorem q_ldiv (C : Cx l D cl tys N ad E Z own Ts cc nL R ret z G) {x y : Int} (hne : ¬ y = 0) (hd : decode cc pc = .ok (.ldiv, 1)) (k : G μ (pc + 1) L (Vl (lDiv x y) :: S)) : G μ pc L (Vl y :: Vl x :: S) := by
  obtain ⟨p, e, s, m, args, below, meth, c, A, hx, hb, hml, hr, hown, hts, hlk, hK, hD, hA, hZ, hA2, rfl⟩ := C
  intro H locs ls hM hS hL hP hSs hl
  refine lv_ldiv hx hb hd (fun q => hne ((J6_eq (ok_h hS) (show inL 0 from ⟨by decide, by decide⟩)).mp q)) ?_
  rw [show J6 x / J6 y = J6 (lDiv x y) from (J6_toInt _).symm]
  exact k H locs ls hM (ok_c (toInt_L _) (ok_t (ok_t hS))) hL hP hSs hl
theorem q_lrem (C : Cx l D cl tys N ad E Z own Ts cc nL R ret z G) {x y : Int} (hne : ¬ y = 0) (hd : decode cc pc = .ok (.lrem, 1)) (k : G μ (pc + 1) L (Vl (lRem x y) :: S)) : G μ pc L (Vl y :: Vl x :: S) := by
  obtain ⟨p, e, s, m, args, below, meth, c, A, hx, hb, hml, hr, hown, hts, hlk, hK, hD, hA, hZ, hA2, rfl⟩ := C
  intro H locs ls hM hS hL hP hSs hl
  refine lv_lrem hx hb hd (fun q => hne ((J6_eq (ok_h hS) (show inL 0 from ⟨by decide, by decide⟩)).mp q)) ?_
  rw [show J6 x - J6 x / J6 y * J6 y = J6 (lRem x y) from (J6_toInt _).symm]
  exact k H locs ls hM (ok_c (toInt_L _) (ok_t (ok_t hS))) hL hP hSs hl
theorem q_lcmp (C : Cx l D cl tys N ad E Z own Ts cc nL R ret z G) {x y : Int} (hd : decode cc pc = .ok (.lcmp, 1)) (k : G μ (pc + 1) L (Vi (cmp3 x y) :: S)) : G μ pc L (Vl y :: Vl x :: S) := by
  obtain ⟨p, e, s, m, args, below, meth, c, A, hx, hb, hml, hr, hown, hts, hlk, hK, hD, hA, hZ, hA2, rfl⟩ := C
  intro H locs ls hM hS hL hP hSs hl
  have hxr : inL x := ok_h (ok_t hS)
  have hyr : inL y := ok_h hS
  refine W.lcmp hx hb hd ?_
  rw [show lg_cmp (J6 x) (J6 y) = I3 (cmp3 x y) from by
    unfold lg_cmp cmp3
    simp only [gt_iff_lt, Int64.lt_iff_toInt_lt, J6_t hxr, J6_t hyr, J6_eq hxr hyr]
    split
    · rfl
    · split <;> rfl]
  exact k H locs ls hM (ok_c (cmp3_R x y) (ok_t (ok_t hS))) hL hP hSs hl
theorem q_dup (C : Cx l D cl tys N ad E Z own Ts cc nL R ret z G) {v : Vv} (hd : decode cc pc = .ok (.dup, 1)) (hc : catV v = 1) (k : G μ (pc + 1) L (v :: v :: S)) : G μ pc L (v :: S) := by
  obtain ⟨p, e, s, m, args, below, meth, c, A, hx, hb, hml, hr, hown, hts, hlk, hK, hD, hA, hZ, hA2, rfl⟩ := C
  intro H locs ls hM hS hL hP hSs hl
  refine lv_dup hx hb hd (by rw [cat_tv]; exact hc) ?_
  exact k H locs ls hM (ok_c (ok_h hS) hS) hL hP hSs hl
theorem q_pop (C : Cx l D cl tys N ad E Z own Ts cc nL R ret z G) {v : Vv} (hd : decode cc pc = .ok (.pop, 1)) (hc : catV v = 1) (k : G μ (pc + 1) L S) : G μ pc L (v :: S) := by
  obtain ⟨p, e, s, m, args, below, meth, c, A, hx, hb, hml, hr, hown, hts, hlk, hK, hD, hA, hZ, hA2, rfl⟩ := C
  intro H locs ls hM hS hL hP hSs hl
  refine lv_pop hx hb hd (by rw [cat_tv]; exact hc) ?_
  exact k H locs ls hM (ok_t hS) hL hP hSs hl
theorem q_dup2 (C : Cx l D cl tys N ad E Z own Ts cc nL R ret z G) {v w : Vv} (hd : decode cc pc = .ok (.dup2, 1)) (hc : catV v = 1) (hc2 : catV w = 1) (k : G μ (pc + 1) L (v :: w :: v :: w :: S)) : G μ pc L (v :: w :: S) := by
  obtain ⟨p, e, s, m, args, below, meth, c, A, hx, hb, hml, hr, hown, hts, hlk, hK, hD, hA, hZ, hA2, rfl⟩ := C
  intro H locs ls hM hS hL hP hSs hl
  refine lv_dup2_11 hx hb hd (by rw [cat_tv]; exact hc) (by rw [cat_tv]; exact hc2) ?_
  exact k H locs ls hM (ok_c (ok_h hS) (ok_c (ok_h (ok_t hS)) hS)) hL hP hSs hl
theorem q_goto (C : Cx l D cl tys N ad E Z own Ts cc nL R ret z G) {off : Int} {tgt : Nat} (hd : decode cc pc = .ok (.goto off, 3)) (ht : (pc : Int) + off = (tgt : Int)) (k : G μ tgt L S) : G μ pc L S := by
  obtain ⟨p, e, s, m, args, below, meth, c, A, hx, hb, hml, hr, hown, hts, hlk, hK, hD, hA, hZ, hA2, rfl⟩ := C
  intro H locs ls hM hS hL hP hSs hl
  refine lv_goto hx hb hd ht ?_
  exact k H locs ls hM hS hL hP hSs hl
theorem q_icmp_eq (C : Cx l D cl tys N ad E Z own Ts cc nL R ret z G) {x y : Int} {off : Int} {tgt : Nat} (hd : decode cc pc = .ok (.if_icmp .eq off, 3)) (ht : (pc : Int) + off = (tgt : Int)) (k1 : x = y → G μ tgt L S) (k2 : ¬ (x = y) → G μ (pc + 3) L S) : G μ pc L (Vi y :: Vi x :: S) := by
  obtain ⟨p, e, s, m, args, below, meth, c, A, hx, hb, hml, hr, hown, hts, hlk, hK, hD, hA, hZ, hA2, rfl⟩ := C
  intro H locs ls hM hS hL hP hSs hl
  have hxr : inR x := ok_h (ok_t hS)
  have hyr : inR y := ok_h hS
  refine lv_icmp_eq hx hb hd ht (fun q => k1 ((I3_eq hxr hyr).mp q) H locs ls hM (ok_t (ok_t hS)) hL hP hSs hl) (fun q => k2 (fun r => q ((I3_eq hxr hyr).mpr r)) H locs ls hM (ok_t (ok_t hS)) hL hP hSs hl)
theorem q_if_eq (C : Cx l D cl tys N ad E Z own Ts cc nL R ret z G) {x : Int} {off : Int} {tgt : Nat} (hd : decode cc pc = .ok (.ifCond .eq off, 3)) (ht : (pc : Int) + off = (tgt : Int)) (k1 : x = 0 → G μ tgt L S) (k2 : ¬ (x = 0) → G μ (pc + 3) L S) : G μ pc L (Vi x :: S) := by
  obtain ⟨p, e, s, m, args, below, meth, c, A, hx, hb, hml, hr, hown, hts, hlk, hK, hD, hA, hZ, hA2, rfl⟩ := C
  intro H locs ls hM hS hL hP hSs hl
  have hxr : inR x := ok_h hS
  have hyr : inR 0 := inR_0
  refine lv_if_eq hx hb hd ht (fun q => k1 ((I3_eq hxr hyr).mp q) H locs ls hM (ok_t hS) hL hP hSs hl) (fun q => k2 (fun r => q ((I3_eq hxr hyr).mpr r)) H locs ls hM (ok_t hS) hL hP hSs hl)
theorem q_icmp_ne (C : Cx l D cl tys N ad E Z own Ts cc nL R ret z G) {x y : Int} {off : Int} {tgt : Nat} (hd : decode cc pc = .ok (.if_icmp .ne off, 3)) (ht : (pc : Int) + off = (tgt : Int)) (k1 : ¬ x = y → G μ tgt L S) (k2 : x = y → G μ (pc + 3) L S) : G μ pc L (Vi y :: Vi x :: S) := by
  obtain ⟨p, e, s, m, args, below, meth, c, A, hx, hb, hml, hr, hown, hts, hlk, hK, hD, hA, hZ, hA2, rfl⟩ := C
  intro H locs ls hM hS hL hP hSs hl
  have hxr : inR x := ok_h (ok_t hS)
  have hyr : inR y := ok_h hS
  refine lv_icmp_ne hx hb hd ht (fun q => k1 (fun r => q ((I3_eq hxr hyr).mpr r)) H locs ls hM (ok_t (ok_t hS)) hL hP hSs hl) (fun q => k2 ((I3_eq hxr hyr).mp q) H locs ls hM (ok_t (ok_t hS)) hL hP hSs hl)
theorem q_if_ne (C : Cx l D cl tys N ad E Z own Ts cc nL R ret z G) {x : Int} {off : Int} {tgt : Nat} (hd : decode cc pc = .ok (.ifCond .ne off, 3)) (ht : (pc : Int) + off = (tgt : Int)) (k1 : ¬ x = 0 → G μ tgt L S) (k2 : x = 0 → G μ (pc + 3) L S) : G μ pc L (Vi x :: S) := by
  obtain ⟨p, e, s, m, args, below, meth, c, A, hx, hb, hml, hr, hown, hts, hlk, hK, hD, hA, hZ, hA2, rfl⟩ := C
  intro H locs ls hM hS hL hP hSs hl
  have hxr : inR x := ok_h hS
  have hyr : inR 0 := inR_0
  refine lv_if_ne hx hb hd ht (fun q => k1 (fun r => q ((I3_eq hxr hyr).mpr r)) H locs ls hM (ok_t hS) hL hP hSs hl) (fun q => k2 ((I3_eq hxr hyr).mp q) H locs ls hM (ok_t hS) hL hP hSs hl)
theorem q_icmp_lt (C : Cx l D cl tys N ad E Z own Ts cc nL R ret z G) {x y : Int} {off : Int} {tgt : Nat} (hd : decode cc pc = .ok (.if_icmp .lt off, 3)) (ht : (pc : Int) + off = (tgt : Int)) (k1 : x < y → G μ tgt L S) (k2 : ¬ (x < y) → G μ (pc + 3) L S) : G μ pc L (Vi y :: Vi x :: S) := by
  obtain ⟨p, e, s, m, args, below, meth, c, A, hx, hb, hml, hr, hown, hts, hlk, hK, hD, hA, hZ, hA2, rfl⟩ := C
  intro H locs ls hM hS hL hP hSs hl
  have hxr : inR x := ok_h (ok_t hS)
  have hyr : inR y := ok_h hS
  refine lv_icmp_lt hx hb hd ht (fun q => k1 ((I3_lt hxr hyr).mp q) H locs ls hM (ok_t (ok_t hS)) hL hP hSs hl) (fun q => k2 (fun r => q ((I3_lt hxr hyr).mpr r)) H locs ls hM (ok_t (ok_t hS)) hL hP hSs hl)
theorem q_if_lt (C : Cx l D cl tys N ad E Z own Ts cc nL R ret z G) {x : Int} {off : Int} {tgt : Nat} (hd : decode cc pc = .ok (.ifCond .lt off, 3)) (ht : (pc : Int) + off = (tgt : Int)) (k1 : x < 0 → G μ tgt L S) (k2 : ¬ (x < 0) → G μ (pc + 3) L S) : G μ pc L (Vi x :: S) := by
  obtain ⟨p, e, s, m, args, below, meth, c, A, hx, hb, hml, hr, hown, hts, hlk, hK, hD, hA, hZ, hA2, rfl⟩ := C
  intro H locs ls hM hS hL hP hSs hl
  have hxr : inR x := ok_h hS
  have hyr : inR 0 := inR_0
  refine lv_if_lt hx hb hd ht (fun q => k1 ((I3_lt hxr hyr).mp q) H locs ls hM (ok_t hS) hL hP hSs hl) (fun q => k2 (fun r => q ((I3_lt hxr hyr).mpr r)) H locs ls hM (ok_t hS) hL hP hSs hl)
theorem q_icmp_ge (C : Cx l D cl tys N ad E Z own Ts cc nL R ret z G) {x y : Int} {off : Int} {tgt : Nat} (hd : decode cc pc = .ok (.if_icmp .ge off, 3)) (ht : (pc : Int) + off = (tgt : Int)) (k1 : y ≤ x → G μ tgt L S) (k2 : ¬ (y ≤ x) → G μ (pc + 3) L S) : G μ pc L (Vi y :: Vi x :: S) := by
  obtain ⟨p, e, s, m, args, below, meth, c, A, hx, hb, hml, hr, hown, hts, hlk, hK, hD, hA, hZ, hA2, rfl⟩ := C
  intro H locs ls hM hS hL hP hSs hl
  have hxr : inR x := ok_h (ok_t hS)
  have hyr : inR y := ok_h hS
  refine lv_icmp_ge hx hb hd ht (fun q => k1 ((I3_le hyr hxr).mp q) H locs ls hM (ok_t (ok_t hS)) hL hP hSs hl) (fun q => k2 (fun r => q ((I3_le hyr hxr).mpr r)) H locs ls hM (ok_t (ok_t hS)) hL hP hSs hl)
theorem q_if_ge (C : Cx l D cl tys N ad E Z own Ts cc nL R ret z G) {x : Int} {off : Int} {tgt : Nat} (hd : decode cc pc = .ok (.ifCond .ge off, 3)) (ht : (pc : Int) + off = (tgt : Int)) (k1 : 0 ≤ x → G μ tgt L S) (k2 : ¬ (0 ≤ x) → G μ (pc + 3) L S) : G μ pc L (Vi x :: S) := by
  obtain ⟨p, e, s, m, args, below, meth, c, A, hx, hb, hml, hr, hown, hts, hlk, hK, hD, hA, hZ, hA2, rfl⟩ := C
  intro H locs ls hM hS hL hP hSs hl
  have hxr : inR x := ok_h hS
  have hyr : inR 0 := inR_0
  refine lv_if_ge hx hb hd ht (fun q => k1 ((I3_le hyr hxr).mp q) H locs ls hM (ok_t hS) hL hP hSs hl) (fun q => k2 (fun r => q ((I3_le hyr hxr).mpr r)) H locs ls hM (ok_t hS) hL hP hSs hl)
theorem q_icmp_gt (C : Cx l D cl tys N ad E Z own Ts cc nL R ret z G) {x y : Int} {off : Int} {tgt : Nat} (hd : decode cc pc = .ok (.if_icmp .gt off, 3)) (ht : (pc : Int) + off = (tgt : Int)) (k1 : y < x → G μ tgt L S) (k2 : ¬ (y < x) → G μ (pc + 3) L S) : G μ pc L (Vi y :: Vi x :: S) := by
  obtain ⟨p, e, s, m, args, below, meth, c, A, hx, hb, hml, hr, hown, hts, hlk, hK, hD, hA, hZ, hA2, rfl⟩ := C
  intro H locs ls hM hS hL hP hSs hl
  have hxr : inR x := ok_h (ok_t hS)
  have hyr : inR y := ok_h hS
  refine lv_icmp_gt hx hb hd ht (fun q => k1 ((I3_lt hyr hxr).mp q) H locs ls hM (ok_t (ok_t hS)) hL hP hSs hl) (fun q => k2 (fun r => q ((I3_lt hyr hxr).mpr r)) H locs ls hM (ok_t (ok_t hS)) hL hP hSs hl)
theorem q_if_gt (C : Cx l D cl tys N ad E Z own Ts cc nL R ret z G) {x : Int} {off : Int} {tgt : Nat} (hd : decode cc pc = .ok (.ifCond .gt off, 3)) (ht : (pc : Int) + off = (tgt : Int)) (k1 : 0 < x → G μ tgt L S) (k2 : ¬ (0 < x) → G μ (pc + 3) L S) : G μ pc L (Vi x :: S) := by
  obtain ⟨p, e, s, m, args, below, meth, c, A, hx, hb, hml, hr, hown, hts, hlk, hK, hD, hA, hZ, hA2, rfl⟩ := C
  intro H locs ls hM hS hL hP hSs hl
  have hxr : inR x := ok_h hS
  have hyr : inR 0 := inR_0
  refine lv_if_gt hx hb hd ht (fun q => k1 ((I3_lt hyr hxr).mp q) H locs ls hM (ok_t hS) hL hP hSs hl) (fun q => k2 (fun r => q ((I3_lt hyr hxr).mpr r)) H locs ls hM (ok_t hS) hL hP hSs hl)
theorem q_icmp_le (C : Cx l D cl tys N ad E Z own Ts cc nL R ret z G) {x y : Int} {off : Int} {tgt : Nat} (hd : decode cc pc = .ok (.if_icmp .le off, 3)) (ht : (pc : Int) + off = (tgt : Int)) (k1 : x ≤ y → G μ tgt L S) (k2 : ¬ (x ≤ y) → G μ (pc + 3) L S) : G μ pc L (Vi y :: Vi x :: S) := by
  obtain ⟨p, e, s, m, args, below, meth, c, A, hx, hb, hml, hr, hown, hts, hlk, hK, hD, hA, hZ, hA2, rfl⟩ := C
  intro H locs ls hM hS hL hP hSs hl
  have hxr : inR x := ok_h (ok_t hS)
  have hyr : inR y := ok_h hS
  refine lv_icmp_le hx hb hd ht (fun q => k1 ((I3_le hxr hyr).mp q) H locs ls hM (ok_t (ok_t hS)) hL hP hSs hl) (fun q => k2 (fun r => q ((I3_le hxr hyr).mpr r)) H locs ls hM (ok_t (ok_t hS)) hL hP hSs hl)
theorem q_if_le (C : Cx l D cl tys N ad E Z own Ts cc nL R ret z G) {x : Int} {off : Int} {tgt : Nat} (hd : decode cc pc = .ok (.ifCond .le off, 3)) (ht : (pc : Int) + off = (tgt : Int)) (k1 : x ≤ 0 → G μ tgt L S) (k2 : ¬ (x ≤ 0) → G μ (pc + 3) L S) : G μ pc L (Vi x :: S) := by
  obtain ⟨p, e, s, m, args, below, meth, c, A, hx, hb, hml, hr, hown, hts, hlk, hK, hD, hA, hZ, hA2, rfl⟩ := C
  intro H locs ls hM hS hL hP hSs hl
  have hxr : inR x := ok_h hS
  have hyr : inR 0 := inR_0
  refine lv_if_le hx hb hd ht (fun q => k1 ((I3_le hxr hyr).mp q) H locs ls hM (ok_t hS) hL hP hSs hl) (fun q => k2 (fun r => q ((I3_le hxr hyr).mpr r)) H locs ls hM (ok_t hS) hL hP hSs hl)
theorem q_tab_in (C : Cx l D cl tys N ad E Z own Ts cc nL R ret z G) {dflt lo hi : Int} {offs : Array Int} {len : Nat} {x off : Int} {tgt : Nat} (hd : decode cc pc = .ok (.tableswitch dflt lo hi offs, len)) (h1 : lo ≤ x) (h2 : x ≤ hi) (ho : offs[(x - lo).toNat]? = some off) (ht : (pc : Int) + off = (tgt : Int)) (k : G μ tgt L S) : G μ pc L (Vi x :: S) := by
  obtain ⟨p, e, s, m, args, below, meth, c, A, hx, hb, hml, hr, hown, hts, hlk, hK, hD, hA, hZ, hA2, rfl⟩ := C
  intro H locs ls hM hS hL hP hSs hl
  have hxr : inR x := ok_h hS
  refine lv_tableIn (off := off) hx hb hd (by rw [I3_t hxr]; omega) (by rw [I3_t hxr]; omega) (by rw [I3_t hxr]; exact ho) ht ?_
  exact k H locs ls hM (ok_t hS) hL hP hSs hl
theorem q_tab_out (C : Cx l D cl tys N ad E Z own Ts cc nL R ret z G) {dflt lo hi : Int} {offs : Array Int} {len : Nat} {x : Int} {tgt : Nat} (hd : decode cc pc = .ok (.tableswitch dflt lo hi offs, len)) (h : x < lo ∨ hi < x) (ht : (pc : Int) + dflt = (tgt : Int)) (k : G μ tgt L S) : G μ pc L (Vi x :: S) := by
  obtain ⟨p, e, s, m, args, below, meth, c, A, hx, hb, hml, hr, hown, hts, hlk, hK, hD, hA, hZ, hA2, rfl⟩ := C
  intro H locs ls hM hS hL hP hSs hl
  have hxr : inR x := ok_h hS
  refine lv_tableOut hx hb hd (by rw [I3_t hxr]; exact h) ht ?_
  exact k H locs ls hM (ok_t hS) hL hP hSs hl
theorem q_lookup (C : Cx l D cl tys N ad E Z own Ts cc nL R ret z G) {dflt : Int} {ps : Array (Int × Int)} {len : Nat} {x off : Int} {tgt : Nat} (hd : decode cc pc = .ok (.lookupswitch dflt ps, len)) (hp : (ps.toList.zip (ps.toList.drop 1)).all (fun (a, next) => a.1 < next.1) = true) (ho : Op.lookupswitch.offset ps.toList dflt x = off) (ht : (pc : Int) + off = (tgt : Int)) (k : G μ tgt L S) : G μ pc L (Vi x :: S) := by
  obtain ⟨p, e, s, m, args, below, meth, c, A, hx, hb, hml, hr, hown, hts, hlk, hK, hD, hA, hZ, hA2, rfl⟩ := C
  intro H locs ls hM hS hL hP hSs hl
  have hxr : inR x := ok_h hS
  refine lv_lookup (off := off) hx hb hd hp (by rw [I3_t hxr]; exact ho) ht ?_
  exact k H locs ls hM (ok_t hS) hL hP hSs hl
theorem q_sub (C : Cx l D cl tys N ad E Z own Ts cc nL R ret z G) (is : List Nat) (L' : List (Nat × Vv)) (h : is.filterMap (fun i => L[i]?) = L') (k : G μ pc L' S) : G μ pc L S := by
  obtain ⟨p, e, s, m, args, below, meth, c, A, hx, hb, hml, hr, hown, hts, hlk, hK, hD, hA, hZ, hA2, rfl⟩ := C
  intro H locs ls hM hS hL hP hSs hl
  have hin : ∀ q ∈ L', q ∈ L := fun q hq => by
    rw [← h] at hq
    obtain ⟨i, -, hi⟩ := List.mem_filterMap.mp hq
    exact List.mem_of_getElem? hi
  refine k H locs ls hM hS (fun q hq => hL q (hin q hq)) hP hSs ⟨hl.1, hl.2.1, fun q hq => ?_⟩
  obtain ⟨r, hr1, rfl⟩ := List.mem_map.mp hq
  exact hl.2.2 _ (List.mem_map_of_mem (hin r hr1))
/-- what is known of an int on top of the stack -/
theorem q_top (C : Cx l D cl tys N ad E Z own Ts cc nL R ret z G) {x : Int} (k : inR x → G μ pc L (Vi x :: S)) : G μ pc L (Vi x :: S) := by
  obtain ⟨p, e, s, m, args, below, meth, c, A, hx, hb, hml, hr, hown, hts, hlk, hK, hD, hA, hZ, hA2, rfl⟩ := C
  intro H locs ls hM hS hL hP hSs hl
  exact k (ok_h hS) H locs ls hM hS hL hP hSs hl
theorem q_okM (C : Cx l D cl tys N ad E Z own Ts cc nL R ret z G) (k : okM μ → G μ pc L S) : G μ pc L S := by
  obtain ⟨p, e, s, m, args, below, meth, c, A, hx, hb, hml, hr, hown, hts, hlk, hK, hD, hA, hZ, hA2, rfl⟩ := C
  intro H locs ls hM hS hL hP hSs hl
  exact k hM H locs ls hM hS hL hP hSs hl
theorem q_okS (C : Cx l D cl tys N ad E Z own Ts cc nL R ret z G) (k : (∀ v ∈ S, okV v) → (∀ q ∈ L, okV q.2) → G μ pc L S) : G μ pc L S := by
  obtain ⟨p, e, s, m, args, below, meth, c, A, hx, hb, hml, hr, hown, hts, hlk, hK, hD, hA, hZ, hA2, rfl⟩ := C
  intro H locs ls hM hS hL hP hSs hl
  exact k hS hL H locs ls hM hS hL hP hSs hl
theorem q_nmi {x y : Int} (h : y = x) (k : G μ pc L (Vi y :: S)) : G μ pc L (Vi x :: S) := by rw [← h]; exact k
theorem q_nml {x y : Int} (h : y = x) (k : G μ pc L (Vl y :: S)) : G μ pc L (Vl x :: S) := by rw [← h]; exact k
theorem q_iret (C : Cx l D cl tys N ad E Z own Ts cc nL R (some .int) z G) {x : Int} (hd : decode cc pc = .ok (.ireturn, 1)) (hz : (x, μ) = z) : G μ pc L [Vi x] := by
  obtain ⟨p, e, s, m, args, below, meth, c, A, hx, hb, hml, hr, hown, hts, hlk, hK, hD, hA, hZ, hA2, rfl⟩ := C
  intro H locs ls hM hS hL hP hSs hl
  subst hz
  exact W.iret hx hb hr (fun t ht hW => ⟨⟨I3 x, (), rfl, ⟨rfl, ok_h hS, hM⟩, by show va_P D cl (XX N ad E μ) t.heap; rw [ht]; exact hP⟩, hSs.F ht⟩) hSs.2.2 hd hlk
theorem q_zret (C : Cx l D cl tys N ad E Z own Ts cc nL R (some .boolean) z G) {x : Int} (h01 : x = 0 ∨ x = 1) (hd : decode cc pc = .ok (.ireturn, 1)) (hz : (x, μ) = z) : G μ pc L [Vi x] := by
  obtain ⟨p, e, s, m, args, below, meth, c, A, hx, hb, hml, hr, hown, hts, hlk, hK, hD, hA, hZ, hA2, rfl⟩ := C
  intro H locs ls hM hS hL hP hSs hl
  subst hz
  exact W.zret hx hb hr (by rcases h01 with rfl | rfl <;> rfl) (fun t ht hW => ⟨⟨I3 x, (), rfl, ⟨rfl, h01, hM⟩, by show va_P D cl (XX N ad E μ) t.heap; rw [ht]; exact hP⟩, hSs.F ht⟩) hSs.2.2 hd hlk
theorem q_lret (C : Cx l D cl tys N ad E Z own Ts cc nL R (some .long) z G) {x : Int} (hd : decode cc pc = .ok (.lreturn, 1)) (hz : (x, μ) = z) : G μ pc L [Vl x] := by
  obtain ⟨p, e, s, m, args, below, meth, c, A, hx, hb, hml, hr, hown, hts, hlk, hK, hD, hA, hZ, hA2, rfl⟩ := C
  intro H locs ls hM hS hL hP hSs hl
  subst hz
  exact W.lret hx hb hr (fun t ht hW => ⟨⟨J6 x, (), rfl, ⟨rfl, ok_h hS, hM⟩, by show va_P D cl (XX N ad E μ) t.heap; rw [ht]; exact hP⟩, hSs.F ht⟩) hSs.2.2 hd hlk
theorem q_vret (C : Cx l D cl tys N ad E Z own Ts cc nL R none z G) (hd : decode cc pc = .ok (.return_, 1)) (hz : (0, μ) = z) : G μ pc L [] := by
  obtain ⟨p, e, s, m, args, below, meth, c, A, hx, hb, hml, hr, hown, hts, hlk, hK, hD, hA, hZ, hA2, rfl⟩ := C
  intro H locs ls hM hS hL hP hSs hl
  subst hz
  exact W.vret hx hb hr (fun t ht hW => ⟨⟨(), rfl, hM, by show va_P D cl (XX N ad E μ) t.heap; rw [ht]; exact hP⟩, hSs.F ht⟩) hSs.2.2 hd hlk
end RQ
