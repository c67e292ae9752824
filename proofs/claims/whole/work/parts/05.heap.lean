/-! THE HEAP'S ROWS AND THE CALLS, over the pure level. -/
def fv (ad : Nat → Nat) (μ : Mm) (f : (Nat × Int) ⊕ Nat) : Value := match f with
  | .inl q => .int (I3 (μ q.1 q.2))
  | .inr k => .ref (ad k)
/-- cell k is an object of class number ci, with these fields -/
def isO (N : Nat) (ad : Nat → Nat) (E : Mm → Nat → va_E) (k ci : Nat) (F : List ((Nat × Int) ⊕ Nat)) : Prop :=
  k < N ∧ (∀ μ, E μ k = .inr (ci, F.map (fv ad μ))) ∧ F.Nodup ∧ ∀ (μ : Mm) (g : Nat) (o v : Int), Sum.inl (g, o) ∈ F → ∀ j, j < N → j ≠ k → E (sM μ g o v) j = E μ j
def aF (μ : Mm) (g : Nat) (off : Int) (n : Nat) : Nat → Int32 := fun j => if j < n then I3 (μ g (off + (j : Int))) else 0
/-- cell k is an array of ints, the n places from off on of the group g -/
def isA (N : Nat) (E : Mm → Nat → va_E) (k : Nat) (cA : ClassId) (g : Nat) (off : Int) (n : Nat) : Prop :=
  k < N ∧ (∀ μ, E μ k = .inl (cA, n, .inl (aF μ g off n))) ∧ ∀ (μ : Mm) (o v : Int), off ≤ o → o < off + n → ∀ j, j < N → j ≠ k → E (sM μ g o v) j = E μ j
/-- cell k is an array of n references, place j of it cell f j -/
def isQ (N : Nat) (ad : Nat → Nat) (E : Mm → Nat → va_E) (k : Nat) (cA : ClassId) (n : Nat) (f : Nat → Nat) : Prop :=
  k < N ∧ ∀ μ, E μ k = .inl (cA, n, .inr (.inr (.inr (.inr (fun j => some (ad (f j)))))))
theorem fv_set {ad : Nat → Nat} {μ : Mm} {F : List ((Nat × Int) ⊕ Nat)} (hF : F.Nodup) {i g : Nat} {o v : Int} (h : F[i]? = some (.inl (g, o))) : F.map (fv ad (sM μ g o v)) = (F.map (fv ad μ)).set i (.int (I3 v)) := by
  apply List.ext_getElem?
  intro j
  rw [List.getElem?_set, List.getElem?_map, List.getElem?_map, List.length_map]
  have hi : i < F.length := (List.getElem?_eq_some_iff.mp h).1
  by_cases hij : i = j
  · subst hij
    rw [if_pos rfl, if_pos hi, h]
    show some (Value.int (I3 (sM μ g o v g o))) = _
    rw [sM_s]
  · rw [if_neg hij]
    cases hj : F[j]? with
    | none => rfl
    | some q =>
      show some (fv ad (sM μ g o v) q) = some (fv ad μ q)
      rcases q with ⟨g', o'⟩ | k
      · show some (Value.int (I3 (sM μ g o v g' o'))) = some (Value.int (I3 (μ g' o')))
        rw [sM_n]
        rintro ⟨rfl, rfl⟩
        have hj' : j < F.length := (List.getElem?_eq_some_iff.mp hj).1
        have := (List.getElem_inj (h₀ := hi) (h₁ := hj') hF).mp (by
          have h1 := (List.getElem?_eq_some_iff.mp h).2
          have h2 := (List.getElem?_eq_some_iff.mp hj).2
          rw [h1, h2])
        exact hij this
      · rfl
theorem I3_in {i : Int} {n : Nat} (hr : inR i) (h0 : 0 ≤ i) (h1 : i < n) : vp_in (I3 i) n := vp_in_iff.mpr ⟨by rw [I3_t hr]; exact h0, by rw [I3_t hr]; exact h1⟩
theorem I3_cl {i : Int} (hr : inR i) (h0 : 0 ≤ i) : (((I3 i).toNatClampNeg : Nat) : Int) = i := by
  show (((I3 i).toInt.toNat : Nat) : Int) = i
  rw [I3_t hr]
  omega
theorem aF_at {μ : Mm} {g : Nat} {off : Int} {n : Nat} {i : Int} (hir : inR i) (h0 : 0 ≤ i) (h1 : i < n) : aF μ g off n (I3 i).toNatClampNeg = I3 (μ g (off + i)) := by
  have hcl := I3_cl hir h0
  unfold aF
  rw [if_pos (by omega), hcl]
theorem upd_sM {μ : Mm} {g : Nat} {off i x : Int} {n : Nat} (hir : inR i) (h0 : 0 ≤ i) (h1 : i < n) : upd (aF μ g off n) (I3 i).toNatClampNeg (I3 x) = aF (sM μ g (off + i) x) g off n := by
  have hcl := I3_cl hir h0
  funext j
  unfold upd aF
  by_cases hj : j = (I3 i).toNatClampNeg
  · subst hj
    rw [if_pos rfl, if_pos (by omega), hcl, sM_s]
  · rw [if_neg hj]
    by_cases hn : j < n
    · rw [if_pos hn, if_pos hn, sM_n]
      rintro ⟨-, h2⟩
      exact hj (by omega)
    · rw [if_neg hn, if_neg hn]
section RH
variable {l : Launch} {D : va_G} {cl : List vw_C} {tys : List (ClassId × FieldType)} {N : Nat} {ad : Nat → Nat} {E : Mm → Nat → va_E} {Z : State → Prop} {own : String} {Ts : List Cond} {cc : ByteArray} {nL : Nat} {R : Room} {ret : Option FieldType} {z : Int × Mm} {G : Mm → Nat → List (Nat × Vv) → List Vv → Prop} {μ : Mm} {pc : Nat} {L : List (Nat × Vv)} {S : List Vv}
theorem q_get {ci k : Nat} {F : List ((Nat × Int) ⊕ Nat)} (hO : isO N ad E k ci F) (C : Cx l D cl tys N ad E Z own Ts cc nL R ret z G) {index g i : Nat} {o : Int} {Cn ref nm ds : String} {T : u_T} {Nf : Nat} (hin : ∀ w ∈ u_ws Cn T Nf, w ∈ Ts) (hc : cl[ci]? = some (Cn, T, Nf)) (hi : F[i]? = some (.inl (g, o))) (hN : i < Nf) (hT : T i = (ref, nm, ds, false)) (hw : Cond.fieldLink own index ref nm ds ∈ Ts) (hd : decode cc pc = .ok (.getfield index, 3)) (kk : G μ (pc + 3) L (Vi (μ g o) :: S)) : G μ pc L (Vr k :: S) := by
  obtain ⟨p, e, s, m, args, below, meth, c, A, hx, hb, hml, hr, hown, hts, hlk, hK, hD, hA, hZ, hA2, rfl⟩ := C
  intro H locs ls hM hS hL hP hSs hl
  obtain ⟨h1, h2, h3, h4⟩ := hO
  refine va_get (D := D) (ci := ci) (v := .int (I3 (μ g o))) (C := Cn) (T := T) (N := Nf) hx hb hts hin hown hK hP k (XX_get h1 |>.trans (congrArg (fun x => some (ad k, x)) (h2 μ))) hc i hN (by rw [hT]; exact hts _ hw) (fun x h9 => by rw [hT] at h9 ⊢; exact h9) (by rw [List.getElem?_map, hi]; rfl) hd ?_
  exact kk H locs ls hM (ok_c (hM g o) (ok_t hS)) hL hP hSs hl
theorem q_getR {ci k : Nat} {F : List ((Nat × Int) ⊕ Nat)} (hO : isO N ad E k ci F) (C : Cx l D cl tys N ad E Z own Ts cc nL R ret z G) {index k' i : Nat} {Cn ref nm ds : String} {b : Bool} {T : u_T} {Nf : Nat} (hin : ∀ w ∈ u_ws Cn T Nf, w ∈ Ts) (hc : cl[ci]? = some (Cn, T, Nf)) (hi : F[i]? = some (.inr k')) (hN : i < Nf) (hT : T i = (ref, nm, ds, b)) (hw : Cond.fieldLink own index ref nm ds ∈ Ts) (hd : decode cc pc = .ok (.getfield index, 3)) (kk : G μ (pc + 3) L (Vr k' :: S)) : G μ pc L (Vr k :: S) := by
  obtain ⟨p, e, s, m, args, below, meth, c, A, hx, hb, hml, hr, hown, hts, hlk, hK, hD, hA, hZ, hA2, rfl⟩ := C
  intro H locs ls hM hS hL hP hSs hl
  obtain ⟨h1, h2, h3, h4⟩ := hO
  refine va_get (D := D) (ci := ci) (v := .ref (ad k')) (C := Cn) (T := T) (N := Nf) hx hb hts hin hown hK hP k (XX_get h1 |>.trans (congrArg (fun x => some (ad k, x)) (h2 μ))) hc i hN (by rw [hT]; exact hts _ hw) (fun x h9 => by rw [hT] at h9 ⊢; exact h9) (by rw [List.getElem?_map, hi]; rfl) hd ?_
  exact kk H locs ls hM (ok_c trivial (ok_t hS)) hL hP hSs hl
theorem q_put {ci k : Nat} {F : List ((Nat × Int) ⊕ Nat)} (hO : isO N ad E k ci F) (C : Cx l D cl tys N ad E Z own Ts cc nL R ret z G) {index g i : Nat} {o x : Int} {μ' : Mm} (hμ : μ' = sM μ g o x) {Cn ref nm : String} {T : u_T} {ty0 : Nat → FieldType} {Nf : Nat} (hin : ∀ w ∈ u_ws Cn T Nf, w ∈ Ts) (hty : ∀ k, k < Nf → parseFieldDescriptor (T k).2.2.1 = some (ty0 k)) (hnm : ∀ a, a < Nf → ∀ b, b < Nf → a ≠ b → (T a).2.1 ≠ (T b).2.1) (hc : cl[ci]? = some (Cn, T, Nf)) (hi : F[i]? = some (.inl (g, o))) (hN : i < Nf) (hT : T i = (ref, nm, "I", false)) (hw : Cond.fieldLink own index ref nm "I" ∈ Ts) (hd : decode cc pc = .ok (.putfield index, 3)) (kk : G μ' (pc + 3) L S) : G μ pc L (Vi x :: Vr k :: S) := by
  obtain ⟨p, e, s, m, args, below, meth, c, A, hx, hb, hml, hr, hown, hts, hlk, hK, hD, hA, hZ, hA2, rfl⟩ := C
  intro H locs ls hM hS hL hP hSs hl
  obtain ⟨h1, h2, h3, h4⟩ := hO
  subst hμ
  have hfl : i < F.length := (List.getElem?_eq_some_iff.mp hi).1
  refine va_put (D := D) (ci := ci) (v := .int (I3 x)) (ty := .int) (C := Cn) (T := T) (N := Nf) hx hb hts hin ty0 hty hnm hown hK hP (hD μ) hSs k (XX_get h1 |>.trans (congrArg (fun x => some (ad k, x)) (h2 μ))) hc i hN (by rw [hT]; exact hts _ hw) (fun x h9 => by rw [hT] at h9 ⊢; exact h9) (by rw [hT]) (by rw [hT]; show parseFieldDescriptor "I" = some .int; decide +kernel) rfl rfl (by rw [List.length_map]; exact hfl) hd (fun H1 locs1 hP1 hD1 hS1 => ?_)
  rw [XX_set (μ' := sM μ g o x) (by rw [h2, fv_set h3 hi]) (fun j hj hjk => h4 μ g o x (List.mem_of_getElem? hi) j hj hjk)] at hP1
  exact kk H1 locs1 ls (sM_ok hM (ok_h hS)) (ok_t (ok_t hS)) hL hP1 hS1 hl
theorem q_iald {k : Nat} {cA : ClassId} {g : Nat} {off : Int} {n : Nat} (hO : isA N E k cA g off n) (C : Cx l D cl tys N ad E Z own Ts cc nL R ret z G) (t0 : Nat) (ht : tys[t0]? = some (cA, .int)) {i : Int} (h0 : 0 ≤ i ∧ i < n) (hd : decode cc pc = .ok (.iaload, 1)) (kk : G μ (pc + 1) L (Vi (μ g (off + i)) :: S)) : G μ pc L (Vi i :: Vr k :: S) := by
  obtain ⟨p, e, s, m, args, below, meth, c, A, hx, hb, hml, hr, hown, hts, hlk, hK, hD, hA, hZ, hA2, rfl⟩ := C
  intro H locs ls hM hS hL hP hSs hl
  obtain ⟨h1, h2, h3⟩ := hO
  have hir : inR i := ok_h hS
  refine va_iald hx hb hK hP k t0 (XX_get h1 |>.trans (congrArg (fun x => some (ad k, x)) (h2 μ))) ht (I3_in hir h0.1 h0.2) hd ?_
  rw [aF_at hir h0.1 h0.2]
  exact kk H locs ls hM (ok_c (hM _ _) (ok_t (ok_t hS))) hL hP hSs hl
theorem q_zald {k : Nat} {cA : ClassId} {g : Nat} {off : Int} {n : Nat} (hO : isA N E k cA g off n) (C : Cx l D cl tys N ad E Z own Ts cc nL R ret z G) (t0 : Nat) (ht : tys[t0]? = some (cA, .boolean)) {i : Int} (h0 : 0 ≤ i ∧ i < n) (hd : decode cc pc = .ok (.baload, 1)) (kk : G μ (pc + 1) L (Vi (μ g (off + i)) :: S)) : G μ pc L (Vi i :: Vr k :: S) := by
  obtain ⟨p, e, s, m, args, below, meth, c, A, hx, hb, hml, hr, hown, hts, hlk, hK, hD, hA, hZ, hA2, rfl⟩ := C
  intro H locs ls hM hS hL hP hSs hl
  obtain ⟨h1, h2, h3⟩ := hO
  have hir : inR i := ok_h hS
  refine va_zald hx hb hK hP k t0 (XX_get h1 |>.trans (congrArg (fun x => some (ad k, x)) (h2 μ))) ht (I3_in hir h0.1 h0.2) hd ?_
  rw [aF_at hir h0.1 h0.2]
  exact kk H locs ls hM (ok_c (hM _ _) (ok_t (ok_t hS))) hL hP hSs hl
theorem q_iast {k : Nat} {cA : ClassId} {g : Nat} {off : Int} {n : Nat} (hO : isA N E k cA g off n) (C : Cx l D cl tys N ad E Z own Ts cc nL R ret z G) (t0 : Nat) (ht : tys[t0]? = some (cA, .int)) {i x : Int} (h0 : 0 ≤ i ∧ i < n) {μ' : Mm} (hμ : μ' = sM μ g (off + i) x) (hd : decode cc pc = .ok (.iastore, 1)) (kk : G μ' (pc + 1) L S) : G μ pc L (Vi x :: Vi i :: Vr k :: S) := by
  obtain ⟨p, e, s, m, args, below, meth, c, A, hx, hb, hml, hr, hown, hts, hlk, hK, hD, hA, hZ, hA2, rfl⟩ := C
  intro H locs ls hM hS hL hP hSs hl
  obtain ⟨h1, h2, h3⟩ := hO
  have hir : inR i := ok_h (ok_t hS)
  subst hμ
  refine va_iast hx hb hK hP (hD μ) hSs k t0 (XX_get h1 |>.trans (congrArg (fun x => some (ad k, x)) (h2 μ))) ht (x := I3 x) (I3_in hir h0.1 h0.2) hd (fun H1 locs1 hP1 hD1 hS1 => ?_)
  rw [upd_sM hir h0.1 h0.2, XX_set (μ' := sM μ g (off + i) x) (h2 _).symm (fun j hj hjk => h3 μ (off + i) x (by omega) (by omega) j hj hjk)] at hP1
  exact kk H1 locs1 ls (sM_ok hM (ok_h hS)) (ok_t (ok_t (ok_t hS))) hL hP1 hS1 hl
theorem q_zast {k : Nat} {cA : ClassId} {g : Nat} {off : Int} {n : Nat} (hO : isA N E k cA g off n) (C : Cx l D cl tys N ad E Z own Ts cc nL R ret z G) (t0 : Nat) (ht : tys[t0]? = some (cA, .boolean)) {i x : Int} (h01 : x = 0 ∨ x = 1) (h0 : 0 ≤ i ∧ i < n) {μ' : Mm} (hμ : μ' = sM μ g (off + i) x) (hd : decode cc pc = .ok (.bastore, 1)) (kk : G μ' (pc + 1) L S) : G μ pc L (Vi x :: Vi i :: Vr k :: S) := by
  obtain ⟨p, e, s, m, args, below, meth, c, A, hx, hb, hml, hr, hown, hts, hlk, hK, hD, hA, hZ, hA2, rfl⟩ := C
  intro H locs ls hM hS hL hP hSs hl
  obtain ⟨h1, h2, h3⟩ := hO
  have hir : inR i := ok_h (ok_t hS)
  subst hμ
  refine va_zast hx hb hK hP (hD μ) hSs k t0 (XX_get h1 |>.trans (congrArg (fun x => some (ad k, x)) (h2 μ))) ht (x := I3 x) (I3_in hir h0.1 h0.2) hd (fun H1 locs1 hP1 hD1 hS1 => ?_)
  rw [show vp_nar .boolean (I3 x) = I3 x from by rcases h01 with rfl | rfl <;> rfl, upd_sM hir h0.1 h0.2, XX_set (μ' := sM μ g (off + i) x) (h2 _).symm (fun j hj hjk => h3 μ (off + i) x (by omega) (by omega) j hj hjk)] at hP1
  exact kk H1 locs1 ls (sM_ok hM (ok_h hS)) (ok_t (ok_t (ok_t hS))) hL hP1 hS1 hl
theorem q_aald {k : Nat} {cA : ClassId} {n : Nat} {f : Nat → Nat} (hO : isQ N ad E k cA n f) (C : Cx l D cl tys N ad E Z own Ts cc nL R ret z G) (t0 : Nat) {ty : FieldType} (ht : tys[t0]? = some (cA, ty)) (hty : refKind ty = true) {i : Int} (h0 : 0 ≤ i ∧ i < n) {k' : Nat} (hk' : f i.toNat = k') (hd : decode cc pc = .ok (.aaload, 1)) (kk : G μ (pc + 1) L (Vr k' :: S)) : G μ pc L (Vi i :: Vr k :: S) := by
  obtain ⟨p, e, s, m, args, below, meth, c, A, hx, hb, hml, hr, hown, hts, hlk, hK, hD, hA, hZ, hA2, rfl⟩ := C
  subst hk'
  intro H locs ls hM hS hL hP hSs hl
  obtain ⟨h1, h2⟩ := hO
  have hir : inR i := ok_h hS
  have hin := I3_in hir h0.1 h0.2
  have hlt : (I3 i).toNatClampNeg < n := Nat.not_le.mp fun q => hin (Or.inr q)
  have hcl := I3_cl hir h0.1
  have hP0 := hP k _ (XX_get h1 |>.trans (congrArg (fun x => some (ad k, x)) (h2 μ)))
  refine W.aald (v := .ref (ad (f i.toNat))) (ty := ty) hx hb hP0 ((hK.2 t0 _ ht).1 n (fun j => va_rf (some (ad (f j))))) hty (fun q => by cases q) (by show ¬ (I3 i < 0 ∨ (arrV _ _ _).slots.size ≤ _); rw [arrV_size]; exact hin) (by show (arrV _ _ _).slots[_]? = _; rw [arrV_read _ _ hlt]; show some (Value.ref (ad (f (I3 i).toNatClampNeg))) = _; rw [show (I3 i).toNatClampNeg = i.toNat by omega]) rfl rfl hd ?_
  exact kk H locs ls hM (ok_c trivial (ok_t (ok_t hS))) hL hP hSs hl
end RH
