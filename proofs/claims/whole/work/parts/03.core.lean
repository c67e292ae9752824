/-! THE PURE LEVEL: ints as Int, a memory as a function, a frame as a list of locals and a list of values. -/
def I3 (x : Int) : Int32 := Int32.ofInt x
def J6 (x : Int) : Int64 := Int64.ofInt x
def w3 (x : Int) : Int := (I3 x).toInt
def w6 (x : Int) : Int := (J6 x).toInt
def inR (x : Int) : Prop := -2147483648 ≤ x ∧ x < 2147483648
def inL (x : Int) : Prop := -9223372036854775808 ≤ x ∧ x < 9223372036854775808
theorem toInt_R (x : Int32) : inR x.toInt := ⟨by have := Int32.le_toInt x; omega, by have := Int32.toInt_lt x; omega⟩
theorem toInt_L (x : Int64) : inL x.toInt := ⟨by have := Int64.le_toInt x; omega, by have := Int64.toInt_lt x; omega⟩
theorem w3_R (x : Int) : inR (w3 x) := toInt_R _
theorem w6_L (x : Int) : inL (w6 x) := toInt_L _
theorem I3_w3 (x : Int) : I3 (w3 x) = I3 x := Int32.ofInt_toInt _
theorem J6_w6 (x : Int) : J6 (w6 x) = J6 x := Int64.ofInt_toInt _
theorem I3_toInt (x : Int32) : I3 x.toInt = x := Int32.ofInt_toInt _
theorem J6_toInt (x : Int64) : J6 x.toInt = x := Int64.ofInt_toInt _
theorem w3_id {x : Int} (h1 : -2147483648 ≤ x) (h2 : x ≤ 2147483647) : w3 x = x := Int32.toInt_ofInt_of_le (by omega) (by omega)
theorem w6_id {x : Int} (h1 : -9223372036854775808 ≤ x) (h2 : x ≤ 9223372036854775807) : w6 x = x := Int64.toInt_ofInt_of_le (by omega) (by omega)
theorem I3_t {x : Int} (h : inR x) : (I3 x).toInt = x := w3_id h.1 (by have := h.2; omega)
theorem J6_t {x : Int} (h : inL x) : (J6 x).toInt = x := w6_id h.1 (by have := h.2; omega)
theorem I3_add (x y : Int) : I3 x + I3 y = I3 (w3 (x + y)) := by rw [I3_w3]; exact (Int32.ofInt_add x y).symm
theorem I3_sub (x y : Int) : I3 x - I3 y = I3 (w3 (x - y)) := by rw [I3_w3]; exact (Int32.ofInt_sub x y).symm
theorem I3_mul (x y : Int) : I3 x * I3 y = I3 (w3 (x * y)) := by rw [I3_w3]; exact (Int32.ofInt_mul x y).symm
theorem I3_neg (x : Int) : - I3 x = I3 (w3 (-x)) := by rw [I3_w3]; exact (Int32.ofInt_neg x).symm
theorem J6_add (x y : Int) : J6 x + J6 y = J6 (w6 (x + y)) := by rw [J6_w6]; exact (Int64.ofInt_add x y).symm
theorem J6_mul (x y : Int) : J6 x * J6 y = J6 (w6 (x * y)) := by rw [J6_w6]; exact (Int64.ofInt_mul x y).symm
theorem I3_le {x y : Int} (hx : inR x) (hy : inR y) : I3 x ≤ I3 y ↔ x ≤ y := by rw [Int32.le_iff_toInt_le, I3_t hx, I3_t hy]
theorem I3_lt {x y : Int} (hx : inR x) (hy : inR y) : I3 x < I3 y ↔ x < y := by rw [Int32.lt_iff_toInt_lt, I3_t hx, I3_t hy]
theorem I3_eq {x y : Int} (hx : inR x) (hy : inR y) : I3 x = I3 y ↔ x = y := by rw [← Int32.toInt_inj, I3_t hx, I3_t hy]
theorem J6_eq {x y : Int} (hx : inL x) (hy : inL y) : J6 x = J6 y ↔ x = y := by rw [← Int64.toInt_inj, J6_t hx, J6_t hy]
theorem inR_0 : inR 0 := ⟨by decide, by decide⟩
theorem inR_L {x : Int} (h : inR x) : inL x := ⟨by have := h.1; omega, by have := h.2; omega⟩
/-- and, or, xor, shifts, narrowings on ints, as the machine has them -/
def bAnd (x y : Int) : Int := (I3 x &&& I3 y).toInt
def bOr (x y : Int) : Int := (I3 x ||| I3 y).toInt
def bXor (x y : Int) : Int := (I3 x ^^^ I3 y).toInt
def bShl (x y : Int) : Int := (I3 x <<< (I3 y &&& 31)).toInt
def bShr (x y : Int) : Int := (I3 x >>> (I3 y &&& 31)).toInt
def bUsh (x y : Int) : Int := ((I3 x).toUInt32 >>> ((I3 y).toUInt32 &&& Int32.toUInt32 31)).toInt32.toInt
def n8 (x : Int) : Int := (I3 x).toInt8.toInt32.toInt
def n16 (x : Int) : Int := (I3 x).toInt16.toInt32.toInt
def lDiv (x y : Int) : Int := (J6 x / J6 y).toInt
def lRem (x y : Int) : Int := (J6 x - J6 x / J6 y * J6 y).toInt
def cmp3 (x y : Int) : Int := if y < x then 1 else if x = y then 0 else -1
/-- a memory: groups of ints -/
abbrev Mm : Type := Nat → Int → Int
abbrev Vv : Type := Int ⊕ (Int ⊕ Nat)
abbrev Vi (x : Int) : Vv := .inl x
abbrev Vl (x : Int) : Vv := .inr (.inl x)
abbrev Vr (k : Nat) : Vv := .inr (.inr k)
def tv (ad : Nat → Nat) (v : Vv) : Value := match v with
  | .inl x => .int (I3 x)
  | .inr (.inl x) => .long (J6 x)
  | .inr (.inr k) => .ref (ad k)
def okV (v : Vv) : Prop := match v with
  | .inl x => inR x
  | .inr (.inl x) => inL x
  | .inr (.inr _) => True
def okM (μ : Mm) : Prop := ∀ g o, inR (μ g o)
def sM (μ : Mm) (g : Nat) (o v : Int) : Mm := fun g' o' => if g' = g ∧ o' = o then v else μ g' o'
theorem sM_ok {μ : Mm} {g : Nat} {o v : Int} (h : okM μ) (hv : inR v) : okM (sM μ g o v) := fun g' o' => by
  unfold sM
  split
  · exact hv
  · exact h g' o'
theorem sM_s (μ : Mm) (g : Nat) (o v : Int) : sM μ g o v g o = v := by simp [sM]
theorem sM_n {μ : Mm} {g g' : Nat} {o o' v : Int} (h : ¬ (g' = g ∧ o' = o)) : sM μ g o v g' o' = μ g' o' := by simp only [sM]; exact if_neg h
/-- a residual, and what is wanted of its value -/
def Sat {α : Type} (o : Option α) (K : α → Prop) : Prop := ∃ y, o = some y ∧ K y
def chk {α : Type} (c : Prop) [Decidable c] (t : Option α) : Option α := if c then t else none
def bnd {α β : Type} (x : α) (f : α → β) : β := f x
def loopO {σ ρ : Type} (body : σ → Option (σ ⊕ ρ)) : Nat → σ → Option ρ
  | 0, _ => none
  | n + 1, x => match body x with
    | none => none
    | some (.inl x') => loopO body n x'
    | some (.inr r) => some r
theorem sat_ite {α : Type} {c : Prop} [Decidable c] {a b : Option α} {K : α → Prop} {P : Prop} (h : Sat (if c then a else b) K) (h1 : c → Sat a K → P) (h2 : ¬ c → Sat b K → P) : P := by
  by_cases hc : c
  · rw [if_pos hc] at h; exact h1 hc h
  · rw [if_neg hc] at h; exact h2 hc h
theorem sat_t {α : Type} {c : Prop} [Decidable c] {a b : Option α} {K : α → Prop} (h : Sat (if c then a else b) K) (hc : c) : Sat a K := by rw [if_pos hc] at h; exact h
theorem sat_f {α : Type} {c : Prop} [Decidable c] {a b : Option α} {K : α → Prop} (h : Sat (if c then a else b) K) (hc : ¬ c) : Sat b K := by rw [if_neg hc] at h; exact h
theorem sat_chk {α : Type} {c : Prop} [Decidable c] {a : Option α} {K : α → Prop} (h : Sat (chk c a) K) : c ∧ Sat a K := by
  unfold chk at h
  by_cases hc : c
  · rw [if_pos hc] at h; exact ⟨hc, h⟩
  · rw [if_neg hc] at h; obtain ⟨y, hy, _⟩ := h; cases hy
theorem sat_bind {α β : Type} {o : Option α} {f : α → Option β} {K : β → Prop} (h : Sat (o.bind f) K) : ∃ z, o = some z ∧ Sat (f z) K := by
  obtain ⟨y, hy, hk⟩ := h
  cases o with
  | none => cases hy
  | some z => exact ⟨z, rfl, y, hy, hk⟩
theorem sat_bnd {α β : Type} {x : α} {f : α → Option β} {K : β → Prop} (h : Sat (bnd x f) K) : ∃ y, y = x ∧ Sat (f y) K := ⟨x, rfl, h⟩
theorem sat_some {α : Type} {y : α} {K : α → Prop} (h : Sat (some y) K) : K y := by
  obtain ⟨z, hz, hk⟩ := h
  cases hz
  exact hk
theorem sat_eq {α : Type} {y v : α} (h : Sat (some y) (fun z => z = v)) : y = v := by
  obtain ⟨w, h1, h2⟩ := h
  cases h1
  exact h2
theorem sat_of {α : Type} {o : Option α} {z : α} (h : o = some z) : Sat o (fun y => y = z) := ⟨z, h, rfl⟩
theorem loop_walk {σ ρ : Type} {body : σ → Option (σ ⊕ ρ)} {K : ρ → Prop} (P : σ → Prop) (step : ∀ x, Sat (body x) (fun y => match y with | .inl x' => P x' | .inr r => K r) → P x) : ∀ (n : Nat) (x0 : σ), Sat (loopO body n x0) K → P x0 := by
  intro n
  induction n with
  | zero => intro x0 h; obtain ⟨y, hy, _⟩ := h; cases hy
  | succ n ih =>
    intro x0 h
    apply step
    obtain ⟨y, hy, hk⟩ := h
    unfold loopO at hy
    cases hb : body x0 with
    | none => rw [hb] at hy; cases hy
    | some w =>
      rw [hb] at hy
      cases w with
      | inl x' => exact ⟨_, rfl, ih x' ⟨y, hy, hk⟩⟩
      | inr r => refine ⟨_, rfl, ?_⟩; cases hy; exact hk
theorem loop_go {σ ρ : Type} {body : σ → Option (σ ⊕ ρ)} {K : ρ → Prop} {n : Nat} {x0 : σ} {Goal : Prop} (P : σ → Prop) (hz : Sat (loopO body n x0) K) (hg : P x0 → Goal) (step : ∀ x, Sat (body x) (fun y => match y with | .inl x' => P x' | .inr r => K r) → P x) : Goal := hg (loop_walk P step n x0 hz)
theorem sat_bind2 {α β : Type} {o : Option α} {f : α → Option β} {K : β → Prop} (h : Sat (o.bind f) K) : Sat o (fun y => Sat (f y) K) := by
  obtain ⟨z, h1, h2⟩ := sat_bind h
  exact ⟨z, h1, h2⟩
theorem eq_ite {α : Type} {c : Prop} [Decidable c] {a b v : α} {P : Prop} (h : (if c then a else b) = v) (h1 : c → a = v → P) (h2 : ¬ c → b = v → P) : P := by
  by_cases hc : c
  · rw [if_pos hc] at h; exact h1 hc h
  · rw [if_neg hc] at h; exact h2 hc h
theorem eq_t {α : Type} {c : Prop} [Decidable c] {a b v : α} (h : (if c then a else b) = v) (hc : c) : a = v := by rw [if_pos hc] at h; exact h
theorem eq_f {α : Type} {c : Prop} [Decidable c] {a b v : α} (h : (if c then a else b) = v) (hc : ¬ c) : b = v := by rw [if_neg hc] at h; exact h
theorem eq_bnd {α β : Type} {x : α} {f : α → β} {v : β} (h : bnd x f = v) : ∃ y, y = x ∧ f y = v := ⟨x, rfl, h⟩
/-- the world as a list of cells -/
def XX (N : Nat) (ad : Nat → Nat) (E : Mm → Nat → va_E) (μ : Mm) : va_W := (List.range N).map (fun k => (ad k, E μ k))
theorem XX_get {N : Nat} {ad : Nat → Nat} {E : Mm → Nat → va_E} {μ : Mm} {k : Nat} (h : k < N) : (XX N ad E μ)[k]? = some (ad k, E μ k) := by
  unfold XX
  rw [List.getElem?_map, List.getElem?_range h]
  rfl
theorem XX_some {N : Nat} {ad : Nat → Nat} {E : Mm → Nat → va_E} {μ : Mm} {k : Nat} {q : Nat × va_E} (h : (XX N ad E μ)[k]? = some q) : k < N ∧ q = (ad k, E μ k) := by
  by_cases hk : k < N
  · rw [XX_get hk] at h
    exact ⟨hk, (Option.some.inj h).symm⟩
  · unfold XX at h
    rw [List.getElem?_map, List.getElem?_eq_none (by rw [List.length_range]; omega)] at h
    cases h
theorem XX_set {N : Nat} {ad : Nat → Nat} {E : Mm → Nat → va_E} {μ μ' : Mm} {k : Nat} {x : va_E} (hx : x = E μ' k) (h : ∀ j, j < N → j ≠ k → E μ' j = E μ j) : (XX N ad E μ).set k (ad k, x) = XX N ad E μ' := by
  subst hx
  apply List.ext_getElem?
  intro j
  rw [List.getElem?_set]
  by_cases hj : j < N
  · by_cases hjk : k = j
    · subst hjk
      rw [if_pos rfl, XX_get hj]
      rw [if_pos (by unfold XX; rw [List.length_map, List.length_range]; exact hj)]
    · rw [if_neg hjk, XX_get hj, XX_get hj, h j hj (fun q => hjk q.symm)]
  · have e1 : (XX N ad E μ')[j]? = none := List.getElem?_eq_none (by unfold XX; rw [List.length_map, List.length_range]; omega)
    have e2 : (XX N ad E μ)[j]? = none := List.getElem?_eq_none (by unfold XX; rw [List.length_map, List.length_range]; omega)
    rw [e1, e2]
    split <;> rename_i hk
    · rw [if_neg (by subst hk; unfold XX; rw [List.length_map, List.length_range]; exact hj)]
    · rfl
theorem XX_A {N : Nat} {ad : Nat → Nat} {E : Mm → Nat → va_E} {μ μ' : Mm} {sz q : Nat} (h : va_A (XX N ad E μ) sz q) : va_A (XX N ad E μ') sz q := by
  rcases h with ⟨k, e, h⟩ | h
  · obtain ⟨h1, h2⟩ := XX_some h
    cases h2
    exact Or.inl ⟨k, E μ' k, XX_get h1⟩
  · exact Or.inr h
theorem XX_D {N : Nat} {ad : Nat → Nat} {E : Mm → Nat → va_E} {μ μ' : Mm} {A : Nat → Prop} (h : va_D A (XX N ad E μ)) : va_D A (XX N ad E μ') := by
  refine ⟨fun i j p q hi hj hpq => ?_, fun k q hk => ?_⟩
  · obtain ⟨h1, h2⟩ := XX_some hi
    obtain ⟨h3, h4⟩ := XX_some hj
    subst h2 h4
    exact h.1 i j _ _ (XX_get h1) (XX_get h3) hpq
  · obtain ⟨h1, h2⟩ := XX_some hk
    subst h2
    exact h.2 k (ad k, E μ k) (XX_get h1)
/-- the judgement of a walk, and all that stands fast in it -/
def Wq (p : Program) (l : Launch) (e : Env) (R : Room) (s : State) (m : MethodId) (args : Array Value) (below : List Frame) (meth : Method) (c : Code) (Q : State → Prop) (D : va_G) (cl : List vw_C) (A : Nat → Prop) (N : Nat) (ad : Nat → Nat) (E : Mm → Nat → va_E) (nL : Nat) : Mm → Nat → List (Nat × Vv) → List Vv → Prop := fun μ pc L S =>
  ∀ (H : Heap) (locs : List Loc) (ls : Array Slot), okM μ → (∀ v ∈ S, okV v) → (∀ q ∈ L, okV q.2) → va_P D cl (XX N ad E μ) H → va_S A s.heap H locs → lv_has ls nL (L.map (fun q => (q.1, tv ad q.2))) → W p l e R s m args below meth c H locs 0 0 Q (F0 m pc ls (S.map (tv ad)))
def Qz (D : va_G) (cl : List vw_C) (N : Nat) (ad : Nat → Nat) (E : Mm → Nat → va_E) (A : Nat → Prop) (ret : Option FieldType) (z : Int × Mm) : Array Value → State → Outcome → State → Prop := match ret with
  | none => va_Qv (fun (_ : Unit) => okM z.2) (fun _ U => va_P D cl (XX N ad E z.2) U.heap) A
  | some .long => va_Ql (fun x (_ : Unit) => x = J6 z.1 ∧ inL z.1 ∧ okM z.2) (fun _ U => va_P D cl (XX N ad E z.2) U.heap) A
  | some .boolean => va_Qi (fun x (_ : Unit) => x = I3 z.1 ∧ (z.1 = 0 ∨ z.1 = 1) ∧ okM z.2) (fun _ U => va_P D cl (XX N ad E z.2) U.heap) A
  | some _ => va_Qi (fun x (_ : Unit) => x = I3 z.1 ∧ inR z.1 ∧ okM z.2) (fun _ U => va_P D cl (XX N ad E z.2) U.heap) A
/-- what is borne besides: it stays where the world's own cells alone are written -/
def stZ (N : Nat) (ad : Nat → Nat) (Z : State → Prop) : Prop := ∀ s U : State, Z s → s.WarmedH U.vm → s.heap.size ≤ U.heap.size → (∀ q, q < s.heap.size → (∀ k, k < N → q ≠ ad k) → U.heap[q]? = s.heap[q]?) → Z U
theorem stZ_t {N : Nat} {ad : Nat → Nat} : stZ N ad (fun _ => True) := fun _ _ _ _ _ _ => trivial
def Pz (D : va_G) (cl : List vw_C) (tys : List (ClassId × FieldType)) (N : Nat) (ad : Nat → Nat) (E : Mm → Nat → va_E) (Z : State → Prop) (μ : Mm) (sz : Nat) (U : State) : Prop := U.heap.size = sz ∧ va_P D cl (XX N ad E μ) U.heap ∧ va_K D cl tys U ∧ va_D (fun _ => True) (XX N ad E μ) ∧ Z U
/-- a contract: from the memory μ, with these arguments, the method comes back with z -/
def CT (l : Launch) (D : va_G) (cl : List vw_C) (tys : List (ClassId × FieldType)) (N : Nat) (ad : Nat → Nat) (E : Mm → Nat → va_E) (Z : State → Prop) (y : MethodName) (ws : List Cond) (rm : Room) (ret : Option FieldType) (as : List Vv) (μ : Mm) (z : Int × Mm) : Prop :=
  okM μ → (∀ v ∈ as, okV v) → ∀ sz : Nat, Met l y ws rm (va_Pc (as.map (tv ad)) (Pz D cl tys N ad E Z μ sz)) (Qz D cl N ad E (va_A (XX N ad E μ) sz) ret z) 0 0 (va_A (XX N ad E μ) sz)
def Cx (l : Launch) (D : va_G) (cl : List vw_C) (tys : List (ClassId × FieldType)) (N : Nat) (ad : Nat → Nat) (E : Mm → Nat → va_E) (Z : State → Prop) (own : String) (Ts : List Cond) (cc : ByteArray) (nL : Nat) (R : Room) (ret : Option FieldType) (z : Int × Mm) (G : Mm → Nat → List (Nat × Vv) → List Vv → Prop) : Prop :=
  ∃ (p : Program) (e : Env) (s : State) (m : MethodId) (args : Array Value) (below : List Frame) (meth : Method) (c : Code) (A : Nat → Prop),
    p.tables.exec = Jvm.exec ∧ c.code = cc ∧ c.maxLocals = nL ∧ meth.sig.returnType = ret ∧ s.vm.findClass own = some m.cls ∧ (∀ w ∈ Ts, w.before args s = true) ∧ meth.locks = false ∧ va_K D cl tys s ∧ (∀ μ, va_D A (XX N ad E μ)) ∧ (∀ q, s.heap.size ≤ q → A q) ∧ (∀ (U : State) (H : Heap) (locs : List Loc), va_S A s.heap H locs → U.heap = H → s.WarmedH U.vm → Z U) ∧ (∀ q, A q → s.heap.size ≤ q ∨ ∃ k, k < N ∧ q = ad k) ∧
    G = Wq p l e R s m args below meth c (MQ below (Qz D cl N ad E A ret z) args s 0 0 A) D cl A N ad E nL
set_option maxHeartbeats 4000000 in
theorem CT_of {l : Launch} {D : va_G} {cl : List vw_C} {tys : List (ClassId × FieldType)} {N : Nat} {ad : Nat → Nat} {E : Mm → Nat → va_E} {Z : State → Prop} {y : MethodName} {ws ws' : List Cond} {rm : Room} {ret : Option FieldType} {as : List Vv} {μ : Mm} {z : Int × Mm} {cc : ByteArray} {maxL : Nat} (L0 : List (Nat × Vv))
    (hst : stZ N ad Z) (hy : plainName y.cls = true) (hw : ws = Cond.code y cc maxL ret :: ws') (hL : L0.map (fun q => (q.1, tv ad q.2)) = lv_args 0 (as.map (tv ad))) (hn : (lg_sl (as.map (tv ad))).length ≤ maxL) (hLa : L0.map (fun q => q.2) = as)
    (K : ∀ G, Cx l D cl tys N ad E Z y.cls ws cc maxL rm ret z G → G μ 0 L0 []) : CT l D cl tys N ad E Z y ws rm ret as μ z := by
  intro hM has sz
  refine Met.ofW (cc := cc) (maxL := maxL) (ret := ret) hy hw ?_
  intro p e s m args below meth c s₁ B hml hv
  obtain ⟨rfl, hsz, hP, hK, hD0, hZ0⟩ := hv
  have hts := atoms_spec (ws := ws) B.pre
  have hown : s.vm.findClass y.cls = some m.cls := findClass_of_methodNamed B.named
  subst hsz
  have hD := hD0.self (sz := s.heap.size)
  generalize hAe : va_A (XX N ad E μ) s.heap.size = A at hD ⊢
  have hA : ∀ q : Nat, s.heap.size ≤ q → A q := fun q h => by rw [← hAe]; exact Or.inr h
  have hS : va_S A s.heap s.heap [] := va_S.rf
  have hl := lv_entry (as.map (tv ad)) (n := maxL) hn
  rw [lg_entry_eq]
  generalize (lg_sl (as.map (tv ad)) ++ List.replicate (maxL - (lg_sl (as.map (tv ad))).length) Slot.unset).toArray = ls at hl ⊢
  rw [← hL] at hl
  exact K _ ⟨p, e, s, m, _, below, meth, c, A, B.exec, B.bytes, hml, B.returns, hown, hts, B.notSynchronized, hK, fun _ => XX_D hD, hA, fun U H locs h1 h2 h3 => hst s U hZ0 h3 (by rw [h2]; exact h1.1) (fun q a b => by rw [h2]; exact h1.2.1 q a (fun w => by
    rw [← hAe] at w
    rcases w with ⟨k, e, w⟩ | w
    · obtain ⟨k1, k2⟩ := XX_some w
      cases k2
      exact b k k1 rfl
    · omega)), fun q h => by
    rw [← hAe] at h
    rcases h with ⟨k, e, w⟩ | w
    · obtain ⟨k1, k2⟩ := XX_some w
      cases k2
      exact Or.inr ⟨k, k1, rfl⟩
    · exact Or.inl w, rfl⟩ s.heap [] ls hM (fun v h => by cases h) (fun q hq => has q.2 (by rw [← hLa]; exact List.mem_map_of_mem hq)) hP hS hl
