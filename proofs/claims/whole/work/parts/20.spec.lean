/-! THE PURE SIDE: what is wanted of a residual, how loops are gone through, bits; then what a river is and does. -/
theorem si_chk {α : Type} {c : Prop} [Decidable c] {a : Option α} {K : α → Prop} (hc : c) (h : Sat a K) : Sat (chk c a) K := by unfold chk; rw [if_pos hc]; exact h
theorem si_t {α : Type} {c : Prop} [Decidable c] {a b : Option α} {K : α → Prop} (hc : c) (h : Sat a K) : Sat (if c then a else b) K := by rw [if_pos hc]; exact h
theorem si_f {α : Type} {c : Prop} [Decidable c] {a b : Option α} {K : α → Prop} (hc : ¬ c) (h : Sat b K) : Sat (if c then a else b) K := by rw [if_neg hc]; exact h
theorem si_if {α : Type} {c : Prop} [Decidable c] {a b : Option α} {K : α → Prop} (h1 : c → Sat a K) (h2 : ¬ c → Sat b K) : Sat (if c then a else b) K := by
  by_cases hc : c
  · exact si_t hc (h1 hc)
  · exact si_f hc (h2 hc)
theorem si_bind {α β : Type} {o : Option α} {f : α → Option β} {K : β → Prop} (h : Sat o (fun z => Sat (f z) K)) : Sat (o.bind f) K := by
  obtain ⟨y, rfl, h⟩ := h
  exact h
theorem si_bnd {α β : Type} {x : α} {f : α → Option β} {K : β → Prop} (h : Sat (f x) K) : Sat (bnd x f) K := h
theorem si_some {α : Type} {y : α} {K : α → Prop} (h : K y) : Sat (some y) K := ⟨y, rfl, h⟩
theorem si_mono {α : Type} {o : Option α} {K K' : α → Prop} (h : Sat o K) (hk : ∀ y, K y → K' y) : Sat o K' := by
  obtain ⟨y, h1, h2⟩ := h
  exact ⟨y, h1, hk y h2⟩
/-- a call within: what is known of its value, then the rest -/
theorem si_call {α β : Type} {o : Option α} {f : α → Option β} {K : β → Prop} {P : α → Prop} (h : Sat o P) (k : ∀ y, P y → Sat (f y) K) : Sat (o.bind f) K := si_bind (si_mono h k)
theorem si_loop {σ ρ : Type} {body : σ → Option (σ ⊕ ρ)} {K : ρ → Prop} (I : Nat → σ → Prop) (N : Nat) (hs : ∀ i x, i ≤ N → I i x → Sat (body x) (fun y => match y with | .inl x' => i < N ∧ I (i + 1) x' | .inr r => K r)) : ∀ (n : Nat) (x0 : σ), N < n → I 0 x0 → Sat (loopO body n x0) K := by
  have key : ∀ (d i n : Nat) (x : σ), N - i = d → i ≤ N → N - i < n → I i x → Sat (loopO body n x) K := by
    intro d
    induction d with
    | zero =>
      intro i n x hd hi hn hI
      obtain ⟨n', rfl⟩ : ∃ n', n = n' + 1 := ⟨n - 1, by omega⟩
      obtain ⟨y, hy, hk⟩ := hs i x hi hI
      unfold loopO
      rw [hy]
      cases y with
      | inl x' => exact absurd hk.1 (by omega)
      | inr r => exact si_some hk
    | succ d ih =>
      intro i n x hd hi hn hI
      obtain ⟨n', rfl⟩ : ∃ n', n = n' + 1 := ⟨n - 1, by omega⟩
      obtain ⟨y, hy, hk⟩ := hs i x hi hI
      unfold loopO
      rw [hy]
      cases y with
      | inl x' => exact ih (i + 1) n' x' (by omega) (by omega) (by omega) hk.2
      | inr r => exact si_some hk
  intro n x0 hn h0
  exact key N 0 n x0 (by omega) (by omega) (by omega) h0
-- bits
def bitN (w i : Int) : Int := bAnd (bShr w i) 1
theorem bitN_small : ∀ w : Nat, w < 512 → ∀ i : Nat, i < 10 → bitN w i = if w.testBit i then 1 else 0 := by decide +kernel
theorem bShl1 : ∀ k : Nat, k < 16 → bShl 1 k = ((2 ^ k : Nat) : Int) := by decide +kernel
theorem I3_nat {n : Nat} (h : n < 2147483648) : (I3 (n : Int)).toBitVec.toNat = n := by
  show (Int32.ofInt (n : Int)).toBitVec.toNat = n
  rw [Int32.ofInt_eq_ofNat]
  simp
  omega
theorem toInt_nat {x : Int32} (h : x.toBitVec.toNat < 2147483648) : x.toInt = (x.toBitVec.toNat : Int) := by
  show x.toBitVec.toInt = _
  rw [BitVec.toInt_eq_toNat_of_lt (by omega)]
theorem bOr_nat {a b : Nat} (ha : a < 2147483648) (hb : b < 2147483648) : bOr a b = ((a ||| b : Nat) : Int) := by
  have h : (I3 (a : Int) ||| I3 (b : Int)).toBitVec.toNat = a ||| b := by
    rw [Int32.toBitVec_or, BitVec.toNat_or, I3_nat ha, I3_nat hb]
  have hlt : a ||| b < 2 ^ 31 := Nat.or_lt_two_pow (by omega) (by omega)
  unfold bOr
  rw [toInt_nat (by rw [h]; omega), h]
theorem bAnd_nat {a b : Nat} (ha : a < 2147483648) (hb : b < 2147483648) : bAnd a b = ((a &&& b : Nat) : Int) := by
  have h : (I3 (a : Int) &&& I3 (b : Int)).toBitVec.toNat = a &&& b := by
    rw [Int32.toBitVec_and, BitVec.toNat_and, I3_nat ha, I3_nat hb]
  have hlt : a &&& b ≤ a := Nat.and_le_left
  unfold bAnd
  rw [toInt_nat (by rw [h]; omega), h]
theorem bXor_nat {a b : Nat} (ha : a < 2147483648) (hb : b < 2147483648) : bXor a b = ((a ^^^ b : Nat) : Int) := by
  have h : (I3 (a : Int) ^^^ I3 (b : Int)).toBitVec.toNat = a ^^^ b := by
    rw [Int32.toBitVec_xor, BitVec.toNat_xor, I3_nat ha, I3_nat hb]
  have hlt : a ^^^ b < 2 ^ 31 := Nat.xor_lt_two_pow (by omega) (by omega)
  unfold bXor
  rw [toInt_nat (by rw [h]; omega), h]
-- a river: its ints by the reference's places
abbrev Rv : Type := Int → Int
def up (A : Rv) (o v : Int) : Rv := fun o' => if o' = o then v else A o'
theorem up_s (A : Rv) (o v : Int) : up A o v o = v := by simp [up]
theorem up_n {A : Rv} {o o' v : Int} (h : o' ≠ o) : up A o v o' = A o' := by simp [up, h]
/-- what a river that is there keeps to -/
def VR (A : Rv) : Prop := 2 ≤ A 24 ∧ A 24 ≤ 9 ∧ 1 ≤ A 25 ∧ A 25 ≤ 6 ∧ 0 ≤ A 10 ∧ A 10 < 256 ∧ (∀ l, 0 ≤ l → l < A 24 → 0 ≤ A (1 + l) ∧ A (1 + l) ≤ 99) ∧
  ∀ k, 0 ≤ k → k < A 25 → (0 ≤ A (11 + k) ∧ A (11 + k) < A 24) ∧ (1 ≤ A (17 + k) ∧ A (17 + k) ≤ 9) ∧ (1 ≤ A (26 + k) ∧ A (26 + k) ≤ 5) ∧ (0 ≤ A (32 + k) ∧ A (32 + k) < A 24)
/-- B holds the river A -/
def RR (A B : Rv) : Prop := B 24 = A 24 ∧ B 25 = A 25 ∧ B 0 = A 0 ∧ B 10 = A 10 ∧ (∀ l, 0 ≤ l → l < A 24 → B (1 + l) = A (1 + l)) ∧
  ∀ k, 0 ≤ k → k < A 25 → B (11 + k) = A (11 + k) ∧ B (17 + k) = A (17 + k) ∧ B (26 + k) = A (26 + k) ∧ B (32 + k) = A (32 + k)
theorem RR_rf (A : Rv) : RR A A := ⟨rfl, rfl, rfl, rfl, fun _ _ _ => rfl, fun _ _ _ => ⟨rfl, rfl, rfl, rfl⟩⟩
/-- some of the first n -/
def anyN (P : Int → Bool) : Nat → Bool
  | 0 => false
  | n + 1 => anyN P n || P (n : Int)
theorem anyN_iff {P : Int → Bool} {n : Nat} : anyN P n = true ↔ ∃ k : Int, 0 ≤ k ∧ k < n ∧ P k = true := by
  induction n with
  | zero =>
    constructor
    · intro h; cases h
    · rintro ⟨k, h1, h2, _⟩; omega
  | succ n ih =>
    unfold anyN
    rw [Bool.or_eq_true, ih]
    constructor
    · rintro (⟨k, h1, h2, h3⟩ | h)
      · exact ⟨k, h1, by omega, h3⟩
      · exact ⟨n, by omega, by omega, h⟩
    · rintro ⟨k, h1, h2, h3⟩
      by_cases hk : k = n
      · exact Or.inr (hk ▸ h3)
      · exact Or.inl ⟨k, h1, by omega, h3⟩
def openA (A : Rv) (l w : Int) : Bool := decide (0 ≤ l + w) && decide (l + w < A 24) && decide (bitN (A 10) (if 0 < w then l else l + w) ≠ 1)
def besideA (A : Rv) (l w : Int) : Int := if openA A l w then l + w else l
/-- another cob is on lawn l -/
def cobAt (A : Rv) (k l : Int) : Bool := anyN (fun o => decide (o ≠ k) && decide (A (26 + o) = 2) && decide (A (11 + o) = l)) (A 25).toNat
def seenA (A : Rv) (k l : Int) : Int := if A (26 + k) = 2 ∧ cobAt A k l = true then 0 else A (1 + l)
/-- one look: if it may, and there is more, then that is the way -/
def look (c : Bool) (v d : Int) (q : Int × Int) : Int × Int := if c = true ∧ q.1 < v then (v, d) else q
/-- what it has seen by i steps out: the most and the way to it; how far it came down, and up -/
def tw (S : Int → Int) (A : Rv) (own : Int) : Nat → (Int × Int) × Int × Int
  | 0 => ((S own, 0), own, own)
  | n + 1 => (look (openA A (tw S A own n).2.2 1) (S ((tw S A own n).2.2 + 1)) 1 (look (openA A (tw S A own n).2.1 (-1)) (S ((tw S A own n).2.1 - 1)) (-1) (tw S A own n).1), besideA A (tw S A own n).2.1 (-1), besideA A (tw S A own n).2.2 1)
def towA (A : Rv) (k : Int) (s : Nat) : Int := A (11 + k) + (tw (seenA A k) A (A (11 + k)) s).1.2
def goalA (A : Rv) (k : Int) : Int :=
  if A (26 + k) = 3 then towA A k 1 else if A (26 + k) = 4 then (if A (1 + A (11 + k)) ≤ 0 then besideA A (A (11 + k)) (-1) else A (11 + k))
  else if A (26 + k) = 5 then (if A (1 + A (11 + k)) ≤ 0 then besideA A (A (11 + k)) 1 else A (11 + k)) else towA A k 2
/-- swan k swims and eats -/
def eatsA (A : Rv) (k : Int) : Bool := decide (0 < A (1 + goalA A k))
def swimA (A : Rv) (k : Int) : Rv := if eatsA A k = true then up (up A (11 + k) (goalA A k)) (1 + goalA A k) (A (1 + goalA A k) - 1) else up A (11 + k) (goalA A k)
def swimsA (A : Rv) : Nat → Rv
  | 0 => A
  | n + 1 => swimA (swimsA A n) (n : Int)
def eatN (A : Rv) : Nat → Int → Int
  | 0, b => b
  | n + 1, b => if eatsA (swimsA A n) (n : Int) = true then bOr (eatN A n b) (bShl 1 (n : Int)) else eatN A n b
def beatsA (A : Rv) (o k : Int) : Bool := decide (o ≠ k) && decide (A (26 + o) = 2) && decide (A (11 + o) = A (11 + k)) && (decide (A (17 + k) < A (17 + o)) || (decide (A (17 + o) = A (17 + k)) && decide (o < k)))
def beatenA (A : Rv) (k : Int) : Bool := decide (A (26 + k) = 2) && anyN (fun o => beatsA A o k) (A 25).toNat
def fightA (A : Rv) : Rv := fun o => if 11 ≤ o ∧ o < 11 + A 25 ∧ beatenA A (o - 11) = true then besideA A (A o) (-1) else A o
def countN (P : Int → Bool) : Nat → Int
  | 0 => 0
  | n + 1 => if P (n : Int) = true then countN P n + 1 else countN P n
def lostA (A : Rv) : Int := countN (beatenA A) (A 25).toNat
def dayA (A : Rv) : Rv := let B := fightA (swimsA A (A 25).toNat); up B 0 (w3 (B 0 + 1))
def dayLost (A : Rv) : Int := lostA (swimsA A (A 25).toNat)
def dayEat (A : Rv) (b : Int) : Int := eatN A (A 25).toNat b
/-- the reference's array of rivers, place o of river q -/
theorem rq {ν : Mm} {q : Nat} {o : Int} (ho : 0 ≤ o ∧ o < 38) {i : Int} (hi : i = 38 * (q : Int) + o) : rdW ν i = ν q o := by
  unfold rdW
  rw [show i / 38 = (q : Int) by omega, show i % 38 = o by omega]
  rfl
theorem wq {ν : Mm} {q : Nat} {o : Int} (ho : 0 ≤ o ∧ o < 38) {i v : Int} (hi : i = 38 * (q : Int) + o) : wrW ν i v = sM ν q o v := by
  unfold wrW
  rw [show i / 38 = (q : Int) by omega, show i % 38 = o by omega]
  rfl
theorem rq1 {ν : Mm} {q : Nat} {a : Int} (h1 : 0 ≤ a) (h2 : a < 38) : rdW ν (38 * (q : Int) + a) = ν q a := rq ⟨h1, h2⟩ rfl
theorem rq2 {ν : Mm} {q : Nat} {a b : Int} (h1 : 0 ≤ a + b) (h2 : a + b < 38) : rdW ν (38 * (q : Int) + a + b) = ν q (a + b) := rq ⟨h1, h2⟩ (by omega)
theorem wq1 {ν : Mm} {q : Nat} {a v : Int} (h1 : 0 ≤ a) (h2 : a < 38) : wrW ν (38 * (q : Int) + a) v = sM ν q a v := wq ⟨h1, h2⟩ rfl
theorem wq2 {ν : Mm} {q : Nat} {a b v : Int} (h1 : 0 ≤ a + b) (h2 : a + b < 38) : wrW ν (38 * (q : Int) + a + b) v = sM ν q (a + b) v := wq ⟨h1, h2⟩ (by omega)
theorem countN_add {P Q R : Int → Bool} {n : Nat} (h : ∀ k : Int, 0 ≤ k → k < n → (R k = true ↔ P k = true ∨ Q k = true) ∧ ¬ (P k = true ∧ Q k = true)) : countN P n + countN Q n = countN R n := by
  induction n with
  | zero => rfl
  | succ n ih =>
    have h1 := ih (fun k a b => h k a (by omega))
    obtain ⟨h2, h3⟩ := h n (by omega) (by omega)
    unfold countN
    by_cases p : P n = true
    · by_cases q : Q n = true
      · exact absurd ⟨p, q⟩ h3
      · rw [if_pos p, if_neg q, if_pos (h2.mpr (Or.inl p))]; omega
    · by_cases q : Q n = true
      · rw [if_neg p, if_pos q, if_pos (h2.mpr (Or.inr q))]; omega
      · rw [if_neg p, if_neg q, if_neg (fun w => (h2.mp w).elim p q)]; omega
theorem countN_congr {P Q : Int → Bool} {n : Nat} (h : ∀ k : Int, 0 ≤ k → k < n → P k = Q k) : countN P n = countN Q n := by
  induction n with
  | zero => rfl
  | succ n ih =>
    unfold countN
    rw [ih (fun k a b => h k a (by omega)), h n (by omega) (by omega)]
