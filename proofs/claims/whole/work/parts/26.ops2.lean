/-! SETS OF LAWNS, how many own something; crumbs; who is elsewhere. -/
/-- a swan is on lawn l -/
def occA (A : Rv) (l : Int) : Bool := anyN (fun k => decide (A (11 + k) = l)) (A 25).toNat
theorem occA_iff {A : Rv} (h0 : 0 ≤ A 25) {l : Int} : occA A l = true ↔ ∃ k : Int, 0 ≤ k ∧ k < A 25 ∧ A (11 + k) = l := by
  unfold occA
  rw [anyN_iff]
  constructor
  · rintro ⟨k, a, b, c⟩; exact ⟨k, a, by omega, by simpa using c⟩
  · rintro ⟨k, a, b, c⟩; exact ⟨k, a, by omega, by simpa using c⟩
def ownA (A : Rv) : Int := countN (occA A) 9
theorem clr_bit : ∀ n : Nat, n < 512 → ∀ p : Nat, p < 9 → bAnd n (bXor (bShl 1 p) (-1)) = ((n &&& (511 ^^^ 2 ^ p) : Nat) : Int) := by decide +kernel
theorem not_set : ∀ L : Nat, L < 10 → ∀ n : Nat, n < 512 → bAnd (w3 (bShl 1 L - 1)) (bXor n (-1)) = (((2 ^ L - 1) &&& (511 ^^^ n) : Nat) : Int) := by decide +kernel
theorem full_set : ∀ L : Nat, L < 10 → w3 (bShl 1 L - 1) = ((2 ^ L - 1 : Nat) : Int) := by decide +kernel
theorem bit511 : ∀ l : Nat, l < 9 → (511 : Nat).testBit l = true := by decide
theorem bitCount_z : ∀ n : Nat, n < 512 → f_J6_bitCount_0f7a4 (fun _ _ => 0) n = countN (fun l => n.testBit l.toNat) 9 := by decide +kernel
theorem bitCount_eq (μ : Mm) {n : Nat} (h : n < 512) : f_J6_bitCount_0f7a4 μ n = countN (fun l => n.testBit l.toNat) 9 := bitCount_z n h
theorem set_eq {a b : Nat} (ha : a < 512) (hb : b < 512) (h : ∀ l : Nat, l < 9 → (a.testBit l = true ↔ b.testBit l = true)) : a = b := by
  apply Nat.eq_of_testBit_eq
  intro l
  by_cases hl : l < 9
  · have := h l hl
    cases h1 : a.testBit l <;> cases h2 : b.testBit l <;> simp_all
  · have p : 2 ^ 9 ≤ 2 ^ l := Nat.pow_le_pow_right (by decide) (by omega)
    rw [Nat.testBit_lt_two_pow (by omega), Nat.testBit_lt_two_pow (by omega)]
/-- n are the lawns of which nobody is -/
def isEmptyS (A : Rv) (n : Nat) : Prop := n < 512 ∧ ∀ l : Nat, l < 9 → (n.testBit l = true ↔ ((l : Int) < A 24 ∧ ¬ occA A l = true))
/-- n are the lawns on which somebody is -/
def isOwnS (A : Rv) (n : Nat) : Prop := n < 512 ∧ ∀ l : Nat, l < 9 → (n.testBit l = true ↔ occA A l = true)
theorem two_pow_sub_bit {L l : Nat} : (2 ^ L - 1).testBit l = decide (l < L) := Nat.testBit_two_pow_sub_one L l
theorem f_emptyLawns {μ : Mm} {r : Nat} {A : Rv} (hV : VR A) (hR : RR A (μ r)) : Sat (f_X2_emptyLawns μ r) (fun z => ∃ n : Nat, z = n ∧ isEmptyS A n) := by
  have h2 := hV.1
  have h9 := hV.2.1
  have h1 := hV.2.2.1
  have h6 := hV.2.2.2.1
  have v8 := hV.2.2.2.2.2.2.2
  unfold f_X2_emptyLawns
  rw [hR.1]
  obtain ⟨L, hL⟩ : ∃ L : Nat, A 24 = L := ⟨(A 24).toNat, by omega⟩
  refine si_bnd ?_
  rw [hL, full_set L (by omega)]
  refine si_bind (si_loop (fun i (x : Int × Int) => x.2 = i ∧ (i : Int) ≤ A 25 ∧ ∃ n : Nat, n < 512 ∧ x.1 = n ∧ ∀ l : Nat, l < 9 → (n.testBit l = true ↔ (l < L ∧ ¬ ∃ k : Int, 0 ≤ k ∧ k < i ∧ A (11 + k) = l))) (A 25).toNat ?_ 1000 _ (by omega) ⟨rfl, by omega, 2 ^ L - 1, ?_, rfl, fun l hl => ?_⟩)
  · rintro i ⟨a, b⟩ hi ⟨hb, hiA, n, hn, ha, hl⟩
    dsimp only at hb ha ⊢
    subst hb ha
    have e2 := hR.2.1
    refine si_if (fun c => si_some (si_some ⟨n, rfl, hn, fun l hl9 => ?_⟩)) (fun c => ?_)
    · rw [hl l hl9, occA_iff (by omega), hL]
      have : (i : Int) = A 25 := by omega
      rw [this]
      exact and_congr_left (fun _ => by omega)
    have hp := (hR.2.2.2.2.2 i (by omega) (by omega)).1
    have hpl := (v8 i (by omega) (by omega)).1
    refine si_chk (by omega) (si_bnd (si_some ?_))
    rw [hp]
    obtain ⟨p, hp9⟩ : ∃ p : Nat, A (11 + (i : Int)) = p := ⟨(A (11 + i)).toNat, by omega⟩
    rw [hp9, clr_bit n hn p (by omega)]
    refine ⟨by omega, by dsimp only; rw [w3_id (by omega) (by omega)]; omega, by omega, n &&& (511 ^^^ 2 ^ p), Nat.lt_of_le_of_lt Nat.and_le_left hn, rfl, fun l hl9 => ?_⟩
    rw [Nat.testBit_and, Bool.and_eq_true, hl l hl9, Nat.testBit_xor, bit511 l hl9, Nat.testBit_two_pow]
    constructor
    · rintro ⟨⟨g1, g2⟩, g3⟩
      refine ⟨g1, ?_⟩
      rintro ⟨k, k1, k2, k3⟩
      by_cases w : k = i
      · subst w
        have : p = l := by omega
        subst this
        simp at g3
      · exact g2 ⟨k, k1, by omega, k3⟩
    · rintro ⟨g1, g2⟩
      refine ⟨⟨g1, fun ⟨k, k1, k2, k3⟩ => g2 ⟨k, k1, by omega, k3⟩⟩, ?_⟩
      have : ¬ p = l := fun w => g2 ⟨i, by omega, by omega, by omega⟩
      simp [this]
  · have : 2 ^ L ≤ 2 ^ 9 := Nat.pow_le_pow_right (by decide) (by omega)
    have h0 : 0 < 2 ^ L := Nat.two_pow_pos L
    omega
  · rw [two_pow_sub_bit, decide_eq_true_eq]
    constructor
    · intro g; exact ⟨g, fun ⟨k, k1, k2, k3⟩ => by omega⟩
    · exact fun g => g.1
theorem countN_lt {L : Nat} (h : L ≤ 9) : countN (fun l => decide (l < (L : Int))) 9 = L := by
  have : L = 0 ∨ L = 1 ∨ L = 2 ∨ L = 3 ∨ L = 4 ∨ L = 5 ∨ L = 6 ∨ L = 7 ∨ L = 8 ∨ L = 9 := by omega
  rcases this with rfl | rfl | rfl | rfl | rfl | rfl | rfl | rfl | rfl | rfl <;> rfl
theorem cnt_own {A : Rv} {n : Nat} (h : isOwnS A n) : countN (fun l => n.testBit l.toNat) 9 = ownA A := by
  unfold ownA
  refine countN_congr (fun k a b => ?_)
  obtain ⟨m, rfl⟩ : ∃ m : Nat, k = m := ⟨k.toNat, by omega⟩
  have := h.2 m (by omega)
  show n.testBit m = occA A m
  cases h1 : n.testBit m <;> cases h2 : occA A m <;> simp_all
theorem cnt_empty {A : Rv} (hV : VR A) {n : Nat} (h : isEmptyS A n) : countN (fun l => n.testBit l.toNat) 9 = A 24 - ownA A := by
  have h9 := hV.2.1
  have h2 := hV.1
  obtain ⟨L, hL⟩ : ∃ L : Nat, A 24 = L := ⟨(A 24).toNat, by omega⟩
  have e : ownA A + countN (fun l => n.testBit l.toNat) 9 = countN (fun l => decide (l < (L : Int))) 9 := by
    unfold ownA
    refine countN_add (fun k a b => ?_)
    obtain ⟨m, rfl⟩ : ∃ m : Nat, k = m := ⟨k.toNat, by omega⟩
    have hm := h.2 m (by omega)
    show (decide ((m : Int) < L) = true ↔ occA A m = true ∨ n.testBit m = true) ∧ ¬ (occA A m = true ∧ n.testBit m = true)
    rw [hm, decide_eq_true_eq, hL]
    refine ⟨⟨fun g => ?_, fun g => ?_⟩, fun g => g.2.2 g.1⟩
    · by_cases w : occA A m = true
      · exact Or.inl w
      · exact Or.inr ⟨g, w⟩
    · rcases g with g | g
      · obtain ⟨k, k1, k2, k3⟩ := (occA_iff (by have := hV.2.2.1; omega)).mp g
        have := (hV.2.2.2.2.2.2.2 k k1 k2).1.2
        omega
      · exact g.1
  rw [countN_lt (by omega)] at e
  omega
theorem ownA_in (A : Rv) : 0 ≤ ownA A ∧ ownA A ≤ 9 := countN_in (occA A) 9
theorem f_ownerCount {μ : Mm} {r : Nat} {A : Rv} (hV : VR A) (hR : RR A (μ r)) : Sat (f_X2_ownerCount μ r) (fun z => z = ownA A) := by
  have h9 := hV.2.1
  have h2 := hV.1
  have ho := ownA_in A
  unfold f_X2_ownerCount
  refine si_call (f_emptyLawns hV hR) (fun z hz => si_some ?_)
  obtain ⟨n, rfl, hn⟩ := hz
  rw [bitCount_eq μ hn.1, cnt_empty hV hn, hR.1, w3_id (by omega) (by omega)]
  omega
/-- the lawns that have crumbs, as bits -/
def brA (A : Rv) : Int := orN (fun l => decide (0 < A (1 + l))) (fun l => bShl 1 l) (A 24).toNat
theorem f_breadLawns {μ : Mm} {r : Nat} {A : Rv} (h0 : 0 ≤ A 24) (h9 : A 24 ≤ 9) (hR : RR A (μ r)) : Sat (f_X2_breadLawns μ r) (fun z => z = brA A) := by
  unfold f_X2_breadLawns
  refine si_bind (si_loop (fun i (x : Int × Int) => x.2 = i ∧ (i : Int) ≤ A 24 ∧ x.1 = orN (fun l => decide (0 < A (1 + l))) (fun l => bShl 1 l) i) (A 24).toNat ?_ 1000 (0, 0) (by omega) ⟨rfl, by omega, rfl⟩)
  rintro i ⟨a, b⟩ hi ⟨hb, hiA, ha⟩
  dsimp only at hb ha ⊢
  subst hb
  have e1 := hR.1
  refine si_if (fun c => si_some (si_some ?_)) (fun c => ?_)
  · unfold brA
    rw [show (A 24).toNat = i by omega]
    exact ha
  have hp := hR.2.2.2.2.1 i (by omega) (by omega)
  have hs : orN (fun l => decide (0 < A (1 + l))) (fun l => bShl 1 l) (i + 1) = if 0 < A (1 + (i : Int)) then bOr a (bShl 1 i) else a := by
    show (if decide (0 < A (1 + (i : Int))) = true then _ else _) = _
    rw [← ha]
    by_cases c : 0 < A (1 + (i : Int))
    · rw [if_pos c, if_pos (by simpa using c)]
    · rw [if_neg c, if_neg (by simpa using c)]
  refine si_chk (by omega) (si_if (fun c1 => si_some ?_) (fun c1 => si_some ?_))
  · rw [hp] at c1
    refine ⟨by omega, by dsimp only; rw [w3_id (by omega) (by omega)]; omega, by omega, ?_⟩
    rw [hs, if_neg (by omega)]
  · rw [hp] at c1
    refine ⟨by omega, by dsimp only; rw [w3_id (by omega) (by omega)]; omega, by omega, ?_⟩
    rw [hs, if_pos (by omega)]
/-- sums by going through the first n -/
def sumN (f : Int → Int) : Nat → Int
  | 0 => 0
  | n + 1 => sumN f n + f (n : Int)
def crumbsA (A : Rv) : Int := sumN (fun l => A (1 + l)) (A 24).toNat
theorem sumN_in {f : Int → Int} {n : Nat} {B : Int} (hB : 0 ≤ B) (h : ∀ k : Int, 0 ≤ k → k < n → 0 ≤ f k ∧ f k ≤ B) : 0 ≤ sumN f n ∧ sumN f n ≤ B * n := by
  induction n with
  | zero => exact ⟨Int.le_refl _, by show (0 : Int) ≤ B * 0; omega⟩
  | succ n ih =>
    have h1 := ih (fun k a b => h k a (by omega))
    have h2 := h n (by omega) (by omega)
    show 0 ≤ sumN f n + f n ∧ sumN f n + f n ≤ B * ((n + 1 : Nat) : Int)
    rw [show ((n + 1 : Nat) : Int) = (n : Int) + 1 by omega, Int.mul_add]
    omega
theorem f_crumbSum {μ : Mm} {r : Nat} {A : Rv} (h0 : 0 ≤ A 24) (h9 : A 24 ≤ 9) (hc : ∀ l, 0 ≤ l → l < A 24 → 0 ≤ A (1 + l) ∧ A (1 + l) ≤ 99) (hR : RR A (μ r)) : Sat (f_X2_crumbSum μ r) (fun z => z = crumbsA A) := by
  unfold f_X2_crumbSum
  refine si_bind (si_loop (fun i (x : Int × Int) => x.2 = i ∧ (i : Int) ≤ A 24 ∧ x.1 = sumN (fun l => A (1 + l)) i) (A 24).toNat ?_ 1000 (0, 0) (by omega) ⟨rfl, by omega, rfl⟩)
  rintro i ⟨a, b⟩ hi ⟨hb, hiA, ha⟩
  dsimp only at hb ha ⊢
  subst hb
  have e1 := hR.1
  have hs := sumN_in (f := fun l => A (1 + l)) (n := i) (B := 99) (by decide) (fun k p q => hc k p (by omega))
  refine si_if (fun c => si_some (si_some ?_)) (fun c => ?_)
  · unfold crumbsA
    rw [show (A 24).toNat = i by omega]
    exact ha
  have hp := hR.2.2.2.2.1 i (by omega) (by omega)
  have hci := hc i (by omega) (by omega)
  refine si_chk (by omega) (si_bnd (si_some ⟨by omega, by dsimp only; rw [w3_id (by omega) (by omega)]; omega, by omega, ?_⟩))
  show w3 (a + μ r (1 + i)) = sumN (fun l => A (1 + l)) i + A (1 + (i : Int))
  rw [hp, ha, w3_id (by omega) (by omega)]
/-- the first of the days 1 .. n behind which the swan is elsewhere than at first: how many go by ahead of it (n: none) -/
def heldA (A : Rv) (k : Int) : Nat → Int
  | 0 => 0
  | n + 1 => if heldA A k n < n then heldA A k n else if itD A (n + 1) (11 + k) = A (11 + k) then n + 1 else n
theorem heldA_in (A : Rv) (k : Int) (n : Nat) : 0 ≤ heldA A k n ∧ heldA A k n ≤ n := by
  induction n with
  | zero => exact ⟨Int.le_refl _, Int.le_refl _⟩
  | succ n ih =>
    unfold heldA
    split
    · omega
    · split <;> omega
theorem heldA_stop {A : Rv} {k : Int} {n : Nat} (h : heldA A k n < n) (m : Nat) : heldA A k (n + m) = heldA A k n := by
  induction m with
  | zero => rfl
  | succ m ih =>
    show (if heldA A k (n + m) < ((n + m : Nat) : Int) then heldA A k (n + m) else if itD A (n + m + 1) (11 + k) = A (11 + k) then ((n + m : Nat) : Int) + 1 else ((n + m : Nat) : Int)) = _
    rw [if_pos (by rw [ih]; omega)]
    exact ih
theorem f_daysHeld {μ : Mm} {r : Nat} {A : Rv} (hV : VR A) (hR : RR A (μ r)) (hD : 0 ≤ μ r 40 ∧ μ r 40 ≤ 1000) {k : Int} (hk : 0 ≤ k ∧ k < A 25) : Sat (f_X2_daysHeld μ r k) (fun z => z.1 = heldA A k 60 ∧ ∀ g, g ≠ r → z.2 g = μ g) := by
  have h6 := hV.2.2.2.1
  unfold f_X2_daysHeld
  refine si_chk (by omega) (si_bind (si_loop (fun i (x : Int × Mm) => x.1 = i ∧ i ≤ 60 ∧ heldA A k i = i ∧ (∀ g, g ≠ r → x.2 g = μ g) ∧ RR (itD A i) (x.2 r) ∧ x.2 r 40 = μ r 40 + sumLost A i) 60 ?_ 1000 (0, μ) (by decide) ⟨rfl, by decide, rfl, fun _ _ => rfl, hR, by show μ r 40 = μ r 40 + 0; omega⟩))
  rintro i ⟨b, m⟩ hi ⟨hb, hi60, hh, f1, f2, f3⟩
  dsimp only at hb f1 f2 f3 ⊢
  subst hb
  have hsl := sumLost_in hV i
  obtain ⟨w1, w2, w3', w4⟩ := VR_it hV i
  refine si_if (fun c => si_some (si_some ?_)) (fun c => si_call (f_passDay w1 f2 (by omega)) (fun z hz => si_chk (by omega) ?_))
  · have : i = 60 := by omega
    subst this
    exact ⟨hh.symm, f1⟩
  obtain ⟨g1, g2, g3, g4⟩ := hz
  obtain ⟨x1, x2, x3, x4⟩ := VR_it hV (i + 1)
  have hp1 : z r (11 + k) = itD A (i + 1) (11 + k) := (g2.2.2.2.2.2 k hk.1 (by rw [show dayA (itD A i) 25 = itD A (i + 1) 25 from rfl, x3]; exact hk.2)).1
  have hp0 : μ r (11 + k) = A (11 + k) := (hR.2.2.2.2.2 k hk.1 hk.2).1
  have hn1 : heldA A k (i + 1) = if itD A (i + 1) (11 + k) = A (11 + k) then (i : Int) + 1 else i := by
    show (if heldA A k i < i then _ else _) = _
    rw [if_neg (by omega)]
  refine si_if (fun c1 => si_some ?_) (fun c1 => si_some (si_some ?_))
  · rw [hp1, hp0] at c1
    rw [if_pos c1] at hn1
    refine ⟨by omega, by dsimp only; rw [w3_id (by omega) (by omega)]; omega, by omega, by rw [hn1]; omega, fun g hg => (g1 g hg).trans (f1 g hg), g2, ?_⟩
    show z r 40 = μ r 40 + (sumLost A i + dayLost (itD A i))
    omega
  · rw [hp1, hp0] at c1
    rw [if_neg c1] at hn1
    refine ⟨?_, fun g hg => (g1 g hg).trans (f1 g hg)⟩
    show (i : Int) = heldA A k 60
    have := heldA_stop (A := A) (k := k) (n := i + 1) (by omega) (60 - (i + 1))
    rw [show i + 1 + (60 - (i + 1)) = 60 by omega, hn1] at this
    exact this.symm
/-- how many swans are on another lawn in B than in A -/
def elseA (A B : Rv) : Int := countN (fun k => decide (A (11 + k) ≠ B (11 + k))) (A 25).toNat
theorem f_countElsewhere {μ : Mm} {r q : Nat} {A B : Rv} (h0 : 0 ≤ A 25) (h6 : A 25 ≤ 6) (hR : RR A (μ r)) (hq : RR B (μ q)) (hB : B 25 = A 25) : Sat (f_X2_countElsewhere μ r q) (fun z => z = elseA A B) := by
  unfold f_X2_countElsewhere
  refine si_bind (si_loop (fun i (x : Int × Int) => x.2 = i ∧ (i : Int) ≤ A 25 ∧ x.1 = countN (fun k => decide (A (11 + k) ≠ B (11 + k))) i) (A 25).toNat ?_ 1000 (0, 0) (by omega) ⟨rfl, by omega, rfl⟩)
  rintro i ⟨a, b⟩ hi ⟨hb, hiA, ha⟩
  dsimp only at hb ha ⊢
  subst hb
  have e2 := hR.2.1
  have hcn := countN_in (fun k => decide (A (11 + k) ≠ B (11 + k))) i
  refine si_if (fun c => si_some (si_some ?_)) (fun c => ?_)
  · unfold elseA
    rw [show (A 25).toNat = i by omega]
    exact ha
  have hp := (hR.2.2.2.2.2 i (by omega) (by omega)).1
  have hp2 := (hq.2.2.2.2.2 i (by omega) (by omega)).1
  have hs : countN (fun k => decide (A (11 + k) ≠ B (11 + k))) (i + 1) = if A (11 + (i : Int)) = B (11 + (i : Int)) then a else a + 1 := by
    show (if decide (A (11 + (i : Int)) ≠ B (11 + (i : Int))) = true then _ else _) = _
    rw [← ha]
    by_cases c : A (11 + (i : Int)) = B (11 + (i : Int))
    · rw [if_pos c, if_neg (by simpa using c)]
    · rw [if_neg c, if_pos (by simpa using c)]
  refine si_chk (by omega) (si_chk (by omega) (si_if (fun c1 => si_some ?_) (fun c1 => si_some ?_)))
  · rw [hp, hp2] at c1
    refine ⟨by omega, by dsimp only; rw [w3_id (by omega) (by omega)]; omega, by omega, ?_⟩
    rw [hs, if_pos c1]
  · rw [hp, hp2] at c1
    refine ⟨by omega, by dsimp only; rw [w3_id (by omega) (by omega)]; omega, by omega, ?_⟩
    rw [hs, if_neg c1]
    show w3 (a + 1) = a + 1
    rw [w3_id (by omega) (by omega)]
