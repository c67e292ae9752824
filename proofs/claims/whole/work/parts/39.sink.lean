/-! IF CRUMBS SINK; YEARS BY DRAWS. -/
-- longs that are there by divisions
theorem J6_sub (x y : Int) : J6 x - J6 y = J6 (w6 (x - y)) := by rw [J6_w6]; exact (Int64.ofInt_sub x y).symm
theorem J6_div {a b : Nat} (ha : a < 4611686018427387904) (hb : b < 4611686018427387904) : J6 (a : Int) / J6 (b : Int) = J6 ((a / b : Nat) : Int) := by
  have h := Int64.ofInt_tdiv (a := (a : Int)) (b := (b : Int)) (by rw [Int64.toInt_minValue]; omega) (by rw [Int64.toInt_maxValue]; omega) (by rw [Int64.toInt_minValue]; omega) (by rw [Int64.toInt_maxValue]; omega)
  exact h.symm
theorem lDiv_nat {a b : Nat} (ha : a < 4611686018427387904) (hb : b < 4611686018427387904) : lDiv a b = ((a / b : Nat) : Int) := by
  have h := Nat.div_le_self a b
  unfold lDiv
  rw [J6_div ha hb]
  generalize a / b = q at *
  exact w6_id (by omega) (by omega)
theorem lRem_nat {a b : Nat} (ha : a < 4611686018427387904) (hb : b < 4611686018427387904) : lRem a b = ((a % b : Nat) : Int) := by
  have h := Nat.mod_le a b
  have h2 : ((b * (a / b) + a % b : Nat) : Int) = a := by rw [Nat.div_add_mod]
  rw [Int.natCast_add, Int.natCast_mul, Int.mul_comm] at h2
  unfold lRem
  rw [J6_div ha hb, J6_mul, J6_sub]
  generalize a / b = q at *
  generalize a % b = r at *
  have h0 : (0 : Int) ≤ (q : Int) * (b : Int) := Int.mul_nonneg (by omega) (by omega)
  generalize (q : Int) * (b : Int) = qb at *
  rw [w6_id (x := qb) (by omega) (by omega), show (a : Int) - qb = (r : Int) by omega, w6_id (by omega) (by omega)]
  exact w6_id (by omega) (by omega)
theorem cmp3_0 {x : Int} : cmp3 x 0 = 0 ↔ x = 0 := by
  unfold cmp3
  by_cases h : 0 < x
  · rw [if_pos h]
    constructor
    · intro q; cases q
    · intro q; omega
  · rw [if_neg h]
    by_cases h2 : x = 0
    · rw [if_pos h2]
      exact ⟨fun _ => h2, fun _ => rfl⟩
    · rw [if_neg h2]
      constructor
      · intro q; cases q
      · intro q; exact absurd q h2
-- Euclid's steps
def XY : Nat → Nat × Nat
  | 0 => (1000000000000, 1000000000000)
  | n + 1 => ((XY n).2 / 2, (XY n).1)
theorem XY_end : (XY 84).1 = 0 := by decide +kernel
def euI (i : Nat) (a b : Nat) : Prop := a ≤ 1000000000000 ∧ b ≤ 1000000000000 ∧ 0 < a + b ∧ ∀ j, i = j + 1 → b ≤ a ∧ b ≤ (XY j).1 ∧ a ≤ (XY j).2
theorem euI_s {i a b : Nat} (h : euI i a b) (hb : b ≠ 0) : euI (i + 1) b (a % b) := by
  obtain ⟨h1, h2, h3, h4⟩ := h
  have hm := Nat.mod_lt a (show b > 0 by omega)
  refine ⟨h2, by omega, by omega, fun j hj => ?_⟩
  have : j = i := by omega
  subst this
  cases j with
  | zero => exact ⟨by omega, by show a % b ≤ 1000000000000; omega, h2⟩
  | succ j =>
    obtain ⟨g1, g2, g3⟩ := h4 j rfl
    refine ⟨by omega, ?_, g2⟩
    have e : a % b = (a - b) % b := Nat.mod_eq_sub_mod g1
    have e2 := Nat.mod_le (a - b) b
    show a % b ≤ (XY j).2 / 2
    omega
theorem both_gcd {μ : Mm} {a b : Nat} (ha : a ≤ 1000000000000) (hb : b ≤ 1000000000000) (h0 : 0 < a + b) : Sat (f_X5_sharedDivisor μ a b) (fun z => Sat (loopO (fun (x101 : Int × Int) => if (cmp3 x101.2 0) = 0 then (some (.inr x101)) else (chk (¬ x101.2 = (0 : Int)) (some (.inl (x101.2, lRem x101.1 x101.2))))) 1000 ((a : Int), (b : Int))) (fun y : Int × Int => ∃ g : Nat, 0 < g ∧ g ≤ 1000000000000 ∧ z = g ∧ y.1 = g)) := by
  unfold f_X5_sharedDivisor
  refine si_call (P := fun x : Int × Int × Int => Sat (loopO (fun (x101 : Int × Int) => if (cmp3 x101.2 0) = 0 then (some (.inr x101)) else (chk (¬ x101.2 = (0 : Int)) (some (.inl (x101.2, lRem x101.1 x101.2))))) 1000 ((a : Int), (b : Int))) (fun y : Int × Int => ∃ g : Nat, 0 < g ∧ g ≤ 1000000000000 ∧ x.1 = g ∧ y.1 = g)) (si_loop2 (fun i (x : Int × Int × Int) (y : Int × Int) => ∃ u v : Nat, x = ((u : Int), (v : Int), (i : Int)) ∧ y = ((u : Int), (v : Int)) ∧ euI i u v) 86 ?_ 1000 1000 _ _ (by decide) (by decide) ⟨a, b, rfl, rfl, ha, hb, h0, fun j hj => by omega⟩) (fun x hx => si_some hx)
  rintro i x y hi ⟨u, v, rfl, rfl, hE⟩
  have hE' := hE
  obtain ⟨h1, h2, h3, h4⟩ := hE
  dsimp only
  by_cases c : v = 0
  · have cz : (v : Int) = 0 := by omega
    have hend : (∃ g : Nat, 0 < g ∧ g ≤ 1000000000000 ∧ (u : Int) = g ∧ (u : Int) = g) := ⟨u, by omega, by omega, rfl, rfl⟩
    refine si_if (fun q => si_some (si_t (cmp3_0.mpr cz) (si_some hend))) (fun q => si_t (cmp3_0.mpr cz) (si_some (si_t (cmp3_0.mpr cz) (si_some hend))))
  · have cz : ¬ (v : Int) = 0 := by omega
    have hi86 : i < 86 := by
      by_cases q : i = 86
      · subst q
        have := (h4 85 rfl).2.1
        have e : (XY 85).1 = 0 := by decide +kernel
        omega
      · omega
    refine si_f (by omega) (si_f (fun q => cz (cmp3_0.mp q)) (si_chk cz (si_some (si_f (fun q => cz (cmp3_0.mp q)) (si_chk cz (si_some ⟨hi86, v, u % v, ?_, ?_, euI_s hE' c⟩))))))
    · rw [lRem_nat (by omega) (by omega), w3s i (by omega)]
    · rw [lRem_nat (by omega) (by omega)]
-- sets of lawns
theorem orN_bits (P : Int → Bool) : ∀ i : Nat, i ≤ 9 → ∃ n : Nat, n < 512 ∧ orN P (fun l => bShl 1 l) i = n ∧ ∀ l : Nat, n.testBit l = true ↔ (l < i ∧ P (l : Int) = true) := by
  intro i
  induction i with
  | zero => exact fun _ => ⟨0, by decide, rfl, fun l => by simp⟩
  | succ i ih =>
    intro hi
    obtain ⟨n, h1, h2, h3⟩ := ih (by omega)
    show ∃ n : Nat, n < 512 ∧ (if P (i : Int) = true then bOr (orN P (fun l => bShl 1 l) i) (bShl 1 (i : Int)) else orN P (fun l => bShl 1 l) i) = n ∧ _
    rw [h2]
    by_cases c : P (i : Int) = true
    · have hpw : 2 ^ i < 2 ^ 9 := Nat.pow_lt_pow_right (by decide) (by omega)
      rw [if_pos c, bShl1 i (by omega), bOr_nat (by omega) (by omega)]
      refine ⟨n ||| 2 ^ i, Nat.or_lt_two_pow (n := 9) h1 hpw, rfl, fun l => ?_⟩
      rw [Nat.testBit_or, Bool.or_eq_true, h3 l, Nat.testBit_two_pow, decide_eq_true_eq]
      constructor
      · rintro (⟨p, q⟩ | rfl)
        · exact ⟨by omega, q⟩
        · exact ⟨by omega, c⟩
      · rintro ⟨p, q⟩
        by_cases w : i = l
        · exact Or.inr w
        · exact Or.inl ⟨by omega, q⟩
    · rw [if_neg c]
      refine ⟨n, h1, rfl, fun l => ?_⟩
      rw [h3 l]
      constructor
      · rintro ⟨p, q⟩; exact ⟨by omega, q⟩
      · rintro ⟨p, q⟩
        by_cases w : i = l
        · subst w; exact absurd q c
        · exact ⟨by omega, q⟩
theorem brA_bits {A : Rv} (hV : VR A) : ∃ n : Nat, n < 512 ∧ brA A = n ∧ ∀ l : Nat, n.testBit l = true ↔ ((l : Int) < A 24 ∧ 0 < A (1 + (l : Int))) := by
  have h2 := hV.1
  have h9 := hV.2.1
  obtain ⟨n, h1, h2', h3⟩ := orN_bits (fun l => decide (0 < A (1 + l))) (A 24).toNat (by omega)
  refine ⟨n, h1, h2', fun l => ?_⟩
  rw [h3 l, decide_eq_true_eq]
  constructor
  · rintro ⟨p, q⟩; exact ⟨by omega, q⟩
  · rintro ⟨p, q⟩; exact ⟨by omega, q⟩
theorem bAndNot {a b : Nat} (ha : a < 512) (hb : b < 512) : bAnd a (bXor b (-1)) = ((a &&& ((2 ^ 32 - 1) ^^^ b) : Nat) : Int) := by
  have e1 : I3 (bXor b (-1)) = I3 (b : Int) ^^^ I3 (-1) := I3_toInt _
  have em : (I3 (-1)).toBitVec.toNat = 2 ^ 32 - 1 := by decide +kernel
  have h : (I3 (a : Int) &&& (I3 (b : Int) ^^^ I3 (-1))).toBitVec.toNat = a &&& ((2 ^ 32 - 1) ^^^ b) := by
    rw [Int32.toBitVec_and, BitVec.toNat_and, Int32.toBitVec_xor, BitVec.toNat_xor, I3_nat (by omega), I3_nat (by omega), em, Nat.xor_comm]
  have hle : a &&& ((2 ^ 32 - 1) ^^^ b) ≤ a := Nat.and_le_left
  unfold bAnd
  rw [e1, toInt_nat (by rw [h]; omega), h]
theorem sub_iff {a b : Nat} (ha : a < 512) (hb : b < 512) : bAnd a (bXor b (-1)) = 0 ↔ ∀ l : Nat, a.testBit l = true → b.testBit l = true := by
  rw [bAndNot ha hb]
  have hbit : ∀ l : Nat, l < 32 → (a &&& ((2 ^ 32 - 1) ^^^ b)).testBit l = (a.testBit l && !(b.testBit l)) := fun l hl => by
    rw [Nat.testBit_and, Nat.testBit_xor, Nat.testBit_two_pow_sub_one, decide_eq_true hl, Bool.true_xor]
  have ha9 : ∀ l : Nat, a.testBit l = true → l < 9 := fun l h => by
    by_cases c : l < 9
    · exact c
    · have h2 := Nat.ge_two_pow_of_testBit h
      have : 2 ^ 9 ≤ 2 ^ l := Nat.pow_le_pow_right (by decide) (by omega)
      omega
  constructor
  · intro h l hl
    have h0 : a &&& ((2 ^ 32 - 1) ^^^ b) = 0 := by omega
    have := hbit l (by have := ha9 l hl; omega)
    rw [h0, Nat.zero_testBit, hl] at this
    cases q : b.testBit l
    · rw [q] at this; cases this
    · rfl
  · intro h
    have : a &&& ((2 ^ 32 - 1) ^^^ b) = 0 := by
      refine Nat.eq_of_testBit_eq (fun l => ?_)
      rw [Nat.zero_testBit]
      by_cases c : l < 32
      · rw [hbit l c]
        cases q : a.testBit l
        · rfl
        · rw [h l q]; rfl
      · rw [Nat.testBit_and]
        cases q : a.testBit l
        · rfl
        · exact absurd (ha9 l q) (by omega)
    rw [this]; rfl
-- how many ways
def fac (A : Rv) (p s : Nat) (l : Nat) : Nat := if 0 < A (1 + (l : Int)) then (if s.testBit l = true then p else 10 - p) else (if s.testBit l = true then 0 else 1)
def waysN (A : Rv) (p s : Nat) : Nat → Nat
  | 0 => 1
  | l + 1 => waysN A p s l * fac A p s l
def downN (A : Rv) : Nat → Nat
  | 0 => 1
  | l + 1 => downN A l * (if 0 < A (1 + (l : Int)) then 10 else 1)
theorem fac_le {A : Rv} {p s l : Nat} (hp : p ≤ 10) : fac A p s l ≤ 10 := by
  unfold fac
  split
  · split <;> omega
  · split <;> omega
theorem ways_le {A : Rv} {p s : Nat} (hp : p ≤ 10) (l : Nat) : waysN A p s l ≤ 10 ^ l := by
  induction l with
  | zero => exact Nat.le_refl _
  | succ l ih => exact Nat.mul_le_mul ih (fac_le hp)
theorem down_le (A : Rv) (l : Nat) : downN A l ≤ 10 ^ l ∧ 0 < downN A l := by
  induction l with
  | zero => exact ⟨Nat.le_refl _, by show 0 < 1; decide⟩
  | succ l ih =>
    refine ⟨Nat.mul_le_mul ih.1 (by split <;> omega), Nat.mul_pos ih.2 (by split <;> omega)⟩
def cB (P : Nat → Bool) : Nat → Nat
  | 0 => 0
  | l + 1 => if P l = true then cB P l + 1 else cB P l
theorem cB_eq (n : Nat) : cnt n = cB (fun l => n.testBit l) 9 := by
  have : ∀ k : Nat, countN (fun l => n.testBit l.toNat) k = cB (fun l => n.testBit l) k := by
    intro k
    induction k with
    | zero => rfl
    | succ k ih =>
      show (if n.testBit ((k : Int)).toNat = true then countN (fun l => n.testBit l.toNat) k + 1 else countN (fun l => n.testBit l.toNat) k) = ((if n.testBit k = true then cB (fun l => n.testBit l) k + 1 else cB (fun l => n.testBit l) k : Nat) : Int)
      rw [ih, Int.toNat_natCast]
      split
      · rfl
      · rfl
  exact this 9
theorem cB_ext {P : Nat → Bool} {L : Nat} (h : ∀ l, L ≤ l → P l = false) (d : Nat) : cB P (L + d) = cB P L := by
  induction d with
  | zero => rfl
  | succ d ih =>
    show (if P (L + d) = true then cB P (L + d) + 1 else cB P (L + d)) = _
    rw [h (L + d) (by omega), if_neg (by decide), ih]
theorem cB_add {P Q R : Nat → Bool} (h : ∀ l, R l = (P l || Q l) ∧ (P l && Q l) = false) (n : Nat) : cB P n + cB Q n = cB R n := by
  induction n with
  | zero => rfl
  | succ n ih =>
    obtain ⟨h1, h2⟩ := h n
    show (if P n = true then cB P n + 1 else cB P n) + (if Q n = true then cB Q n + 1 else cB Q n) = if R n = true then cB R n + 1 else cB R n
    rw [h1]
    cases hp : P n <;> cases hq : Q n
    · simp; omega
    · simp; omega
    · simp; omega
    · rw [hp, hq] at h2; cases h2
theorem down_eq {A : Rv} {n : Nat} (hn : ∀ l : Nat, n.testBit l = true ↔ ((l : Int) < A 24 ∧ 0 < A (1 + (l : Int)))) (l : Nat) (hl : (l : Int) ≤ A 24) : downN A l = 10 ^ cB (fun l => n.testBit l) l := by
  induction l with
  | zero => rfl
  | succ l ih =>
    show downN A l * (if 0 < A (1 + (l : Int)) then 10 else 1) = 10 ^ (if n.testBit l = true then cB (fun l => n.testBit l) l + 1 else cB (fun l => n.testBit l) l)
    rw [ih (by omega)]
    by_cases c : 0 < A (1 + (l : Int))
    · rw [if_pos c, if_pos ((hn l).mpr ⟨by omega, c⟩), Nat.pow_succ]
    · rw [if_neg c, if_neg (fun q => c ((hn l).mp q).2), Nat.mul_one]
theorem ways_eq {A : Rv} {n p s : Nat} (hn : ∀ l : Nat, n.testBit l = true ↔ ((l : Int) < A 24 ∧ 0 < A (1 + (l : Int)))) (hs : ∀ l : Nat, s.testBit l = true → n.testBit l = true) (l : Nat) (hl : (l : Int) ≤ A 24) : waysN A p s l = p ^ cB (fun l => s.testBit l) l * (10 - p) ^ cB (fun l => n.testBit l && !(s.testBit l)) l := by
  induction l with
  | zero => rfl
  | succ l ih =>
    show waysN A p s l * fac A p s l = p ^ (if s.testBit l = true then cB (fun l => s.testBit l) l + 1 else cB (fun l => s.testBit l) l) * (10 - p) ^ (if (n.testBit l && !(s.testBit l)) = true then cB (fun l => n.testBit l && !(s.testBit l)) l + 1 else cB (fun l => n.testBit l && !(s.testBit l)) l)
    rw [ih (by omega)]
    unfold fac
    by_cases c : 0 < A (1 + (l : Int))
    · have hb : n.testBit l = true := (hn l).mpr ⟨by omega, c⟩
      rw [if_pos c, hb]
      by_cases d : s.testBit l = true
      · rw [if_pos d, if_pos d, d, if_neg (by decide), Nat.pow_succ, Nat.mul_right_comm]
      · have d' : s.testBit l = false := by
          cases q : s.testBit l
          · rfl
          · exact absurd q d
        rw [if_neg d, if_neg d, d', if_pos (by decide), Nat.pow_succ, Nat.mul_assoc]
    · have hb : ¬ n.testBit l = true := fun q => c ((hn l).mp q).2
      have hsb : s.testBit l = false := by
        cases q : s.testBit l
        · rfl
        · exact absurd (hs l q) hb
      have hb' : n.testBit l = false := by
        cases q : n.testBit l
        · rfl
        · exact absurd q hb
      rw [if_neg c, hsb, hb']
      simp
theorem ways_0 {A : Rv} {p s : Nat} {l : Nat} (hl : fac A p s l = 0) : ∀ k : Nat, l < k → waysN A p s k = 0 := by
  intro k
  induction k with
  | zero => intro h; omega
  | succ k ih =>
    intro h
    show waysN A p s k * fac A p s k = 0
    by_cases c : l = k
    · subst c; rw [hl, Nat.mul_zero]
    · rw [ih (by omega), Nat.zero_mul]
def sinkS (A : Rv) (s : Nat) : Nat → Rv
  | 0 => A
  | l + 1 => if s.testBit l = true then up (sinkS A s l) (1 + (l : Int)) 0 else sinkS A s l
theorem VR_sink {A : Rv} (hV : VR A) (s : Nat) (l : Nat) (hl : (l : Int) ≤ A 24) : VR (sinkS A s l) ∧ sinkS A s l 24 = A 24 ∧ sinkS A s l 25 = A 25 ∧ ∀ o : Int, 1 + (l : Int) ≤ o → sinkS A s l o = A o := by
  have h9 := hV.2.1
  induction l with
  | zero => exact ⟨hV, rfl, rfl, fun _ _ => rfl⟩
  | succ l ih =>
    obtain ⟨h1, h2, h3, h4⟩ := ih (by omega)
    show VR (if s.testBit l = true then up (sinkS A s l) (1 + (l : Int)) 0 else sinkS A s l) ∧ (if s.testBit l = true then up (sinkS A s l) (1 + (l : Int)) 0 else sinkS A s l) 24 = A 24 ∧ (if s.testBit l = true then up (sinkS A s l) (1 + (l : Int)) 0 else sinkS A s l) 25 = A 25 ∧ ∀ o : Int, 1 + ((l + 1 : Nat) : Int) ≤ o → (if s.testBit l = true then up (sinkS A s l) (1 + (l : Int)) 0 else sinkS A s l) o = A o
    have h6 := h1.2.2.2.1
    by_cases c : s.testBit l = true
    · rw [if_pos c]
      exact ⟨VR_up h1 (by omega) (fun _ _ _ _ => by omega) (fun k a b => ⟨fun _ => by omega, fun _ => by omega, fun _ => by omega, fun _ => by omega⟩), (up_n (by omega)).trans h2, (up_n (by omega)).trans h3, fun o ho => (up_n (by omega)).trans (h4 o (by omega))⟩
    · rw [if_neg c]
      exact ⟨h1, h2, h3, fun o ho => h4 o (by omega)⟩
def sinkA (A : Rv) (s : Nat) : Rv := sinkS A s (A 24).toNat
def comesS (A : Rv) (s : Nat) (k l : Int) : Prop := bAnd s (bXor (brA A) (-1)) = 0 ∧ dayA (sinkA A s) (11 + k) = l
theorem f_comesS {μ : Mm} {A : Rv} (hV : VR A) (hR : RR A (μ 0)) {s : Nat} (hs : s < 512) {k l : Int} (hk : 0 ≤ k ∧ k < A 25) : Sat (f_X5_comesBySinking μ s k l) (fun z => frC μ z.2 ∧ ((z.1 = 1 ∧ comesS A s k l) ∨ (z.1 = 0 ∧ ¬ comesS A s k l))) := by
  have h9 := hV.2.1
  have h6 := hV.2.2.2.1
  have h2 := hV.1
  unfold f_X5_comesBySinking
  refine si_call (f_breadLawns (by omega) h9 hR) (fun z hz => ?_)
  rw [hz]
  refine si_if (fun c => ?_) (fun c => si_some ⟨frC_rf μ, Or.inr ⟨rfl, fun q => c q.1⟩⟩)
  refine si_call (f_become (r := 3) (q := 0) (by decide)) (fun z hz => ?_)
  obtain ⟨g1, g2, g3, g4⟩ := hz
  refine si_call (P := fun e : Int × Mm => (∀ g, g ≠ 3 → e.2 g = μ g) ∧ RR (sinkA A s) (e.2 3) ∧ e.2 3 40 = 0) (si_loop (fun i (x : Int × Mm) => x.1 = i ∧ (i : Int) ≤ A 24 ∧ (∀ g, g ≠ 3 → x.2 g = μ g) ∧ RR (sinkS A s i) (x.2 3) ∧ x.2 3 40 = 0) (A 24).toNat ?_ 1000 (0, z) (by omega) ⟨rfl, by omega, g1, RR_copy hV.2.1 hV.2.2.2.1 hR g2, g3⟩) (fun e he => ?_)
  · rintro i ⟨b, m⟩ hi ⟨hb, hiA, f1, f2, f3⟩
    dsimp only at hb f1 f2 f3 ⊢
    subst hb
    have e24 : m 0 24 = A 24 := by rw [f1 0 (by decide)]; exact hR.1
    simp only [e24]
    refine si_if (fun c => si_some ?_) (fun c => ?_)
    · unfold sinkA
      rw [show (A 24).toNat = i by omega]
      exact ⟨f1, f2, f3⟩
    have hbit : bAnd (bShr (s : Int) (i : Int)) 1 = if s.testBit i then 1 else 0 := bitN_small s hs i (by omega)
    rw [hbit]
    by_cases ct : s.testBit i = true
    · rw [if_pos ct]
      refine si_t rfl (si_chk (by omega) (si_bnd (si_some ⟨by omega, w3s i (by omega), by omega, fun g hg => by dsimp only; rw [sM_g hg]; exact f1 g hg, ?_, by dsimp only; rw [sM_n (by omega)]; exact f3⟩)))
      show RR (if s.testBit i = true then up (sinkS A s i) (1 + (i : Int)) 0 else sinkS A s i) (sM m 3 (1 + (i : Int)) 0 3)
      rw [if_pos ct, sM_r]
      exact RR_up f2 (by omega) (by omega)
    · rw [if_neg ct]
      refine si_f (by decide) (si_some ⟨by omega, w3s i (by omega), by omega, f1, ?_, f3⟩)
      show RR (if s.testBit i = true then up (sinkS A s i) (1 + (i : Int)) 0 else sinkS A s i) (m 3)
      rw [if_neg ct]
      exact f2
  · obtain ⟨e1, e2, e3⟩ := he
    obtain ⟨v1, v2, v3, v4⟩ := VR_sink hV s (A 24).toNat (by omega)
    refine si_call (f_passDay (A := sinkA A s) v1 e2 (by omega)) (fun y hy => si_chk (by omega) ?_)
    have hp : y 3 (11 + k) = dayA (sinkA A s) (11 + k) := (hy.2.1.2.2.2.2.2 k hk.1 (by rw [(VR_day (A := sinkA A s) v1).2.2.1]; unfold sinkA; rw [v3]; exact hk.2)).1
    rw [hp]
    have hf : frC μ y := fun g a b => (hy.1 g a).trans (e1 g a)
    exact si_if (fun c' => si_some ⟨hf, Or.inl ⟨rfl, c, c'⟩⟩) (fun c' => si_some ⟨hf, Or.inr ⟨rfl, fun q => c' q.2⟩⟩)
theorem pow10 {k : Nat} (h : k ≤ 9) : 10 ^ k ≤ 1000000000 := Nat.pow_le_pow_right (j := 9) (by decide) h
theorem f_power (μ : Mm) {b t : Nat} (hb : b ≤ 10) (ht : t ≤ 9) : Sat (f_X5_power μ b t) (fun z => z = ((b ^ t : Nat) : Int)) := by
  unfold f_X5_power
  refine si_call (P := fun e : Int × Int => e.1 = ((b ^ t : Nat) : Int)) (si_loop (fun i (x : Int × Int) => x.2 = i ∧ i ≤ t ∧ x.1 = ((b ^ i : Nat) : Int)) t ?_ 1000 (1, 0) (by omega) ⟨rfl, by omega, rfl⟩) (fun e he => si_some he)
  rintro i ⟨a, x⟩ hi ⟨hx, hit, ha⟩
  dsimp only at hx ha ⊢
  subst hx ha
  refine si_if (fun c => si_some ?_) (fun c => si_some ⟨by omega, w3s i (by omega), by omega, ?_⟩)
  · show ((b ^ i : Nat) : Int) = _
    rw [show i = t by omega]
  · have h1 : b ^ (i + 1) ≤ 10 ^ (i + 1) := Nat.pow_le_pow_left hb _
    have h2 := pow10 (k := i + 1) (by omega)
    show w6 (((b ^ i : Nat) : Int) * (b : Int)) = _
    have e : ((b ^ i : Nat) : Int) * (b : Int) = ((b ^ (i + 1) : Nat) : Int) := by rw [Nat.pow_succ, Int.natCast_mul]
    rw [e, w6_id (by omega) (by omega)]
theorem f_casesOf {μ : Mm} {A : Rv} (hV : VR A) (hR : RR A (μ 0)) {s p : Nat} (hs : s < 512) (hp : p ≤ 10) (hsub : bAnd s (bXor (brA A) (-1)) = 0) : Sat (f_X5_casesOf μ s p) (fun z => z = waysN A p s (A 24).toNat) := by
  have h9 := hV.2.1
  have h2 := hV.1
  obtain ⟨n, n1, n2, n3⟩ := brA_bits hV
  rw [n2] at hsub
  have hsub' := (sub_iff hs n1).mp hsub
  obtain ⟨d, hd⟩ : ∃ d, (A 24).toNat + d = 9 := ⟨9 - (A 24).toNat, by omega⟩
  have hnz : ∀ l, (A 24).toNat ≤ l → n.testBit l = false := fun l hl => by
    cases q : n.testBit l
    · rfl
    · have := ((n3 l).mp q).1; omega
  have hsz : ∀ l, (A 24).toNat ≤ l → s.testBit l = false := fun l hl => by
    cases q : s.testBit l
    · rfl
    · have := hsub' l q; rw [hnz l hl] at this; cases this
  have es := cB_eq s
  have en := cB_eq n
  have e1 := cB_ext (P := fun l => s.testBit l) hsz d
  have e2 := cB_ext (P := fun l => n.testBit l && !(s.testBit l)) (L := (A 24).toNat) (fun l hl => by rw [hnz l hl]; rfl) d
  have e3 := cB_add (P := fun l => s.testBit l) (Q := fun l => n.testBit l && !(s.testBit l)) (R := fun l => n.testBit l) (fun l => by
    have := hsub' l
    cases a : s.testBit l <;> cases b : n.testBit l
    · exact ⟨rfl, rfl⟩
    · exact ⟨rfl, rfl⟩
    · rw [this a] at b; cases b
    · exact ⟨rfl, rfl⟩) 9
  have c9 := cnt_le 9 (by decide) n n1
  rw [hd] at e1 e2
  have hw := ways_eq (p := p) n3 hsub' (A 24).toNat (by omega)
  rw [← e1, ← e2] at hw
  unfold f_X5_casesOf
  rw [show f_J6_bitCount_0f7a4 μ (s : Int) = cnt s from bitCount_eq μ hs]
  refine si_bnd (si_call (f_breadLawns (by omega) h9 hR) (fun z hz => si_bnd ?_))
  rw [hz, n2, show f_J6_bitCount_0f7a4 μ (n : Int) = cnt n from bitCount_eq μ n1, es, en, w3_id (by omega) (by omega), show ((cB (fun l => n.testBit l) 9 : Nat) : Int) - ((cB (fun l => s.testBit l) 9 : Nat) : Int) = ((cB (fun l => n.testBit l && !(s.testBit l)) 9 : Nat) : Int) by omega, w3_id (by omega) (by omega), show (10 : Int) - (p : Int) = ((10 - p : Nat) : Int) by omega]
  refine si_call (f_power μ hp (by omega)) (fun x hx => si_call (f_power μ (by omega) (by omega)) (fun y hy => si_some ?_))
  rw [hx, hy, ← Int.natCast_mul, ← hw]
  have hl := ways_le (A := A) (p := p) (s := s) hp (A 24).toNat
  have := pow10 (k := (A 24).toNat) (by omega)
  exact w6_id (by omega) (by omega)
theorem up_same {A : Rv} {o v : Int} (h : A o = v) : up A o v = A := by
  funext q
  unfold up
  by_cases c : q = o
  · rw [if_pos c, c, h]
  · rw [if_neg c]
theorem m_sinkSet {ν : Mm} {A : Rv} (hV : VR A) (hR : RR A (ν 0)) {s p : Nat} (hs : s < 512) (hp : p ≤ 10) : Sat ((f_X6_tries ν).bind fun z74 => (loopO (fun (x75 : Int × Int × Mm) => chk ((0 : Int) ≤ 24 ∧ 24 < (152 : Int)) (if (rdW x75.2.2 24) ≤ x75.2.1 then (some (.inr x75)) else (chk ((0 : Int) ≤ (w3 (1 + x75.2.1)) ∧ (w3 (1 + x75.2.1)) < (152 : Int)) (bnd ((if (rdW x75.2.2 (w3 (1 + x75.2.1))) ≤ 0 then (0) else (1) : Int)) fun v79 => bnd ((if v79 = 0 then (if (f_X6_has x75.2.2 s x75.2.1) = 0 then (1) else (0)) else (if (f_X6_has x75.2.2 s x75.2.1) = 0 then (w3 (10 - (p : Int))) else (p : Int)) : Int)) fun v80 => if (f_X6_has x75.2.2 s x75.2.1) = 0 then (chk ((0 : Int) ≤ (w3 (1 + x75.2.1)) ∧ (w3 (1 + x75.2.1)) < (152 : Int)) (chk ((0 : Int) ≤ (w3 (115 + x75.2.1)) ∧ (w3 (115 + x75.2.1)) < (152 : Int)) (bnd (wrW x75.2.2 (w3 (115 + x75.2.1)) (rdW x75.2.2 (w3 (1 + x75.2.1)))) fun m85 => some (.inl (w6 (x75.1 * v80), w3 (x75.2.1 + 1), m85))))) else (chk ((0 : Int) ≤ (w3 (115 + x75.2.1)) ∧ (w3 (115 + x75.2.1)) < (152 : Int)) (bnd (wrW x75.2.2 (w3 (115 + x75.2.1)) 0) fun m87 => some (.inl (w6 (x75.1 * v80), w3 (x75.2.1 + 1), m87)))))))) 1000 (1, 0, z74))) (fun e : Int × Int × Mm => e.1 = waysN A p s (A 24).toNat ∧ frM ν e.2.2 ∧ RR (sinkA A s) (e.2.2 3)) := by
  have h9 := hV.2.1
  have h2 := hV.1
  refine si_call (m_tries hV.2.1 hV.2.2.2.1 hR) (fun z hz => ?_)
  refine si_loop (fun i (x : Int × Int × Mm) => x.2.1 = i ∧ (i : Int) ≤ A 24 ∧ frM ν x.2.2 ∧ RR (sinkS A s i) (x.2.2 3) ∧ x.1 = waysN A p s i) (A 24).toNat ?_ 1000 (1, 0, z) (by omega) ⟨rfl, by omega, hz.1, hz.2, rfl⟩
  rintro i ⟨a, b, m⟩ hi ⟨hb, hiA, f1, f2, f3⟩
  dsimp only at hb f1 f2 f3 ⊢
  subst hb
  have hR0 : RR A (m 0) := by rw [f1.1 0 (by decide) (by decide)]; exact hR
  rw [rd0 (by decide), hR0.1]
  refine si_chk (by decide) (si_if (fun c => si_some ?_) (fun c => ?_))
  · unfold sinkA
    rw [show (A 24).toNat = i by omega]
    exact ⟨f3, f1, f2⟩
  obtain ⟨v1, v2, v3, v4⟩ := VR_sink hV s i hiA
  have hw := ways_le (A := A) (s := s) hp (i + 1)
  have hw2 := pow10 (k := i + 1) (by omega)
  have hwS : waysN A p s (i + 1) = waysN A p s i * fac A p s i := rfl
  rw [w3_id (x := 1 + (i : Int)) (by omega) (by omega), w3_id (x := 115 + (i : Int)) (by omega) (by omega), rd0 (by omega), hR0.2.2.2.2.1 i (by omega) (by omega), has_eq, bitN_small s hs i (by omega), show (if (if s.testBit i = true then (1 : Int) else 0) = 1 then (1 : Int) else 0) = if s.testBit i = true then 1 else 0 by split <;> rfl, wr3 (o := 1 + (i : Int)) (by omega) (by omega), wr3 (o := 1 + (i : Int)) (by omega) (by omega), w3_id (x := 10 - (p : Int)) (by omega) (by omega)]
  refine si_chk (by omega) (si_bnd (si_bnd ?_))
  have hv : (if (if A (1 + (i : Int)) ≤ 0 then (0 : Int) else 1) = 0 then (if (if s.testBit i = true then (1 : Int) else 0) = 0 then (1 : Int) else 0) else (if (if s.testBit i = true then (1 : Int) else 0) = 0 then 10 - (p : Int) else (p : Int))) = ((fac A p s i : Nat) : Int) := by
    unfold fac
    by_cases c0 : 0 < A (1 + (i : Int))
    · have cn : ¬ A (1 + (i : Int)) ≤ 0 := by omega
      by_cases c1 : s.testBit i = true
      · simp [c0, cn, c1]
      · simp [c0, cn, c1]
        omega
    · have cn : A (1 + (i : Int)) ≤ 0 := by omega
      by_cases c1 : s.testBit i = true
      · simp [c0, cn, c1]
      · simp [c0, cn, c1]
  rw [hv, f3, ← Int.natCast_mul, ← hwS, w6_id (by omega) (by omega)]
  by_cases c1 : s.testBit i = true
  · rw [if_pos c1]
    refine si_f (by decide) (si_chk (by omega) (si_bnd (si_some ⟨by omega, w3s i (by omega), by omega, frM_tr f1 (frM_3 (fun g hg => sM_g hg)), ?_, rfl⟩)))
    show RR (if s.testBit i = true then up (sinkS A s i) (1 + (i : Int)) 0 else sinkS A s i) (sM m 3 (1 + (i : Int)) 0 3)
    rw [if_pos c1, sM_r]
    exact RR_up f2 (by omega) (by omega)
  · rw [if_neg c1]
    refine si_t rfl (si_chk (by omega) (si_chk (by omega) (si_bnd (si_some ⟨by omega, w3s i (by omega), by omega, frM_tr f1 (frM_3 (fun g hg => sM_g hg)), ?_, rfl⟩))))
    show RR (if s.testBit i = true then up (sinkS A s i) (1 + (i : Int)) 0 else sinkS A s i) (sM m 3 (1 + (i : Int)) (A (1 + (i : Int))) 3)
    rw [if_neg c1, sM_r]
    have := RR_up (o := 1 + (i : Int)) (v := A (1 + (i : Int))) f2 (by omega) (by omega)
    rw [up_same (v4 _ (Int.le_refl _))] at this
    exact this
theorem si_call3 {α β γ : Type} {o : Option α} {f : α → Option β} {g : β → Option γ} {K : γ → Prop} {P : β → Prop} (h : Sat (o.bind f) P) (k : ∀ y, P y → Sat (g y) K) : Sat (o.bind fun x => (f x).bind g) K := by
  obtain ⟨y, hy, hp⟩ := h
  cases o with
  | none => cases hy
  | some x =>
    have hy' : f x = some y := hy
    show Sat ((f x).bind g) K
    rw [hy']
    exact k y hp
theorem b_sink {μ ν : Mm} (h : Rel μ ν) (k l p v : Int) : Both (f_X5_sink μ k l p v) (f_X6_sink ν k l p v) := by
  have hRel := h
  obtain ⟨A, hA⟩ := h
  have hN := hA.1
  unfold f_X5_sink f_X6_sink
  rw [c_isSwan' hN, c_isLawn' hN, within_eq, within_eq, in_eq, in_eq]
  by_cases c1 : 0 ≤ k ∧ k < A 25
  · obtain ⟨hV, -⟩ := NowR_V hN (Or.inl (by omega))
    have h9 := hV.2.1
    have h2 := hV.1
    have h6 := hV.2.2.2.1
    rw [if_pos c1]
    refine si_f (by decide) (si_swap (m_sw hN c1 (si_f (by decide) (si_swap ?_))))
    by_cases c2 : 0 ≤ l ∧ l < A 24
    · rw [if_pos c2]
      refine si_f (by decide) (si_swap (m_ln hN c2 (si_f (by decide) (si_swap ?_))))
      by_cases c3 : 0 ≤ p ∧ p ≤ 10
      · rw [if_pos c3]
        refine si_f (by decide) (si_swap (si_f (by decide) (si_swap ?_)))
        by_cases c4 : 0 ≤ v ∧ v ≤ 1
        · rw [if_pos c4]
          refine si_f (by decide) (si_swap (si_f (by decide) ?_))
          obtain ⟨p, rfl⟩ := nat_of c3.1
          obtain ⟨n, n1, n2, n3⟩ := brA_bits hV
          -- all cases
          refine si_call (P := fun e : Int × Int => e.1 = downN A (A 24).toNat) (si_loop (fun i (x : Int × Int) => x.2 = i ∧ (i : Int) ≤ A 24 ∧ x.1 = downN A i) (A 24).toNat ?_ 1000 (1, 0) (by omega) ⟨rfl, by omega, rfl⟩) (fun e he => si_swap ?_)
          · rintro i ⟨a, b⟩ hi ⟨hb, hiA, ha⟩
            dsimp only at hb ha ⊢
            subst hb
            rw [rd0 (by decide), hN.2.1.1]
            refine si_chk (by decide) (si_if (fun c => si_some ?_) (fun c => ?_))
            · rw [show (A 24).toNat = i by omega]; exact ha
            have hd := down_le A (i + 1)
            have hd2 := pow10 (k := i + 1) (by omega)
            have hdS : downN A (i + 1) = downN A i * (if 0 < A (1 + (i : Int)) then 10 else 1) := rfl
            rw [w3_id (x := 1 + (i : Int)) (by omega) (by omega), rd0 (by omega), hN.2.1.2.2.2.2.1 i (by omega) (by omega)]
            refine si_chk (by omega) (si_if (fun c5 => si_some ⟨by omega, w3s i (by omega), by omega, ?_⟩) (fun c5 => si_some ⟨by omega, w3s i (by omega), by omega, ?_⟩))
            · rw [if_neg (by omega)] at hdS
              show w6 (a * 1) = _
              rw [ha, w6_id (by omega) (by omega)]
              omega
            · rw [if_pos (by omega)] at hdS
              show w6 (a * 10) = _
              rw [ha, w6_id (by omega) (by omega)]
              omega
          -- those by which it comes
          obtain ⟨L, hL⟩ := nat_of (show 0 ≤ A 24 by omega)
          have hN2 : 2 ^ L ≤ 2 ^ 9 := Nat.pow_le_pow_right (by decide) (by omega)
          have hsh := pow_sh L (by omega)
          refine si_call2 (P := fun (x y : Int × Int × Mm) => frC μ x.2.2 ∧ frM ν y.2.2 ∧ ∃ u : Nat, x.1 = u ∧ y.1 = u ∧ u ≤ 1000000000000) (si_loop2 (fun s (x y : Int × Int × Mm) => x.2.1 = s ∧ y.2.1 = s ∧ s ≤ 2 ^ L ∧ frC μ x.2.2 ∧ frM ν y.2.2 ∧ ∃ u : Nat, x.1 = u ∧ y.1 = u ∧ u ≤ 1000000000 * s) (2 ^ L) ?_ 1000 1000 (0, 0, μ) (0, 0, ν) (by omega) (by omega) ⟨rfl, rfl, Nat.zero_le _, frC_rf μ, frM_rf ν, 0, rfl, rfl, by omega⟩) (fun x y hxy => ?_)
          · rintro s ⟨a, b, m⟩ ⟨a', b', j⟩ hs ⟨hb, hb', hsN, f1, f2, u, hu, hu', huN⟩
            dsimp only at hb hb' f1 f2 hu hu' ⊢
            subst hb hb' hu hu'
            have hR0 : RR A (m 0) := by rw [f1 0 (by decide) (by decide)]; exact hN.1
            have hR0' : RR A (j 0) := by rw [f2.1 0 (by decide) (by decide)]; exact hN.2.1
            rw [rd0 (by decide), hR0'.1]
            simp only [hR0.1, hL, hsh]
            refine si_swap (si_chk (by decide) (si_swap ?_))
            refine si_if (fun c => si_some (si_t c (si_some ⟨f1, f2, u, rfl, rfl, by omega⟩))) (fun c => si_swap (si_f c ?_))
            have hlt : s < 2 ^ L := by omega
            have hwl := ways_le (A := A) (p := p) (s := s) (by omega) (A 24).toNat
            have hwl2 := pow10 (k := (A 24).toNat) (by omega)
            -- the class
            have hC : ∀ {K' : (Int × Int × Mm) ⊕ (Int × Int × Mm) → Prop}, (∀ m', frC μ m' → (comesS A s k l → K' (.inl (((u + waysN A p s (A 24).toNat : Nat) : Int), w3 ((s : Int) + 1), m'))) ∧ (¬ comesS A s k l → K' (.inl ((u : Int), w3 ((s : Int) + 1), m')))) → Sat ((f_X5_comesBySinking m s k l).bind fun z23 => if z23.1 = 0 then (some (.inl ((u : Int), w3 ((s : Int) + 1), z23.2))) else ((f_X5_casesOf z23.2 s p).bind fun z26 => some (.inl (w6 ((u : Int) + z26), w3 ((s : Int) + 1), z23.2)))) K' := fun hK => by
              refine si_call (f_comesS hV hR0 (by omega) c1) (fun z hz => ?_)
              have hfr := frC_tr f1 hz.1
              rcases hz.2 with ⟨z1, z2⟩ | ⟨z1, z2⟩
              · refine si_f (by omega) (si_call (f_casesOf hV (by rw [hz.1 0 (by decide) (by decide)]; exact hR0) (by omega) (by omega) z2.1) (fun x hx => si_some ?_))
                have := (hK z.2 hfr).1 z2
                rw [hx, w6_id (by omega) (by omega), ← Int.natCast_add]
                exact this
              · exact si_t z1 (si_some ((hK z.2 hfr).2 z2))
            refine si_call3 (m_sinkSet hV hR0' (s := s) (p := p) (by omega) (by omega)) (fun e he2 => ?_)
            obtain ⟨e1, e2, e3⟩ := he2
            have f2' := frM_tr f2 e2
            rw [e1]
            by_cases cz : waysN A p s (A 24).toNat = 0
            · refine si_t (by rw [cz]; decide) (si_some (hC (fun m' hm' => ⟨fun _ => ⟨hlt, w3s s (by omega), w3s s (by omega), by omega, hm', f2', u + waysN A p s (A 24).toNat, rfl, by show (u : Int) = _; omega, by omega⟩, fun _ => ⟨hlt, w3s s (by omega), w3s s (by omega), by omega, hm', f2', u, rfl, rfl, by omega⟩⟩)))
            · have hsub : bAnd s (bXor (brA A) (-1)) = 0 := by
                rw [n2]
                refine (sub_iff (by omega) n1).mpr (fun j hj => (n3 j).mpr ?_)
                have hge := Nat.ge_two_pow_of_testBit hj
                have hjL : j < L := by
                  by_cases q : j < L
                  · exact q
                  · have : 2 ^ L ≤ 2 ^ j := Nat.pow_le_pow_right (by decide) (by omega)
                    omega
                refine ⟨by omega, ?_⟩
                by_cases q : 0 < A (1 + (j : Int))
                · exact q
                · exact absurd (ways_0 (p := p) (l := j) (by unfold fac; rw [if_neg q, if_pos hj]) (A 24).toNat (by omega)) cz
              have hcm : ¬ cmp3 ((waysN A p s (A 24).toNat : Nat) : Int) 0 ≤ 0 := fun q => by
                have : 0 < cmp3 ((waysN A p s (A 24).toNat : Nat) : Int) 0 := cmp3_gt.mpr (by omega)
                omega
              obtain ⟨v1, v2, v3, v4⟩ := VR_sink hV s (A 24).toNat (by omega)
              refine si_f hcm (si_call (m_pass3 (A := sinkA A s) v1 e3) (fun z hz => ?_))
              have hp3 := (hz.2.1.2.2.2.2.2 k c1.1 (by rw [(VR_day (A := sinkA A s) v1).2.2.1]; unfold sinkA; rw [v3]; exact c1.2)).1
              have f3' := frM_tr f2' hz.1
              rw [w3_id (x := 125 + k) (by omega) (by omega), rd3 (o := 11 + k) (by omega) (by omega), hp3]
              refine si_chk (by omega) (si_if (fun c5 => si_some (hC (fun m' hm' => ⟨fun _ => ⟨hlt, w3s s (by omega), w3s s (by omega), by omega, hm', f3', u + waysN A p s (A 24).toNat, rfl, ?_, by omega⟩, fun q => absurd ⟨hsub, c5⟩ q⟩))) (fun c5 => si_some (hC (fun m' hm' => ⟨fun q => absurd q.2 c5, fun _ => ⟨hlt, w3s s (by omega), w3s s (by omega), by omega, hm', f3', u, rfl, ?_, by omega⟩⟩))))
              · show w6 ((u : Int) + ((waysN A p s (A 24).toNat : Nat) : Int)) = _
                rw [w6_id (by omega) (by omega), Int.natCast_add]
              · show w6 ((u : Int) + 0) = _
                rw [w6_id (by omega) (by omega)]
                omega
          · obtain ⟨fC, fM, u, x1, y1, ule⟩ := hxy
            have hRx : RR A (x.2.2 0) := by rw [fC 0 (by decide) (by decide)]; exact hN.1
            have hrel : Rel x.2.2 y.2.2 := ⟨A, RelA_fr hA fC (frN_of fM)⟩
            have hd := down_le A (A 24).toNat
            have hd2 := pow10 (k := (A 24).toNat) (by omega)
            have hdown : downN A (A 24).toNat = 10 ^ cB (fun l => n.testBit l) 9 := by
              obtain ⟨d, hd⟩ : ∃ d, (A 24).toNat + d = 9 := ⟨9 - (A 24).toNat, by omega⟩
              have e1 := cB_ext (P := fun l => n.testBit l) (L := (A 24).toNat) (fun l hl => by
                cases q : n.testBit l
                · rfl
                · have := ((n3 l).mp q).1; omega) d
              rw [hd] at e1
              rw [e1]
              exact down_eq n3 _ (by omega)
            have c9 := cnt_le 9 (by decide) n n1
            have en := cB_eq n
            refine si_call (f_breadLawns (by omega) h9 hRx) (fun z hz => ?_)
            rw [hz, n2, show f_J6_bitCount_0f7a4 x.2.2 (n : Int) = cnt n from bitCount_eq _ n1, en]
            refine si_call (f_power x.2.2 (b := 10) (t := cB (fun l => n.testBit l) 9) (by decide) (by omega)) (fun t ht => ?_)
            rw [ht, ← hdown, x1, y1, he]
            refine si_call2 (both_gcd (a := u) (b := downN A (A 24).toNat) ule (by omega) (by omega)) (fun g q hg => ?_)
            obtain ⟨g', g0, g9, rfl, hq⟩ := hg
            refine si_bnd ?_
            have hmx : f_J9_max_f86c9 x.2.2 1 (g' : Int) = g' := by unfold f_J9_max_f86c9; rw [if_neg (by omega)]
            rw [hmx, hq]
            exact si_if (fun c => si_chk (by omega) (si_some (si_t c (si_chk (by omega) (si_some ⟨rfl, hrel⟩))))) (fun c => si_chk (by omega) (si_some (si_f c (si_chk (by omega) (si_some ⟨rfl, hrel⟩)))))
        · rw [if_neg c4]
          exact si_t rfl (si_some (si_t rfl (si_some ⟨rfl, hRel⟩)))
      · rw [if_neg c3]
        exact si_t rfl (si_some (si_t rfl (si_some ⟨rfl, hRel⟩)))
    · rw [if_neg c2]
      exact si_t rfl (both_same hRel (m_lnN hN c2 (si_t rfl (si_some ⟨rfl, rfl⟩))))
  · rw [if_neg c1]
    exact si_t rfl (both_same hRel (m_swN hN c1 (si_t rfl (si_some ⟨rfl, rfl⟩))))
theorem countN_s (P : Int → Bool) (n : Nat) : countN P (n + 1) = if P (n : Int) = true then countN P n + 1 else countN P n := rfl
/-- what both have after so many draws -/
def drI (μ ν : Mm) (A : Rv) (t : Nat) (x y : Int × Int × Int × Mm) : Prop := x.1 = y.1 ∧ x.2.1 = y.2.1 ∧ x.2.2.1 = t ∧ y.2.2.1 = t ∧ (∃ X : Nat, x.1 = X ∧ X < 2147483647) ∧ 0 ≤ x.2.1 ∧ x.2.1 ≤ 6 * t ∧ frC μ x.2.2.2 ∧ frN ν y.2.2.2 ∧ 0 ≤ x.2.2.2 3 40 ∧ x.2.2.2 3 40 ≤ 6 * t ∧ ∃ B : Rv, VR B ∧ B 24 = A 24 ∧ B 25 = A 25 ∧ RR B (x.2.2.2 3) ∧ RR B (y.2.2.2 3)
theorem b_drawn {μ ν : Mm} (h : Rel μ ν) (n x v : Int) : Both (f_X5_drawn μ n x v) (f_X6_drawn ν n x v) := by
  have hRel := h
  obtain ⟨A, hA⟩ := h
  have hN := hA.1
  unfold f_X5_drawn f_X6_drawn
  rw [c_hasRiver' hN, within_eq, within_eq, within_eq, span_eq, in_eq, in_eq]
  by_cases c1 : 0 < A 24
  · obtain ⟨hV, -⟩ := NowR_V hN (Or.inr c1)
    have h9 := hV.2.1
    have h2 := hV.1
    have h6 := hV.2.2.2.1
    have h5 := hV.2.2.1
    rw [if_pos c1]
    refine si_f (by decide) (si_swap (m_rv hN c1 (si_f (by decide) (si_swap ?_))))
    by_cases c2 : 0 ≤ n ∧ n ≤ 60
    · obtain ⟨n, rfl⟩ := nat_of c2.1
      rw [if_pos c2]
      refine si_f (by decide) (si_swap (si_f (by decide) (si_swap ?_)))
      by_cases c3 : 1 ≤ x ∧ x ≤ 999999
      · obtain ⟨X, rfl⟩ := nat_of (show 0 ≤ x by omega)
        rw [if_pos c3]
        refine si_f (by decide) (si_swap (si_f (by decide) (si_swap ?_)))
        by_cases c4 : 0 ≤ v ∧ v ≤ 1
        · rw [if_pos c4]
          refine si_f (by decide) (si_swap (si_f (by decide) (si_call (m_tries hV.2.1 hV.2.2.2.1 hN.2.1) (fun k hk => si_swap ?_))))
          refine si_call (f_become (r := 3) (q := 0) (by decide)) (fun m hm => ?_)
          refine si_call2 (P := drI μ ν A n) (si_loop2 (fun t x y => drI μ ν A t x y ∧ t ≤ n) n ?_ 1000 1000 ((X : Int), 0, 0, m) ((X : Int), 0, 0, k) (by omega) (by omega) ⟨⟨rfl, rfl, rfl, rfl, ⟨X, rfl, by omega⟩, by show (0 : Int) ≤ 0; decide, by show (0 : Int) ≤ 6 * ((0 : Nat) : Int); decide, fun g a _ => hm.1 g a, frN_of hk.1, by show 0 ≤ m 3 40; rw [hm.2.2.1]; decide, by show m 3 40 ≤ 6 * ((0 : Nat) : Int); rw [hm.2.2.1]; decide, A, hV, rfl, rfl, RR_copy hV.2.1 hV.2.2.2.1 hN.1 hm.2.1, hk.2⟩, by omega⟩) (fun x y hxy => ?_)
          · rintro t ⟨a, u, i, m⟩ ⟨a', u', i', k⟩ ht ⟨⟨hau, huu, hi, hi', ⟨X, hX, hX2⟩, u0, u6, fC, fN, d0, d6, B, bV, b24, b25, bC, bN⟩, htn⟩
            dsimp only at hau huu hi hi' hX u0 u6 fC fN d0 d6 bC bN ⊢
            subst hau huu hi hi' hX
            refine si_if (fun c => si_some (si_t c (si_some ?_))) (fun c => si_swap (si_f c (si_swap ?_)))
            · have : t = n := by omega
              subst this
              exact ⟨rfl, rfl, rfl, rfl, ⟨X, rfl, hX2⟩, u0, u6, fC, fN, d0, d6, B, bV, b24, b25, bC, bN⟩
            have hR0 : RR A (m 0) := by rw [fC 0 (by decide) (by decide)]; exact hN.1
            have hR0' : RR A (k 0) := by rw [fN.1 0 (by decide) (by decide) (by decide)]; exact hN.2.1
            obtain ⟨L, hL⟩ := nat_of (show 0 ≤ A 24 by omega)
            have hX' : lRem (w6 ((X : Int) * 16807)) 2147483647 = ((X * 16807 % 2147483647 : Nat) : Int) := by
              rw [w6_id (by omega) (by omega), show (X : Int) * 16807 = ((X * 16807 : Nat) : Int) by omega]
              exact lRem_nat (b := 2147483647) (by omega) (by decide)
            have hYl : X * 16807 % 2147483647 < 2147483647 := Nat.mod_lt _ (by decide)
            rw [hX', rd0 (by decide), hR0'.1]
            simp only [hR0.1, hL]
            generalize X * 16807 % 2147483647 = Y at *
            have hy1 : w3 (lRem (Y : Int) (L : Int)) = ((Y % L : Nat) : Int) := by
              have := Nat.mod_le Y L
              rw [lRem_nat (by omega) (by omega), w3_id (by omega) (by omega)]
            have hy2 : w3 (lRem (Y : Int) 4) = ((Y % 4 : Nat) : Int) := by
              have e := lRem_nat (a := Y) (b := 4) (by omega) (by decide)
              have e' : lRem (Y : Int) 4 = ((Y % 4 : Nat) : Int) := e
              rw [e', w3_id (by omega) (by omega)]
            have hlt := Nat.mod_lt Y (show L > 0 by omega)
            have hl9 : (0 : Int) ≤ ((Y % L : Nat) : Int) ∧ ((Y % L : Nat) : Int) < B 24 := by omega
            have hn9 : (0 : Int) ≤ ((Y % 4 : Nat) : Int) ∧ ((Y % 4 : Nat) : Int) ≤ 9 := by omega
            generalize ((Y % L : Nat) : Int) = l at *
            generalize ((Y % 4 : Nat) : Int) = q at *
            obtain ⟨t1, t2, t3⟩ := VR_thr bV hl9 (n := q) hn9.1
            generalize hC : thrA B l q = C at *
            obtain ⟨w1, w2, w3', w4⟩ := VR_day t1
            have hel := countN_in (fun k => decide (dayA C (11 + k) ≠ C (11 + k))) (dayA C 25).toNat
            have hdl := dayLost_in t1
            refine si_chk (by decide) (si_bnd ?_)
            rw [hy1, hy2]
            refine si_chk (by omega) (si_chk (by decide) (si_call (f_scatter bV bC hl9 hn9) (fun z1 hz1 => ?_)))
            rw [hC] at hz1
            refine si_call (f_become (r := 4) (q := 3) (by decide)) (fun z2 hz2 => ?_)
            have z23 : z2 3 = z1 3 := hz2.1 3 (by decide)
            refine si_call (f_passDay (r := 3) t1 (by rw [z23]; exact hz1.2.1) (by rw [z23, hz1.2.2.1]; omega)) (fun z3 hz3 => ?_)
            have z34 : z3 4 = z2 4 := hz3.1 4 (by decide)
            refine si_call (f_countElsewhere (r := 3) (q := 4) (A := dayA C) (B := C) (by have := w1.2.2.1; omega) w1.2.2.2.1 hz3.2.1 (by rw [z34]; exact RR_copy t1.2.1 t1.2.2.2.1 hz1.2.1 hz2.2.1) w3'.symm) (fun z4 hz4 => si_some ?_)
            -- the reference
            refine si_chk (by decide) (si_bnd ?_)
            rw [hy1, hy2]
            refine si_chk (by decide) (si_chk (by omega) (si_chk (by decide) (si_call (m_throwsOn (q := 3) (by decide) bV bN hl9 hn9) (fun y1 hy1' => ?_))))
            rw [hC] at hy1'
            have f1N : frN k y1 := frN_of (frM_3 hy1'.1)
            refine si_call (P := fun e : Int × Mm => (∀ g, g ≠ 37 → e.2 g = y1 g) ∧ ∀ j : Int, 0 ≤ j → j < A 25 → e.2 37 j = C (11 + j)) (si_loop (fun j (x : Int × Mm) => x.1 = j ∧ (j : Int) ≤ A 25 ∧ (∀ g, g ≠ 37 → x.2 g = y1 g) ∧ ∀ s : Int, 0 ≤ s → s < j → x.2 37 s = C (11 + s)) (A 25).toNat ?_ 1000 (0, y1) (by omega) ⟨rfl, by omega, fun _ _ => rfl, fun s a b => by omega⟩) (fun e he => ?_)
            · rintro j ⟨b, m'⟩ hj ⟨hb, hjA, g1, g2⟩
              dsimp only at hb g1 g2 ⊢
              subst hb
              have e25 : rdW m' 25 = A 25 := by rw [rd0 (by decide), g1 0 (by decide), hy1'.1 0 (by decide)]; exact hR0'.2.1
              rw [e25, w3_id (x := 125 + (j : Int)) (by omega) (by omega), zadd, rd3 (o := 11 + (j : Int)) (by omega) (by omega), g1 3 (by decide)]
              refine si_chk (by decide) (si_if (fun c => si_some ⟨g1, fun s p q => g2 s p (by omega)⟩) (fun c => si_chk (by omega) (si_chk (by omega) (si_bnd (si_some ⟨by omega, w3s j (by omega), by omega, fun g hg => by dsimp only; rw [sM_g hg]; exact g1 g hg, fun s p q => ?_⟩)))))
              dsimp only
              by_cases w : s = (j : Int)
              · rw [w, sM_s]
                exact (hy1'.2.1.2.2.2.2.2 j (by omega) (by rw [t3, b25]; omega)).1
              · rw [sM_n (fun z => w z.2)]
                exact g2 s p (by omega)
            obtain ⟨g1, g2⟩ := he
            refine si_call (m_pass3 t1 (by rw [g1 3 (by decide)]; exact hy1'.2.1)) (fun y3 hy3 => ?_)
            have e25 : rdW y3 25 = A 25 := by rw [rd0 (by decide), hy3.1.1 0 (by decide) (by decide), g1 0 (by decide), hy1'.1 0 (by decide)]; exact hR0'.2.1
            have e37 : y3 37 = e.2 37 := hy3.1.1 37 (by decide) (by decide)
            refine si_call (P := fun x : Int × Int => x.1 = u + elseA (dayA C) C) (si_loop (fun j (x : Int × Int) => x.2 = j ∧ (j : Int) ≤ A 25 ∧ x.1 = u + countN (fun k => decide (dayA C (11 + k) ≠ C (11 + k))) j) (A 25).toNat ?_ 1000 (u, 0) (by omega) ⟨rfl, by omega, by show u = u + 0; omega⟩) (fun x hx => si_some ?_)
            · rintro j ⟨b, b'⟩ hj ⟨hb, hjA, hcn⟩
              dsimp only at hb hcn ⊢
              subst hb
              have hci := countN_in (fun k => decide (dayA C (11 + k) ≠ C (11 + k))) j
              rw [e25]
              refine si_chk (by decide) (si_if (fun c => si_some ?_) (fun c => ?_))
              · unfold elseA
                rw [show (dayA C 25).toNat = j by omega]
                exact hcn
              rw [w3_id (x := 125 + (j : Int)) (by omega) (by omega), zadd, rd3 (o := 11 + (j : Int)) (by omega) (by omega), e37, g2 j (by omega) (by omega), (hy3.2.1.2.2.2.2.2 j (by omega) (by omega)).1]
              refine si_chk (by omega) (si_chk (by omega) (si_if (fun c5 => si_some ⟨by omega, w3s j (by omega), by omega, ?_⟩) (fun c5 => si_some ⟨by omega, w3s j (by omega), by omega, ?_⟩)))
              · show w3 (b + 0) = _
                rw [countN_s, if_neg (by simp [c5]), w3_id (by omega) (by omega)]
                omega
              · show w3 (b + 1) = _
                rw [countN_s, if_pos (by simpa using fun q => c5 q.symm), w3_id (by omega) (by omega)]
                omega
            have hel2 : 0 ≤ elseA (dayA C) C ∧ elseA (dayA C) C ≤ 6 := by
              unfold elseA
              have := w1.2.2.2.1
              have := w1.2.2.1
              omega
            refine ⟨by omega, ⟨rfl, ?_, w3s t (by omega), w3s t (by omega), ⟨Y, rfl, hYl⟩, ?_, ?_, ?_, ?_, ?_, ?_, dayA C, w1, by rw [w2, t2, b24], by rw [w3', t3, b25], hz3.2.1, hy3.2.1⟩, by omega⟩
            · show w3 (u + z4) = x.1
              rw [hx, hz4, w3_id (by omega) (by omega)]
            · show 0 ≤ w3 (u + z4)
              rw [hz4, w3_id (by omega) (by omega)]; omega
            · show w3 (u + z4) ≤ _
              rw [hz4, w3_id (by omega) (by omega)]; omega
            · exact fun g p q => by show z3 g = μ g; rw [hz3.1 g p, hz2.1 g q, hz1.1 g p]; exact fC g p q
            · exact frN_tr (frN_tr fN f1N) (frN_tr (a := y1) (b := e.2) ⟨fun g p q r => g1 g r, fun o _ => by rw [g1 30 (by decide)]⟩ (frN_of hy3.1))
            · show 0 ≤ z3 3 40
              rw [hz3.2.2.1, z23, hz1.2.2.1]; omega
            · show z3 3 40 ≤ _
              rw [hz3.2.2.1, z23, hz1.2.2.1]; omega
          · obtain ⟨hau, huu, hi, hi', -, u0, u6, fC, fN, d0, d6, B, bV, b24, b25, bC, bN⟩ := hxy
            have hrel : Rel x.2.2.2 y.2.2.2 := ⟨A, RelA_fr hA fC fN⟩
            refine si_if (fun c => si_call (f_ownerCount bV bC) (fun z hz => si_some (si_t c (m_ownerCount (q := 3) (by decide) bV bN (si_some ⟨?_, hrel⟩))))) (fun c => si_some (si_f c (si_some ⟨?_, hrel⟩)))
            · exact hz.symm
            · exact huu.symm
        · rw [if_neg c4]
          exact si_t rfl (si_some (si_t rfl (si_some ⟨rfl, hRel⟩)))
      · rw [if_neg c3]
        exact si_t rfl (si_some (si_t rfl (si_some ⟨rfl, hRel⟩)))
    · rw [if_neg c2]
      exact si_t rfl (si_some (si_t rfl (si_some ⟨rfl, hRel⟩)))
  · rw [if_neg c1]
    exact si_t rfl (both_same hRel (m_rvN hN c1 (si_t rfl (si_some ⟨rfl, rfl⟩))))
