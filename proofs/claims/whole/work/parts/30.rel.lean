/-! WHAT THE CLASS' MEMORY AND THE REFERENCE'S HAVE IN COMMON BETWEEN CALLS. -/
def NowR (μ ν : Mm) (A : Rv) : Prop := RR A (μ 0) ∧ RR A (ν 0) ∧ ((VR A ∧ 0 ≤ A 0 ∧ A 0 ≤ 999 ∧ ν 0 23 = 1) ∨ (A 24 = 0 ∧ A 25 = 0 ∧ A 0 = 0 ∧ A 10 = 0 ∧ ν 0 23 = 0))
def RowsR (μ ν : Mm) : Prop := ∀ r : Nat, r < 8 → (ν 33 r = μ 37 r ∧ ν 34 r = μ 36 r ∧ -1 ≤ μ 37 r ∧ μ 37 r ≤ 40 ∧ 0 ≤ μ 36 r ∧ μ 36 r ≤ 2) ∧ ∀ i : Int, 0 ≤ i → i < 40 → ν 32 (40 * (r : Int) + i) = μ (50 + r) i
def TapeR (μ ν : Mm) : Prop := ν 30 2 = μ 34 0 ∧ 0 ≤ μ 34 0 ∧ μ 34 0 ≤ 100 ∧ (∀ i : Int, 0 ≤ i → i < μ 34 0 → ν 35 i = μ 35 i ∧ 0 ≤ μ 35 i ∧ μ 35 i ≤ 255) ∧ ν 30 3 = μ 34 1
def TraceR (μ ν : Mm) : Prop := ν 30 4 = μ 33 0 ∧ 0 ≤ μ 33 0 ∧ μ 33 0 ≤ 16 ∧ ∀ i : Int, 0 ≤ i → i < μ 33 0 → ν 36 i = μ 32 i
def ImgR (μ ν : Mm) : Prop := ∀ k : Nat, k < 2 → (μ (1 + k) 24 = 0 ∧ ν 38 k = 0) ∨ (ν 38 k = 1 ∧ ∃ B : Rv, VR B ∧ 0 ≤ B 0 ∧ B 0 ≤ 999 ∧ RR B (μ (1 + k)) ∧ RR B (ν (1 + k)) ∧ ν (1 + k) 23 = 1)
def CoreR (B C : Rv) : Prop := C 0 = B 0 ∧ C 10 = B 10 ∧ (∀ l, 0 ≤ l → l < B 24 → C (1 + l) = B (1 + l)) ∧ ∀ k, 0 ≤ k → k < B 25 → C (11 + k) = B (11 + k) ∧ C (17 + k) = B (17 + k)
/-- where the class keeps act j of n, the next free place being x -/
def slot (x n : Int) (j : Nat) : Nat := 5 + ((x + 24 - n + j) % 24).toNat
def ActsR (μ ν : Mm) (A : Rv) : Prop := ν 30 0 = μ 31 1 ∧ 0 ≤ μ 31 1 ∧ μ 31 1 ≤ 24 ∧ 0 ≤ μ 31 0 ∧ μ 31 0 < 24 ∧ ∀ j : Nat, (j : Int) < μ 31 1 → ∃ B : Rv, VR B ∧ 0 ≤ B 0 ∧ B 0 ≤ 999 ∧ B 24 = A 24 ∧ B 25 = A 25 ∧ (∀ k, 0 ≤ k → k < A 25 → B (26 + k) = A (26 + k) ∧ B (32 + k) = A (32 + k)) ∧ RR B (μ (slot (μ 31 0) (μ 31 1) j)) ∧ CoreR B (fun o => ν 31 (23 * (j : Int) + o))
def RelA (μ ν : Mm) (A : Rv) : Prop := NowR μ ν A ∧ RowsR μ ν ∧ TapeR μ ν ∧ TraceR μ ν ∧ ImgR μ ν ∧ ActsR μ ν A ∧ ν 30 1 = μ 30 0
def Rel (μ ν : Mm) : Prop := ∃ A : Rv, RelA μ ν A
/-- what foretelling leaves as it is -/
def frC (μ m : Mm) : Prop := ∀ g, g ≠ 3 → g ≠ 4 → m g = μ g
def frN (ν m : Mm) : Prop := (∀ g, g ≠ 3 → g ≠ 30 → g ≠ 37 → m g = ν g) ∧ ∀ o : Int, o < 5 → m 30 o = ν 30 o
theorem frC_rf (μ : Mm) : frC μ μ := fun _ _ _ => rfl
theorem frN_rf (ν : Mm) : frN ν ν := ⟨fun _ _ _ _ => rfl, fun _ _ => rfl⟩
theorem frC_tr {a b c : Mm} (h1 : frC a b) (h2 : frC b c) : frC a c := fun g x y => (h2 g x y).trans (h1 g x y)
theorem frN_tr {a b c : Mm} (h1 : frN a b) (h2 : frN b c) : frN a c := ⟨fun g x y w => (h2.1 g x y w).trans (h1.1 g x y w), fun o x => (h2.2 o x).trans (h1.2 o x)⟩
theorem frN_of {ν m : Mm} (h : frM ν m) : frN ν m := ⟨fun g a b _ => h.1 g a b, h.2⟩
theorem slot_lt (x n : Int) (j : Nat) : 5 ≤ slot x n j ∧ slot x n j < 29 := by
  unfold slot
  omega
theorem RelA_fr {μ ν m k : Mm} {A : Rv} (h : RelA μ ν A) (hC : frC μ m) (hN : frN ν k) : RelA m k A := by
  obtain ⟨h1, h2, h3, h4, h5, h6, h7⟩ := h
  refine ⟨?_, fun r hr => ?_, ?_, ?_, fun j hj => ?_, ?_, ?_⟩
  · unfold NowR at h1 ⊢
    rw [hC 0 (by decide) (by decide), hN.1 0 (by decide) (by decide) (by decide)]
    exact h1
  · rw [hC 37 (by decide) (by decide), hC 36 (by decide) (by decide), hC (50 + r) (by omega) (by omega), hN.1 33 (by decide) (by decide) (by decide), hN.1 34 (by decide) (by decide) (by decide), hN.1 32 (by decide) (by decide) (by decide)]
    exact h2 r hr
  · unfold TapeR at h3 ⊢
    rw [hC 34 (by decide) (by decide), hC 35 (by decide) (by decide), hN.1 35 (by decide) (by decide) (by decide), hN.2 2 (by decide), hN.2 3 (by decide)]
    exact h3
  · unfold TraceR at h4 ⊢
    rw [hC 33 (by decide) (by decide), hC 32 (by decide) (by decide), hN.1 36 (by decide) (by decide) (by decide), hN.2 4 (by decide)]
    exact h4
  · rw [hC (1 + j) (by omega) (by omega), hN.1 38 (by decide) (by decide) (by decide), hN.1 (1 + j) (by omega) (by omega) (by omega)]
    exact h5 j hj
  · unfold ActsR at h6 ⊢
    rw [hC 31 (by decide) (by decide), hN.1 31 (by decide) (by decide) (by decide), hN.2 0 (by decide)]
    obtain ⟨a1, a2, a3, a4, a5, a6⟩ := h6
    refine ⟨a1, a2, a3, a4, a5, fun j hj => ?_⟩
    have hs := slot_lt (μ 31 0) (μ 31 1) j
    rw [hC _ (by omega) (by omega)]
    exact a6 j hj
  · rw [hC 30 (by decide) (by decide), hN.2 1 (by decide)]
    exact h7
/-- both answer alike, and what they have in common stays -/
def Both (o p : Option (Int × Mm)) : Prop := Sat o (fun z => Sat p (fun y => y.1 = z.1 ∧ Rel z.2 y.2))
theorem both_same {μ ν : Mm} {r : Int} {p : Option (Int × Mm)} (h : Rel μ ν) (hp : Sat p (fun y => y.1 = r ∧ y.2 = ν)) : Both (some (r, μ)) p := si_some (si_mono hp (fun y hy => ⟨hy.1, by rw [hy.2]; exact h⟩))
theorem NowR_c {μ ν : Mm} {A : Rv} (h : NowR μ ν A) : 0 ≤ A 24 ∧ A 24 ≤ 9 ∧ 0 ≤ A 25 ∧ A 25 ≤ 6 ∧ μ 0 24 = A 24 ∧ μ 0 25 = A 25 ∧ ν 0 24 = A 24 ∧ ν 0 25 = A 25 := by
  obtain ⟨h1, h2, h3⟩ := h
  refine ⟨?_, ?_, ?_, ?_, h1.1, h1.2.1, h2.1, h2.2.1⟩ <;> rcases h3 with ⟨v, -⟩ | ⟨a, b, -⟩
  · have := v.1; omega
  · omega
  · exact v.2.1
  · omega
  · have := v.2.2.1; omega
  · omega
  · exact v.2.2.2.1
  · omega
theorem NowR_V {μ ν : Mm} {A : Rv} (h : NowR μ ν A) (hs : 0 < A 25 ∨ 0 < A 24) : VR A ∧ 0 ≤ A 0 ∧ A 0 ≤ 999 ∧ ν 0 23 = 1 := by
  rcases h.2.2 with v | ⟨a, b, -⟩
  · exact v
  · omega
theorem c_isSwan' {μ ν : Mm} {A : Rv} (h : NowR μ ν A) (k : Int) : f_X5_isSwan μ k = if 0 ≤ k ∧ k < A 25 then 1 else 0 := by
  obtain ⟨a1, a2, a3, a4, a5, a6, a7, a8⟩ := NowR_c h
  unfold f_X5_isSwan
  rw [within_eq, a6, w3_id (by omega) (by omega)]
  by_cases c : 0 ≤ k ∧ k < A 25
  · rw [if_pos c, if_pos (by omega)]
  · rw [if_neg c, if_neg (by omega)]
theorem c_isLawn' {μ ν : Mm} {A : Rv} (h : NowR μ ν A) (k : Int) : f_X5_isLawn μ k = if 0 ≤ k ∧ k < A 24 then 1 else 0 := by
  obtain ⟨a1, a2, a3, a4, a5, a6, a7, a8⟩ := NowR_c h
  unfold f_X5_isLawn
  rw [within_eq, a5, w3_id (by omega) (by omega)]
  by_cases c : 0 ≤ k ∧ k < A 24
  · rw [if_pos c, if_pos (by omega)]
  · rw [if_neg c, if_neg (by omega)]
theorem c_hasRiver' {μ ν : Mm} {A : Rv} (h : NowR μ ν A) : f_X5_hasRiver μ = if 0 < A 24 then 1 else 0 := by
  obtain ⟨a1, a2, a3, a4, a5, a6, a7, a8⟩ := NowR_c h
  unfold f_X5_hasRiver
  rw [a5]
  by_cases c : 0 < A 24
  · rw [if_pos c, if_neg (by omega)]
  · rw [if_neg c, if_pos (by omega)]
theorem rd0 {ν : Mm} {i : Int} (h : 0 ≤ i ∧ i < 38) : rdW ν i = ν 0 i := rq (q := 0) h (by omega)
theorem rd3 {ν : Mm} {i o : Int} (h : 0 ≤ o ∧ o < 38) (hi : i = 114 + o) : rdW ν i = ν 3 o := rq (q := 3) h (by omega)
theorem m_isSwan {μ ν : Mm} {A : Rv} (h : NowR μ ν A) (k : Int) : Sat (f_X6_isSwan ν k) (fun z => z = if 0 ≤ k ∧ k < A 25 then 1 else 0) := by
  obtain ⟨a1, a2, a3, a4, a5, a6, a7, a8⟩ := NowR_c h
  unfold f_X6_isSwan
  refine si_chk (by decide) (si_some ?_)
  rw [in_eq, rd0 (by decide), a8, w3_id (by omega) (by omega)]
  by_cases c : 0 ≤ k ∧ k < A 25
  · rw [if_pos c, if_pos (by omega)]
  · rw [if_neg c, if_neg (by omega)]
theorem m_isLawn {μ ν : Mm} {A : Rv} (h : NowR μ ν A) (k : Int) : Sat (f_X6_isLawn ν k) (fun z => z = if 0 ≤ k ∧ k < A 24 then 1 else 0) := by
  obtain ⟨a1, a2, a3, a4, a5, a6, a7, a8⟩ := NowR_c h
  unfold f_X6_isLawn
  refine si_chk (by decide) (si_some ?_)
  rw [in_eq, rd0 (by decide), a7, w3_id (by omega) (by omega)]
  by_cases c : 0 ≤ k ∧ k < A 24
  · rw [if_pos c, if_pos (by omega)]
  · rw [if_neg c, if_neg (by omega)]
theorem m_isRiver {μ ν : Mm} {A : Rv} (h : NowR μ ν A) : Sat (f_X6_isRiver ν) (fun z => z = if 0 < A 24 then 1 else 0) := by
  unfold f_X6_isRiver
  refine si_chk (by decide) ?_
  rw [rd0 (by decide)]
  rcases h.2.2 with ⟨v, -, -, e⟩ | ⟨a, -, -, -, e⟩
  · have := v.1
    exact si_t e (si_some (by rw [if_pos (by omega)]))
  · exact si_f (by omega) (si_some (by rw [if_neg (by omega)]))
theorem span_eq (ν : Mm) (n a : Int) : f_X6_isSpan ν n a = if a ≤ n ∧ n ≤ 60 then 1 else 0 := in_eq ν n a 60
theorem f_foretell {μ : Mm} {A : Rv} (hV : VR A) (hR : RR A (μ 0)) {n : Nat} (hn : n ≤ 100) : Sat (f_X5_foretell μ n) (fun m => frC μ m ∧ RR (itD A n) (m 3) ∧ m 3 40 = sumLost A n ∧ m 3 41 = eatIt A 0 n) := by
  unfold f_X5_foretell
  refine si_call (f_become (r := 3) (q := 0) (by decide)) (fun z hz => ?_)
  obtain ⟨g1, g2, g3, g4⟩ := hz
  have hR3 : RR A (z 3) := RR_copy hV.2.1 hV.2.2.2.1 hR g2
  refine si_call (f_passDays hV hR3 (by omega) hn) (fun y hy => si_some ?_)
  obtain ⟨k1, k2, k3, k4⟩ := hy
  exact ⟨fun g a b => (k1 g a).trans (g1 g a), k2, by rw [k3, g3]; omega, by rw [k4, g4]⟩
theorem nat_of {n : Int} (h : 0 ≤ n) : ∃ k : Nat, n = k := ⟨n.toNat, by omega⟩
/-- AHEAD -/
theorem b_ahead {μ ν : Mm} (h : Rel μ ν) (k n : Int) : Both (f_X5_ahead μ k n) (f_X6_ahead ν k n) := by
  have hRel := h
  obtain ⟨A, hA⟩ := h
  have hN := hA.1
  unfold f_X5_ahead f_X6_ahead
  rw [c_isSwan' hN, within_eq, span_eq]
  by_cases c1 : 0 ≤ k ∧ k < A 25
  · obtain ⟨hV, -⟩ := NowR_V hN (Or.inl (by omega))
    have h6 := hV.2.2.2.1
    rw [if_pos c1]
    refine si_f (by decide) ?_
    by_cases c2 : 0 ≤ n ∧ n ≤ 60
    · obtain ⟨n, rfl⟩ := nat_of c2.1
      rw [if_pos c2]
      refine si_f (by decide) (si_call (f_foretell hV hN.1 (by omega)) (fun z hz => si_chk (by omega) (si_some ?_)))
      refine si_call (m_isSwan hN k) (fun y hy => ?_)
      rw [if_pos c1] at hy
      refine si_f (by omega) (si_f (by decide) (si_call (m_triesFor hV hN.2.1 (by omega)) (fun w hw => ?_)))
      rw [w3_id (by omega) (by omega)]
      refine si_chk (by omega) (si_some ⟨?_, A, RelA_fr hA hz.1 (frN_of hw.1)⟩)
      have i3 := (VR_it hV n).2.2.1
      show rdW w (125 + k) = z 3 (11 + k)
      rw [rd3 (o := 11 + k) (by omega) (by omega), (hw.2.2.2.2.2.2 k c1.1 (by rw [i3]; exact c1.2)).1, (hz.2.1.2.2.2.2.2 k c1.1 (by rw [i3]; exact c1.2)).1]
    · rw [if_neg c2]
      refine si_t rfl (both_same hRel (si_call (m_isSwan hN k) (fun y hy => ?_)))
      rw [if_pos c1] at hy
      exact si_f (by omega) (si_t rfl (si_some ⟨rfl, rfl⟩))
  · rw [if_neg c1]
    refine si_t rfl (both_same hRel (si_call (m_isSwan hN k) (fun y hy => ?_)))
    rw [if_neg c1] at hy
    exact si_t hy (si_some ⟨rfl, rfl⟩)
/-- OWNS -/
theorem b_owns {μ ν : Mm} (h : Rel μ ν) (k n : Int) : Both (f_X5_owns μ k n) (f_X6_owns ν k n) := by
  have hRel := h
  obtain ⟨A, hA⟩ := h
  have hN := hA.1
  unfold f_X5_owns f_X6_owns
  rw [c_isLawn' hN, within_eq, span_eq]
  by_cases c1 : 0 ≤ k ∧ k < A 24
  · obtain ⟨hV, -⟩ := NowR_V hN (Or.inr (by omega))
    rw [if_pos c1]
    refine si_f (by decide) ?_
    by_cases c2 : 0 ≤ n ∧ n ≤ 60
    · obtain ⟨n, rfl⟩ := nat_of c2.1
      rw [if_pos c2]
      obtain ⟨i1, i2, i3, i4⟩ := VR_it hV n
      have j1 := i1.2.2.1
      have j2 := i1.2.2.2.1
      refine si_f (by decide) (si_call (f_foretell hV hN.1 (by omega)) (fun z hz => si_call (f_plotsOwnedAt (by omega) j2 hz.2.1) (fun x hx => si_some ?_)))
      refine si_call (m_isLawn hN k) (fun y hy => ?_)
      rw [if_pos c1] at hy
      refine si_f (by omega) (si_f (by decide) (si_call (m_triesFor hV hN.2.1 (by omega)) (fun w hw => si_call (m_plotsOf (q := 3) (by decide) (by omega) j2 hw.2) (fun v hv => si_some ⟨?_, A, RelA_fr hA hz.1 (frN_of hw.1)⟩))))
      show v = x
      rw [hv, hx]
    · rw [if_neg c2]
      refine si_t rfl (both_same hRel (si_call (m_isLawn hN k) (fun y hy => ?_)))
      rw [if_pos c1] at hy
      exact si_f (by omega) (si_t rfl (si_some ⟨rfl, rfl⟩))
  · rw [if_neg c1]
    refine si_t rfl (both_same hRel (si_call (m_isLawn hN k) (fun y hy => ?_)))
    rw [if_neg c1] at hy
    exact si_t hy (si_some ⟨rfl, rfl⟩)
/-- NOBODY -/
theorem b_nobody {μ ν : Mm} (h : Rel μ ν) (n : Int) : Both (f_X5_nobody μ n) (f_X6_nobody ν n) := by
  have hRel := h
  obtain ⟨A, hA⟩ := h
  have hN := hA.1
  unfold f_X5_nobody f_X6_nobody
  rw [c_hasRiver' hN, within_eq, span_eq]
  by_cases c1 : 0 < A 24
  · obtain ⟨hV, -⟩ := NowR_V hN (Or.inr c1)
    rw [if_pos c1]
    refine si_f (by decide) ?_
    by_cases c2 : 0 ≤ n ∧ n ≤ 60
    · obtain ⟨n, rfl⟩ := nat_of c2.1
      rw [if_pos c2]
      obtain ⟨i1, i2, i3, i4⟩ := VR_it hV n
      have j0 := i1.2.1
      have j1 := i1.1
      refine si_f (by decide) (si_call (f_foretell hV hN.1 (by omega)) (fun z hz => si_call (f_emptyLawns i1 hz.2.1) (fun x hx => si_some ?_)))
      obtain ⟨e, rfl, he⟩ := hx
      refine si_call (m_isRiver hN) (fun y hy => ?_)
      rw [if_pos c1] at hy
      refine si_f (by omega) (si_f (by decide) (si_call (m_triesFor hV hN.2.1 (by omega)) (fun w hw => si_chk (by decide) (si_call (m_ownersIn (q := 3) (by decide) i1 hw.2) (fun v hv => si_some ⟨?_, A, RelA_fr hA hz.1 (frN_of hw.1)⟩)))))
      obtain ⟨o, rfl, ho⟩ := hv
      have w24 : rdW w 24 = A 24 := by rw [rd0 (by decide), hw.1.1 0 (by decide) (by decide)]; exact hN.2.1.1
      show bAnd (w3 (bShl 1 (rdW w 24) - 1)) (bXor (o : Int) (-1)) = (e : Int)
      obtain ⟨L, hL⟩ : ∃ L : Nat, A 24 = L := ⟨(A 24).toNat, by omega⟩
      rw [w24, hL, not_set L (by omega) o ho.1]
      have hlt : (2 ^ L - 1) &&& (511 ^^^ o) < 512 := by
        have p1 : 2 ^ L ≤ 2 ^ 9 := Nat.pow_le_pow_right (by decide) (by omega)
        have p2 : (2 ^ L - 1) &&& (511 ^^^ o) ≤ 2 ^ L - 1 := Nat.and_le_left
        have p3 := Nat.two_pow_pos L
        omega
      rw [set_eq hlt he.1 (fun l hl => ?_)]
      rw [he.2 l hl, Nat.testBit_and, Bool.and_eq_true, two_pow_sub_bit, decide_eq_true_eq, Nat.testBit_xor, bit511 l hl, i2, hL]
      have ho2 := ho.2 l hl
      cases hb : o.testBit l
      · rw [hb] at ho2
        simp at ho2
        simp [ho2]
      · rw [hb] at ho2
        simp at ho2
        simp [ho2]
    · rw [if_neg c2]
      refine si_t rfl (both_same hRel (si_call (m_isRiver hN) (fun y hy => ?_)))
      rw [if_pos c1] at hy
      exact si_f (by omega) (si_t rfl (si_some ⟨rfl, rfl⟩))
  · rw [if_neg c1]
    refine si_t rfl (both_same hRel (si_call (m_isRiver hN) (fun y hy => ?_)))
    rw [if_neg c1] at hy
    exact si_t hy (si_some ⟨rfl, rfl⟩)
