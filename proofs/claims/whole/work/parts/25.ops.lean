/-! WHAT ELSE THE CLASS' RIVERS DO. -/
theorem f_become {μ : Mm} {r q : Nat} (hrq : r ≠ q) : Sat (f_X2_become μ r q) (fun m => (∀ g, g ≠ r → m g = μ g) ∧ (∀ o : Int, 0 ≤ o → o < 38 → o ≠ 23 → m r o = μ q o) ∧ m r 40 = 0 ∧ m r 41 = 0) := by
  have hqr : q ≠ r := fun h => hrq h.symm
  unfold f_X2_become
  refine si_bnd (si_bnd (si_bnd (si_bnd ?_)))
  refine si_call (P := fun x : Int × Mm => (∀ g, g ≠ r → x.2 g = μ g) ∧ (∀ o : Int, (0 ≤ o ∧ o < 11) ∨ o = 24 ∨ o = 25 → x.2 r o = μ q o)) ?_ (fun x hx => ?_)
  · refine si_loop (fun i (x : Int × Mm) => x.1 = i ∧ i ≤ 9 ∧ (∀ g, g ≠ r → x.2 g = μ g) ∧ (∀ o : Int, (1 ≤ o ∧ o < 1 + i) ∨ o = 0 ∨ o = 10 ∨ o = 24 ∨ o = 25 → x.2 r o = μ q o)) 9 ?_ 1000 _ (by decide) ⟨rfl, by decide, fun g hg => by dsimp only; rw [sM_g hg, sM_g hg, sM_g hg, sM_g hg], fun o ho => ?_⟩
    · rintro i ⟨b, m⟩ hi ⟨hb, hi9, f1, f2⟩
      dsimp only at hb f1 f2 ⊢
      subst hb
      refine si_if (fun c => si_some ⟨f1, fun o ho => f2 o (by omega)⟩) (fun c => si_chk (by omega) (si_chk (by omega) (si_bnd (si_some ?_))))
      refine ⟨by omega, by dsimp only; rw [w3_id (by omega) (by omega)]; omega, by omega, fun g hg => by dsimp only; rw [sM_g hg]; exact f1 g hg, fun o ho => ?_⟩
      dsimp only
      by_cases w : o = 1 + i
      · rw [w, sM_s, f1 q hqr]
      · rw [sM_n (by omega)]
        exact f2 o (by omega)
    · dsimp only
      simp only [sM_g hqr]
      have : o = 0 ∨ o = 10 ∨ o = 24 ∨ o = 25 := by omega
      rcases this with rfl | rfl | rfl | rfl
      · rw [sM_n (by omega), sM_s]
      · rw [sM_s]
      · rw [sM_n (by omega), sM_n (by omega), sM_n (by omega), sM_s]
      · rw [sM_n (by omega), sM_n (by omega), sM_s]
  obtain ⟨k1, k2⟩ := hx
  refine si_call (P := fun x : Int × Mm => (∀ g, g ≠ r → x.2 g = μ g) ∧ (∀ o : Int, 0 ≤ o → o < 38 → o ≠ 23 → x.2 r o = μ q o)) ?_ (fun y hy => ?_)
  · refine si_loop (fun i (x : Int × Mm) => x.1 = i ∧ i ≤ 6 ∧ (∀ g, g ≠ r → x.2 g = μ g) ∧ (∀ o : Int, (0 ≤ o ∧ o < 11) ∨ o = 24 ∨ o = 25 ∨ (11 ≤ o ∧ o < 11 + i) ∨ (17 ≤ o ∧ o < 17 + i) ∨ (26 ≤ o ∧ o < 26 + i) ∨ (32 ≤ o ∧ o < 32 + i) → x.2 r o = μ q o)) 6 ?_ 1000 _ (by decide) ⟨rfl, by decide, k1, fun o ho => k2 o (by omega)⟩
    rintro i ⟨b, m⟩ hi ⟨hb, hi9, f1, f2⟩
    dsimp only at hb f1 f2 ⊢
    subst hb
    refine si_if (fun c => si_some ⟨f1, fun o h1 h2 h3 => f2 o (by omega)⟩) (fun c => si_chk (by omega) (si_chk (by omega) (si_bnd (si_chk (by omega) (si_chk (by omega) (si_bnd (si_chk (by omega) (si_chk (by omega) (si_bnd (si_chk (by omega) (si_chk (by omega) (si_bnd (si_some ?_)))))))))))))
    refine ⟨by omega, by dsimp only; rw [w3_id (by omega) (by omega)]; omega, by omega, fun g hg => by dsimp only; rw [sM_g hg, sM_g hg, sM_g hg, sM_g hg]; exact f1 g hg, fun o ho => ?_⟩
    dsimp only
    simp only [sM_g hqr]
    rw [f1 q hqr]
    by_cases w4 : o = 17 + (i : Int)
    · rw [w4, sM_s]
    · rw [sM_n (fun z => w4 z.2)]
      by_cases w3' : o = 11 + (i : Int)
      · rw [w3', sM_s]
      · rw [sM_n (fun z => w3' z.2)]
        by_cases w2 : o = 32 + (i : Int)
        · rw [w2, sM_s]
        · rw [sM_n (fun z => w2 z.2)]
          by_cases w1 : o = 26 + (i : Int)
          · rw [w1, sM_s]
          · rw [sM_n (fun z => w1 z.2)]
            exact f2 o (by omega)
  obtain ⟨j1, j2⟩ := hy
  refine si_bnd (si_bnd (si_some ⟨fun g hg => by rw [sM_g hg, sM_g hg]; exact j1 g hg, fun o h1 h2 h3 => by rw [sM_n (by omega), sM_n (by omega)]; exact j2 o h1 h2 h3, by rw [sM_n (by omega), sM_s], by rw [sM_s]⟩))
theorem RR_copy {A B C : Rv} (h24 : A 24 ≤ 9) (h25 : A 25 ≤ 6) (h : RR A B) (hc : ∀ o : Int, 0 ≤ o → o < 38 → o ≠ 23 → C o = B o) : RR A C := by
  obtain ⟨e1, e2, e3, e4, e5, e6⟩ := h
  refine ⟨(hc 24 (by decide) (by decide) (by decide)).trans e1, (hc 25 (by decide) (by decide) (by decide)).trans e2, (hc 0 (by decide) (by decide) (by decide)).trans e3, (hc 10 (by decide) (by decide) (by decide)).trans e4, fun l a b => (hc (1 + l) (by omega) (by omega) (by omega)).trans (e5 l a b), fun k a b => ?_⟩
  obtain ⟨g1, g2, g3, g4⟩ := e6 k a b
  exact ⟨(hc _ (by omega) (by omega) (by omega)).trans g1, (hc _ (by omega) (by omega) (by omega)).trans g2, (hc _ (by omega) (by omega) (by omega)).trans g3, (hc _ (by omega) (by omega) (by omega)).trans g4⟩
/-- crumbs thrown -/
def thrA (A : Rv) (l n : Int) : Rv := up A (1 + l) (if 99 ≤ A (1 + l) + n then 99 else A (1 + l) + n)
theorem VR_thr {A : Rv} (hV : VR A) {l n : Int} (hl : 0 ≤ l ∧ l < A 24) (hn : 0 ≤ n) : VR (thrA A l n) ∧ thrA A l n 24 = A 24 ∧ thrA A l n 25 = A 25 := by
  have h1 := hV.2.1
  have h2 := hV.2.2.2.1
  have hc := hV.2.2.2.2.2.2.1 l hl.1 hl.2
  exact ⟨VR_up hV (by omega) (fun l' a b c => by split <;> omega) (fun k a b => ⟨fun c => by omega, fun c => by omega, fun c => by omega, fun c => by omega⟩), up_n (by omega), up_n (by omega)⟩
theorem f_scatter {μ : Mm} {r : Nat} {A : Rv} (hV : VR A) (hR : RR A (μ r)) {l n : Int} (hl : 0 ≤ l ∧ l < A 24) (hn : 0 ≤ n ∧ n ≤ 9) : Sat (f_X2_scatter μ r l n) (fun m => (∀ g, g ≠ r → m g = μ g) ∧ RR (thrA A l n) (m r) ∧ m r 40 = μ r 40 ∧ m r 41 = μ r 41) := by
  have h9 := hV.2.1
  have hc := hV.2.2.2.2.2.2.1 l hl.1 hl.2
  unfold f_X2_scatter
  refine si_chk (by omega) (si_chk (by omega) (si_bnd (si_some ⟨fun g hg => sM_g hg, ?_, by rw [sM_n (by omega)], by rw [sM_n (by omega)]⟩)))
  rw [hR.2.2.2.2.1 l hl.1 hl.2, w3_id (by omega) (by omega), sM_r]
  have e : f_J9_min_7cf53 μ 99 (A (1 + l) + n) = if 99 ≤ A (1 + l) + n then 99 else A (1 + l) + n := by
    unfold f_J9_min_7cf53
    by_cases c : A (1 + l) + n < 99
    · rw [if_pos c, if_neg (by omega)]
    · rw [if_neg c, if_pos (by omega)]
  rw [e]
  exact RR_up hR (by omega) (by omega)
/-- n days on -/
def itD (A : Rv) : Nat → Rv
  | 0 => A
  | n + 1 => dayA (itD A n)
theorem VR_it {A : Rv} (hV : VR A) (n : Nat) : VR (itD A n) ∧ itD A n 24 = A 24 ∧ itD A n 25 = A 25 ∧ itD A n 10 = A 10 := by
  induction n with
  | zero => exact ⟨hV, rfl, rfl, rfl⟩
  | succ n ih =>
    obtain ⟨h1, h2, h3, h4⟩ := ih
    obtain ⟨g1, g2, g3, g4⟩ := VR_day h1
    exact ⟨g1, g2.trans h2, g3.trans h3, g4.trans h4⟩
theorem dayLost_in {A : Rv} (hV : VR A) : 0 ≤ dayLost A ∧ dayLost A ≤ 6 := by
  have h1 := hV.2.2.1
  have h2 := hV.2.2.2.1
  obtain ⟨g1, g2, g3⟩ := VR_swims hV (A 25).toNat (by omega)
  have := countN_in (beatenA (swimsA A (A 25).toNat)) (swimsA A (A 25).toNat 25).toNat
  unfold dayLost lostA
  omega
/-- how often a cob has to swim down in n days -/
def sumLost (A : Rv) : Nat → Int
  | 0 => 0
  | n + 1 => sumLost A n + dayLost (itD A n)
theorem sumLost_in {A : Rv} (hV : VR A) (n : Nat) : 0 ≤ sumLost A n ∧ sumLost A n ≤ 6 * n := by
  induction n with
  | zero => exact ⟨Int.le_refl _, Int.le_refl _⟩
  | succ n ih =>
    have := dayLost_in (VR_it hV n).1
    show 0 ≤ sumLost A n + dayLost (itD A n) ∧ sumLost A n + dayLost (itD A n) ≤ _
    omega
/-- who has eaten in n days, and before -/
def eatIt (A : Rv) (b : Int) : Nat → Int
  | 0 => b
  | n + 1 => dayEat (itD A n) (eatIt A b n)
theorem f_passDays {μ : Mm} {r : Nat} {A : Rv} (hV : VR A) (hR : RR A (μ r)) (hD : 0 ≤ μ r 40 ∧ μ r 40 ≤ 1000) {n : Nat} (hn : n ≤ 100) : Sat (f_X2_passDays μ r n) (fun m => (∀ g, g ≠ r → m g = μ g) ∧ RR (itD A n) (m r) ∧ m r 40 = μ r 40 + sumLost A n ∧ m r 41 = eatIt A (μ r 41) n) := by
  unfold f_X2_passDays
  refine si_bind (si_loop (fun i (x : Int × Mm) => x.1 = i ∧ i ≤ n ∧ (∀ g, g ≠ r → x.2 g = μ g) ∧ RR (itD A i) (x.2 r) ∧ x.2 r 40 = μ r 40 + sumLost A i ∧ x.2 r 41 = eatIt A (μ r 41) i) n ?_ 1000 (0, μ) (by omega) ⟨rfl, Nat.zero_le _, fun _ _ => rfl, hR, by show μ r 40 = μ r 40 + 0; omega, rfl⟩)
  rintro i ⟨b, m⟩ hi ⟨hb, hin, f1, f2, f3, f4⟩
  dsimp only at hb f1 f2 f3 f4 ⊢
  subst hb
  have hsl := sumLost_in hV i
  refine si_if (fun c => si_some (si_some ?_)) (fun c => si_call (f_passDay (VR_it hV i).1 f2 (by omega)) (fun z hz => si_some ?_))
  · have : i = n := by omega
    subst this
    exact ⟨f1, f2, f3, f4⟩
  · obtain ⟨g1, g2, g3, g4⟩ := hz
    refine ⟨by omega, by dsimp only; rw [w3_id (by omega) (by omega)]; omega, by omega, fun g hg => (g1 g hg).trans (f1 g hg), g2, ?_, ?_⟩
    · show z r 40 = μ r 40 + (sumLost A i + dayLost (itD A i))
      omega
    · show z r 41 = dayEat (itD A i) (eatIt A (μ r 41) i)
      rw [g4, f4]
/-- sets by going through the first n: the bits of those that fit -/
def orN (P : Int → Bool) (bit : Int → Int) : Nat → Int
  | 0 => 0
  | n + 1 => if P (n : Int) = true then bOr (orN P bit n) (bit (n : Int)) else orN P bit n
def swansOnA (A : Rv) (l : Int) : Int := orN (fun k => decide (A (11 + k) = l)) (fun k => bShl 1 k) (A 25).toNat
def plotsA (A : Rv) (l : Int) : Int := orN (fun k => decide (A (11 + k) = l)) (fun k => bShl 1 (A (32 + k))) (A 25).toNat
theorem f_swansOn {μ : Mm} {r : Nat} {A : Rv} (h0 : 0 ≤ A 25) (h6 : A 25 ≤ 6) (hR : RR A (μ r)) {l : Int} : Sat (f_X2_swansOn μ r l) (fun z => z = swansOnA A l) := by
  unfold f_X2_swansOn
  refine si_bind (si_loop (fun i (x : Int × Int) => x.2 = i ∧ (i : Int) ≤ A 25 ∧ x.1 = orN (fun k => decide (A (11 + k) = l)) (fun k => bShl 1 k) i) (A 25).toNat ?_ 1000 (0, 0) (by omega) ⟨rfl, by omega, rfl⟩)
  rintro i ⟨a, b⟩ hi ⟨hb, hiA, ha⟩
  dsimp only at hb ha ⊢
  subst hb
  have e2 := hR.2.1
  refine si_if (fun c => si_some (si_some ?_)) (fun c => ?_)
  · unfold swansOnA
    rw [show (A 25).toNat = i by omega]
    exact ha
  have hp := (hR.2.2.2.2.2 i (by omega) (by omega)).1
  have hs : orN (fun k => decide (A (11 + k) = l)) (fun k => bShl 1 k) (i + 1) = if A (11 + (i : Int)) = l then bOr a (bShl 1 i) else a := by
    show (if decide (A (11 + (i : Int)) = l) = true then _ else _) = _
    rw [← ha]
    by_cases c : A (11 + (i : Int)) = l
    · rw [if_pos c, if_pos (by simpa using c)]
    · rw [if_neg c, if_neg (by simpa using c)]
  refine si_chk (by omega) (si_if (fun c1 => si_some ?_) (fun c1 => si_some ?_))
  · rw [hp] at c1
    refine ⟨by omega, by dsimp only; rw [w3_id (by omega) (by omega)]; omega, by omega, ?_⟩
    rw [hs, if_pos c1]
  · rw [hp] at c1
    refine ⟨by omega, by dsimp only; rw [w3_id (by omega) (by omega)]; omega, by omega, ?_⟩
    rw [hs, if_neg c1]
theorem f_plotsOwnedAt {μ : Mm} {r : Nat} {A : Rv} (h0 : 0 ≤ A 25) (h6 : A 25 ≤ 6) (hR : RR A (μ r)) {l : Int} : Sat (f_X2_plotsOwnedAt μ r l) (fun z => z = plotsA A l) := by
  unfold f_X2_plotsOwnedAt
  refine si_bind (si_loop (fun i (x : Int × Int) => x.2 = i ∧ (i : Int) ≤ A 25 ∧ x.1 = orN (fun k => decide (A (11 + k) = l)) (fun k => bShl 1 (A (32 + k))) i) (A 25).toNat ?_ 1000 (0, 0) (by omega) ⟨rfl, by omega, rfl⟩)
  rintro i ⟨a, b⟩ hi ⟨hb, hiA, ha⟩
  dsimp only at hb ha ⊢
  subst hb
  have e2 := hR.2.1
  refine si_if (fun c => si_some (si_some ?_)) (fun c => ?_)
  · unfold plotsA
    rw [show (A 25).toNat = i by omega]
    exact ha
  obtain ⟨hp, -, -, hpl⟩ := hR.2.2.2.2.2 i (by omega) (by omega)
  have hs : orN (fun k => decide (A (11 + k) = l)) (fun k => bShl 1 (A (32 + k))) (i + 1) = if A (11 + (i : Int)) = l then bOr a (bShl 1 (A (32 + i))) else a := by
    show (if decide (A (11 + (i : Int)) = l) = true then _ else _) = _
    rw [← ha]
    by_cases c : A (11 + (i : Int)) = l
    · rw [if_pos c, if_pos (by simpa using c)]
    · rw [if_neg c, if_neg (by simpa using c)]
  refine si_chk (by omega) (si_if (fun c1 => si_chk (by omega) (si_bnd (si_some ?_))) (fun c1 => si_some ?_))
  · rw [hp] at c1
    refine ⟨by omega, by dsimp only; rw [w3_id (by omega) (by omega)]; omega, by omega, ?_⟩
    rw [hs, if_pos c1, hpl]
  · rw [hp] at c1
    refine ⟨by omega, by dsimp only; rw [w3_id (by omega) (by omega)]; omega, by omega, ?_⟩
    rw [hs, if_neg c1]
