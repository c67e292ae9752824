/-! ACTS ARE KEPT. -/
def frC0 (μ m : Mm) : Prop := ∀ g, g ≠ 0 → g ≠ 3 → g ≠ 4 → m g = μ g
def frN0 (ν m : Mm) : Prop := (∀ g, g ≠ 0 → g ≠ 3 → g ≠ 30 → g ≠ 37 → m g = ν g) ∧ ∀ o : Int, o < 5 → m 30 o = ν 30 o
theorem frC0_rf (μ : Mm) : frC0 μ μ := fun _ _ _ _ => rfl
theorem frN0_rf (ν : Mm) : frN0 ν ν := ⟨fun _ _ _ _ _ => rfl, fun _ _ => rfl⟩
theorem frC0_tr {a b c : Mm} (h1 : frC0 a b) (h2 : frC0 b c) : frC0 a c := fun g x y w => (h2 g x y w).trans (h1 g x y w)
theorem frN0_tr {a b c : Mm} (h1 : frN0 a b) (h2 : frN0 b c) : frN0 a c := ⟨fun g x y w v => (h2.1 g x y w v).trans (h1.1 g x y w v), fun o x => (h2.2 o x).trans (h1.2 o x)⟩
theorem frC0_0 {μ m : Mm} (h : ∀ g, g ≠ 0 → m g = μ g) : frC0 μ m := fun g a _ _ => h g a
theorem frN0_0 {μ m : Mm} (h : ∀ g, g ≠ 0 → m g = μ g) : frN0 μ m := ⟨fun g a _ _ _ => h g a, fun o _ => by rw [h 30 (by decide)]⟩
theorem RelA_now {μ ν m k : Mm} {A B : Rv} (h : RelA μ ν A) (hC : frC0 μ m) (hN : frN0 ν k) (hB : NowR m k B) (e24 : B 24 = A 24) (e25 : B 25 = A 25) (hk : ∀ k, 0 ≤ k → k < A 25 → B (26 + k) = A (26 + k) ∧ B (32 + k) = A (32 + k)) : RelA m k B := by
  obtain ⟨h1, h2, h3, h4, h5, h6, h7⟩ := h
  refine ⟨hB, fun r hr => ?_, ?_, ?_, fun j hj => ?_, ?_, ?_⟩
  · rw [hC 37 (by decide) (by decide) (by decide), hC 36 (by decide) (by decide) (by decide), hC (50 + r) (by omega) (by omega) (by omega), hN.1 33 (by decide) (by decide) (by decide) (by decide), hN.1 34 (by decide) (by decide) (by decide) (by decide), hN.1 32 (by decide) (by decide) (by decide) (by decide)]
    exact h2 r hr
  · unfold TapeR at h3 ⊢
    rw [hC 34 (by decide) (by decide) (by decide), hC 35 (by decide) (by decide) (by decide), hN.1 35 (by decide) (by decide) (by decide) (by decide), hN.2 2 (by decide), hN.2 3 (by decide)]
    exact h3
  · unfold TraceR at h4 ⊢
    rw [hC 33 (by decide) (by decide) (by decide), hC 32 (by decide) (by decide) (by decide), hN.1 36 (by decide) (by decide) (by decide) (by decide), hN.2 4 (by decide)]
    exact h4
  · rw [hC (1 + j) (by omega) (by omega) (by omega), hN.1 38 (by decide) (by decide) (by decide) (by decide), hN.1 (1 + j) (by omega) (by omega) (by omega) (by omega)]
    exact h5 j hj
  · unfold ActsR at h6 ⊢
    rw [hC 31 (by decide) (by decide) (by decide), hN.1 31 (by decide) (by decide) (by decide) (by decide), hN.2 0 (by decide)]
    obtain ⟨a1, a2, a3, a4, a5, a6⟩ := h6
    refine ⟨a1, a2, a3, a4, a5, fun j hj => ?_⟩
    have hs := slot_lt (μ 31 0) (μ 31 1) j
    rw [hC _ (by omega) (by omega) (by omega)]
    obtain ⟨B', v1, v2, v3, v4, v5, v6, v7, v8⟩ := a6 j hj
    refine ⟨B', v1, v2, v3, v4.trans e24.symm, v5.trans e25.symm, fun k p q => ?_, v7, v8⟩
    rw [e25] at q
    exact ⟨(v6 k p q).1.trans (hk k p q).1.symm, (v6 k p q).2.trans (hk k p q).2.symm⟩
  · rw [hC 30 (by decide) (by decide) (by decide), hN.2 1 (by decide)]
    exact h7
theorem CoreR_cg {B C C' : Rv} (hV : VR B) (h : CoreR B C) (hc : ∀ o, 0 ≤ o → o < 23 → C' o = C o) : CoreR B C' := by
  have h1 := hV.2.1
  have h2 := hV.2.2.2.1
  obtain ⟨a, b, c, d⟩ := h
  exact ⟨(hc 0 (by decide) (by decide)).trans a, (hc 10 (by decide) (by decide)).trans b, fun l p q => (hc _ (by omega) (by omega)).trans (c l p q), fun k p q => ⟨(hc _ (by omega) (by omega)).trans (d k p q).1, (hc _ (by omega) (by omega)).trans (d k p q).2⟩⟩
theorem CoreR_of {B C : Rv} (h : RR B C) : CoreR B C := ⟨h.2.2.1, h.2.2.2.1, h.2.2.2.2.1, fun k p q => ⟨(h.2.2.2.2.2 k p q).1, (h.2.2.2.2.2 k p q).2.1⟩⟩
theorem min_eq (μ : Mm) (a b : Int) : f_J9_min_7cf53 μ a b = if b < a then b else a := rfl
theorem f_keep {μ : Mm} (h0 : 0 ≤ μ 31 0 ∧ μ 31 0 < 24) (h1 : 0 ≤ μ 31 1 ∧ μ 31 1 ≤ 24) : Sat (f_X0_keep μ 0) (fun m => (∀ g, g ≠ 31 → g ≠ 5 + (μ 31 0).toNat → m g = μ g) ∧ (∀ o : Int, 0 ≤ o → o < 38 → o ≠ 23 → m (5 + (μ 31 0).toNat) o = μ 0 o) ∧ m 31 0 = (if 23 ≤ μ 31 0 then 0 else μ 31 0 + 1) ∧ m 31 1 = if μ 31 1 = 24 then 24 else μ 31 1 + 1) := by
  unfold f_X0_keep
  refine si_chk h0 (si_call (f_become (r := 5 + (μ 31 0).toNat) (q := 0) (by omega)) (fun z hz => si_bnd (si_bnd (si_bnd (si_some ?_)))))
  obtain ⟨g1, g2, g3, g4⟩ := hz
  have e31 : z 31 = μ 31 := g1 31 (by omega)
  refine ⟨fun g a b => by rw [sM_g a, sM_g a]; exact g1 g b, fun o a b c => by rw [sM_g (by omega), sM_g (by omega)]; exact g2 o a b c, ?_, ?_⟩
  · rw [sM_n (by omega), sM_s, e31]
    by_cases c : 23 ≤ μ 31 0
    · rw [if_pos c, if_pos c]
    · rw [if_neg c, if_neg c, w3_id (by omega) (by omega)]
  · rw [sM_s, min_eq, sM_n (by omega), e31, w3_id (by omega) (by omega)]
    by_cases c : μ 31 1 = 24
    · rw [if_pos c, if_neg (by omega)]
    · rw [if_neg c]
      split <;> omega
theorem m_minds {ν : Mm} (h0 : 0 ≤ ν 30 0 ∧ ν 30 0 ≤ 24) : Sat (f_X6_minds ν) (fun k => (∀ g, g ≠ 30 → g ≠ 31 → k g = ν g) ∧ (∀ o, o ≠ 0 → k 30 o = ν 30 o) ∧ k 30 0 = (if ν 30 0 = 24 then 23 else ν 30 0) + 1 ∧ (∀ o, 0 ≤ o → o < 23 * (if ν 30 0 = 24 then 23 else ν 30 0) → k 31 o = ν 31 (if ν 30 0 = 24 then o + 23 else o)) ∧ ∀ o, 0 ≤ o → o < 23 → k 31 (23 * (if ν 30 0 = 24 then 23 else ν 30 0) + o) = ν 0 o) := by
  unfold f_X6_minds
  refine si_call (P := fun v => (∀ g, g ≠ 30 → g ≠ 31 → v g = ν g) ∧ (∀ o, o ≠ 0 → v 30 o = ν 30 o) ∧ v 30 0 = (if ν 30 0 = 24 then 23 else ν 30 0) ∧ (∀ o, 0 ≤ o → o < 23 * (if ν 30 0 = 24 then 23 else ν 30 0) → v 31 o = ν 31 (if ν 30 0 = 24 then o + 23 else o))) ?_ (fun v hv => ?_)
  · refine si_if (fun c => ?_) (fun c => si_some ⟨fun _ _ _ => rfl, fun _ _ => rfl, by rw [if_neg c], fun o _ _ => by rw [if_neg c]⟩)
    refine si_call (P := fun e : Int × Mm => (∀ g, g ≠ 31 → e.2 g = ν g) ∧ ∀ o, 0 ≤ o → o < 529 → e.2 31 o = ν 31 (o + 23)) (si_loop (fun i (x : Int × Mm) => x.1 = i ∧ i ≤ 529 ∧ (∀ g, g ≠ 31 → x.2 g = ν g) ∧ (∀ o : Int, 0 ≤ o → o < i → x.2 31 o = ν 31 (o + 23)) ∧ ∀ o : Int, (i : Int) ≤ o → x.2 31 o = ν 31 o) 529 ?_ 1000 (0, ν) (by decide) ⟨rfl, by decide, fun _ _ => rfl, fun o a b => by omega, fun _ _ => rfl⟩) (fun e he => si_bnd (si_some ?_))
    · rintro i ⟨b, m⟩ hi ⟨hb, hin, f1, f2, f3⟩
      dsimp only at hb f1 f2 f3 ⊢
      subst hb
      refine si_if (fun c => si_some ⟨f1, fun o a b => f2 o a (by omega)⟩) (fun c => ?_)
      rw [w3_id (x := (i : Int) + 23) (by omega) (by omega)]
      refine si_chk (by omega) (si_chk (by omega) (si_bnd (si_some ⟨by omega, w3s i (by omega), by omega, fun g hg => by dsimp only; rw [sM_g hg]; exact f1 g hg, fun o a b => ?_, fun o a => ?_⟩)))
      · dsimp only
        by_cases w : o = 0 + (i : Int)
        · subst w
          rw [sM_s, show 0 + ((i : Int) + 23) = i + 23 by omega, f3 _ (by omega)]
          congr 1; omega
        · rw [sM_n (fun z => w z.2)]
          exact f2 o a (by omega)
      · dsimp only
        rw [sM_n (by omega)]
        exact f3 o (by omega)
    · rw [if_pos c]
      refine ⟨fun g a b => by rw [sM_g a]; exact he.1 g b, fun o a => by rw [sM_n (by omega), he.1 30 (by decide)], ?_, fun o a b => ?_⟩
      · rw [sM_s, he.1 30 (by decide), c]; rfl
      · rw [sM_g (by decide), if_pos c]; exact he.2 o a (by omega)
  · obtain ⟨v1, v2, v3, v4⟩ := hv
    generalize hc : (if ν 30 0 = 24 then (23 : Int) else ν 30 0) = c' at *
    have hc' : 0 ≤ c' ∧ c' ≤ 23 := by
      rw [← hc]; split <;> omega
    refine si_call (P := fun e : Int × Mm => (∀ g, g ≠ 31 → e.2 g = v g) ∧ (∀ o, 0 ≤ o → o < 23 * c' → e.2 31 o = v 31 o) ∧ ∀ o, 0 ≤ o → o < 23 → e.2 31 (23 * c' + o) = v 0 o) (si_loop (fun i (x : Int × Mm) => x.1 = i ∧ i ≤ 23 ∧ (∀ g, g ≠ 31 → x.2 g = v g) ∧ (∀ o, 0 ≤ o → o < 23 * c' → x.2 31 o = v 31 o) ∧ ∀ o : Int, 0 ≤ o → o < i → x.2 31 (23 * c' + o) = v 0 o) 23 ?_ 1000 (0, v) (by decide) ⟨rfl, by decide, fun _ _ => rfl, fun _ _ _ => rfl, fun o a b => by omega⟩) (fun e he => si_bnd (si_some ?_))
    · rintro i ⟨b, m⟩ hi ⟨hb, hin, f1, f2, f3⟩
      dsimp only at hb f1 f2 f3 ⊢
      subst hb
      simp (disch := omega) only [f1 30 (by decide), v3, w3_id]
      refine si_if (fun c => si_some ⟨f1, f2, fun o a b => f3 o a (by omega)⟩) (fun c => si_chk (by omega) (si_chk (by omega) (si_bnd (si_some ⟨by omega, by dsimp only; omega, by omega, fun g hg => by dsimp only; rw [sM_g hg]; exact f1 g hg, fun o a b => ?_, fun o a b => ?_⟩))))
      · dsimp only
        rw [sM_n (by omega)]
        exact f2 o a b
      · dsimp only
        by_cases w : o = (i : Int)
        · subst w
          rw [show 0 + (23 * c' + (i : Int)) = 23 * c' + i by omega, sM_s, rd0 (by omega), f1 0 (by decide)]
        · rw [sM_n (by omega)]
          exact f3 o a (by omega)
    · obtain ⟨e1, e2, e3⟩ := he
      refine ⟨fun g a b => by rw [sM_g a, e1 g b]; exact v1 g a b, fun o a => by rw [sM_n (by omega), e1 30 (by decide)]; exact v2 o a, ?_, fun o a b => ?_, fun o a b => ?_⟩
      · rw [sM_s, e1 30 (by decide), v3, w3_id (by omega) (by omega)]
      · rw [sM_g (by decide), e2 o a b]; exact v4 o a b
      · rw [sM_g (by decide), e3 o a b, v1 0 (by decide) (by decide)]
theorem keep2 {μ ν : Mm} {A : Rv} (h : RelA μ ν A) (hV : VR A) (hd : 0 ≤ A 0 ∧ A 0 ≤ 999) : Sat (f_X0_keep μ 0) (fun m => Sat (f_X6_minds ν) (fun k => RelA m k A ∧ m 0 = μ 0 ∧ k 0 = ν 0)) := by
  obtain ⟨h1, h2, h3, h4, h5, h6, h7⟩ := h
  obtain ⟨a1, a2, a3, a4, a5, a6⟩ := h6
  refine si_mono (f_keep ⟨a4, a5⟩ ⟨a2, a3⟩) (fun m hm => si_mono (m_minds (by omega)) (fun k hk => ?_))
  obtain ⟨m1, m2, m3, m4⟩ := hm
  obtain ⟨k1, k2, k3, k4, k5⟩ := hk
  have m0 : m 0 = μ 0 := m1 0 (by decide) (by omega)
  have k0 : k 0 = ν 0 := k1 0 (by decide) (by decide)
  refine ⟨⟨?_, fun r hr => ?_, ?_, ?_, fun j hj => ?_, ?_, ?_⟩, m0, k0⟩
  · unfold NowR at h1 ⊢
    rw [m0, k0]
    exact h1
  · rw [m1 37 (by decide) (by omega), m1 36 (by decide) (by omega), m1 (50 + r) (by omega) (by omega), k1 33 (by decide) (by decide), k1 34 (by decide) (by decide), k1 32 (by decide) (by decide)]
    exact h2 r hr
  · unfold TapeR at h3 ⊢
    rw [m1 34 (by decide) (by omega), m1 35 (by decide) (by omega), k1 35 (by decide) (by decide), k2 2 (by decide), k2 3 (by decide)]
    exact h3
  · unfold TraceR at h4 ⊢
    rw [m1 33 (by decide) (by omega), m1 32 (by decide) (by omega), k1 36 (by decide) (by decide), k2 4 (by decide)]
    exact h4
  · rw [m1 (1 + j) (by omega) (by omega), k1 38 (by decide) (by decide), k1 (1 + j) (by omega) (by omega)]
    exact h5 j hj
  · have hx' : 0 ≤ m 31 0 ∧ m 31 0 < 24 := by rw [m3]; split <;> omega
    have hnew : ∃ B : Rv, VR B ∧ 0 ≤ B 0 ∧ B 0 ≤ 999 ∧ B 24 = A 24 ∧ B 25 = A 25 ∧ (∀ k, 0 ≤ k → k < A 25 → B (26 + k) = A (26 + k) ∧ B (32 + k) = A (32 + k)) ∧ RR B (m (5 + (μ 31 0).toNat)) ∧ CoreR B (fun o => k 31 (23 * (if ν 30 0 = 24 then 23 else ν 30 0) + o)) :=
      ⟨A, hV, hd.1, hd.2, rfl, rfl, fun _ _ _ => ⟨rfl, rfl⟩, RR_copy hV.2.1 hV.2.2.2.1 h1.1 m2, CoreR_cg hV (CoreR_of h1.2.1) k5⟩
    by_cases c : μ 31 1 = 24
    · have c' : ν 30 0 = 24 := by omega
      rw [if_pos c] at m4
      rw [if_pos c'] at k3 k4 hnew
      refine ⟨by omega, by omega, by omega, hx'.1, hx'.2, fun j hj => ?_⟩
      by_cases cj : j = 23
      · subst cj
        have hs : slot (m 31 0) (m 31 1) 23 = 5 + (μ 31 0).toNat := by
          unfold slot
          rw [m3, m4]
          split <;> omega
        rw [hs]
        exact hnew
      · obtain ⟨B, v1, v2, v3, v4, v5, v6, v7, v8⟩ := a6 (j + 1) (by omega)
        have hs : slot (m 31 0) (m 31 1) j = slot (μ 31 0) (μ 31 1) (j + 1) := by
          unfold slot
          rw [m3, m4, c]
          split <;> omega
        have hs2 : slot (μ 31 0) (μ 31 1) (j + 1) ≠ 5 + (μ 31 0).toNat ∧ slot (μ 31 0) (μ 31 1) (j + 1) ≠ 31 := by
          unfold slot
          rw [c]
          omega
        refine ⟨B, v1, v2, v3, v4, v5, v6, by rw [hs, m1 _ hs2.2 hs2.1]; exact v7, CoreR_cg v1 v8 (fun o p q => ?_)⟩
        show k 31 (23 * (j : Int) + o) = ν 31 (23 * ((j + 1 : Nat) : Int) + o)
        rw [k4 _ (by omega) (by omega), if_pos c']
        congr 1; omega
    · have c' : ¬ ν 30 0 = 24 := by omega
      rw [if_neg c] at m4
      rw [if_neg c'] at k3 k4 hnew
      refine ⟨by omega, by omega, by omega, hx'.1, hx'.2, fun j hj => ?_⟩
      by_cases cj : (j : Int) = μ 31 1
      · have hs : slot (m 31 0) (m 31 1) j = 5 + (μ 31 0).toNat := by
          unfold slot
          rw [m3, m4]
          split <;> omega
        rw [hs, show (j : Int) = ν 30 0 by omega]
        exact hnew
      · obtain ⟨B, v1, v2, v3, v4, v5, v6, v7, v8⟩ := a6 j (by omega)
        have hs : slot (m 31 0) (m 31 1) j = slot (μ 31 0) (μ 31 1) j := by
          unfold slot
          rw [m3, m4]
          split <;> omega
        have hs2 : slot (μ 31 0) (μ 31 1) j ≠ 5 + (μ 31 0).toNat ∧ slot (μ 31 0) (μ 31 1) j ≠ 31 := by
          unfold slot
          omega
        refine ⟨B, v1, v2, v3, v4, v5, v6, by rw [hs, m1 _ hs2.2 hs2.1]; exact v7, CoreR_cg v1 v8 (fun o p q => ?_)⟩
        show k 31 (23 * (j : Int) + o) = ν 31 (23 * (j : Int) + o)
        rw [k4 _ (by omega) (by omega), if_neg c']
  · rw [m1 30 (by decide) (by omega), k2 1 (by decide)]
    exact h7
