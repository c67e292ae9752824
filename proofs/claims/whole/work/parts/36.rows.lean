/-! ROWS: row, set, copy, drop. -/
def frR (μ m : Mm) : Prop := ∀ g, g ≠ 30 → g ≠ 36 → g ≠ 37 → (g < 50 ∨ 58 ≤ g) → m g = μ g
def frS (ν k : Mm) : Prop := (∀ g, g ≠ 30 → g ≠ 32 → g ≠ 33 → g ≠ 34 → g ≠ 37 → k g = ν g) ∧ ∀ o : Int, o < 5 → o ≠ 1 → k 30 o = ν 30 o
theorem RelA_rows {μ ν m k : Mm} {A : Rv} (h : RelA μ ν A) (hC : frR μ m) (hN : frS ν k) (hR : RowsR m k) (hs : k 30 1 = m 30 0) : RelA m k A := by
  obtain ⟨h1, h2, h3, h4, h5, h6, h7⟩ := h
  have eC : ∀ g, g < 30 → m g = μ g := fun g hg => hC g (by omega) (by omega) (by omega) (by omega)
  refine ⟨?_, hR, ?_, ?_, fun j hj => ?_, ?_, hs⟩
  · unfold NowR at h1 ⊢
    rw [eC 0 (by decide), hN.1 0 (by decide) (by decide) (by decide) (by decide) (by decide)]
    exact h1
  · unfold TapeR at h3 ⊢
    rw [hC 34 (by decide) (by decide) (by decide) (by decide), hC 35 (by decide) (by decide) (by decide) (by decide), hN.1 35 (by decide) (by decide) (by decide) (by decide) (by decide), hN.2 2 (by decide) (by decide), hN.2 3 (by decide) (by decide)]
    exact h3
  · unfold TraceR at h4 ⊢
    rw [hC 33 (by decide) (by decide) (by decide) (by decide), hC 32 (by decide) (by decide) (by decide) (by decide), hN.1 36 (by decide) (by decide) (by decide) (by decide) (by decide), hN.2 4 (by decide) (by decide)]
    exact h4
  · rw [eC (1 + j) (by omega), hN.1 38 (by decide) (by decide) (by decide) (by decide) (by decide), hN.1 (1 + j) (by omega) (by omega) (by omega) (by omega) (by omega)]
    exact h5 j hj
  · unfold ActsR at h6 ⊢
    rw [hC 31 (by decide) (by decide) (by decide) (by decide), hN.1 31 (by decide) (by decide) (by decide) (by decide) (by decide), hN.2 0 (by decide) (by decide)]
    obtain ⟨a1, a2, a3, a4, a5, a6⟩ := h6
    refine ⟨a1, a2, a3, a4, a5, fun j hj => ?_⟩
    have hs := slot_lt (μ 31 0) (μ 31 1) j
    rw [eC _ (by omega)]
    exact a6 j hj
theorem RelA_found {μ ν : Mm} {A : Rv} (h : RelA μ ν A) (f : Int) : RelA (sM μ 30 0 f) (sM ν 30 1 f) A := by
  have h2 := h.2.1
  refine RelA_rows h (fun g a _ _ _ => sM_g a) ⟨fun g a _ _ _ _ => sM_g a, fun o _ b => sM_n (by omega)⟩ (fun r hr => ?_) (by rw [sM_s, sM_s])
  rw [sM_g (by omega), sM_g (by omega), sM_g (by omega), sM_g (by omega), sM_g (by omega), sM_g (by omega)]
  exact h2 r hr
theorem both_found {μ ν : Mm} {A : Rv} (h : RelA μ ν A) (f : Int) : Sat ((f_X5_found μ f).bind fun z => some (z.1, z.2)) (fun z => Sat ((f_X6_found ν f).bind fun z => some (z.1, z.2)) (fun y => y.1 = z.1 ∧ Rel z.2 y.2)) := by
  unfold f_X5_found f_X6_found
  exact si_call2 (P := fun (x y : Int × Mm) => y.1 = x.1 ∧ Rel x.2 y.2) (si_bnd (si_some (si_bnd (si_some ⟨rfl, A, RelA_found h f⟩)))) (fun a b hab => si_some (si_some hab))
theorem isRow_eq (ν : Mm) (p : Int) : f_X6_isRow ν p = if 0 ≤ p ∧ p ≤ 7 then 1 else 0 := in_eq ν p 0 7
theorem zadd (x : Int) : 0 + x = x := by omega
theorem f_missing {μ : Mm} {r : Nat} (hr : r < 8) : Sat (f_X3_isMissing μ r) (fun y => y = if μ 37 r = -1 then 1 else 0) := by
  unfold f_X3_isMissing
  rw [zadd]
  refine si_chk (by omega) (si_if (fun c => si_some ?_) (fun c => si_some ?_))
  · rw [if_pos c]
  · rw [if_neg c]
theorem f_holds {μ : Mm} {r : Nat} (hr : r < 8) (hs : -1 ≤ μ 37 r ∧ μ 37 r ≤ 40) {i n : Int} (hn : inR n) : Sat (f_X3_holds μ r i n) (fun z => z = if 0 ≤ n ∧ 0 ≤ i ∧ i + n ≤ μ 37 r then 1 else 0) := by
  unfold f_X3_holds
  have := hn.2
  refine si_if (fun c => si_some (by rw [if_neg (by omega)])) (fun c => si_if (fun c1 => si_some (by rw [if_neg (by omega)])) (fun c1 => si_chk (by omega) ?_))
  rw [zadd, w3_id (by omega) (by omega)]
  exact si_if (fun c => si_some (by rw [if_neg (by omega)])) (fun c => si_some (by rw [if_pos (by omega)]))
theorem f_finding {μ : Mm} {r : Nat} (hr : r < 8) (hs : -1 ≤ μ 37 r ∧ μ 37 r ≤ 40) {i n : Int} (hn : inR n) : Sat (f_X3_findingAt μ r i n) (fun z => z = if μ 37 r = -1 then 1 else if 0 ≤ n ∧ 0 ≤ i ∧ i + n ≤ μ 37 r then 0 else 2) := by
  unfold f_X3_findingAt
  refine si_call (f_missing hr) (fun z hz => ?_)
  by_cases c : μ 37 r = -1
  · rw [if_pos c] at hz
    exact si_f (by omega) (si_some (by rw [if_pos c]))
  · rw [if_neg c] at hz
    refine si_t hz (si_call (f_holds hr hs hn) (fun y hy => ?_))
    rw [if_neg c]
    by_cases c2 : 0 ≤ n ∧ 0 ≤ i ∧ i + n ≤ μ 37 r
    · rw [if_pos c2] at hy
      exact si_f (by omega) (si_some (by rw [if_pos c2]))
    · rw [if_neg c2] at hy
      exact si_t hy (si_some (by rw [if_neg c2]))
theorem fits_eq (ν : Mm) {i n s : Int} (hi : inR i) (hn : inR n) : f_X6_fits ν i n s = if 0 ≤ i ∧ i + n ≤ s then 1 else 0 := by
  obtain ⟨i1, i2⟩ := hi
  obtain ⟨n1, n2⟩ := hn
  unfold f_X6_fits
  rw [w6_id (by omega) (by omega)]
  by_cases c : i < 0
  · rw [if_pos c, if_neg (by omega)]
  · rw [if_neg c]
    by_cases c2 : s < i + n
    · rw [if_pos (cmp3_gt.mpr c2), if_neg (by omega)]
    · rw [if_neg (fun q => c2 (cmp3_gt.mp q)), if_pos (by omega)]
/-- what is looked at first, on both sides -/
theorem both_against {μ ν : Mm} {A : Rv} (h : RelA μ ν A) {r : Nat} (hr : r < 8) {i n : Int} (hi : inR i) (hn : 1 ≤ n ∧ n ≤ 12) : Sat (f_X3_findingAt μ r i n) (fun z => Sat (f_X6_against ν r i n) (fun y => (z = 0 ∧ y = (0, ν) ∧ 0 ≤ i ∧ i + n ≤ μ 37 r) ∨ (z ≠ 0 ∧ y.1 < 0 ∧ y.1 = w3 (-1000010 - z) ∧ Rel (sM μ 30 0 z) y.2))) := by
  obtain ⟨⟨q1, q2, q3, q4, q5, q6⟩, q7⟩ := h.2.1 r hr
  refine si_mono (f_finding hr ⟨q3, q4⟩ (i := i) (n := n) ⟨by omega, by omega⟩) (fun z hz => ?_)
  unfold f_X6_against
  rw [zadd, q1, fits_eq ν hi ⟨by omega, by omega⟩]
  have hf : ∀ f : Int, Sat ((f_X6_found ν f).bind fun z => some (z.1, z.2)) (fun y => y.1 = w3 (-1000010 - f) ∧ Rel (sM μ 30 0 f) y.2) := fun f => by
    unfold f_X6_found
    exact si_call (P := fun y : Int × Mm => y.1 = w3 (-1000010 - f) ∧ Rel (sM μ 30 0 f) y.2) (si_bnd (si_some ⟨rfl, A, RelA_found h f⟩)) (fun y hy => si_some hy)
  refine si_chk (by omega) ?_
  by_cases c : μ 37 r = -1
  · rw [if_pos c] at hz
    subst hz
    refine si_f (by omega) (si_mono (hf 1) (fun y hy => Or.inr ⟨by decide, ?_, hy.1, hy.2⟩))
    rw [hy.1]; decide
  · rw [if_neg c] at hz
    refine si_t (by omega) (si_chk (by omega) ?_)
    by_cases c2 : 0 ≤ i ∧ i + n ≤ μ 37 r
    · rw [if_pos c2]
      rw [if_pos (by omega)] at hz
      exact si_f (by decide) (si_some (Or.inl ⟨hz, rfl, c2⟩))
    · rw [if_neg c2]
      rw [if_neg (by omega)] at hz
      subst hz
      refine si_t rfl (si_mono (hf 2) (fun y hy => Or.inr ⟨by decide, ?_, hy.1, hy.2⟩))
      rw [hy.1]; decide
theorem b_row {μ ν : Mm} (h : Rel μ ν) (r l n : Int) : Both (f_X5_row μ r l n) (f_X6_row ν r l n) := by
  have hRel := h
  obtain ⟨A, hA⟩ := h
  have hR := hA.2.1
  unfold f_X5_row f_X6_row
  rw [within_eq, within_eq, isRow_eq, in_eq]
  by_cases c1 : 0 ≤ r ∧ r ≤ 7
  · obtain ⟨r, rfl⟩ := nat_of c1.1
    rw [if_pos c1]
    refine si_f (by decide) (si_swap (si_f (by decide) (si_swap ?_)))
    by_cases c2 : 0 ≤ l ∧ l ≤ 2
    · rw [if_pos c2]
      refine si_f (by decide) (si_swap (si_f (by decide) (si_swap ?_)))
      by_cases c3 : n ≤ 40
      · refine si_t c3 (si_swap (si_t c3 (si_swap ?_)))
        by_cases c4 : 0 ≤ n
        · refine si_t c4 (si_bnd (si_swap (si_t c4 (si_swap ?_))))
          have hmk : Sat (f_X3_make (sM μ 30 0 0) r l n) (fun m => (∀ g, g ≠ 30 → g ≠ 36 → g ≠ 37 → g ≠ 50 + r → m g = μ g) ∧ m 30 0 = 0 ∧ m 36 r = l ∧ m 37 r = n ∧ (∀ s : Nat, s ≠ r → m 36 s = μ 36 s ∧ m 37 s = μ 37 s) ∧ ∀ i : Int, 0 ≤ i → i < 40 → m (50 + r) i = 0) := by
            unfold f_X3_make
            rw [zadd, Int.toNat_natCast]
            refine si_chk (by omega) (si_bnd (si_chk (by omega) (si_bnd (si_call (P := fun e : Int × Mm => (∀ g, g ≠ 50 + r → e.2 g = sM (sM (sM μ 30 0 0) 36 r l) 37 r n g) ∧ ∀ i : Int, 0 ≤ i → i < 40 → e.2 (50 + r) i = 0) (si_loop (fun i (x : Int × Mm) => x.1 = i ∧ i ≤ 40 ∧ (∀ g, g ≠ 50 + r → x.2 g = sM (sM (sM μ 30 0 0) 36 r l) 37 r n g) ∧ ∀ j : Int, 0 ≤ j → j < i → x.2 (50 + r) j = 0) 40 ?_ 1000 _ (by decide) ⟨rfl, by decide, fun _ _ => rfl, fun j a b => by omega⟩) (fun e he => si_some ?_)))))
            · rintro i ⟨b, m⟩ hi ⟨hb, hin, f1, f2⟩
              dsimp only at hb f1 f2 ⊢
              subst hb
              rw [zadd]
              refine si_if (fun q => si_some ⟨f1, fun o p r => f2 o p (by omega)⟩) (fun q => si_chk (by omega) (si_chk (by omega) (si_bnd (si_some ⟨by omega, w3s i (by omega), by omega, fun g hg => by dsimp only; rw [sM_g hg]; exact f1 g hg, fun j a b => ?_⟩))))
              dsimp only
              by_cases w : j = (i : Int)
              · rw [w, sM_s]
              · rw [sM_n (fun z => w z.2)]
                exact f2 j a (by omega)
            · obtain ⟨e1, e2⟩ := he
              refine ⟨fun g a b c d => by rw [e1 g d, sM_g c, sM_g b, sM_g a], ?_, ?_, ?_, fun s hs => ⟨?_, ?_⟩, e2⟩
              · rw [e1 30 (by omega), sM_g (by decide), sM_g (by decide), sM_s]
              · rw [e1 36 (by omega), sM_g (by decide), sM_s]
              · rw [e1 37 (by omega), sM_s]
              · rw [e1 36 (by omega), sM_g (by decide), sM_n (by omega), sM_g (by decide)]
              · rw [e1 37 (by omega), sM_n (by omega), sM_g (by decide), sM_g (by decide)]
          refine si_call hmk (fun z hz => si_some ?_)
          obtain ⟨z1, z2, z3, z4, z5, z6⟩ := hz
          rw [zadd, w3_id (x := 40 * (r : Int)) (by omega) (by omega)]
          refine si_chk (by omega) (si_bnd (si_chk (by omega) (si_bnd ?_)))
          refine si_call (P := fun e : Int × Mm => (∀ g, g ≠ 32 → e.2 g = sM (sM ν 33 r n) 34 r l g) ∧ (∀ o : Int, (o < 40 * r ∨ 40 * r + 40 ≤ o) → e.2 32 o = ν 32 o) ∧ ∀ i : Int, 0 ≤ i → i < 40 → e.2 32 (40 * r + i) = 0) (si_loop (fun i (x : Int × Mm) => x.1 = i ∧ i ≤ 40 ∧ (∀ g, g ≠ 32 → x.2 g = sM (sM ν 33 r n) 34 r l g) ∧ (∀ o : Int, (o < 40 * r ∨ 40 * r + 40 ≤ o) → x.2 32 o = ν 32 o) ∧ ∀ j : Int, 0 ≤ j → j < i → x.2 32 (40 * r + j) = 0) 40 ?_ 1000 _ (by decide) ⟨rfl, by decide, fun _ _ => rfl, fun o a => by dsimp only; rw [sM_g (by decide), sM_g (by decide)], fun j a b => by omega⟩) (fun e he => ?_)
          · rintro i ⟨b, m⟩ hi ⟨hb, hin, f1, f2, f3⟩
            dsimp only at hb f1 f2 f3 ⊢
            subst hb
            refine si_if (fun q => si_some ⟨f1, f2, fun o p r => f3 o p (by omega)⟩) (fun q => ?_)
            rw [w3_id (x := 40 * (r : Int) + (i : Int)) (by omega) (by omega), zadd]
            refine si_chk (by omega) (si_bnd (si_some ⟨by omega, w3s i (by omega), by omega, fun g hg => by dsimp only; rw [sM_g hg]; exact f1 g hg, fun o a => ?_, fun j a b => ?_⟩))
            · dsimp only
              rw [sM_n (by omega)]
              exact f2 o a
            · dsimp only
              by_cases w : j = (i : Int)
              · rw [w, sM_s]
              · rw [sM_n (by omega)]
                exact f3 j a (by omega)
          · obtain ⟨e1, e2, e3⟩ := he
            unfold f_X6_good
            refine si_call (P := fun y : Int × Mm => y.1 = n ∧ y.2 = sM e.2 30 1 0) (si_bnd (si_some ⟨rfl, rfl⟩)) (fun y hy => si_some ⟨hy.1, A, ?_⟩)
            show RelA z y.2 A
            rw [hy.2]
            refine RelA_rows hA (fun g a b c d => z1 g a b c (by omega)) ⟨fun g a b c d f => by rw [sM_g a, e1 g b, sM_g d, sM_g c], fun o a b => by rw [sM_n (by omega), e1 30 (by decide), sM_g (by decide), sM_g (by decide)]⟩ (fun s hs => ?_) (by rw [sM_s, z2])
            obtain ⟨⟨q1, q2, q3, q4, q5, q6⟩, q7⟩ := hR s hs
            rw [sM_g (g := 33) (by decide), sM_g (g := 34) (by decide), sM_g (g := 32) (by decide), e1 33 (by decide), e1 34 (by decide), sM_g (g := 33) (by decide)]
            by_cases w : s = r
            · subst w
              rw [z3, z4, sM_s, sM_s]
              exact ⟨⟨rfl, rfl, by omega, by omega, by omega, by omega⟩, fun i a b => by rw [e3 i a b, z6 i a b]⟩
            · rw [(z5 s w).1, (z5 s w).2, sM_n (by omega), sM_n (by omega), sM_g (by decide), z1 (50 + s) (by omega) (by omega) (by omega) (by omega)]
              exact ⟨⟨q1, q2, q3, q4, q5, q6⟩, fun i a b => by rw [e2 _ (by omega)]; exact q7 i a b⟩
        · exact si_f c4 (si_swap (si_f c4 (si_swap (both_found hA 4))))
      · exact si_f c3 (si_some (si_f c3 (si_some ⟨rfl, hRel⟩)))
    · rw [if_neg c2]
      exact si_t rfl (si_some (si_t rfl (si_some ⟨rfl, hRel⟩)))
  · rw [if_neg c1]
    exact si_t rfl (si_some (si_t rfl (si_some ⟨rfl, hRel⟩)))
theorem b_drop {μ ν : Mm} (h : Rel μ ν) (r : Int) : Both (f_X5_drop μ r) (f_X6_drop ν r) := by
  have hRel := h
  obtain ⟨A, hA⟩ := h
  have hR := hA.2.1
  unfold f_X5_drop f_X6_drop
  rw [within_eq, isRow_eq]
  by_cases c1 : 0 ≤ r ∧ r ≤ 7
  · obtain ⟨r, rfl⟩ := nat_of c1.1
    obtain ⟨⟨q1, q2, q3, q4, q5, q6⟩, q7⟩ := hR r (by omega)
    rw [if_pos c1, zadd, q1]
    refine si_f (by decide) (si_swap (si_f (by decide) (si_chk (by omega) (si_swap ?_))))
    refine si_call (f_missing (by omega)) (fun z hz => ?_)
    by_cases c2 : μ 37 r = -1
    · rw [if_pos c2] at hz
      exact si_f (by omega) (si_swap (si_f (by omega) (si_swap (both_found hA 1))))
    · rw [if_neg c2] at hz
      refine si_t hz (si_bnd (si_swap (si_t (by omega) (si_chk (by omega) (si_chk (by omega) (si_bnd (si_swap ?_)))))))
      unfold f_X3_remove f_X6_good
      rw [zadd]
      refine si_call (P := fun z : Int × Mm => z.1 = μ 37 r ∧ z.2 = sM (sM μ 30 0 0) 37 r (-1)) (si_chk (by omega) (si_chk (by omega) (si_bnd (si_some ⟨by show sM μ 30 0 0 37 r = _; rw [sM_g (by decide)], rfl⟩)))) (fun z hz => si_some ?_)
      refine si_call (P := fun y : Int × Mm => y.1 = μ 37 r ∧ y.2 = sM (sM ν 33 r (-1)) 30 1 0) (si_bnd (si_some ⟨rfl, rfl⟩)) (fun y hy => si_some ⟨hy.1.trans hz.1.symm, A, ?_⟩)
      show RelA z.2 y.2 A
      rw [hz.2, hy.2]
      refine RelA_rows hA (fun g a b c d => by rw [sM_g c, sM_g a]) ⟨fun g a b c d f => by rw [sM_g a, sM_g c], fun o a b => by rw [sM_n (by omega), sM_g (by decide)]⟩ (fun s hs => ?_) (by rw [sM_s, sM_g (by decide), sM_s])
      obtain ⟨⟨q1, q2, q3, q4, q5, q6⟩, q7⟩ := hR s hs
      rw [sM_g (μ := sM μ 30 0 0) (g := 36) (by decide), sM_g (μ := μ) (g := 36) (by decide), sM_g (μ := sM μ 30 0 0) (g := 50 + s) (by omega), sM_g (μ := μ) (g := 50 + s) (by omega), sM_g (μ := sM ν 33 r (-1)) (g := 33) (by decide), sM_g (μ := sM ν 33 r (-1)) (g := 34) (by decide), sM_g (μ := ν) (g := 34) (by decide), sM_g (μ := sM ν 33 r (-1)) (g := 32) (by decide), sM_g (μ := ν) (g := 32) (by decide)]
      by_cases w : s = r
      · subst w
        rw [sM_s, sM_s]
        exact ⟨⟨rfl, q2, by decide, by decide, q5, q6⟩, q7⟩
      · rw [sM_n (by omega), sM_n (by omega), sM_g (by decide)]
        exact ⟨⟨q1, q2, q3, q4, q5, q6⟩, q7⟩
  · rw [if_neg c1]
    exact si_t rfl (si_some (si_t rfl (si_some ⟨rfl, hRel⟩)))
def trL (l v : Int) : Int := if l = 0 then n8 v else if l = 1 then n16 v else v
theorem b_set {μ ν : Mm} (h : Rel μ ν) (r i v : Int) : Both (f_X5_set μ r i v) (f_X6_set ν r i v) := by
  have hRel := h
  obtain ⟨A, hA⟩ := h
  have hR := hA.2.1
  unfold f_X5_set f_X6_set
  rw [within_eq, isRow_eq]
  by_cases c1 : 0 ≤ r ∧ r ≤ 7
  · obtain ⟨r, rfl⟩ := nat_of c1.1
    obtain ⟨⟨q1, q2, q3, q4, q5, q6⟩, q7⟩ := hR r (by omega)
    rw [if_pos c1, zadd, q1, q2, in_eq, w3_id (x := μ 37 r - 1) (by omega) (by omega)]
    refine si_f (by decide) (si_swap (si_f (by decide) (si_chk (by omega) (si_swap ?_))))
    refine si_call (f_finding (by omega) ⟨q3, q4⟩ (i := i) (n := 1) ⟨by decide, by decide⟩) (fun z hz => ?_)
    by_cases c2 : μ 37 r = -1
    · rw [if_pos c2] at hz
      subst hz
      exact si_f (by decide) (si_swap (si_f (by omega) (si_swap (both_found hA 1))))
    · rw [if_neg c2] at hz
      by_cases c3 : 0 ≤ i ∧ i ≤ μ 37 r - 1
      · rw [if_pos (by omega)] at hz
        subst hz
        rw [if_pos c3]
        refine si_t rfl (si_bnd (si_swap (si_t (by omega) (si_chk (by omega) (si_f (by decide) (si_chk (by omega) (si_swap ?_)))))))
        have hput : Sat (f_X3_put (sM μ 30 0 0) r i v) (fun z => z.1 = trL (μ 36 r) v ∧ z.2 = sM (sM μ 30 0 0) (50 + r) i (trL (μ 36 r) v)) := by
          unfold f_X3_put
          rw [zadd, zadd, Int.toNat_natCast, sM_g (g := 36) (by decide)]
          refine si_chk (by omega) (si_call (P := fun m => m = sM (sM μ 30 0 0) (50 + r) i (trL (μ 36 r) v)) (si_if (fun c => si_chk (by omega) (si_chk (by omega) (si_bnd (si_some ?_)))) (fun c => si_if (fun c' => si_chk (by omega) (si_chk (by omega) (si_bnd (si_some ?_)))) (fun c' => si_chk (by omega) (si_chk (by omega) (si_bnd (si_some ?_)))))) (fun m hm => si_chk (by omega) (si_chk (by omega) (si_some ⟨?_, hm⟩))))
          · unfold trL; rw [if_pos c]
          · unfold trL; rw [if_neg c, if_pos c']
          · unfold trL; rw [if_neg c, if_neg c']
          · show m (50 + r) i = _
            rw [hm, sM_s]
        refine si_call hput (fun z hz => si_some ?_)
        refine si_call (P := fun x => x = trL (μ 36 r) v) (si_if (fun c => si_some ?_) (fun c => si_chk (by omega) (si_if (fun c' => si_some ?_) (fun c' => si_some ?_)))) (fun x hx => ?_)
        · unfold trL; rw [if_pos c]
        · unfold trL; rw [if_neg c, if_pos c']
        · unfold trL; rw [if_neg c, if_neg c']
        subst hx
        rw [w3_id (x := 40 * (r : Int)) (by omega) (by omega), w3_id (x := 40 * (r : Int) + i) (by omega) (by omega), zadd]
        refine si_chk (by omega) (si_bnd (si_chk (by omega) ?_))
        unfold f_X6_good
        refine si_call (P := fun y : Int × Mm => y.1 = trL (μ 36 r) v ∧ y.2 = sM (sM ν 32 (40 * r + i) (trL (μ 36 r) v)) 30 1 0) (si_bnd (si_some ⟨sM_s _ _ _ _, rfl⟩)) (fun y hy => si_some ⟨hy.1.trans hz.1.symm, A, ?_⟩)
        show RelA z.2 y.2 A
        rw [hz.2, hy.2]
        generalize trL (μ 36 r) v = t
        refine RelA_rows hA (fun g a b c d => by rw [sM_g (by omega), sM_g a]) ⟨fun g a b c d f => by rw [sM_g a, sM_g b], fun o a b => by rw [sM_n (by omega), sM_g (by decide)]⟩ (fun s hs => ?_) (by rw [sM_s, sM_g (by omega), sM_s])
        obtain ⟨⟨q1, q2, q3, q4, q5, q6⟩, q7⟩ := hR s hs
        rw [sM_g (μ := sM μ 30 0 0) (g := 36) (by omega), sM_g (μ := μ) (g := 36) (by decide), sM_g (μ := sM μ 30 0 0) (g := 37) (by omega), sM_g (μ := μ) (g := 37) (by decide), sM_g (μ := sM ν 32 (40 * r + i) t) (g := 33) (by decide), sM_g (μ := ν) (g := 33) (by decide), sM_g (μ := sM ν 32 (40 * r + i) t) (g := 34) (by decide), sM_g (μ := ν) (g := 34) (by decide), sM_g (μ := sM ν 32 (40 * r + i) t) (g := 32) (by decide)]
        refine ⟨⟨q1, q2, q3, q4, q5, q6⟩, fun j a b => ?_⟩
        by_cases w : s = r ∧ j = i
        · obtain ⟨rfl, rfl⟩ := w
          rw [sM_s, sM_s]
        · rw [sM_n (by omega), sM_n (by omega), sM_g (by omega)]
          exact q7 j a b
      · rw [if_neg (by omega)] at hz
        subst hz
        rw [if_neg c3]
        exact si_f (by decide) (si_swap (si_t (by omega) (si_chk (by omega) (si_t rfl (si_swap (both_found hA 2))))))
  · rw [if_neg c1]
    exact si_t rfl (si_some (si_t rfl (si_some ⟨rfl, hRel⟩)))
theorem b_copy {μ ν : Mm} (h : Rel μ ν) {a i b j n : Int} (hi : inR i) (hj : inR j) (hn : inR n) : Both (f_X5_copy μ a i b j n) (f_X6_copy ν a i b j n) := by
  have hRel := h
  obtain ⟨A, hA⟩ := h
  have hR := hA.2.1
  unfold f_X5_copy f_X6_copy
  rw [within_eq, within_eq, isRow_eq, isRow_eq]
  by_cases c1 : 0 ≤ a ∧ a ≤ 7
  · obtain ⟨a, rfl⟩ := nat_of c1.1
    rw [if_pos c1]
    refine si_f (by decide) (si_swap (si_f (by decide) (si_swap ?_)))
    by_cases c2 : 0 ≤ b ∧ b ≤ 7
    · obtain ⟨b, rfl⟩ := nat_of c2.1
      rw [if_pos c2]
      obtain ⟨⟨q1, q2, q3, q4, q5, q6⟩, q7⟩ := hR a (by omega)
      obtain ⟨⟨p1, p2, p3, p4, p5, p6⟩, p7⟩ := hR b (by omega)
      rw [zadd, zadd, q1, p1, q2, p2, fits_eq ν hi hn, fits_eq ν hj hn]
      refine si_f (by decide) (si_swap (si_f (by decide) (si_chk (by omega) (si_swap (si_call (f_missing (by omega)) (fun z hz => ?_))))))
      by_cases c3 : μ 37 a = -1
      · rw [if_pos c3] at hz
        exact si_f (by omega) (si_swap (si_t (by omega) (si_swap (both_found hA 1))))
      rw [if_neg c3] at hz
      refine si_t hz (si_swap (si_f (by omega) (si_chk (by omega) (si_swap (si_call (f_missing (by omega)) (fun z hz => ?_))))))
      by_cases c4 : μ 37 b = -1
      · rw [if_pos c4] at hz
        exact si_f (by omega) (si_swap (si_f (by omega) (si_swap (both_found hA 1))))
      rw [if_neg c4] at hz
      refine si_t hz (si_swap (si_t (by omega) (si_chk (by omega) (si_chk (by omega) (si_swap ?_)))))
      have hlane : ∀ r : Nat, r < 8 → Sat (f_X3_laneOf μ r) (fun z => z = μ 36 r) := fun r hr => by
        unfold f_X3_laneOf
        rw [zadd]
        exact si_chk (by omega) (si_some rfl)
      refine si_call (hlane a (by omega)) (fun z hz => si_call (hlane b (by omega)) (fun z' hz' => ?_))
      subst hz hz'
      by_cases c5 : μ 36 a = μ 36 b
      · refine si_t c5 (si_swap (si_t c5 (si_swap (si_call (f_holds (by omega) ⟨q3, q4⟩ hn) (fun z hz => ?_)))))
        by_cases c6 : n < 0
        · rw [if_neg (by omega)] at hz
          exact si_t hz (si_swap (si_t c6 (si_swap (both_found hA 2))))
        by_cases c7 : 0 ≤ i ∧ i + n ≤ μ 37 a
        · rw [if_pos (by omega)] at hz
          refine si_f (by omega) (si_swap (si_f c6 (si_chk (by omega) (si_f ?_ (si_chk (by omega) (si_swap ?_))))))
          · rw [if_pos c7]; decide
          refine si_call (f_holds (by omega) ⟨p3, p4⟩ hn) (fun z hz => ?_)
          by_cases c8 : 0 ≤ j ∧ j + n ≤ μ 37 b
          · rw [if_pos (by omega)] at hz
            rw [if_pos c8]
            refine si_f (by omega) (si_bnd (si_swap (si_f (by decide) (si_swap ?_))))
            unfold f_X3_carry
            refine si_call (P := fun z => z = cpM (sM μ 30 0 0) (50 + a) i (50 + b) j n) (si_chk (by omega) (si_chk (by omega) (si_chk (by omega) (si_some rfl)))) (fun z hz => si_some ?_)
            subst hz
            obtain ⟨n, rfl⟩ := nat_of (show 0 ≤ n by omega)
            rw [w3_id (x := 40 * (a : Int)) (by omega) (by omega), w3_id (x := 40 * (b : Int)) (by omega) (by omega), w3_id (x := 40 * (a : Int) + i) (by omega) (by omega), w3_id (x := 40 * (b : Int) + j) (by omega) (by omega)]
            refine si_call (P := fun e : Int × Mm => (∀ g, g ≠ 37 → e.2 g = ν g) ∧ ∀ o : Int, 0 ≤ o → o < n → e.2 37 o = ν 32 (40 * a + i + o)) (si_loop (fun t (x : Int × Mm) => x.1 = t ∧ t ≤ n ∧ (∀ g, g ≠ 37 → x.2 g = ν g) ∧ ∀ o : Int, 0 ≤ o → o < t → x.2 37 o = ν 32 (40 * a + i + o)) n ?_ 1000 (0, ν) (by omega) ⟨rfl, by omega, fun _ _ => rfl, fun o p q => by omega⟩) (fun e he => ?_)
            · rintro t ⟨x, m⟩ ht ⟨hx, htn, f1, f2⟩
              dsimp only at hx f1 f2 ⊢
              subst hx
              refine si_if (fun q => si_some ⟨f1, fun o p r => f2 o p (by omega)⟩) (fun q => ?_)
              rw [w3_id (x := 40 * (a : Int) + i + (t : Int)) (by omega) (by omega), zadd, zadd]
              refine si_chk (by omega) (si_chk (by omega) (si_bnd (si_some ⟨by omega, w3s t (by omega), by omega, fun g hg => by dsimp only; rw [sM_g hg]; exact f1 g hg, fun o p r => ?_⟩)))
              dsimp only
              by_cases w : o = (t : Int)
              · rw [w, sM_s, f1 32 (by decide)]
              · rw [sM_n (fun z => w z.2)]
                exact f2 o p (by omega)
            obtain ⟨e1, e2⟩ := he
            refine si_call (P := fun x : Int × Mm => (∀ g, g ≠ 32 → x.2 g = e.2 g) ∧ (∀ o : Int, 0 ≤ o → o < n → x.2 32 (40 * b + j + o) = ν 32 (40 * a + i + o)) ∧ ∀ o : Int, (o < 40 * b + j ∨ 40 * b + j + n ≤ o) → x.2 32 o = ν 32 o) (si_loop (fun t (x : Int × Mm) => x.1 = t ∧ t ≤ n ∧ (∀ g, g ≠ 32 → x.2 g = e.2 g) ∧ (∀ o : Int, 0 ≤ o → o < t → x.2 32 (40 * b + j + o) = ν 32 (40 * a + i + o)) ∧ ∀ o : Int, (o < 40 * b + j ∨ 40 * b + j + t ≤ o) → x.2 32 o = ν 32 o) n ?_ 1000 (0, e.2) (by omega) ⟨rfl, by omega, fun _ _ => rfl, fun o p q => by omega, fun o _ => by dsimp only; rw [e1 32 (by decide)]⟩) (fun x hx => ?_)
            · rintro t ⟨x, m⟩ ht ⟨hx, htn, f1, f2, f3⟩
              dsimp only at hx f1 f2 f3 ⊢
              subst hx
              refine si_if (fun q => si_some ⟨f1, fun o p r => f2 o p (by omega), fun o p => f3 o (by omega)⟩) (fun q => ?_)
              rw [w3_id (x := 40 * (b : Int) + j + (t : Int)) (by omega) (by omega), zadd, zadd]
              refine si_chk (by omega) (si_chk (by omega) (si_bnd (si_some ⟨by omega, w3s t (by omega), by omega, fun g hg => by dsimp only; rw [sM_g hg]; exact f1 g hg, fun o p r => ?_, fun o p => ?_⟩)))
              · dsimp only
                by_cases w : o = (t : Int)
                · rw [w, sM_s, f1 37 (by decide), e2 t (by omega) (by omega)]
                · rw [sM_n (by omega)]
                  exact f2 o p (by omega)
              · dsimp only
                rw [sM_n (by omega)]
                exact f3 o (by omega)
            obtain ⟨x1, x2, x3⟩ := hx
            unfold f_X6_good
            refine si_call (P := fun y : Int × Mm => y.1 = n ∧ y.2 = sM x.2 30 1 0) (si_bnd (si_some ⟨rfl, rfl⟩)) (fun y hy => si_some ⟨hy.1, A, ?_⟩)
            show RelA (cpM (sM μ 30 0 0) (50 + a) i (50 + b) j n) y.2 A
            rw [hy.2]
            have hcp : ∀ g, g ≠ 50 + b → cpM (sM μ 30 0 0) (50 + a) i (50 + b) j n g = sM μ 30 0 0 g := fun g hg => by
              funext o
              unfold cpM
              rw [if_neg (fun q => hg q.1)]
            refine RelA_rows hA (fun g u v w d => by rw [hcp g (by omega), sM_g u]) ⟨fun g u v w d f => by rw [sM_g u, x1 g v, e1 g f], fun o u v => by rw [sM_n (by omega), x1 30 (by decide), e1 30 (by decide)]⟩ (fun s hs => ?_) (by rw [sM_s, hcp 30 (by omega), sM_s])
            obtain ⟨⟨q1, q2, q3, q4, q5, q6⟩, q7'⟩ := hR s hs
            rw [hcp 36 (by omega), hcp 37 (by omega), sM_g (μ := μ) (g := 36) (by decide), sM_g (μ := μ) (g := 37) (by decide), sM_g (g := 33) (by decide), sM_g (g := 34) (by decide), sM_g (g := 32) (by decide), x1 33 (by decide), x1 34 (by decide), e1 33 (by decide), e1 34 (by decide)]
            refine ⟨⟨q1, q2, q3, q4, q5, q6⟩, fun t u v => ?_⟩
            by_cases w : s = b ∧ j ≤ t ∧ t < j + n
            · obtain ⟨rfl, w1, w2⟩ := w
              have := x2 (t - j) (by omega) (by omega)
              rw [show 40 * (s : Int) + j + (t - j) = 40 * s + t by omega] at this
              unfold cpM
              rw [if_pos ⟨rfl, w1, w2⟩, this, sM_g (by omega), show 40 * (a : Int) + i + (t - j) = 40 * a + (i + (t - j)) by omega]
              exact q7 _ (by omega) (by omega)
            · rw [x3 _ (by omega)]
              have : cpM (sM μ 30 0 0) (50 + a) i (50 + b) j n (50 + s) t = μ (50 + s) t := by
                unfold cpM
                rw [if_neg (by omega), sM_g (by omega)]
              rw [this]
              exact q7' t u v
          · rw [if_neg (by omega)] at hz
            rw [if_neg c8]
            exact si_t hz (si_swap (si_t rfl (si_swap (both_found hA 2))))
        · rw [if_neg (by omega)] at hz
          rw [if_neg c7]
          exact si_t hz (si_swap (si_f c6 (si_chk (by omega) (si_t rfl (si_swap (both_found hA 2))))))
      · exact si_f c5 (si_swap (si_f c5 (si_swap (both_found hA 5))))
    · rw [if_neg c2]
      exact si_t rfl (si_some (si_t rfl (si_some ⟨rfl, hRel⟩)))
  · rw [if_neg c1]
    exact si_t rfl (si_some (si_t rfl (si_some ⟨rfl, hRel⟩)))
