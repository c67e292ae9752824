/-! THE TAPE: feed, river. -/
theorem RelA_tape {μ ν m k : Mm} {A : Rv} (h : RelA μ ν A) (hC : ∀ g, g ≠ 3 → g ≠ 4 → g ≠ 34 → g ≠ 35 → m g = μ g) (hN : ∀ g, g ≠ 3 → g ≠ 30 → g ≠ 35 → g ≠ 37 → k g = ν g) (k0 : k 30 0 = ν 30 0) (k1 : k 30 1 = ν 30 1) (k4 : k 30 4 = ν 30 4) (hT : TapeR m k) : RelA m k A := by
  obtain ⟨h1, h2, h3, h4, h5, h6, h7⟩ := h
  refine ⟨?_, fun r hr => ?_, hT, ?_, fun j hj => ?_, ?_, ?_⟩
  · unfold NowR at h1 ⊢
    rw [hC 0 (by decide) (by decide) (by decide) (by decide), hN 0 (by decide) (by decide) (by decide) (by decide)]
    exact h1
  · rw [hC 37 (by decide) (by decide) (by decide) (by decide), hC 36 (by decide) (by decide) (by decide) (by decide), hC (50 + r) (by omega) (by omega) (by omega) (by omega), hN 33 (by decide) (by decide) (by decide) (by decide), hN 34 (by decide) (by decide) (by decide) (by decide), hN 32 (by decide) (by decide) (by decide) (by decide)]
    exact h2 r hr
  · unfold TraceR at h4 ⊢
    rw [hC 33 (by decide) (by decide) (by decide) (by decide), hC 32 (by decide) (by decide) (by decide) (by decide), hN 36 (by decide) (by decide) (by decide) (by decide), k4]
    exact h4
  · rw [hC (1 + j) (by omega) (by omega) (by omega) (by omega), hN 38 (by decide) (by decide) (by decide) (by decide), hN (1 + j) (by omega) (by omega) (by omega) (by omega)]
    exact h5 j hj
  · unfold ActsR at h6 ⊢
    rw [hC 31 (by decide) (by decide) (by decide) (by decide), hN 31 (by decide) (by decide) (by decide) (by decide), k0]
    obtain ⟨a1, a2, a3, a4, a5, a6⟩ := h6
    refine ⟨a1, a2, a3, a4, a5, fun j hj => ?_⟩
    have hs := slot_lt (μ 31 0) (μ 31 1) j
    rw [hC _ (by omega) (by omega) (by omega) (by omega)]
    exact a6 j hj
  · rw [hC 30 (by decide) (by decide) (by decide) (by decide), k1]
    exact h7
theorem b_feed {μ ν : Mm} (h : Rel μ ν) (b : Int) : Both (f_X5_feed μ b) (f_X6_feed ν b) := by
  have hRel := h
  obtain ⟨A, hA⟩ := h
  obtain ⟨t1, t2, t3, t4, t5⟩ := hA.2.2.1
  unfold f_X5_feed f_X6_feed f_X4_take
  rw [within_eq, in_eq, t1, zadd]
  by_cases c1 : 0 ≤ b ∧ b ≤ 255
  · rw [if_pos c1]
    refine si_f (by decide) (si_swap (si_f (by decide) (si_swap ?_)))
    by_cases c2 : μ 34 0 < 100
    · have e1 : sM μ 35 (μ 34 0) b 34 0 = μ 34 0 := by rw [sM_g (by decide)]
      refine si_call (P := fun z : Int × Mm => z.1 = 1 ∧ z.2 = sM (sM μ 35 (μ 34 0) b) 34 0 (μ 34 0 + 1)) (si_t c2 (si_chk (by omega) (si_bnd (si_bnd (si_some ⟨rfl, by rw [e1, w3_id (by omega) (by omega)]⟩))))) (fun z hz => si_f (by omega) (si_some (si_f (by omega) (si_chk (by omega) (si_bnd (si_bnd (si_some ?_)))))))
      have e2 : sM ν 35 (μ 34 0) b 30 2 = μ 34 0 := by rw [sM_g (by decide)]; exact t1
      rw [e2, w3_id (by omega) (by omega)]
      refine ⟨?_, A, ?_⟩
      · show sM (sM ν 35 (μ 34 0) b) 30 2 (μ 34 0 + 1) 30 2 = z.2 34 0
        rw [hz.2, sM_s, sM_s]
      · show RelA z.2 (sM (sM ν 35 (μ 34 0) b) 30 2 (μ 34 0 + 1)) A
        rw [hz.2]
        refine RelA_tape hA (fun g _ _ p q => by rw [sM_g p, sM_g q]) (fun g _ p q _ => by rw [sM_g p, sM_g q]) (by rw [sM_n (by decide), sM_g (by decide)]) (by rw [sM_n (by decide), sM_g (by decide)]) (by rw [sM_n (by decide), sM_g (by decide)]) ?_
        unfold TapeR
        rw [sM_s, sM_s, sM_n (by decide), sM_g (g := 30) (by decide), sM_g (μ := sM ν 35 (μ 34 0) b) (g := 35) (by decide), sM_g (μ := sM μ 35 (μ 34 0) b) (g := 35) (by decide), sM_n (by decide), sM_g (g := 34) (by decide)]
        refine ⟨rfl, by omega, by omega, fun i p q => ?_, t5⟩
        by_cases w : i = μ 34 0
        · rw [w, sM_s, sM_s]
          exact ⟨rfl, c1⟩
        · rw [sM_n (fun z => w z.2), sM_n (fun z => w z.2)]
          exact t4 i p (by omega)
    · refine si_call (P := fun z : Int × Mm => z.1 = 0 ∧ z.2 = μ) (si_f c2 (si_some ⟨rfl, rfl⟩)) (fun z hz => si_t hz.1 (si_some (si_t (by omega) (si_some ⟨rfl, ?_⟩))))
      show Rel z.2 ν
      rw [hz.2]
      exact hRel
  · rw [if_neg c1]
    exact si_t rfl (si_some (si_t rfl (si_some ⟨rfl, hRel⟩)))
-- tokens
def isF (b : Int) : Prop := 48 ≤ b ∧ b ≤ 57
def runP (f : Int → Int) (n a : Int) (i : Nat) : Prop := (∀ j : Nat, j < i → a + j < n ∧ isF (f (a + j))) ∧ ¬ (a + i < n ∧ isF (f (a + i)))
theorem run_eq {f : Int → Int} {n a : Int} {i j : Nat} (h1 : runP f n a i) (h2 : runP f n a j) : i = j := by
  rcases Nat.lt_trichotomy i j with h | h | h
  · exact absurd (h2.1 i h) h1.2
  · exact h
  · exact absurd (h1.1 j h) h2.2
def valN (f : Int → Int) (a : Int) : Nat → Int
  | 0 => 0
  | i + 1 => if i < 2 then valN f a i * 10 + f (a + i) - 48 else valN f a i
theorem val_in {f : Int → Int} {a : Int} (i : Nat) (h : ∀ j : Nat, j < i → isF (f (a + j))) : (i = 0 → valN f a i = 0) ∧ (i = 1 → valN f a i ≤ 9) ∧ 0 ≤ valN f a i ∧ valN f a i ≤ 99 := by
  induction i with
  | zero => exact ⟨fun _ => rfl, fun q => by omega, Int.le_refl _, by show (0 : Int) ≤ 99; decide⟩
  | succ i ih =>
    obtain ⟨h1, h2, h3, h4⟩ := ih (fun j hj => h j (by omega))
    have hb := h i (by omega)
    unfold isF at hb
    show (i + 1 = 0 → (if i < 2 then valN f a i * 10 + f (a + i) - 48 else valN f a i) = 0) ∧ (i + 1 = 1 → (if i < 2 then valN f a i * 10 + f (a + i) - 48 else valN f a i) ≤ 9) ∧ 0 ≤ (if i < 2 then valN f a i * 10 + f (a + i) - 48 else valN f a i) ∧ (if i < 2 then valN f a i * 10 + f (a + i) - 48 else valN f a i) ≤ 99
    by_cases c : i < 2
    · rw [if_pos c]
      have : i = 0 ∨ i = 1 := by omega
      rcases this with rfl | rfl
      · have := h1 rfl
        exact ⟨fun q => by omega, fun _ => by omega, by omega, by omega⟩
      · have := h2 rfl
        exact ⟨fun q => by omega, fun _ => by omega, by omega, by omega⟩
    · rw [if_neg c]
      exact ⟨fun q => by omega, fun q => by omega, h3, h4⟩
theorem val_cg {f g : Int → Int} {a : Int} (i : Nat) (h : ∀ j : Nat, j < i → f (a + j) = g (a + j)) : valN f a i = valN g a i := by
  induction i with
  | zero => rfl
  | succ i ih =>
    show (if i < 2 then valN f a i * 10 + f (a + i) - 48 else valN f a i) = (if i < 2 then valN g a i * 10 + g (a + i) - 48 else valN g a i)
    rw [ih (fun j hj => h j (by omega)), h i (by omega)]
theorem run_cg {f g : Int → Int} {n a : Int} {i : Nat} (ha : 0 ≤ a) (h : ∀ j : Int, 0 ≤ j → j < n → f j = g j) (hr : runP f n a i) : runP g n a i := by
  refine ⟨fun j hj => ?_, fun q => hr.2 ⟨q.1, ?_⟩⟩
  · have := hr.1 j hj
    rw [← h _ (by omega) this.1]
    exact this
  · rw [h _ (by omega) q.1]
    exact q.2
theorem isFig_eq (μ : Mm) (b : Int) : f_X4_isFigure μ b = if 48 ≤ b ∧ b ≤ 57 then 1 else 0 := by
  unfold f_X4_isFigure
  by_cases h1 : b < 48
  · rw [if_pos h1, if_neg (by omega)]
  · rw [if_neg h1]
    by_cases h2 : 57 < b
    · rw [if_pos h2, if_neg (by omega)]
    · rw [if_neg h2, if_pos (by omega)]
/-- where the class' reading stands -/
def okT (m : Mm) (n a : Int) : Prop := m 34 0 = n ∧ m 34 3 = a ∧ 0 ≤ a ∧ a ≤ n ∧ n ≤ 100 ∧ ∀ i : Int, 0 ≤ i → i < n → 0 ≤ m 35 i ∧ m 35 i ≤ 255
def fq (m z : Mm) : Prop := (∀ g, g ≠ 34 → z g = m g) ∧ z 34 0 = m 34 0
theorem fq_rf (m : Mm) : fq m m := ⟨fun _ _ => rfl, rfl⟩
theorem fq_tr {a b c : Mm} (h1 : fq a b) (h2 : fq b c) : fq a c := ⟨fun g x => (h2.1 g x).trans (h1.1 g x), h2.2.trans h1.2⟩
theorem f_scanFig {m : Mm} {n a : Int} (h : okT m n a) : Sat (f_X4_scanFigures m) (fun z => fq m z ∧ z 34 1 = m 34 1 ∧ z 34 4 = m 34 4 ∧ ∃ i : Nat, runP (m 35) n a i ∧ z 34 3 = a + i ∧ z 34 6 = valN (m 35) a i ∧ z 34 5 = if i ≤ 2 then 1 else 2) := by
  obtain ⟨h1, h2, h3, h4, h5, h6⟩ := h
  unfold f_X4_scanFigures
  refine si_bnd ?_
  refine si_call (P := fun e : Int × Mm => (∀ g, g ≠ 34 → e.2 g = m g) ∧ (∀ o, o ≠ 3 → o ≠ 6 → e.2 34 o = m 34 o) ∧ ∃ i : Nat, e.1 = i ∧ runP (m 35) n a i ∧ e.2 34 3 = a + i ∧ e.2 34 6 = valN (m 35) a i) (si_loop (fun i (x : Int × Mm) => x.1 = i ∧ (∀ g, g ≠ 34 → x.2 g = m g) ∧ (∀ o, o ≠ 3 → o ≠ 6 → x.2 34 o = m 34 o) ∧ (∀ j : Nat, j < i → a + j < n ∧ isF (m 35 (a + j))) ∧ x.2 34 3 = a + i ∧ x.2 34 6 = valN (m 35) a i ∧ a + i ≤ n) 100 ?_ 1000 (0, sM m 34 6 0) (by decide) ⟨rfl, fun g hg => sM_g hg, fun o _ q => sM_n (fun z => q z.2), fun j hj => by omega, by show sM m 34 6 0 34 3 = a + 0; rw [sM_n (by decide)]; omega, by show sM m 34 6 0 34 6 = 0; rw [sM_s], by omega⟩) (fun e he => ?_)
  · rintro i ⟨x, k⟩ hi ⟨hx, f1, f2, f3, f4, f5, f6⟩
    dsimp only at hx f1 f2 f4 f5 ⊢
    subst hx
    have e0 : k 34 0 = n := (f2 0 (by decide) (by decide)).trans h1
    have e35 : k 35 = m 35 := f1 35 (by decide)
    have hv := val_in i (fun j hj => (f3 j hj).2)
    simp only [e0, f4, e35, zadd, isFig_eq]
    refine si_if (fun c => si_some ⟨f1, f2, i, rfl, ⟨f3, fun q => by omega⟩, f4, f5⟩) (fun c => si_chk (by omega) ?_)
    have hb := h6 (a + i) (by omega) (by omega)
    by_cases cf : 48 ≤ m 35 (a + i) ∧ m 35 (a + i) ≤ 57
    · rw [if_pos cf]
      refine si_f (by decide) (si_call (P := fun v => v = valN (m 35) a (i + 1)) (si_if (fun c2 => si_some ?_) (fun c2 => si_chk (by omega) (si_some ?_))) (fun v hv' => si_bnd (si_bnd (si_some ?_))))
      · show k 34 6 = if i < 2 then valN (m 35) a i * 10 + m 35 (a + i) - 48 else valN (m 35) a i
        rw [if_neg (by omega)]
        exact f5
      · show _ = if i < 2 then valN (m 35) a i * 10 + m 35 (a + i) - 48 else valN (m 35) a i
        rw [if_pos (by omega), f5, w3_id (x := valN (m 35) a i * 10) (by omega) (by omega), w3_id (x := valN (m 35) a i * 10 + m 35 (a + i)) (by omega) (by omega), w3_id (by omega) (by omega)]
      · have e3 : sM k 34 6 v 34 3 = a + i := by rw [sM_n (by decide)]; exact f4
        rw [e3, w3_id (x := a + (i : Int) + 1) (by omega) (by omega)]
        refine ⟨by omega, w3s i (by omega), fun g hg => by dsimp only; rw [sM_g hg, sM_g hg]; exact f1 g hg, fun o p q => by dsimp only; rw [sM_n (fun z => p z.2), sM_n (fun z => q z.2)]; exact f2 o p q, fun j hj => ?_, by dsimp only; rw [sM_s]; omega, by dsimp only; rw [sM_n (by decide), sM_s]; exact hv', by omega⟩
        by_cases q : j = i
        · subst q; exact ⟨by omega, cf⟩
        · exact f3 j (by omega)
    · rw [if_neg cf]
      exact si_t rfl (si_some ⟨f1, f2, i, rfl, ⟨f3, fun q => cf q.2⟩, f4, f5⟩)
  · obtain ⟨e1, e2, i, e3, e4, e5, e6⟩ := he
    rw [e3]
    refine si_if (fun c => si_bnd (si_some ⟨⟨fun g hg => by rw [sM_g hg]; exact e1 g hg, by rw [sM_n (by decide)]; exact e2 0 (by decide) (by decide)⟩, by rw [sM_n (by decide)]; exact e2 1 (by decide) (by decide), by rw [sM_n (by decide)]; exact e2 4 (by decide) (by decide), i, e4, by rw [sM_n (by decide)]; exact e5, by rw [sM_n (by decide)]; exact e6, by rw [sM_s, if_pos (by omega)]⟩)) (fun c => si_bnd (si_some ⟨⟨fun g hg => by rw [sM_g hg]; exact e1 g hg, by rw [sM_n (by decide)]; exact e2 0 (by decide) (by decide)⟩, by rw [sM_n (by decide)]; exact e2 1 (by decide) (by decide), by rw [sM_n (by decide)]; exact e2 4 (by decide) (by decide), i, e4, by rw [sM_n (by decide)]; exact e5, by rw [sM_n (by decide)]; exact e6, by rw [sM_s, if_neg (by omega)]⟩))
theorem f_scan {m : Mm} {n a : Int} (h : okT m n a) : Sat (f_X4_scan m) (fun z => fq m z ∧ z 34 1 = m 34 1 ∧ z 34 4 = a ∧ ((n ≤ a ∧ z 34 5 = 2 ∧ z 34 3 = a) ∨ (a < n ∧ ¬ isF (m 35 a) ∧ z 34 5 = 0 ∧ z 34 6 = m 35 a ∧ z 34 3 = a + 1) ∨ (a < n ∧ isF (m 35 a) ∧ ∃ i : Nat, runP (m 35) n a i ∧ z 34 3 = a + i ∧ z 34 6 = valN (m 35) a i ∧ z 34 5 = if i ≤ 2 then 1 else 2))) := by
  have h' := h
  obtain ⟨h1, h2, h3, h4, h5, h6⟩ := h
  unfold f_X4_scan
  refine si_bnd (si_bnd ?_)
  generalize hk : sM (sM m 34 4 (m 34 3)) 34 5 2 = k
  have k0 : k 34 0 = n := by rw [← hk, sM_n (by decide), sM_n (by decide)]; exact h1
  have k3 : k 34 3 = a := by rw [← hk, sM_n (by decide), sM_n (by decide)]; exact h2
  have k1 : k 34 1 = m 34 1 := by rw [← hk, sM_n (by decide), sM_n (by decide)]
  have k4 : k 34 4 = a := by rw [← hk, sM_n (by decide), sM_s]; exact h2
  have k5 : k 34 5 = 2 := by rw [← hk, sM_s]
  have kg : ∀ g, g ≠ 34 → k g = m g := fun g hg => by rw [← hk, sM_g hg, sM_g hg]
  have k35 : k 35 = m 35 := kg 35 (by decide)
  have hq : fq m k := ⟨kg, k0.trans h1.symm⟩
  have e5 : ∀ o, o ≠ 5 → sM k 34 5 0 34 o = k 34 o := fun o ho => sM_n (fun z => ho z.2)
  simp only [k0, k3, k35, zadd, isFig_eq, e5 3 (by decide)]
  refine si_if (fun c => si_chk (by omega) ?_) (fun c => si_some ⟨hq, k1, k4, Or.inl ⟨by omega, k5, k3⟩⟩)
  by_cases cf : 48 ≤ m 35 a ∧ m 35 a ≤ 57
  · rw [if_pos cf]
    refine si_f (by decide) (si_call (f_scanFig (m := k) (n := n) (a := a) ⟨k0, k3, h3, h4, h5, by rw [k35]; exact h6⟩) (fun z hz => si_some ?_))
    obtain ⟨z1, z2, z3, i, z4, z5, z6, z7⟩ := hz
    rw [k35] at z4 z6
    exact ⟨fq_tr hq z1, z2.trans k1, z3.trans k4, Or.inr (Or.inr ⟨c, cf, i, z4, z5, z6, z7⟩)⟩
  · rw [if_neg cf]
    refine si_t rfl (si_bnd ?_)
    have e53 : sM k 34 5 0 34 3 = a := (e5 3 (by decide)).trans k3
    rw [e53]
    refine si_chk (by omega) (si_bnd (si_bnd (si_some ?_)))
    have g35 : sM k 34 5 0 35 a = m 35 a := by rw [sM_g (by decide), k35]
    have g3 : sM (sM k 34 5 0) 34 6 (sM k 34 5 0 35 a) 34 3 = a := by rw [sM_n (by decide), sM_n (by decide)]; exact k3
    rw [g3, g35, w3_id (x := a + 1) (by omega) (by omega)]
    refine ⟨⟨fun g hg => by rw [sM_g hg, sM_g hg, sM_g hg]; exact kg g hg, by rw [sM_n (by decide), sM_n (by decide), sM_n (by decide)]; exact k0.trans h1.symm⟩, by rw [sM_n (by decide), sM_n (by decide), sM_n (by decide)]; exact k1, by rw [sM_n (by decide), sM_n (by decide), sM_n (by decide)]; exact k4, Or.inr (Or.inl ⟨c, cf, by rw [sM_n (by decide), sM_n (by decide), sM_s], by rw [sM_n (by decide), sM_s], sM_s _ _ _ _⟩)⟩
theorem f_refuse {m : Mm} {p : Int} : Sat (f_X4_refuse m p) (fun z => z.1 = 0 ∧ fq m z.2 ∧ z.2 34 1 = p ∧ z.2 34 2 = m 34 4) := by
  unfold f_X4_refuse
  refine si_bnd (si_bnd (si_some ⟨rfl, ⟨fun g hg => by dsimp only; rw [sM_g hg, sM_g hg], by dsimp only; rw [sM_n (by decide), sM_n (by decide)]⟩, by dsimp only; rw [sM_n (by decide), sM_s], by dsimp only; rw [sM_s, sM_n (by decide)]⟩))
theorem f_single {m : Mm} {n a c : Int} (h : okT m n a) (hc : ¬ isF c) : Sat (f_X4_readSingle m c) (fun z => fq m z.2 ∧ ((a < n ∧ m 35 a = c ∧ z.1 = 1 ∧ z.2 34 3 = a + 1 ∧ z.2 34 1 = m 34 1) ∨ (¬ (a < n ∧ m 35 a = c) ∧ z.1 = 0 ∧ z.2 34 1 = 1 ∧ z.2 34 2 = a))) := by
  unfold f_X4_readSingle
  refine si_call (f_scan h) (fun z hz => ?_)
  obtain ⟨z1, z2, z4, hz⟩ := hz
  have hno : ¬ (a < n ∧ m 35 a = c) → Sat ((f_X4_refuse z 1).bind fun z5 => if z5.1 = 0 then (some ((0 : Int), z5.2)) else (some ((1 : Int), z5.2))) (fun z => fq m z.2 ∧ ((a < n ∧ m 35 a = c ∧ z.1 = 1 ∧ z.2 34 3 = a + 1 ∧ z.2 34 1 = m 34 1) ∨ (¬ (a < n ∧ m 35 a = c) ∧ z.1 = 0 ∧ z.2 34 1 = 1 ∧ z.2 34 2 = a))) := fun hn =>
    si_call f_refuse (fun y hy => si_t hy.1 (si_some ⟨fq_tr z1 hy.2.1, Or.inr ⟨hn, rfl, hy.2.2.1, hy.2.2.2.trans z4⟩⟩))
  rcases hz with ⟨q1, q2, q3⟩ | ⟨q1, q2, q3, q4, q5⟩ | ⟨q1, q2, i, q3, q4, q5, q6⟩
  · exact si_f (by omega) (hno (fun q => by omega))
  · refine si_t q3 ?_
    rw [q4]
    exact si_if (fun c1 => si_some ⟨z1, Or.inl ⟨q1, c1, rfl, q5, z2⟩⟩) (fun c1 => hno (fun q => c1 q.2))
  · refine si_f ?_ (hno (fun q => hc (q.2 ▸ q2)))
    rw [q6]
    split <;> decide
theorem f_number {m : Mm} {n a lo hi : Int} (h : okT m n a) (h0 : 0 ≤ lo) : Sat (f_X4_readNumber m lo hi) (fun z => fq m z.2 ∧ ∃ i : Nat, runP (m 35) n a i ∧ (((i = 0 ∨ 2 < i) ∧ z.1 = -1 ∧ z.2 34 1 = 1 ∧ z.2 34 2 = a) ∨ ((1 ≤ i ∧ i ≤ 2) ∧ ¬ (lo ≤ valN (m 35) a i ∧ valN (m 35) a i ≤ hi) ∧ z.1 = -1 ∧ z.2 34 1 = 2 ∧ z.2 34 2 = a) ∨ ((1 ≤ i ∧ i ≤ 2) ∧ (lo ≤ valN (m 35) a i ∧ valN (m 35) a i ≤ hi) ∧ z.1 = valN (m 35) a i ∧ z.2 34 3 = a + i ∧ z.2 34 1 = m 34 1))) := by
  unfold f_X4_readNumber
  refine si_call (f_scan h) (fun z hz => ?_)
  obtain ⟨z1, z2, z4, hz⟩ := hz
  rcases hz with ⟨q1, q2, q3⟩ | ⟨q1, q2, q3, q4, q5⟩ | ⟨q1, q2, i, q3, q4, q5, q6⟩
  · refine si_f (by omega) (si_call f_refuse (fun y hy => si_some ⟨fq_tr z1 hy.2.1, 0, ⟨fun j hj => by omega, fun q => by omega⟩, Or.inl ⟨Or.inl rfl, rfl, hy.2.2.1, hy.2.2.2.trans z4⟩⟩))
  · refine si_f (by omega) (si_call f_refuse (fun y hy => si_some ⟨fq_tr z1 hy.2.1, 0, ⟨fun j hj => by omega, fun q => q2 (by have := q.2; rw [show a + ((0 : Nat) : Int) = a by omega] at this; exact this)⟩, Or.inl ⟨Or.inl rfl, rfl, hy.2.2.1, hy.2.2.2.trans z4⟩⟩))
  · have hi1 : 1 ≤ i := by
      by_cases c : i = 0
      · subst c
        exact absurd (show a + ((0 : Nat) : Int) < n ∧ isF (m 35 (a + ((0 : Nat) : Int))) by rw [show a + ((0 : Nat) : Int) = a by omega]; exact ⟨q1, q2⟩) q3.2
      · omega
    by_cases c2 : i ≤ 2
    · rw [if_pos c2] at q6
      rw [q5, within_eq]
      refine si_t q6 ?_
      by_cases c3 : lo ≤ valN (m 35) a i ∧ valN (m 35) a i ≤ hi
      · rw [if_pos c3]
        exact si_f (by decide) (si_some ⟨z1, i, q3, Or.inr (Or.inr ⟨⟨hi1, c2⟩, c3, rfl, q4, z2⟩)⟩)
      · rw [if_neg c3]
        exact si_t rfl (si_call f_refuse (fun y hy => si_some ⟨fq_tr z1 hy.2.1, i, q3, Or.inr (Or.inl ⟨⟨hi1, c2⟩, c3, rfl, hy.2.2.1, hy.2.2.2.trans z4⟩)⟩))
    · rw [if_neg c2] at q6
      exact si_f (by omega) (si_call f_refuse (fun y hy => si_some ⟨fq_tr z1 hy.2.1, i, q3, Or.inl ⟨Or.inr (by omega), rfl, hy.2.2.1, hy.2.2.2.trans z4⟩⟩))
-- the reference's reading
def okU (k : Mm) (n a : Int) : Prop := k 30 2 = n ∧ k 30 5 = a ∧ 0 ≤ a ∧ a ≤ n ∧ n ≤ 100 ∧ ∀ i : Int, 0 ≤ i → i < n → 0 ≤ k 35 i ∧ k 35 i ≤ 255
def fqN (k y : Mm) : Prop := (∀ g, g ≠ 30 → y g = k g) ∧ ∀ o : Int, (o < 3 ∨ o = 4) → y 30 o = k 30 o
theorem fqN_rf (k : Mm) : fqN k k := ⟨fun _ _ => rfl, fun _ _ => rfl⟩
theorem fqN_tr {a b c : Mm} (h1 : fqN a b) (h2 : fqN b c) : fqN a c := ⟨fun g x => (h2.1 g x).trans (h1.1 g x), fun o x => (h2.2 o x).trans (h1.2 o x)⟩
theorem m_byteAt {k : Mm} {n p : Int} (hn : k 30 2 = n) (hp : 0 ≤ p) (h100 : n ≤ 100) : Sat (f_X6_byteAt k p) (fun z => (n ≤ p ∧ z = -1) ∨ (p < n ∧ z = k 35 p)) := by
  unfold f_X6_byteAt
  rw [hn, zadd]
  exact si_if (fun c => si_some (Or.inl ⟨c, rfl⟩)) (fun c => si_chk (by omega) (si_some (Or.inr ⟨by omega, rfl⟩)))
theorem m_fails {k : Mm} {p a : Int} : Sat (f_X6_fails k p a) (fun y => y.1 = 0 ∧ fqN k y.2 ∧ y.2 30 3 = p ∧ y.2 30 7 = a ∧ y.2 30 6 = k 30 6) := by
  unfold f_X6_fails
  exact si_bnd (si_bnd (si_some ⟨rfl, ⟨fun g hg => by dsimp only; rw [sM_g hg, sM_g hg], fun o ho => by dsimp only; rw [sM_n (by omega), sM_n (by omega)]⟩, by dsimp only; rw [sM_n (by decide), sM_s], by dsimp only; rw [sM_s], by dsimp only; rw [sM_n (by decide), sM_n (by decide)]⟩))
theorem m_takes {k : Mm} {n a c : Int} (h : okU k n a) (hc : 0 ≤ c) : Sat (f_X6_takes k c) (fun y => fqN k y.2 ∧ y.2 30 6 = k 30 6 ∧ ((a < n ∧ k 35 a = c ∧ y.1 = 1 ∧ y.2 30 5 = a + 1 ∧ y.2 30 3 = k 30 3) ∨ (¬ (a < n ∧ k 35 a = c) ∧ y.1 = 0 ∧ y.2 30 3 = 1 ∧ y.2 30 7 = a))) := by
  obtain ⟨h1, h2, h3, h4, h5, h6⟩ := h
  unfold f_X6_takes
  rw [h2]
  refine si_call (m_byteAt h1 h3 h5) (fun z hz => ?_)
  have hno : ¬ (a < n ∧ k 35 a = c) → Sat ((f_X6_fails k 1 a).bind fun z6 => some (z6.1, z6.2)) (fun y => fqN k y.2 ∧ y.2 30 6 = k 30 6 ∧ ((a < n ∧ k 35 a = c ∧ y.1 = 1 ∧ y.2 30 5 = a + 1 ∧ y.2 30 3 = k 30 3) ∨ (¬ (a < n ∧ k 35 a = c) ∧ y.1 = 0 ∧ y.2 30 3 = 1 ∧ y.2 30 7 = a))) := fun hn =>
    si_call m_fails (fun y hy => si_some ⟨hy.2.1, hy.2.2.2.2, Or.inr ⟨hn, hy.1, hy.2.2.1, hy.2.2.2.1⟩⟩)
  rcases hz with ⟨q1, q2⟩ | ⟨q1, q2⟩
  · exact si_f (by omega) (hno (fun q => by omega))
  · rw [q2]
    refine si_if (fun c1 => si_bnd (si_some ?_)) (fun c1 => hno (fun q => c1 q.2))
    rw [w3_id (by omega) (by omega)]
    exact ⟨⟨fun g hg => sM_g hg, fun o ho => by dsimp only; rw [sM_n (by omega)]⟩, by dsimp only; rw [sM_n (by decide)], Or.inl ⟨q1, c1, rfl, by dsimp only; rw [sM_s], by dsimp only; rw [sM_n (by decide)]⟩⟩
theorem m_number {k : Mm} {n a lo hi c : Int} (h : okU k n a) (hc : 0 ≤ c) : Sat (f_X6_takesNumber k lo hi c) (fun y => fqN k y.2 ∧ ∃ i : Nat, runP (k 35) n a i ∧ (((i = 0 ∨ 2 < i) ∧ y.1 = 0 ∧ y.2 30 3 = 1 ∧ y.2 30 7 = a) ∨ ((1 ≤ i ∧ i ≤ 2) ∧ ¬ (lo ≤ valN (k 35) a i ∧ valN (k 35) a i ≤ hi) ∧ y.1 = 0 ∧ y.2 30 3 = 2 ∧ y.2 30 7 = a) ∨ ((1 ≤ i ∧ i ≤ 2) ∧ (lo ≤ valN (k 35) a i ∧ valN (k 35) a i ≤ hi) ∧ ((a + i < n ∧ k 35 (a + i) = c ∧ y.1 = 1 ∧ y.2 30 5 = a + i + 1 ∧ y.2 30 6 = valN (k 35) a i ∧ y.2 30 3 = k 30 3) ∨ (¬ (a + i < n ∧ k 35 (a + i) = c) ∧ y.1 = 0 ∧ y.2 30 3 = 1 ∧ y.2 30 7 = a + i))))) := by
  have h' := h
  obtain ⟨h1, h2, h3, h4, h5, h6⟩ := h
  unfold f_X6_takesNumber
  rw [h2]
  refine si_bnd ?_
  refine si_call (P := fun e : Mm => (∀ g, g ≠ 30 → e g = k g) ∧ (∀ o, o ≠ 5 → o ≠ 6 → e 30 o = k 30 o) ∧ ∃ i : Nat, runP (k 35) n a i ∧ e 30 5 = a + i ∧ e 30 6 = valN (k 35) a i ∧ a + i ≤ n) (si_loop (fun i (x : Mm) => (∀ g, g ≠ 30 → x g = k g) ∧ (∀ o, o ≠ 5 → o ≠ 6 → x 30 o = k 30 o) ∧ (∀ j : Nat, j < i → a + j < n ∧ isF (k 35 (a + j))) ∧ x 30 5 = a + i ∧ x 30 6 = valN (k 35) a i ∧ a + i ≤ n) 100 ?_ 1000 (sM k 30 6 0) (by decide) ⟨fun g hg => sM_g hg, fun o _ q => sM_n (fun z => q z.2), fun j hj => by omega, by rw [sM_n (by decide)]; omega, sM_s _ _ _ _, by omega⟩) (fun e he => ?_)
  · rintro i x hi ⟨f1, f2, f3, f4, f5, f6⟩
    have e0 : x 30 2 = n := (f2 2 (by decide) (by decide)).trans h1
    have e35 : x 35 = k 35 := f1 35 (by decide)
    have hv := val_in i (fun j hj => (f3 j hj).2)
    try dsimp only
    rw [f4]
    refine si_call (m_byteAt e0 (p := a + i) (by omega) h5) (fun z hz => ?_)
    rw [in_eq]
    have hstop : ¬ (a + i < n ∧ isF (k 35 (a + i))) → ¬ (48 ≤ z ∧ z ≤ 57) := fun q w => by
      rcases hz with ⟨p1, p2⟩ | ⟨p1, p2⟩
      · omega
      · rw [p2, e35] at w
        exact q ⟨p1, w⟩
    by_cases cf : a + i < n ∧ isF (k 35 (a + i))
    · have hz2 : z = k 35 (a + i) := by
        rcases hz with ⟨p1, p2⟩ | ⟨p1, p2⟩
        · have := cf.1; omega
        · rw [p2, e35]
      have hb := cf.2
      unfold isF at hb
      rw [if_pos (show 48 ≤ z ∧ z ≤ 57 by omega)]
      rw [w3_id (x := a + (i : Int) - a) (by omega) (by omega)]
      refine si_f (by decide) (si_call (P := fun v => v = valN (k 35) a (i + 1)) (si_if (fun c2 => si_some ?_) (fun c2 => si_call (m_byteAt e0 (p := a + i) (by omega) h5) (fun z' hz' => si_some ?_))) (fun v hv' => si_bnd (si_bnd (si_some ?_))))
      · show x 30 6 = if i < 2 then valN (k 35) a i * 10 + k 35 (a + i) - 48 else valN (k 35) a i
        rw [if_neg (by omega)]
        exact f5
      · have hz3 : z' = k 35 (a + i) := by
          rcases hz' with ⟨p1, p2⟩ | ⟨p1, p2⟩
          · have := cf.1; omega
          · rw [p2, e35]
        show _ = if i < 2 then valN (k 35) a i * 10 + k 35 (a + i) - 48 else valN (k 35) a i
        rw [if_pos (by omega), f5, hz3, w3_id (x := 10 * valN (k 35) a i) (by omega) (by omega), w3_id (x := 10 * valN (k 35) a i + k 35 (a + i)) (by omega) (by omega), w3_id (by omega) (by omega)]
        omega
      · have e3 : sM x 30 6 v 30 5 = a + i := by rw [sM_n (by decide)]; exact f4
        rw [e3, w3_id (x := a + (i : Int) + 1) (by omega) (by omega)]
        refine ⟨by omega, fun g hg => by rw [sM_g hg, sM_g hg]; exact f1 g hg, fun o p q => by rw [sM_n (fun z => p z.2), sM_n (fun z => q z.2)]; exact f2 o p q, fun j hj => ?_, by rw [sM_s]; omega, by rw [sM_n (by decide), sM_s]; exact hv', by have := cf.1; omega⟩
        by_cases q : j = i
        · subst q; exact cf
        · exact f3 j (by omega)
    · rw [if_neg (hstop cf)]
      exact si_t rfl (si_some ⟨f1, f2, i, ⟨f3, cf⟩, f4, f5, f6⟩)
  · obtain ⟨e1, e2, i, e3, e4, e5, e6⟩ := he
    have hv := val_in i (fun j hj => (e3.1 j hj).2)
    have hfr : fqN k e := ⟨e1, fun o ho => e2 o (by omega) (by omega)⟩
    rw [e4, e5, in_eq, w3_id (x := a + (i : Int) - a) (by omega) (by omega)]
    refine si_if (fun c1 => si_call m_fails (fun y hy => si_some ⟨fqN_tr hfr hy.2.1, i, e3, Or.inl ⟨Or.inl (by omega), hy.1, hy.2.2.1, hy.2.2.2.1⟩⟩)) (fun c1 => si_if (fun c2 => ?_) (fun c2 => si_call m_fails (fun y hy => si_some ⟨fqN_tr hfr hy.2.1, i, e3, Or.inl ⟨Or.inr (by omega), hy.1, hy.2.2.1, hy.2.2.2.1⟩⟩)))
    by_cases c3 : lo ≤ valN (k 35) a i ∧ valN (k 35) a i ≤ hi
    · rw [if_pos c3]
      refine si_f (by decide) (si_call (m_takes (k := e) (n := n) (a := a + i) ⟨(e2 2 (by decide) (by decide)).trans h1, e4, by omega, e6, h5, by rw [e1 35 (by decide)]; exact h6⟩ hc) (fun y hy => si_some ⟨fqN_tr hfr hy.1, i, e3, Or.inr (Or.inr ⟨by omega, c3, ?_⟩)⟩))
      have hy2 := hy.2.2
      rw [e1 35 (by decide), e2 3 (by decide) (by decide)] at hy2
      rcases hy2 with ⟨p1, p2, p3, p4, p5⟩ | ⟨p1, p2, p3, p4⟩
      · exact Or.inl ⟨p1, p2, p3, p4, hy.2.1.trans e5, p5⟩
      · exact Or.inr ⟨p1, p2, p3, p4⟩
    · rw [if_neg c3]
      exact si_t rfl (si_call m_fails (fun y hy => si_some ⟨fqN_tr hfr hy.2.1, i, e3, Or.inr (Or.inl ⟨by omega, c3, hy.1, hy.2.2.1, hy.2.2.2.1⟩)⟩))
-- in step
def RT (m k : Mm) : Prop := k 30 2 = m 34 0 ∧ 0 ≤ m 34 3 ∧ m 34 3 ≤ m 34 0 ∧ m 34 0 ≤ 100 ∧ (∀ i : Int, 0 ≤ i → i < m 34 0 → k 35 i = m 35 i ∧ 0 ≤ m 35 i ∧ m 35 i ≤ 255) ∧ k 30 3 = m 34 1 ∧ k 30 5 = m 34 3
def Flt (m k : Mm) : Prop := k 30 3 = m 34 1 ∧ k 30 7 = m 34 2
theorem RT_T {m k : Mm} (h : RT m k) : okT m (m 34 0) (m 34 3) := ⟨rfl, rfl, h.2.1, h.2.2.1, h.2.2.2.1, fun i p q => (h.2.2.2.2.1 i p q).2⟩
theorem RT_U {m k : Mm} (h : RT m k) : okU k (m 34 0) (m 34 3) := ⟨h.1, h.2.2.2.2.2.2, h.2.1, h.2.2.1, h.2.2.2.1, fun i p q => by rw [(h.2.2.2.2.1 i p q).1]; exact (h.2.2.2.2.1 i p q).2⟩
theorem RT_of {m k z y : Mm} (h : RT m k) (hz : fq m z) (hy : fqN k y) (h3 : 0 ≤ z 34 3 ∧ z 34 3 ≤ m 34 0) (h5 : y 30 5 = z 34 3) (hf : y 30 3 = z 34 1) : RT z y := by
  refine ⟨by rw [hy.2 2 (Or.inl (by decide)), hz.2]; exact h.1, h3.1, by rw [hz.2]; exact h3.2, by rw [hz.2]; exact h.2.2.2.1, fun i p q => ?_, hf, h5⟩
  rw [hz.2] at q
  rw [hy.1 35 (by decide), hz.1 35 (by decide)]
  exact h.2.2.2.2.1 i p q
theorem single2 {m k : Mm} (h : RT m k) {c : Int} (hc : 0 ≤ c) (hf : ¬ isF c) : Sat (f_X4_readSingle m c) (fun z => Sat (f_X6_takes k c) (fun y => fq m z.2 ∧ fqN k y.2 ∧ ((z.1 = 1 ∧ y.1 = 1 ∧ RT z.2 y.2) ∨ (z.1 = 0 ∧ y.1 = 0 ∧ Flt z.2 y.2)))) := by
  refine si_mono (f_single (RT_T h) hf) (fun z hz => si_mono (m_takes (RT_U h) hc) (fun y hy => ⟨hz.1, hy.1, ?_⟩))
  have hb : m 34 3 < m 34 0 → k 35 (m 34 3) = m 35 (m 34 3) := fun q => (h.2.2.2.2.1 _ h.2.1 q).1
  rcases hz.2 with ⟨z1, z2, z3, z4, z5⟩ | ⟨z1, z2, z3, z4⟩ <;> rcases hy.2.2 with ⟨y1, y2, y3, y4, y5⟩ | ⟨y1, y2, y3, y4⟩
  · exact Or.inl ⟨z3, y3, RT_of h hz.1 hy.1 ⟨by have := h.2.1; omega, by omega⟩ (by rw [y4, z4]) (by rw [y5, z5]; exact h.2.2.2.2.2.1)⟩
  · exact absurd ⟨z1, (hb z1).trans z2⟩ y1
  · exact absurd ⟨y1, (hb y1).symm.trans y2⟩ z1
  · exact Or.inr ⟨z2, y2, by rw [y3, z3], by rw [y4, z4]⟩
theorem num2 {m k : Mm} (h : RT m k) {lo hi c : Int} (h0 : 0 ≤ lo) (hc : 0 ≤ c) (hfc : ¬ isF c) {g : Int × Mm → Int × Mm → Option (Int × Mm)} {h' : Int × Mm → Option (Int × Mm)} {K : Int × Mm → Int × Mm → Prop} (hF : ∀ m' k', fq m m' → fqN k k' → Flt m' k' → K (0, m') (0, k')) (hG : ∀ z5 z8 y : Int × Mm, lo ≤ z5.1 → z5.1 ≤ hi → fq m z8.2 → fqN k y.2 → RT z8.2 y.2 → y.2 30 6 = z5.1 → Sat (g z5 z8) (fun z => Sat (h' y) (fun y => K z y))) : Sat ((f_X4_readNumber m lo hi).bind fun z5 => if z5.1 = (-1) then (some (0, z5.2)) else ((f_X4_readSingle z5.2 c).bind fun z8 => if z8.1 = 0 then (some (0, z8.2)) else g z5 z8)) (fun z => Sat ((f_X6_takesNumber k lo hi c).bind fun y => if y.1 = 0 then (some (0, y.2)) else h' y) (fun y => K z y)) := by
  have hcg : ∀ j : Int, 0 ≤ j → j < m 34 0 → k 35 j = m 35 j := fun j p q => (h.2.2.2.2.1 j p q).1
  refine si_call (f_number (RT_T h) h0) (fun z5 hz5 => ?_)
  obtain ⟨z1, i, z2, hz5⟩ := hz5
  refine si_swap (si_call (m_number (RT_U h) hc) (fun y hy => si_swap ?_))
  obtain ⟨y1, i', y2, hy⟩ := hy
  have hii := run_eq (run_cg h.2.1 hcg y2) z2
  subst hii
  have hval : valN (k 35) (m 34 3) i' = valN (m 35) (m 34 3) i' := val_cg i' (fun j hj => hcg _ (by have := h.2.1; omega) (z2.1 j hj).1)
  rw [hval] at hy
  have hv := val_in i' (fun j hj => (z2.1 j hj).2)
  rcases hz5 with ⟨p1, p2, p3, p4⟩ | ⟨p1, p2, p3, p4, p5⟩ | ⟨p1, p2, p3, p4, p5⟩
  · refine si_t p2 (si_some ?_)
    rcases hy with ⟨q1, q2, q3, q4⟩ | ⟨q1, q2, q3, q4, q5⟩ | ⟨q1, q2, q3⟩
    · exact si_t q2 (si_some (hF _ _ z1 y1 ⟨by rw [q3, p3], by rw [q4, p4]⟩))
    · omega
    · omega
  · refine si_t p3 (si_some ?_)
    rcases hy with ⟨q1, q2, q3, q4⟩ | ⟨q1, q2, q3, q4, q5⟩ | ⟨q1, q2, q3⟩
    · omega
    · exact si_t q3 (si_some (hF _ _ z1 y1 ⟨by rw [q4, p4], by rw [q5, p5]⟩))
    · exact absurd q2 p2
  · rcases hy with ⟨q1, q2, q3, q4⟩ | ⟨q1, q2, q3, q4, q5⟩ | ⟨q1, q2, q3⟩
    · omega
    · exact absurd p2 q2
    · refine si_f (by omega) ?_
      have hai : m 34 3 + i' ≤ m 34 0 := by
        have := z2.1 (i' - 1) (by omega)
        omega
      have hb : m 34 3 + i' < m 34 0 → k 35 (m 34 3 + i') = m 35 (m 34 3 + i') := fun q => hcg _ (by have := h.2.1; omega) q
      have h35 : z5.2 35 = m 35 := z1.1 35 (by decide)
      refine si_call (f_single (m := z5.2) (n := m 34 0) (a := m 34 3 + i') (c := c) ⟨z1.2, p4, by have := h.2.1; omega, hai, h.2.2.2.1, by rw [h35]; exact fun j p q => (h.2.2.2.2.1 j p q).2⟩ hfc) (fun z8 hz8 => ?_)
      obtain ⟨w1, hz8⟩ := hz8
      rw [h35] at hz8
      rcases hz8 with ⟨r1, r2, r3, r4, r5⟩ | ⟨r1, r2, r3, r4⟩ <;> rcases q3 with ⟨s1, s2, s3, s4, s5, s6⟩ | ⟨s1, s2, s3, s4⟩
      · refine si_f (by omega) (si_swap (si_f (by omega) (si_swap ?_)))
        exact hG z5 z8 y (by omega) (by omega) (fq_tr z1 w1) y1 (RT_of h (fq_tr z1 w1) y1 ⟨by have := h.2.1; omega, by omega⟩ (by rw [s4, r4]) (by rw [s6, r5, p5]; exact h.2.2.2.2.2.1)) (by rw [s5, p3])
      · exact absurd ⟨r1, (hb r1).trans r2⟩ s1
      · exact absurd ⟨s1, (hb s1).symm.trans s2⟩ r1
      · exact si_t r2 (si_some (si_t s2 (si_some (hF _ _ (fq_tr z1 w1) y1 ⟨by rw [s3, r3], by rw [s4, r4]⟩))))
