/-! WHAT IS FORETOLD, in both. -/
def fstN (P : Nat → Bool) : Nat → Int
  | 0 => -1
  | n + 1 => if 0 ≤ fstN P n then fstN P n else if P n = true then n else -1
theorem fstN_stop {P : Nat → Bool} {n : Nat} (h : 0 ≤ fstN P n) (m : Nat) : fstN P (n + m) = fstN P n := by
  induction m with
  | zero => rfl
  | succ m ih =>
    show (if 0 ≤ fstN P (n + m) then fstN P (n + m) else if P (n + m) = true then ((n + m : Nat) : Int) else -1) = _
    rw [if_pos (by rw [ih]; exact h)]
    exact ih
theorem fstN_hit {P : Nat → Bool} {i N : Nat} (h : fstN P i = -1) (hp : P i = true) (hi : i < N) : fstN P N = i := by
  have h1 : fstN P (i + 1) = i := by
    show (if 0 ≤ fstN P i then fstN P i else if P i = true then (i : Int) else -1) = i
    rw [if_neg (by omega), if_pos hp]
  have := fstN_stop (P := P) (n := i + 1) (by omega) (N - (i + 1))
  rw [show i + 1 + (N - (i + 1)) = N by omega, h1] at this
  exact this
theorem fstN_miss {P : Nat → Bool} {i : Nat} (h : fstN P i = -1) (hp : ¬ P i = true) : fstN P (i + 1) = -1 := by
  show (if 0 ≤ fstN P i then fstN P i else if P i = true then (i : Int) else -1) = -1
  rw [if_neg (by omega), if_neg hp]
def orNone (x : Int) : Int := if x < 0 then -1000000 else x
def CI (μ : Mm) (A : Rv) (i : Nat) (m : Mm) : Prop := frC μ m ∧ RR (itD A i) (m 3) ∧ m 3 40 = sumLost A i
def MI (ν : Mm) (A : Rv) (i : Nat) (m : Mm) : Prop := frM ν m ∧ RR (itD A i) (m 3)
theorem CI_0 {μ : Mm} {A : Rv} (hV : VR A) (hR : RR A (μ 0)) : Sat (f_X2_become μ 3 0) (CI μ A 0) :=
  si_mono (f_become (r := 3) (q := 0) (by decide)) (fun m hm => ⟨fun g a b => hm.1 g a, RR_copy hV.2.1 hV.2.2.2.1 hR hm.2.1, hm.2.2.1⟩)
theorem CI_s {μ m : Mm} {A : Rv} (hV : VR A) {i : Nat} (hi : i ≤ 100) (h : CI μ A i m) : Sat (f_X2_passDay m 3) (CI μ A (i + 1)) := by
  obtain ⟨h1, h2, h3⟩ := h
  have hs := sumLost_in hV i
  refine si_mono (f_passDay (VR_it hV i).1 h2 (by omega)) (fun z hz => ⟨fun g a b => (hz.1 g a).trans (h1 g a b), hz.2.1, ?_⟩)
  show z 3 40 = sumLost A i + dayLost (itD A i)
  rw [hz.2.2.1, h3]
theorem MI_0 {ν : Mm} {A : Rv} (hV : VR A) (hR : RR A (ν 0)) : Sat (f_X6_tries ν) (MI ν A 0) := m_tries hV.2.1 hV.2.2.2.1 hR
theorem MI_s {ν m : Mm} {A : Rv} (hV : VR A) {i : Nat} (h : MI ν A i m) : Sat (f_X6_passes m 114) (fun z => MI ν A (i + 1) z ∧ z 30 8 = dayEat (itD A i) 0 ∧ z 30 9 = dayLost (itD A i)) :=
  si_mono (m_pass3 (VR_it hV i).1 h.2) (fun z hz => ⟨⟨frM_tr h.1 hz.1, hz.2.1⟩, hz.2.2⟩)
theorem CI_p {μ m : Mm} {A : Rv} (hV : VR A) {i : Nat} (h : CI μ A i m) {k : Int} (hk : 0 ≤ k ∧ k < A 25) : m 3 (11 + k) = itD A i (11 + k) := (h.2.1.2.2.2.2.2 k hk.1 (by rw [(VR_it hV i).2.2.1]; exact hk.2)).1
theorem MI_p {ν m : Mm} {A : Rv} (hV : VR A) {i : Nat} (h : MI ν A i m) {k : Int} (hk : 0 ≤ k ∧ k < A 25) : m 3 (11 + k) = itD A i (11 + k) := (h.2.2.2.2.2.2 k hk.1 (by rw [(VR_it hV i).2.2.1]; exact hk.2)).1
theorem w3s (i : Nat) (h : i < 1000000) : w3 ((i : Int) + 1) = ((i + 1 : Nat) : Int) := by rw [w3_id (by omega) (by omega)]; omega
theorem m_leaves {ν : Mm} {A : Rv} (hV : VR A) (hR : RR A (ν 3)) {k : Int} (hk : 0 ≤ k ∧ k < A 25) (h0 : ν 0 (11 + k) = A (11 + k)) : Sat (f_X6_leaves ν k) (fun z => frM ν z.2 ∧ z.1 = if heldA A k 60 < 60 then heldA A k 60 + 1 else -1000000) := by
  have h6 := hV.2.2.2.1
  unfold f_X6_leaves
  refine si_bind (si_loop (fun i (x : Int × Mm) => x.1 = i + 1 ∧ i ≤ 60 ∧ heldA A k i = i ∧ MI ν A i x.2) 60 ?_ 1000 (1, ν) (by decide) ⟨rfl, by decide, rfl, frM_rf ν, hR⟩)
  rintro i ⟨b, m⟩ hi ⟨hb, hi60, hh, hm⟩
  dsimp only at hb hm ⊢
  subst hb
  refine si_if (fun c => si_some (si_some ⟨hm.1, ?_⟩)) (fun c => si_call (MI_s hV hm) (fun z hz => ?_))
  · have : i = 60 := by omega
    subst this
    rw [hh]
    rfl
  obtain ⟨hz, -, -⟩ := hz
  have hn1 : heldA A k (i + 1) = if itD A (i + 1) (11 + k) = A (11 + k) then (i : Int) + 1 else i := by
    show (if heldA A k i < i then _ else _) = _
    rw [if_neg (by omega)]
  simp (disch := omega) only [w3_id]
  have e3 : rdW z (125 + k) = itD A (i + 1) (11 + k) := by rw [rd3 (o := 11 + k) (by omega) (by omega)]; exact MI_p hV hz hk
  have e0 : rdW z (11 + k) = A (11 + k) := by rw [rd0 (by omega), hz.1.1 0 (by decide) (by decide)]; exact h0
  refine si_chk (by omega) (si_chk (by omega) (si_if (fun c1 => si_some ?_) (fun c1 => si_some (si_some ⟨hz.1, ?_⟩))))
  · rw [e3, e0] at c1
    rw [if_pos c1] at hn1
    exact ⟨by omega, by dsimp only; omega, by omega, by rw [hn1]; omega, hz⟩
  · rw [e3, e0] at c1
    rw [if_neg c1] at hn1
    have := heldA_stop (A := A) (k := k) (n := i + 1) (by omega) (60 - (i + 1))
    rw [show i + 1 + (60 - (i + 1)) = 60 by omega, hn1] at this
    show (i : Int) + 1 = _
    rw [this, if_pos (by omega)]
/-- MOVES -/
theorem b_moves {μ ν : Mm} (h : Rel μ ν) (k : Int) : Both (f_X5_moves μ k) (f_X6_moves ν k) := by
  have hRel := h
  obtain ⟨A, hA⟩ := h
  have hN := hA.1
  unfold f_X5_moves f_X6_moves
  rw [c_isSwan' hN]
  by_cases c1 : 0 ≤ k ∧ k < A 25
  · obtain ⟨hV, -⟩ := NowR_V hN (Or.inl (by omega))
    rw [if_pos c1]
    refine si_f (by decide) (si_call (CI_0 hV hN.1) (fun z hz => ?_))
    have h40 : z 3 40 = 0 := hz.2.2
    refine si_call (f_daysHeld hV hz.2.1 (by omega) c1) (fun x hx => ?_)
    have hin := heldA_in A k 60
    have hM : Sat ((f_X6_isSwan ν k).bind fun z2 => if z2 = 0 then some (-1000001, ν) else (f_X6_tries ν).bind fun z5 => (f_X6_leaves z5 k).bind fun z7 => some (z7.1, z7.2)) (fun y => frM ν y.2 ∧ y.1 = if heldA A k 60 < 60 then heldA A k 60 + 1 else -1000000) := by
      refine si_call (m_isSwan hN k) (fun y hy => ?_)
      rw [if_pos c1] at hy
      refine si_f (by omega) (si_call (MI_0 hV hN.2.1) (fun w hw => si_call (m_leaves hV hw.2 c1 (by rw [hw.1.1 0 (by decide) (by decide)]; exact (hN.2.1.2.2.2.2.2 k c1.1 c1.2).1)) (fun v hv => si_some ⟨frM_tr hw.1 hv.1, hv.2⟩)))
    have hfr : frC μ x.2 := fun g a b => (hx.2 g a).trans (hz.1 g a b)
    refine si_if (fun c => si_some (si_mono hM (fun y hy => ⟨?_, A, RelA_fr hA hfr (frN_of hy.1)⟩))) (fun c => si_some (si_mono hM (fun y hy => ⟨?_, A, RelA_fr hA hfr (frN_of hy.1)⟩)))
    · rw [hx.1] at c
      rw [hy.2, if_neg (by omega)]
    · rw [hx.1] at c
      show y.1 = w3 (x.1 + 1)
      rw [hy.2, if_pos (by omega), hx.1, w3_id (by omega) (by omega)]
  · rw [if_neg c1]
    refine si_t rfl (both_same hRel (si_call (m_isSwan hN k) (fun y hy => ?_)))
    rw [if_neg c1] at hy
    exact si_t hy (si_some ⟨rfl, rfl⟩)
/-- EVENING -/
theorem b_evening {μ ν : Mm} (h : Rel μ ν) : Both (f_X5_evening μ) (f_X6_evening ν) := by
  have hRel := h
  obtain ⟨A, hA⟩ := h
  have hN := hA.1
  unfold f_X5_evening f_X6_evening
  rw [c_hasRiver' hN]
  by_cases c1 : 0 < A 24
  · obtain ⟨hV, -⟩ := NowR_V hN (Or.inr c1)
    rw [if_pos c1]
    have hM : Sat ((f_X6_isRiver ν).bind fun z2 => if z2 = 0 then some (-1000002, ν) else (f_X6_tries ν).bind fun z5 => (loopO (fun (x6 : Int × Mm) => if 60 < x6.1 then (some (.inr (.inl x6))) else ((f_X6_ownersIn x6.2 114).bind fun z9 => (f_X6_ones x6.2 z9).bind fun z11 => if z11 = 1 then (some (.inr (.inr (x6.1, x6.2)))) else ((f_X6_passes x6.2 114).bind fun z14 => some (.inl (w3 (x6.1 + 1), z14))))) 1000 (0, z5)).bind fun y => Sum.elim (fun e15 => some ((-1000000), e15.2)) (fun r => some r) y) (fun y => frM ν y.2 ∧ y.1 = orNone (fstN (fun n => decide (ownA (itD A n) = 1)) 61)) := by
      refine si_call (m_isRiver hN) (fun y hy => ?_)
      rw [if_pos c1] at hy
      refine si_f (by omega) (si_call (MI_0 hV hN.2.1) (fun w hw => si_bind (si_loop (fun i (x : Int × Mm) => x.1 = i ∧ i ≤ 61 ∧ fstN (fun n => decide (ownA (itD A n) = 1)) i = -1 ∧ MI ν A i x.2) 61 ?_ 1000 (0, w) (by decide) ⟨rfl, by decide, rfl, hw⟩)))
      rintro i ⟨b, m⟩ hi ⟨hb, hi61, hf, hm⟩
      dsimp only at hb hm ⊢
      subst hb
      refine si_if (fun c => si_some (si_some ⟨hm.1, ?_⟩)) (fun c => m_ownerCount (q := 3) (by decide) (VR_it hV i).1 hm.2 (si_if (fun c2 => si_some (si_some ⟨hm.1, ?_⟩)) (fun c2 => si_call (MI_s hV hm) (fun z hz => si_some ⟨by omega, w3s i (by omega), by omega, fstN_miss hf (by simpa using c2), hz.1⟩))))
      · have : i = 61 := by omega
        subst this
        rw [hf]
        rfl
      · rw [fstN_hit hf (by simpa using c2) (show i < 61 by omega)]
        show (i : Int) = orNone i
        unfold orNone
        rw [if_neg (by omega)]
    refine si_f (by decide) (si_call (CI_0 hV hN.1) (fun z hz => si_bind (si_loop (fun i (x : Int × Mm) => x.1 = i ∧ i ≤ 61 ∧ fstN (fun n => decide (ownA (itD A n) = 1)) i = -1 ∧ CI μ A i x.2) 61 ?_ 1000 (0, z) (by decide) ⟨rfl, by decide, rfl, hz⟩)))
    rintro i ⟨b, m⟩ hi ⟨hb, hi61, hf, hm⟩
    dsimp only at hb hm ⊢
    subst hb
    refine si_if (fun c => si_some (si_some (si_mono hM (fun y hy => ⟨?_, A, RelA_fr hA hm.1 (frN_of hy.1)⟩)))) (fun c => si_call (f_ownerCount (VR_it hV i).1 hm.2.1) (fun o ho => si_if (fun c2 => si_some (si_some (si_mono hM (fun y hy => ⟨?_, A, RelA_fr hA hm.1 (frN_of hy.1)⟩)))) (fun c2 => si_call (CI_s hV (by omega) hm) (fun z hz => si_some ⟨by omega, w3s i (by omega), by omega, fstN_miss hf (by rw [ho] at c2; simpa using c2), hz⟩))))
    · have : i = 61 := by omega
      subst this
      rw [hy.2, hf]
      rfl
    · rw [ho] at c2
      rw [hy.2, fstN_hit hf (by simpa using c2) (show i < 61 by omega)]
      show orNone i = (i : Int)
      unfold orNone
      rw [if_neg (by omega)]
  · rw [if_neg c1]
    refine si_t rfl (both_same hRel (si_call (m_isRiver hN) (fun y hy => ?_)))
    rw [if_neg c1] at hy
    exact si_t hy (si_some ⟨rfl, rfl⟩)
/-- MEET -/
theorem b_meet {μ ν : Mm} (h : Rel μ ν) (k o : Int) : Both (f_X5_meet μ k o) (f_X6_meet ν k o) := by
  have hRel := h
  obtain ⟨A, hA⟩ := h
  have hN := hA.1
  unfold f_X5_meet f_X6_meet
  rw [c_isSwan' hN, c_isSwan' hN]
  by_cases c1 : 0 ≤ k ∧ k < A 25
  · obtain ⟨hV, -⟩ := NowR_V hN (Or.inl (by omega))
    have h6 := hV.2.2.2.1
    rw [if_pos c1]
    refine si_f (by decide) ?_
    by_cases c2 : 0 ≤ o ∧ o < A 25
    · rw [if_pos c2]
      refine si_f (by decide) ?_
      by_cases c3 : k = o
      · refine si_t c3 (both_same hRel (si_call (m_isSwan hN k) (fun y hy => ?_)))
        rw [if_pos c1] at hy
        refine si_f (by omega) (si_call (m_isSwan hN o) (fun y hy => ?_))
        rw [if_pos c2] at hy
        exact si_f (by omega) (si_t c3 (si_some ⟨rfl, rfl⟩))
      refine si_f c3 ?_
      have hM : Sat ((f_X6_isSwan ν k).bind fun z2 => if z2 = 0 then (some ((-1000001), ν)) else ((f_X6_isSwan ν o).bind fun z5 => if z5 = 0 then (some ((-1000001), ν)) else (if k = o then (some ((-1000001), ν)) else ((f_X6_tries ν).bind fun z9 => (loopO (fun (x10 : Int × Mm) => if 60 < x10.1 then (some (.inr (.inl x10))) else (chk ((0 : Int) ≤ (w3 (125 + k)) ∧ (w3 (125 + k)) < (152 : Int)) (chk ((0 : Int) ≤ (w3 (125 + o)) ∧ (w3 (125 + o)) < (152 : Int)) (if (rdW x10.2 (w3 (125 + k))) = (rdW x10.2 (w3 (125 + o))) then (some (.inr (.inr (x10.1, x10.2)))) else ((f_X6_passes x10.2 114).bind fun z16 => some (.inl (w3 (x10.1 + 1), z16))))))) 1000 (0, z9)).bind fun y => Sum.elim (fun e17 => some ((-1000000), e17.2)) (fun r => some r) y)))) (fun y => frM ν y.2 ∧ y.1 = orNone (fstN (fun n => decide (itD A n (11 + k) = itD A n (11 + o))) 61)) := by
        refine si_call (m_isSwan hN k) (fun y hy => ?_)
        rw [if_pos c1] at hy
        refine si_f (by omega) (si_call (m_isSwan hN o) (fun y hy => ?_))
        rw [if_pos c2] at hy
        refine si_f (by omega) (si_f c3 (si_call (MI_0 hV hN.2.1) (fun w hw => si_bind (si_loop (fun i (x : Int × Mm) => x.1 = i ∧ i ≤ 61 ∧ fstN (fun n => decide (itD A n (11 + k) = itD A n (11 + o))) i = -1 ∧ MI ν A i x.2) 61 ?_ 1000 (0, w) (by decide) ⟨rfl, by decide, rfl, hw⟩))))
        rintro i ⟨b, m⟩ hi ⟨hb, hi61, hf, hm⟩
        dsimp only at hb hm ⊢
        subst hb
        have ek : rdW m (w3 (125 + k)) = itD A i (11 + k) := by rw [w3_id (by omega) (by omega), rd3 (o := 11 + k) (by omega) (by omega)]; exact MI_p hV hm c1
        have eo : rdW m (w3 (125 + o)) = itD A i (11 + o) := by rw [w3_id (by omega) (by omega), rd3 (o := 11 + o) (by omega) (by omega)]; exact MI_p hV hm c2
        have wk : w3 (125 + k) = 125 + k := w3_id (by omega) (by omega)
        have wo : w3 (125 + o) = 125 + o := w3_id (by omega) (by omega)
        refine si_if (fun c => si_some (si_some ⟨hm.1, ?_⟩)) (fun c => si_chk (by omega) (si_chk (by omega) (si_if (fun c4 => si_some (si_some ⟨hm.1, ?_⟩)) (fun c4 => si_call (MI_s hV hm) (fun z hz => si_some ⟨by omega, w3s i (by omega), by omega, fstN_miss hf (by rw [ek, eo] at c4; simpa using c4), hz.1⟩)))))
        · have : i = 61 := by omega
          subst this
          rw [hf]
          rfl
        · rw [ek, eo] at c4
          rw [fstN_hit hf (by simpa using c4) (show i < 61 by omega)]
          show (i : Int) = orNone i
          unfold orNone
          rw [if_neg (by omega)]
      refine si_call (CI_0 hV hN.1) (fun z hz => si_bind (si_loop (fun i (x : Int × Mm) => x.1 = i ∧ i ≤ 61 ∧ fstN (fun n => decide (itD A n (11 + k) = itD A n (11 + o))) i = -1 ∧ CI μ A i x.2) 61 ?_ 1000 (0, z) (by decide) ⟨rfl, by decide, rfl, hz⟩))
      rintro i ⟨b, m⟩ hi ⟨hb, hi61, hf, hm⟩
      dsimp only at hb hm ⊢
      subst hb
      have ek := CI_p hV hm c1
      have eo := CI_p hV hm c2
      refine si_if (fun c => si_some (si_some (si_mono hM (fun y hy => ⟨?_, A, RelA_fr hA hm.1 (frN_of hy.1)⟩)))) (fun c => si_chk (by omega) (si_chk (by omega) (si_if (fun c4 => si_some (si_some (si_mono hM (fun y hy => ⟨?_, A, RelA_fr hA hm.1 (frN_of hy.1)⟩)))) (fun c4 => si_call (CI_s hV (by omega) hm) (fun z hz => si_some ⟨by omega, w3s i (by omega), by omega, fstN_miss hf (by rw [ek, eo] at c4; simpa using c4), hz⟩)))))
      · have : i = 61 := by omega
        subst this
        rw [hy.2, hf]
        rfl
      · rw [ek, eo] at c4
        rw [hy.2, fstN_hit hf (by simpa using c4) (show i < 61 by omega)]
        show orNone i = (i : Int)
        unfold orNone
        rw [if_neg (by omega)]
    · rw [if_neg c2]
      refine si_t rfl (both_same hRel (si_call (m_isSwan hN k) (fun y hy => ?_)))
      rw [if_pos c1] at hy
      refine si_f (by omega) (si_call (m_isSwan hN o) (fun y hy => ?_))
      rw [if_neg c2] at hy
      exact si_t hy (si_some ⟨rfl, rfl⟩)
  · rw [if_neg c1]
    refine si_t rfl (both_same hRel (si_call (m_isSwan hN k) (fun y hy => ?_)))
    rw [if_neg c1] at hy
    exact si_t hy (si_some ⟨rfl, rfl⟩)
/-- STAYS -/
def staysA (A : Rv) (k l : Int) (n : Nat) : Int := countN (fun i => decide (itD A (i.toNat + 1) (11 + k) = l)) n
theorem b_stays {μ ν : Mm} (h : Rel μ ν) (k l n : Int) : Both (f_X5_stays μ k l n) (f_X6_stays ν k l n) := by
  have hRel := h
  obtain ⟨A, hA⟩ := h
  have hN := hA.1
  unfold f_X5_stays f_X6_stays
  rw [c_isSwan' hN, c_isLawn' hN, within_eq, span_eq]
  by_cases c1 : 0 ≤ k ∧ k < A 25
  · obtain ⟨hV, -⟩ := NowR_V hN (Or.inl (by omega))
    have h6 := hV.2.2.2.1
    rw [if_pos c1]
    refine si_f (by decide) ?_
    by_cases c2 : 0 ≤ l ∧ l < A 24
    · rw [if_pos c2]
      refine si_f (by decide) ?_
      by_cases c3 : 1 ≤ n ∧ n ≤ 60
      · obtain ⟨n, rfl⟩ := nat_of (show 0 ≤ n by omega)
        rw [if_pos c3]
        refine si_f (by decide) ?_
        have step : ∀ i : Nat, staysA A k l (i + 1) = if itD A (i + 1) (11 + k) = l then staysA A k l i + 1 else staysA A k l i := fun i => by
          show (if decide (itD A ((i : Int).toNat + 1) (11 + k) = l) = true then _ else _) = _
          rw [Int.toNat_natCast]
          by_cases c : itD A (i + 1) (11 + k) = l
          · rw [if_pos c, if_pos (by simpa using c)]; rfl
          · rw [if_neg c, if_neg (by simpa using c)]; rfl
        have hsin : ∀ i : Nat, 0 ≤ staysA A k l i ∧ staysA A k l i ≤ i := fun i => countN_in _ i
        refine si_call (CI_0 hV hN.1) (fun z hz => si_call (P := fun e : Int × Int × Mm => e.1 = staysA A k l n ∧ CI μ A n e.2.2) (si_loop (fun i (x : Int × Int × Mm) => x.2.1 = i ∧ i ≤ n ∧ x.1 = staysA A k l i ∧ CI μ A i x.2.2) n ?_ 1000 (0, 0, z) (by omega) ⟨rfl, Nat.zero_le _, rfl, hz⟩) (fun e he => si_some ?_))
        · rintro i ⟨a, b, m⟩ hi ⟨hb, hin, ha, hm⟩
          dsimp only at hb ha hm ⊢
          subst hb ha
          have hs := hsin i
          refine si_if (fun c => si_some ?_) (fun c => si_call (CI_s hV (by omega) hm) (fun z hz => si_chk (by omega) ?_))
          · have : i = n := by omega
            subst this
            exact ⟨rfl, hm⟩
          have ek := CI_p hV hz c1
          refine si_if (fun c4 => si_some ⟨by omega, w3s i (by omega), by omega, ?_, hz⟩) (fun c4 => si_some ⟨by omega, w3s i (by omega), by omega, ?_, hz⟩)
          · rw [ek] at c4
            show w3 (staysA A k l i + 1) = _
            rw [step, if_pos c4, w3_id (by omega) (by omega)]
          · rw [ek] at c4
            show staysA A k l i = _
            rw [step, if_neg c4]
        · refine si_call (m_isSwan hN k) (fun y hy => ?_)
          rw [if_pos c1] at hy
          refine si_f (by omega) (si_call (m_isLawn hN l) (fun y hy => ?_))
          rw [if_pos c2] at hy
          refine si_f (by omega) (si_f (by decide) (si_call (MI_0 hV hN.2.1) (fun w hw => si_call (P := fun e : Int × Int × Mm => e.1 = staysA A k l n ∧ MI ν A n e.2.2) (si_loop (fun i (x : Int × Int × Mm) => x.2.1 = i ∧ i ≤ n ∧ x.1 = staysA A k l i ∧ MI ν A i x.2.2) n ?_ 1000 (0, 0, w) (by omega) ⟨rfl, Nat.zero_le _, rfl, hw⟩) (fun v hv => si_some ⟨?_, A, RelA_fr hA he.2.1 (frN_of hv.2.1)⟩))))
          · rintro i ⟨a, b, m⟩ hi ⟨hb, hin, ha, hm⟩
            dsimp only at hb ha hm ⊢
            subst hb ha
            have hs := hsin i
            refine si_if (fun c => si_some ?_) (fun c => si_call (MI_s hV hm) (fun z hz => ?_))
            · have : i = n := by omega
              subst this
              exact ⟨rfl, hm⟩
            have ek : rdW z (w3 (125 + k)) = itD A (i + 1) (11 + k) := by rw [w3_id (by omega) (by omega), rd3 (o := 11 + k) (by omega) (by omega)]; exact MI_p hV hz.1 c1
            have wk : w3 (125 + k) = 125 + k := w3_id (by omega) (by omega)
            refine si_chk (by omega) (si_if (fun c4 => si_some ⟨by omega, w3s i (by omega), by omega, ?_, hz.1⟩) (fun c4 => si_some ⟨by omega, w3s i (by omega), by omega, ?_, hz.1⟩))
            · rw [ek] at c4
              show w3 (staysA A k l i + 1) = _
              rw [step, if_pos c4, w3_id (by omega) (by omega)]
            · rw [ek] at c4
              show w3 (staysA A k l i + 0) = _
              rw [step, if_neg c4, w3_id (by omega) (by omega)]
              omega
          · show v.1 = e.1
            rw [hv.1, he.1]
      · rw [if_neg c3]
        refine si_t rfl (both_same hRel (si_call (m_isSwan hN k) (fun y hy => ?_)))
        rw [if_pos c1] at hy
        refine si_f (by omega) (si_call (m_isLawn hN l) (fun y hy => ?_))
        rw [if_pos c2] at hy
        exact si_f (by omega) (si_t rfl (si_some ⟨rfl, rfl⟩))
    · rw [if_neg c2]
      refine si_t rfl (both_same hRel (si_call (m_isSwan hN k) (fun y hy => ?_)))
      rw [if_pos c1] at hy
      refine si_f (by omega) (si_call (m_isLawn hN l) (fun y hy => ?_))
      rw [if_neg c2] at hy
      exact si_t hy (si_some ⟨rfl, rfl⟩)
  · rw [if_neg c1]
    refine si_t rfl (both_same hRel (si_call (m_isSwan hN k) (fun y hy => ?_)))
    rw [if_neg c1] at hy
    exact si_t hy (si_some ⟨rfl, rfl⟩)
