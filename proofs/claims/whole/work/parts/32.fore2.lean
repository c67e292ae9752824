/-! FIGHTS, HUNGRY, HOLD. -/
theorem b_fights {μ ν : Mm} (h : Rel μ ν) (n : Int) : Both (f_X5_fights μ n) (f_X6_fights ν n) := by
  have hRel := h
  obtain ⟨A, hA⟩ := h
  have hN := hA.1
  unfold f_X5_fights f_X6_fights
  rw [c_hasRiver' hN, within_eq, span_eq]
  by_cases c1 : 0 < A 24
  · obtain ⟨hV, -⟩ := NowR_V hN (Or.inr c1)
    rw [if_pos c1]
    refine si_f (by decide) ?_
    by_cases c2 : 1 ≤ n ∧ n ≤ 60
    · obtain ⟨n, rfl⟩ := nat_of (show 0 ≤ n by omega)
      rw [if_pos c2]
      refine si_f (by decide) (si_call (f_foretell hV hN.1 (by omega)) (fun z hz => si_some ?_))
      refine si_call (m_isRiver hN) (fun y hy => ?_)
      rw [if_pos c1] at hy
      refine si_f (by omega) (si_f (by decide) (si_call (MI_0 hV hN.2.1) (fun w hw => si_call (P := fun e : Int × Int × Mm => e.1 = sumLost A n ∧ MI ν A n e.2.2) (si_loop (fun i (x : Int × Int × Mm) => x.2.1 = i ∧ i ≤ n ∧ x.1 = sumLost A i ∧ MI ν A i x.2.2) n ?_ 1000 (0, 0, w) (by omega) ⟨rfl, Nat.zero_le _, rfl, hw⟩) (fun v hv => si_some ⟨?_, A, RelA_fr hA hz.1 (frN_of hv.2.1)⟩))))
      · rintro i ⟨a, b, m⟩ hi ⟨hb, hin, ha, hm⟩
        dsimp only at hb ha hm ⊢
        subst hb ha
        have hs := sumLost_in hV i
        have hd := dayLost_in (VR_it hV i).1
        refine si_if (fun c => si_some ?_) (fun c => si_call (MI_s hV hm) (fun z hz => si_some ⟨by omega, w3s i (by omega), by omega, ?_, hz.1⟩))
        · have : i = n := by omega
          subst this
          exact ⟨rfl, hm⟩
        · show w3 (sumLost A i + z 30 9) = sumLost A i + dayLost (itD A i)
          rw [hz.2.2, w3_id (by omega) (by omega)]
      · show v.1 = z 3 40
        rw [hv.1, hz.2.2.1]
    · rw [if_neg c2]
      refine si_t rfl (both_same hRel (si_call (m_isRiver hN) (fun y hy => ?_)))
      rw [if_pos c1] at hy
      exact si_f (by omega) (si_t rfl (si_some ⟨rfl, rfl⟩))
  · rw [if_neg c1]
    refine si_t rfl (both_same hRel (si_call (m_isRiver hN) (fun y hy => ?_)))
    rw [if_neg c1] at hy
    exact si_t hy (si_some ⟨rfl, rfl⟩)
/-- who eats, beside those who ate before -/
theorem eatN_or (A : Rv) (n : Nat) (hn : n ≤ 6) : ∃ e : Nat, e < 64 ∧ ∀ x : Nat, x < 64 → eatN A n x = ((x ||| e : Nat) : Int) := by
  induction n with
  | zero => exact ⟨0, by decide, fun x hx => by show (x : Int) = _; rw [Nat.or_zero]⟩
  | succ n ih =>
    obtain ⟨e, he, hx⟩ := ih (by omega)
    by_cases c : eatsA (swimsA A n) (n : Int) = true
    · have hp : 2 ^ n < 2 ^ 6 := Nat.pow_lt_pow_right (by decide) (by omega)
      refine ⟨e ||| 2 ^ n, Nat.or_lt_two_pow (n := 6) (by omega) (by omega), fun x hx64 => ?_⟩
      show (if eatsA (swimsA A n) (n : Int) = true then bOr (eatN A n x) (bShl 1 (n : Int)) else eatN A n x) = _
      have hlt : x ||| e < 2 ^ 6 := Nat.or_lt_two_pow (by omega) (by omega)
      rw [if_pos c, hx x hx64, bShl1 n (by omega), bOr_nat (by omega) (by omega), Nat.or_assoc]
    · refine ⟨e, he, fun x hx64 => ?_⟩
      show (if eatsA (swimsA A n) (n : Int) = true then bOr (eatN A n x) (bShl 1 (n : Int)) else eatN A n x) = _
      rw [if_neg c]
      exact hx x hx64
theorem eatIt_or {A : Rv} (hV : VR A) (n : Nat) : ∃ e : Nat, e < 64 ∧ eatIt A 0 n = e := by
  induction n with
  | zero => exact ⟨0, by decide, rfl⟩
  | succ n ih =>
    obtain ⟨e, he, h⟩ := ih
    have h6 := (VR_it hV n).1.2.2.2.1
    have h1 := (VR_it hV n).1.2.2.1
    obtain ⟨d, hd, hx⟩ := eatN_or (itD A n) (itD A n 25).toNat (by omega)
    refine ⟨e ||| d, Nat.or_lt_two_pow (n := 6) (by omega) (by omega), ?_⟩
    show eatN (itD A n) (itD A n 25).toNat (eatIt A 0 n) = _
    rw [h]
    exact hx e he
theorem eatIt_step {A : Rv} (hV : VR A) (n : Nat) : bOr (eatIt A 0 n) (dayEat (itD A n) 0) = eatIt A 0 (n + 1) := by
  obtain ⟨e, he, h⟩ := eatIt_or hV n
  have h6 := (VR_it hV n).1.2.2.2.1
  have h1 := (VR_it hV n).1.2.2.1
  obtain ⟨d, hd, hx⟩ := eatN_or (itD A n) (itD A n 25).toNat (by omega)
  have hx0 := hx 0 (by decide)
  rw [Nat.zero_or] at hx0
  show bOr (eatIt A 0 n) (eatN (itD A n) (itD A n 25).toNat 0) = eatN (itD A n) (itD A n 25).toNat (eatIt A 0 n)
  rw [h, hx e he, show (0 : Int) = ((0 : Nat) : Int) from rfl, hx0, bOr_nat (by omega) (by omega)]
theorem b_hungry {μ ν : Mm} (h : Rel μ ν) (n : Int) : Both (f_X5_hungry μ n) (f_X6_hungry ν n) := by
  have hRel := h
  obtain ⟨A, hA⟩ := h
  have hN := hA.1
  unfold f_X5_hungry f_X6_hungry
  rw [c_hasRiver' hN, within_eq, span_eq]
  by_cases c1 : 0 < A 24
  · obtain ⟨hV, -⟩ := NowR_V hN (Or.inr c1)
    rw [if_pos c1]
    refine si_f (by decide) ?_
    by_cases c2 : 1 ≤ n ∧ n ≤ 60
    · obtain ⟨n, rfl⟩ := nat_of (show 0 ≤ n by omega)
      rw [if_pos c2]
      refine si_f (by decide) (si_call (f_foretell hV hN.1 (by omega)) (fun z hz => si_some ?_))
      refine si_call (m_isRiver hN) (fun y hy => ?_)
      rw [if_pos c1] at hy
      refine si_f (by omega) (si_f (by decide) (si_call (MI_0 hV hN.2.1) (fun w hw => si_call (P := fun e : Int × Int × Mm => e.1 = eatIt A 0 n ∧ MI ν A n e.2.2) (si_loop (fun i (x : Int × Int × Mm) => x.2.1 = i ∧ i ≤ n ∧ x.1 = eatIt A 0 i ∧ MI ν A i x.2.2) n ?_ 1000 (0, 0, w) (by omega) ⟨rfl, Nat.zero_le _, rfl, hw⟩) (fun v hv => si_chk (by decide) (si_some ⟨?_, A, RelA_fr hA hz.1 (frN_of hv.2.1)⟩)))))
      · rintro i ⟨a, b, m⟩ hi ⟨hb, hin, ha, hm⟩
        dsimp only at hb ha hm ⊢
        subst hb ha
        refine si_if (fun c => si_some ?_) (fun c => si_call (MI_s hV hm) (fun z hz => si_some ⟨by omega, w3s i (by omega), by omega, ?_, hz.1⟩))
        · have : i = n := by omega
          subst this
          exact ⟨rfl, hm⟩
        · show bOr (eatIt A 0 i) (z 30 8) = _
          rw [hz.2.1]
          exact eatIt_step hV i
      · show bAnd (w3 (bShl 1 (rdW v.2.2 25) - 1)) (bXor v.1 (-1)) = bAnd (w3 (bShl 1 (z 3 25) - 1)) (bXor (z 3 41) (-1))
        rw [hv.1, hz.2.2.2, rd0 (by decide), hv.2.1.1 0 (by decide) (by decide), hN.2.1.2.1, hz.2.1.2.1, (VR_it hV n).2.2.1]
    · rw [if_neg c2]
      refine si_t rfl (both_same hRel (si_call (m_isRiver hN) (fun y hy => ?_)))
      rw [if_pos c1] at hy
      exact si_f (by omega) (si_t rfl (si_some ⟨rfl, rfl⟩))
  · rw [if_neg c1]
    refine si_t rfl (both_same hRel (si_call (m_isRiver hN) (fun y hy => ?_)))
    rw [if_neg c1] at hy
    exact si_t hy (si_some ⟨rfl, rfl⟩)
/-- the crust that holds it longest, of the first n lawns -/
def holdA (A : Rv) (k : Int) : Nat → Int × Int
  | 0 => (0, -1)
  | n + 1 => if (holdA A k n).2 < heldA (thrA A n 9) k 60 then ((n : Int), heldA (thrA A n 9) k 60) else holdA A k n
theorem holdA_in (A : Rv) (k : Int) (n : Nat) : -1 ≤ (holdA A k n).2 ∧ (holdA A k n).2 ≤ 60 := by
  induction n with
  | zero => exact ⟨by show (-1 : Int) ≤ -1; decide, by show (-1 : Int) ≤ 60; decide⟩
  | succ n ih =>
    have h := heldA_in (thrA A n 9) k 60
    obtain ⟨H, hH⟩ : ∃ H, heldA (thrA A n 9) k 60 = H := ⟨_, rfl⟩
    rw [hH] at h
    rw [holdA, hH]
    by_cases c : (holdA A k n).2 < H
    · rw [if_pos c]
      exact ⟨by show -1 ≤ H; omega, by show H ≤ 60; omega⟩
    · rw [if_neg c]
      exact ih
theorem holdA_s (A : Rv) (k : Int) (n : Nat) {H : Int} (hH : heldA (thrA A n 9) k 60 = H) : holdA A k (n + 1) = if (holdA A k n).2 < H then ((n : Int), H) else holdA A k n := by
  rw [holdA, hH]
theorem b_hold {μ ν : Mm} (h : Rel μ ν) (k w : Int) : Both (f_X5_hold μ k w) (f_X6_hold ν k w) := by
  have hRel := h
  obtain ⟨A, hA⟩ := h
  have hN := hA.1
  unfold f_X5_hold f_X6_hold
  rw [c_isSwan' hN, within_eq, in_eq]
  by_cases c1 : 0 ≤ k ∧ k < A 25
  · obtain ⟨hV, -⟩ := NowR_V hN (Or.inl (by omega))
    have h6 := hV.2.2.2.1
    have h9 := hV.2.1
    have h2 := hV.1
    rw [if_pos c1]
    refine si_f (by decide) ?_
    by_cases c2 : 0 ≤ w ∧ w ≤ 1
    · rw [if_pos c2]
      refine si_f (by decide) ?_
      have hpl : ∀ l : Nat, thrA A l 9 (11 + k) = A (11 + k) ∨ 9 ≤ l := fun l => by
        by_cases c : 9 ≤ l
        · exact Or.inr c
        · exact Or.inl (up_n (by omega))
      have hM : Sat ((f_X6_isSwan ν k).bind fun z2 => if z2 = 0 then (some ((-1000001), ν)) else (if (if 0 ≤ w ∧ w ≤ 1 then (1 : Int) else 0) = 0 then (some ((-1000001), ν)) else ((loopO (fun (x6 : Int × Int × Int × Mm) => chk ((0 : Int) ≤ 24 ∧ 24 < (152 : Int)) (if (rdW x6.2.2.2 24) ≤ x6.2.2.1 then (some (.inr x6)) else ((f_X6_tries x6.2.2.2).bind fun z11 => (f_X6_throwsOn z11 114 x6.2.2.1 9).bind fun z13 => (f_X6_leaves z13 k).bind fun z15 => bnd ((if z15.1 = (-1000000) then (60) else (w3 (z15.1 - 1)) : Int)) fun v16 => bnd ((if v16 ≤ x6.2.1 then (x6.1) else (x6.2.2.1) : Int)) fun v17 => if v16 ≤ x6.2.1 then (some (.inl (v17, x6.2.1, w3 (x6.2.2.1 + 1), z15.2))) else (some (.inl (v17, v16, w3 (x6.2.2.1 + 1), z15.2)))))) 1000 (0, (-1), 0, ν)).bind fun e21 => if w = 0 then (some (e21.1, e21.2.2.2)) else (some (e21.2.1, e21.2.2.2))))) (fun y => frM ν y.2 ∧ y.1 = if w = 0 then (holdA A k (A 24).toNat).1 else (holdA A k (A 24).toNat).2) := by
        refine si_call (m_isSwan hN k) (fun y hy => ?_)
        rw [if_pos c1] at hy
        rw [if_pos c2]
        refine si_f (by omega) (si_f (by decide) (si_call (P := fun e : Int × Int × Int × Mm => frM ν e.2.2.2 ∧ e.1 = (holdA A k (A 24).toNat).1 ∧ e.2.1 = (holdA A k (A 24).toNat).2) (si_loop (fun i (x : Int × Int × Int × Mm) => x.2.2.1 = i ∧ (i : Int) ≤ A 24 ∧ x.1 = (holdA A k i).1 ∧ x.2.1 = (holdA A k i).2 ∧ frM ν x.2.2.2) (A 24).toNat ?_ 1000 _ (by omega) ⟨rfl, by omega, rfl, rfl, frM_rf ν⟩) (fun e he => ?_)))
        · rintro i ⟨a, b, l, m⟩ hi ⟨hl, hiA, ha, hb, hm⟩
          dsimp only at hl ha hb hm ⊢
          subst hl
          have m0 : m 0 = ν 0 := hm.1 0 (by decide) (by decide)
          have e24 : rdW m 24 = A 24 := by rw [rd0 (by decide), m0]; exact hN.2.1.1
          rw [e24]
          refine si_chk (by decide) (si_if (fun c => si_some ?_) (fun c => ?_))
          · rw [show (A 24).toNat = i by omega]
            exact ⟨hm, ha, hb⟩
          refine si_call (MI_0 hV (by rw [m0]; exact hN.2.1)) (fun z hz => si_call (m_throwsOn (q := 3) (by decide) hV hz.2 (l := (i : Int)) (n := 9) ⟨by omega, by omega⟩ ⟨by decide, by decide⟩) (fun t ht => ?_))
          obtain ⟨tv1, tv2, tv3⟩ := VR_thr hV (l := (i : Int)) (n := 9) ⟨by omega, by omega⟩ (by decide)
          have tp : thrA A (i : Int) 9 (11 + k) = A (11 + k) := (hpl i).elim (fun q => q) (fun q => by omega)
          have t0 : t 0 (11 + k) = thrA A (i : Int) 9 (11 + k) := by
            rw [ht.1 0 (by decide), hz.1.1 0 (by decide) (by decide), m0, tp]
            exact (hN.2.1.2.2.2.2.2 k c1.1 c1.2).1
          refine si_call (m_leaves tv1 ht.2.1 (k := k) ⟨c1.1, by rw [tv3]; exact c1.2⟩ t0) (fun y hy => si_bnd ?_)
          have hin := heldA_in (thrA A (i : Int) 9) k 60
          obtain ⟨H, hH⟩ : ∃ H, heldA (thrA A (i : Int) 9) k 60 = H := ⟨_, rfl⟩
          have hst := holdA_s A k i hH
          rw [hH] at hin
          have hv : (if y.1 = -1000000 then (60 : Int) else w3 (y.1 - 1)) = H := by
            rw [hy.2, hH]
            by_cases q : H < 60
            · rw [if_pos q, if_neg (by omega), w3_id (by omega) (by omega)]
              omega
            · rw [if_neg q, if_pos rfl]
              omega
          rw [hv]
          have hfr : frM ν y.2 := frM_tr hm (frM_tr hz.1 (frM_tr ⟨fun g g1 g2 => ht.1 g g1, fun o _ => by rw [ht.1 30 (by decide)]⟩ hy.1))
          refine si_bnd (si_if (fun c4 => ?_) (fun c4 => ?_))
          · rw [if_neg (by omega)] at hst
            refine si_some ⟨by omega, w3s i (by omega), by omega, ?_, ?_, hfr⟩
            · rw [hst]; show (if H ≤ b then a else (i : Int)) = _
              rw [if_pos c4]; exact ha
            · rw [hst]; exact hb
          · rw [if_pos (by omega)] at hst
            refine si_some ⟨by omega, w3s i (by omega), by omega, ?_, ?_, hfr⟩
            · rw [hst]; show (if H ≤ b then a else (i : Int)) = _
              rw [if_neg c4]
            · rw [hst]
        · refine si_if (fun c => si_some ⟨he.1, ?_⟩) (fun c => si_some ⟨he.1, ?_⟩)
          · rw [if_pos c]; exact he.2.1
          · rw [if_neg c]; exact he.2.2
      rw [if_pos c2] at hM
      refine si_call (P := fun e : Int × Int × Int × Mm => frC μ e.2.2.2 ∧ e.1 = (holdA A k (A 24).toNat).1 ∧ e.2.1 = (holdA A k (A 24).toNat).2) (si_loop (fun i (x : Int × Int × Int × Mm) => x.2.2.1 = i ∧ (i : Int) ≤ A 24 ∧ x.1 = (holdA A k i).1 ∧ x.2.1 = (holdA A k i).2 ∧ frC μ x.2.2.2) (A 24).toNat ?_ 1000 _ (by omega) ⟨rfl, by omega, rfl, rfl, frC_rf μ⟩) (fun e he => ?_)
      · rintro i ⟨a, b, l, m⟩ hi ⟨hl, hiA, ha, hb, hm⟩
        dsimp only at hl ha hb hm ⊢
        subst hl
        have m0 : m 0 = μ 0 := hm 0 (by decide) (by decide)
        have e24 : m 0 24 = A 24 := by rw [m0]; exact hN.1.1
        refine si_if (fun c => si_some ?_) (fun c => ?_)
        · rw [show (A 24).toNat = i by omega]
          exact ⟨hm, ha, hb⟩
        refine si_call (CI_0 hV (by rw [m0]; exact hN.1)) (fun z hz => si_call (f_scatter hV hz.2.1 (l := (i : Int)) (n := 9) ⟨by omega, by omega⟩ ⟨by decide, by decide⟩) (fun t ht => ?_))
        obtain ⟨tv1, tv2, tv3⟩ := VR_thr hV (l := (i : Int)) (n := 9) ⟨by omega, by omega⟩ (by decide)
        have z40 : z 3 40 = 0 := hz.2.2
        refine si_call (f_daysHeld tv1 ht.2.1 (by rw [ht.2.2.1]; omega) (k := k) ⟨c1.1, by rw [tv3]; exact c1.2⟩) (fun y hy => ?_)
        have hfr : frC μ y.2 := fun g g1 g2 => by rw [hy.2 g g1, ht.1 g g1, hz.1 g g1 g2, hm g g1 g2]
        obtain ⟨H, hH⟩ : ∃ H, heldA (thrA A (i : Int) 9) k 60 = H := ⟨_, rfl⟩
        have hst := holdA_s A k i hH
        rw [hy.1, hH]
        refine si_if (fun c4 => ?_) (fun c4 => ?_)
        · rw [if_neg (by omega)] at hst
          refine si_some ⟨by omega, w3s i (by omega), by omega, ?_, ?_, hfr⟩
          · rw [hst]; exact ha
          · rw [hst]; exact hb
        · rw [if_pos (by omega)] at hst
          refine si_some ⟨by omega, w3s i (by omega), by omega, ?_, ?_, hfr⟩
          · rw [hst]
          · rw [hst]
      · refine si_if (fun c => si_some (si_mono hM (fun y hy => ⟨?_, A, RelA_fr hA he.1 (frN_of hy.1)⟩))) (fun c => si_some (si_mono hM (fun y hy => ⟨?_, A, RelA_fr hA he.1 (frN_of hy.1)⟩)))
        · rw [hy.2, if_pos c]; exact he.2.1.symm
        · rw [hy.2, if_neg c]; exact he.2.2.symm
    · rw [if_neg c2]
      refine si_t rfl (both_same hRel (si_call (m_isSwan hN k) (fun y hy => ?_)))
      rw [if_pos c1] at hy
      exact si_f (by omega) (si_t rfl (si_some ⟨rfl, rfl⟩))
  · rw [if_neg c1]
    refine si_t rfl (both_same hRel (si_call (m_isSwan hN k) (fun y hy => ?_)))
    rw [if_neg c1] at hy
    exact si_t hy (si_some ⟨rfl, rfl⟩)
