/-! WHAT IS DONE: bread, weir, frighten, weight, days, undo. -/
theorem put2 {m k : Mm} {A : Rv} (r : RelA m k A) {o v : Int} (ho : 1 ≤ o ∧ o < 23) (hV' : VR (up A o v)) (d : 0 ≤ A 0 ∧ A 0 ≤ 999) (h23 : k 0 23 = 1) : RelA (sM m 0 o v) (sM k 0 o v) (up A o v) :=
  RelA_now r (frC0_0 (fun g hg => sM_g hg)) (frN0_0 (fun g hg => sM_g hg)) ⟨by rw [sM_r]; exact RR_up r.1.1 (by omega) (by omega), by rw [sM_r]; exact RR_up r.1.2.1 (by omega) (by omega), Or.inl ⟨hV', by rw [up_n (by omega)]; exact d.1, by rw [up_n (by omega)]; exact d.2, by rw [sM_n (by omega)]; exact h23⟩⟩ (up_n (by omega)) (up_n (by omega)) (fun j p q => ⟨up_n (by omega), up_n (by omega)⟩)
theorem wr0 {ν : Mm} {o v : Int} (h : 0 ≤ o ∧ o < 38) : wrW ν o v = sM ν 0 o v := wq (q := 0) h (by omega)
theorem b_bread {μ ν : Mm} (h : Rel μ ν) (l n : Int) : Both (f_X5_bread μ l n) (f_X6_bread ν l n) := by
  have hRel := h
  obtain ⟨A, hA⟩ := h
  have hN := hA.1
  obtain ⟨b1, b2, b3, b4, b5, b6, b7, b8⟩ := NowR_c hN
  unfold f_X5_bread f_X6_bread
  rw [c_isLawn' hN, within_eq, in_eq]
  by_cases c1 : 0 ≤ l ∧ l < A 24
  · obtain ⟨hV, d1, d2, d3⟩ := NowR_V hN (Or.inr (by omega))
    rw [if_pos c1]
    refine si_f (by decide) ?_
    by_cases c2 : 1 ≤ n ∧ n ≤ 9
    · rw [if_pos c2]
      refine si_f (by decide) (si_swap (m_ln hN c1 (si_f (by decide) (si_f (by decide) (si_swap ?_)))))
      refine si_call2 (keep2 hA hV ⟨d1, d2⟩) (fun m k hmk => ?_)
      obtain ⟨r1, r2, r3⟩ := hmk
      refine si_call (f_scatter hV r1.1.1 c1 (by omega)) (fun z hz => si_chk (by omega) (si_some ?_))
      refine si_call (m_throwsOn (q := 0) (by decide) hV r1.1.2.1 c1 (by omega)) (fun y hy => ?_)
      obtain ⟨t1, t2, t3⟩ := VR_thr hV c1 (n := n) (by omega)
      rw [w3_id (by omega) (by omega), rd0 (by omega)]
      refine si_chk (by omega) (si_some ⟨?_, thrA A l n, RelA_now r1 (frC0_0 hz.1) (frN0_0 hy.1) ⟨hz.2.1, hy.2.1, Or.inl ⟨t1, ?_, ?_, ?_⟩⟩ t2 t3 (fun j p q => ?_)⟩)
      · show y 0 (1 + l) = z 0 (1 + l)
        rw [hz.2.1.2.2.2.2.1 l c1.1 (by rw [t2]; exact c1.2), hy.2.1.2.2.2.2.1 l c1.1 (by rw [t2]; exact c1.2)]
      · unfold thrA; rw [up_n (by omega)]; exact d1
      · unfold thrA; rw [up_n (by omega)]; exact d2
      · show y 0 23 = 1
        rw [hy.2.2, r3]; exact d3
      · unfold thrA; exact ⟨up_n (by omega), up_n (by omega)⟩
    · rw [if_neg c2]
      exact si_t rfl (both_same hRel (m_ln hN c1 (si_f (by decide) (si_t rfl (si_some ⟨rfl, rfl⟩)))))
  · rw [if_neg c1]
    exact si_t rfl (both_same hRel (m_lnN hN c1 (si_t rfl (si_some ⟨rfl, rfl⟩))))
theorem b_weight {μ ν : Mm} (h : Rel μ ν) (k n : Int) : Both (f_X5_weight μ k n) (f_X6_weight ν k n) := by
  have hRel := h
  obtain ⟨A, hA⟩ := h
  have hN := hA.1
  obtain ⟨b1, b2, b3, b4, b5, b6, b7, b8⟩ := NowR_c hN
  unfold f_X5_weight f_X6_weight
  rw [c_isSwan' hN, within_eq, in_eq]
  by_cases c1 : 0 ≤ k ∧ k < A 25
  · obtain ⟨hV, d1, d2, d3⟩ := NowR_V hN (Or.inl (by omega))
    rw [if_pos c1]
    refine si_f (by decide) ?_
    by_cases c2 : 1 ≤ n ∧ n ≤ 9
    · rw [if_pos c2]
      refine si_f (by decide) (si_swap (m_sw hN c1 (si_f (by decide) (si_f (by decide) (si_swap ?_)))))
      refine si_call2 (keep2 hA hV ⟨d1, d2⟩) (fun m j hmk => ?_)
      obtain ⟨r1, r2, r3⟩ := hmk
      refine si_chk (by omega) (si_chk (by omega) (si_bnd (si_some ?_)))
      rw [w3_id (by omega) (by omega), rd0 (by omega), wr0 (by omega)]
      refine si_chk (by omega) (si_chk (by omega) (si_bnd (si_some ⟨?_, _, put2 r1 (by omega) (VR_up hV (by omega) (fun l a b c => by omega) (fun j a b => ⟨fun c => by omega, fun c => by omega, fun c => by omega, fun c => by omega⟩)) ⟨d1, d2⟩ (by rw [r3]; exact d3)⟩)))
      show j 0 (17 + k) = m 0 (17 + k)
      rw [(r1.1.1.2.2.2.2.2 k c1.1 c1.2).2.1, (r1.1.2.1.2.2.2.2.2 k c1.1 c1.2).2.1]
    · rw [if_neg c2]
      exact si_t rfl (both_same hRel (m_sw hN c1 (si_f (by decide) (si_t rfl (si_some ⟨rfl, rfl⟩)))))
  · rw [if_neg c1]
    exact si_t rfl (both_same hRel (m_swN hN c1 (si_t rfl (si_some ⟨rfl, rfl⟩))))
theorem b_frighten {μ ν : Mm} (h : Rel μ ν) (k w : Int) : Both (f_X5_frighten μ k w) (f_X6_frighten ν k w) := by
  have hRel := h
  obtain ⟨A, hA⟩ := h
  have hN := hA.1
  obtain ⟨b1, b2, b3, b4, b5, b6, b7, b8⟩ := NowR_c hN
  unfold f_X5_frighten f_X6_frighten
  rw [c_isSwan' hN, within_eq, in_eq]
  by_cases c1 : 0 ≤ k ∧ k < A 25
  · obtain ⟨hV, d1, d2, d3⟩ := NowR_V hN (Or.inl (by omega))
    have hp := (hV.2.2.2.2.2.2.2 k c1.1 c1.2).1
    have e1 := (hN.1.2.2.2.2.2 k c1.1 c1.2).1
    have e2 := (hN.2.1.2.2.2.2.2 k c1.1 c1.2).1
    rw [if_pos c1]
    refine si_f (by decide) ?_
    by_cases c2 : 0 ≤ w ∧ w ≤ 1
    · rw [if_pos c2]
      refine si_f (by decide) (si_swap (m_sw hN c1 (si_f (by decide) (si_f (by decide) (si_bnd ?_)))))
      rw [w3_id (x := 11 + k) (by omega) (by omega), rd0 (by omega), e2]
      refine si_chk (by omega) (si_swap (si_chk (by omega) (si_bnd (si_bnd (si_chk (by omega) ?_)))))
      rw [e1]
      generalize hv : (if w = 1 then (1 : Int) else -1) = v
      have hv' : v = 1 ∨ v = -1 := by
        rw [← hv]; split
        · exact Or.inl rfl
        · exact Or.inr rfl
      rw [f_beside hV hN.1 hp hv']
      by_cases c3 : openA A (A (11 + k)) v = true
      · have ho := openA_in c3
        refine si_swap (si_call (m_isOpen (q := 0) (by decide) hV b7 hN.2.1.2.2.2.1 hp hv') (fun x hx => ?_))
        rw [if_pos c3] at hx
        rw [besideA_t c3]
        refine si_f (by omega) (si_swap (si_f (by omega) (si_call2 (keep2 hA hV ⟨d1, d2⟩) (fun m j hmk => ?_))))
        obtain ⟨r1, r2, r3⟩ := hmk
        refine si_chk (by omega) (si_bnd (si_some ?_))
        rw [rd0 (by omega), (r1.1.2.1.2.2.2.2.2 k c1.1 c1.2).1, wr0 (by omega), w3_id (x := A (11 + k) + v) (by omega) (by omega)]
        refine si_chk (by omega) (si_chk (by omega) (si_bnd (si_chk (by omega) (si_some ⟨?_, _, put2 r1 (by omega) (VR_up hV (by omega) (fun l a b c => by omega) (fun j a b => ⟨fun c => by omega, fun c => by omega, fun c => by omega, fun c => by omega⟩)) ⟨d1, d2⟩ (by rw [r3]; exact d3)⟩))))
        show rdW (sM j 0 (11 + k) (A (11 + k) + v)) (11 + k) = A (11 + k) + v
        rw [rd0 (by omega), sM_s]
      · rw [besideA_f c3]
        refine si_swap (si_call (m_isOpen (q := 0) (by decide) hV b7 hN.2.1.2.2.2.1 hp hv') (fun x hx => ?_))
        rw [if_neg c3] at hx
        exact si_t hx (si_some (si_t rfl (si_some ⟨rfl, hRel⟩)))
    · rw [if_neg c2]
      exact si_t rfl (both_same hRel (m_sw hN c1 (si_f (by decide) (si_t rfl (si_some ⟨rfl, rfl⟩)))))
  · rw [if_neg c1]
    exact si_t rfl (both_same hRel (m_swN hN c1 (si_t rfl (si_some ⟨rfl, rfl⟩))))
theorem VR_weir {A : Rv} (hV : VR A) {v : Int} (h : 0 ≤ v ∧ v < 256) : VR (up A 10 v) := by
  obtain ⟨v1, v2, v3, v4, v5, v6, v7, v8⟩ := hV
  have a24 : up A 10 v 24 = A 24 := up_n (by decide)
  have a25 : up A 10 v 25 = A 25 := up_n (by decide)
  unfold VR
  rw [a24, a25, up_s]
  refine ⟨v1, v2, v3, v4, h.1, h.2, fun l p q => ?_, fun k p q => ?_⟩
  · rw [up_n (by omega)]; exact v7 l p q
  · rw [up_n (by omega), up_n (by omega), up_n (by omega), up_n (by omega)]; exact v8 k p q
theorem weir_bits {w l : Int} (hw : 0 ≤ w ∧ w < 256) (hl : 0 ≤ l ∧ l < 8) : 0 ≤ bXor w (bShl 1 l) ∧ bXor w (bShl 1 l) < 256 := by
  obtain ⟨n, rfl⟩ := nat_of hw.1
  obtain ⟨k, rfl⟩ := nat_of hl.1
  have hpw : 2 ^ k < 2 ^ 8 := Nat.pow_lt_pow_right (by decide) (by omega)
  rw [bShl1 k (by omega), bXor_nat (by omega) (by omega)]
  have := Nat.xor_lt_two_pow (n := 8) (show n < 2 ^ 8 by omega) (show 2 ^ k < 2 ^ 8 by omega)
  omega
theorem b_weir {μ ν : Mm} (h : Rel μ ν) (l w : Int) : Both (f_X5_weir μ l w) (f_X6_weir ν l w) := by
  have hRel := h
  obtain ⟨A, hA⟩ := h
  have hN := hA.1
  obtain ⟨b1, b2, b3, b4, b5, b6, b7, b8⟩ := NowR_c hN
  unfold f_X5_weir f_X6_weir
  rw [rd0 (by decide), b7, w3_id (x := A 24 - 2) (by omega) (by omega), in_eq, in_eq]
  refine si_swap (si_chk (by decide) (si_swap ?_))
  rw [c_isLawn' hN, within_eq]
  by_cases c1 : 0 ≤ l ∧ l < A 24
  · rw [if_pos c1]
    refine si_f (by decide) ?_
    rw [w3_id (x := l + 1) (by omega) (by omega), c_isLawn' hN]
    by_cases c0 : l + 1 < A 24
    · rw [if_pos (show 0 ≤ l + 1 ∧ l + 1 < A 24 by omega), if_pos (show 0 ≤ l ∧ l ≤ A 24 - 2 by omega)]
      obtain ⟨hV, d1, d2, d3⟩ := NowR_V hN (Or.inr (by omega))
      have hw := hV.2.2.2.2
      refine si_f (by decide) (si_swap (si_f (by decide) ?_))
      by_cases c2 : 0 ≤ w ∧ w ≤ 1
      · rw [if_pos c2]
        refine si_f (by decide) (si_swap (si_f (by decide) (si_swap (si_chk (by decide) (si_bnd (si_swap ?_))))))
        rw [has_eq, rd0 (by decide), hN.2.1.2.2.2.1]
        unfold f_X2_weirBehind
        rw [hN.1.2.2.2.1]
        show Sat (if bitN (A 10) l = w then _ else _) _
        have hb := bitN_01 (w := A 10) (i := l) (by omega) (by omega)
        by_cases c3 : bitN (A 10) l = w
        · refine si_t c3 (si_some (si_t ?_ (si_some ⟨rfl, hRel⟩)))
          rcases hb with hb | hb
          · rw [if_neg (by omega), if_neg (by omega)]
          · rw [if_pos hb, if_pos (by omega)]
        · refine si_f c3 (si_swap (si_f ?_ (si_swap (si_call2 (keep2 hA hV ⟨d1, d2⟩) (fun m j hmk => ?_)))))
          · rcases hb with hb | hb
            · rw [if_neg (by omega), if_pos (by omega)]; decide
            · rw [if_pos hb, if_neg (by omega)]; decide
          obtain ⟨r1, r2, r3⟩ := hmk
          refine si_bnd (si_some (si_chk (by decide) (si_chk (by decide) (si_bnd (si_chk (by decide) (si_some ⟨?_, up A 10 (bXor (A 10) (bShl 1 l)), ?_⟩))))))
          · show rdW (wrW j 10 (bXor (rdW j 10) (bShl 1 l))) 10 = sM m 0 10 (bXor (m 0 10) (bShl 1 l)) 0 10
            rw [rd0 (by decide), wr0 (by decide), sM_s, sM_s, rd0 (by decide), r1.1.1.2.2.2.1, r1.1.2.1.2.2.2.1]
          · show RelA (sM m 0 10 (bXor (m 0 10) (bShl 1 l))) (wrW j 10 (bXor (rdW j 10) (bShl 1 l))) _
            rw [wr0 (by decide), rd0 (by decide), r1.1.1.2.2.2.1, r1.1.2.1.2.2.2.1]
            exact put2 r1 (by decide) (VR_weir hV (weir_bits (by omega) (by omega))) ⟨d1, d2⟩ (by rw [r3]; exact d3)
      · rw [if_neg c2]
        exact si_t rfl (si_swap (si_t rfl (si_some (si_some ⟨rfl, hRel⟩))))
    · rw [if_neg (show ¬ (0 ≤ l + 1 ∧ l + 1 < A 24) by omega), if_neg (show ¬ (0 ≤ l ∧ l ≤ A 24 - 2) by omega)]
      exact si_t rfl (si_some (si_t rfl (si_some ⟨rfl, hRel⟩)))
  · rw [if_neg c1, if_neg (show ¬ (0 ≤ l ∧ l ≤ A 24 - 2) by omega)]
    exact si_t rfl (si_some (si_t rfl (si_some ⟨rfl, hRel⟩)))
-- what a day leaves
theorem swim_o {A : Rv} (hV : VR A) {k : Int} (hk : 0 ≤ k ∧ k < A 25) {o : Int} (ho : o < 1 ∨ 17 ≤ o) : swimA A k o = A o := by
  have hg := goalA_in hV hk
  have h9 := hV.2.1
  have h6 := hV.2.2.2.1
  unfold swimA
  split
  · rw [up_n (by omega), up_n (by omega)]
  · rw [up_n (by omega)]
theorem swims_o {A : Rv} (hV : VR A) {o : Int} (ho : o < 1 ∨ 17 ≤ o) (n : Nat) (hn : (n : Int) ≤ A 25) : swimsA A n o = A o := by
  induction n with
  | zero => rfl
  | succ n ih =>
    obtain ⟨g1, g2, g3⟩ := VR_swims hV n (by omega)
    exact (swim_o g1 ⟨by omega, by rw [g3]; omega⟩ ho).trans (ih (by omega))
theorem day_o {A : Rv} (hV : VR A) {o : Int} (ho : 17 ≤ o) : dayA A o = A o := by
  have h1 := hV.2.2.1
  obtain ⟨g1, g2, g3⟩ := VR_swims hV (A 25).toNat (by omega)
  have h6 := g1.2.2.2.1
  unfold dayA
  rw [up_n (by omega), fightA_o (Or.inr ho) h6]
  exact swims_o hV (Or.inr ho) _ (by omega)
theorem day_0 {A : Rv} (hV : VR A) : dayA A 0 = w3 (A 0 + 1) := by
  have h1 := hV.2.2.1
  obtain ⟨g1, g2, g3⟩ := VR_swims hV (A 25).toNat (by omega)
  have h6 := g1.2.2.2.1
  unfold dayA
  rw [up_s, fightA_o (Or.inl (by decide)) h6, swims_o hV (Or.inl (by decide)) _ (by omega)]
theorem it_0 {A : Rv} (hV : VR A) (hd : 0 ≤ A 0 ∧ A 0 ≤ 999) {n : Nat} (hn : n ≤ 100) : itD A n 0 = A 0 + n := by
  induction n with
  | zero => show A 0 = A 0 + 0; omega
  | succ n ih =>
    show dayA (itD A n) 0 = _
    have := ih (by omega)
    rw [day_0 (VR_it hV n).1, w3_id (by omega) (by omega)]
    omega
theorem day2 {μ ν : Mm} {A : Rv} (h : RelA μ ν A) (hV : VR A) (hd : 0 ≤ A 0 ∧ A 0 ≤ 998) (h23 : ν 0 23 = 1) : Sat (f_X2_passDay μ 0) (fun m => Sat (f_X6_passes ν 0) (fun k => RelA m k (dayA A) ∧ k 0 23 = 1)) := by
  refine si_mono (f_passDayG hV h.1.1) (fun m hm => si_mono (m_passes (q := 0) (by decide) hV h.1.2.1) (fun k hk => ?_))
  obtain ⟨v1, v2, v3, v4⟩ := VR_day hV
  refine ⟨RelA_now h (frC0_0 hm.1) ⟨fun g a b c d => hk.1 g a c, fun o ho => hk.2.1 o (by omega) (by omega)⟩ ⟨hm.2.1, hk.2.2.1, Or.inl ⟨v1, ?_, ?_, hk.2.2.2.1.trans h23⟩⟩ v2 v3 (fun j p q => ⟨day_o hV (by omega), day_o hV (by omega)⟩), hk.2.2.2.1.trans h23⟩
  · rw [day_0 hV, w3_id (by omega) (by omega)]; omega
  · rw [day_0 hV, w3_id (by omega) (by omega)]; omega
theorem b_days {μ ν : Mm} (h : Rel μ ν) (n : Int) : Both (f_X5_days μ n) (f_X6_days ν n) := by
  have hRel := h
  obtain ⟨A, hA⟩ := h
  have hN := hA.1
  unfold f_X5_days f_X6_days
  rw [c_hasRiver' hN, within_eq, in_eq]
  by_cases c1 : 0 < A 24
  · obtain ⟨hV, d1, d2, d3⟩ := NowR_V hN (Or.inr c1)
    rw [if_pos c1]
    refine si_f (by decide) ?_
    by_cases c2 : 1 ≤ n ∧ n ≤ 24
    · obtain ⟨n, rfl⟩ := nat_of (show 0 ≤ n by omega)
      rw [if_pos c2]
      refine si_f (by decide) (si_swap (m_rv hN c1 (si_f (by decide) (si_f (by decide) (si_chk (by decide) (si_swap ?_))))))
      rw [rd0 (by decide), hN.1.2.2.1, hN.2.1.2.2.1, w3_id (x := A 0 + n) (by omega) (by omega)]
      by_cases c3 : A 0 + n ≤ 999
      · refine si_t c3 (si_swap (si_t c3 (si_swap ?_)))
        refine si_call2 (P := fun (x y : Int × Mm) => RelA x.2 y.2 (itD A n)) (si_loop2 (fun i (x y : Int × Mm) => x.1 = y.1 ∧ x.1 = i ∧ i ≤ n ∧ RelA x.2 y.2 (itD A i) ∧ y.2 0 23 = 1) n ?_ 1000 1000 (0, μ) (0, ν) (by omega) (by omega) ⟨rfl, rfl, by omega, hA, d3⟩) (fun x y hxy => ?_)
        · rintro i ⟨a, m⟩ ⟨b, k⟩ hi ⟨hab, ha, hin, f1, f2⟩
          dsimp only at hab ha f1 f2 ⊢
          subst hab
          subst ha
          obtain ⟨g1, g2, g3, g4⟩ := VR_it hV i
          refine si_if (fun c => si_some (si_t c (si_some ?_))) (fun c => si_swap (si_f c (si_swap ?_)))
          · have : i = n := by omega
            subst this
            exact f1
          · have i0 := it_0 hV ⟨d1, d2⟩ (n := i) (by omega)
            refine si_call2 (keep2 f1 g1 (by omega)) (fun u v huv => si_call2 (day2 huv.1 g1 (by omega) (by rw [huv.2.2]; exact f2)) (fun p q hpq => si_some (si_some ⟨by omega, rfl, w3s i (by omega), by omega, hpq.1, hpq.2⟩)))
        · obtain ⟨g1, g2, g3, g4⟩ := VR_it hV n
          refine si_call (f_ownerCount g1 hxy.1.1) (fun z hz => si_some ?_)
          refine m_ownerCount (q := 0) (by decide) g1 hxy.1.2.1 (si_some ⟨?_, _, hxy⟩)
          exact hz.symm
      · exact si_f c3 (si_some (si_f c3 (si_some ⟨rfl, hRel⟩)))
    · rw [if_neg c2]
      exact si_t rfl (both_same hRel (m_rv hN c1 (si_f (by decide) (si_t rfl (si_some ⟨rfl, rfl⟩)))))
  · rw [if_neg c1]
    exact si_t rfl (both_same hRel (m_rvN hN c1 (si_t rfl (si_some ⟨rfl, rfl⟩))))
-- undo
theorem f_take {μ : Mm} (h0 : 0 ≤ μ 31 0 ∧ μ 31 0 < 24) (h1 : 0 < μ 31 1 ∧ μ 31 1 ≤ 24) : Sat (f_X0_takeBack μ 0) (fun z => z.1 = 1 ∧ (∀ g, g ≠ 31 → g ≠ 0 → z.2 g = μ g) ∧ z.2 31 0 = (μ 31 0 + 23) % 24 ∧ z.2 31 1 = μ 31 1 - 1 ∧ ∀ o : Int, 0 ≤ o → o < 38 → o ≠ 23 → z.2 0 o = μ (5 + ((μ 31 0 + 23) % 24).toNat) o) := by
  unfold f_X0_takeBack
  refine si_f (by omega) (si_bnd (si_bnd (si_bnd ?_)))
  have hv : (if μ 31 0 ≤ 0 then (23 : Int) else w3 (μ 31 0 - 1)) = (μ 31 0 + 23) % 24 := by
    split
    · omega
    · rw [w3_id (by omega) (by omega)]; omega
  rw [hv]
  have hxr : 0 ≤ (μ 31 0 + 23) % 24 ∧ (μ 31 0 + 23) % 24 < 24 := by omega
  generalize (μ 31 0 + 23) % 24 = x at *
  have e1 : sM μ 31 0 x 31 1 = μ 31 1 := sM_n (by omega)
  rw [e1, w3_id (by omega) (by omega)]
  have e : sM (sM μ 31 0 x) 31 1 (μ 31 1 - 1) 31 0 = x := by rw [sM_n (by omega), sM_s]
  rw [e]
  refine si_chk hxr (si_call (f_become (r := 0) (q := 5 + x.toNat) (by omega)) (fun z hz => si_some ?_))
  obtain ⟨g1, g2, g3, g4⟩ := hz
  refine ⟨rfl, fun g a b => ?_, ?_, ?_, fun o a b c => ?_⟩
  · show z g = μ g
    rw [g1 g b, sM_g a, sM_g a]
  · show z 31 0 = x
    rw [g1 31 (by decide), e]
  · show z 31 1 = μ 31 1 - 1
    rw [g1 31 (by decide), sM_s]
  · show z 0 o = μ (5 + x.toNat) o
    rw [g2 o a b c, sM_g (by omega), sM_g (by omega)]
theorem m_undo {ν : Mm} (h : 0 < ν 30 0 ∧ ν 30 0 ≤ 24) : Sat (f_X6_undo ν) (fun z => (∀ g, g ≠ 30 → g ≠ 0 → z.2 g = ν g) ∧ (∀ o, o ≠ 0 → z.2 30 o = ν 30 o) ∧ z.2 30 0 = ν 30 0 - 1 ∧ z.1 = ν 30 0 - 1 ∧ (∀ o, 0 ≤ o → o < 23 → z.2 0 o = ν 31 (23 * (ν 30 0 - 1) + o)) ∧ ∀ o, 23 ≤ o → z.2 0 o = ν 0 o) := by
  unfold f_X6_undo
  refine si_f (by omega) (si_bnd ?_)
  rw [w3_id (by omega) (by omega)]
  generalize hc : ν 30 0 - 1 = c
  have hc' : 0 ≤ c ∧ c < 24 := by omega
  refine si_call (P := fun e : Int × Mm => (∀ g, g ≠ 0 → e.2 g = sM ν 30 0 c g) ∧ (∀ o, 0 ≤ o → o < 23 → e.2 0 o = ν 31 (23 * c + o)) ∧ ∀ o, 23 ≤ o → e.2 0 o = ν 0 o) (si_loop (fun i (x : Int × Mm) => x.1 = i ∧ i ≤ 23 ∧ (∀ g, g ≠ 0 → x.2 g = sM ν 30 0 c g) ∧ (∀ o : Int, 0 ≤ o → o < i → x.2 0 o = ν 31 (23 * c + o)) ∧ ∀ o : Int, i ≤ o → x.2 0 o = ν 0 o) 23 ?_ 1000 (0, sM ν 30 0 c) (by decide) ⟨rfl, by decide, fun _ _ => rfl, fun o a b => by omega, fun o a => by dsimp only; rw [sM_g (by decide)]⟩) (fun e he => si_some ?_)
  · rintro i ⟨b, m⟩ hi ⟨hb, hin, f1, f2, f3⟩
    dsimp only at hb f1 f2 f3 ⊢
    subst hb
    have e30 : m 30 0 = c := by rw [f1 30 (by decide), sM_s]
    refine si_if (fun q => si_some ⟨f1, fun o p r => f2 o p (by omega), fun o p => f3 o (by omega)⟩) (fun q => ?_)
    simp (disch := omega) only [e30, w3_id, wr0]
    refine si_chk (by omega) (si_chk (by omega) (si_bnd (si_some ⟨by omega, by dsimp only; omega, by omega, fun g hg => by dsimp only; rw [sM_g hg]; exact f1 g hg, fun o p r => ?_, fun o p => ?_⟩)))
    · dsimp only
      by_cases w : o = (i : Int)
      · subst w
        rw [sM_s, f1 31 (by decide), sM_g (by decide)]
        congr 1; omega
      · rw [sM_n (fun z => w z.2)]
        exact f2 o p (by omega)
    · dsimp only
      rw [sM_n (by omega)]
      exact f3 o (by omega)
  · obtain ⟨e1, e2, e3⟩ := he
    have e30 : e.2 30 0 = c := by rw [e1 30 (by decide), sM_s]
    exact ⟨fun g a b => by rw [e1 g b, sM_g a], fun o a => by rw [e1 30 (by decide), sM_n (by omega)], e30, e30, e2, e3⟩
theorem b_undo {μ ν : Mm} (h : Rel μ ν) : Both (f_X5_undo μ) (f_X6_undo ν) := by
  have hRel := h
  obtain ⟨A, hA⟩ := h
  have hN := hA.1
  obtain ⟨b1, b2, b3, b4, b5, b6, b7, b8⟩ := NowR_c hN
  obtain ⟨h1, h2, h3, h4, h5, h6, h7⟩ := hA
  have h6' := h6
  obtain ⟨a1, a2, a3, a4, a5, a6⟩ := h6
  by_cases c : μ 31 1 = 0
  · unfold f_X5_undo f_X0_takeBack f_X6_undo
    exact si_call (P := fun z : Int × Mm => z.1 = 0 ∧ z.2 = μ) (si_t c (si_some ⟨rfl, rfl⟩)) (fun z hz => si_t hz.1 (si_some (si_t (by omega) (si_some ⟨rfl, by rw [hz.2]; exact hRel⟩))))
  · unfold f_X5_undo
    refine si_call (f_take ⟨a4, a5⟩ (by omega)) (fun z hz => si_f (by omega) (si_some (si_mono (m_undo (by omega)) (fun y hy => ?_))))
    obtain ⟨z1, z2, z3, z4, z5⟩ := hz
    obtain ⟨y1, y2, y3, y4, y5, y6⟩ := hy
    refine ⟨by show y.1 = z.2 31 1; omega, ?_⟩
    show Rel z.2 y.2
    obtain ⟨n, hn⟩ : ∃ n : Nat, (n : Int) = μ 31 1 - 1 := ⟨(μ 31 1 - 1).toNat, by omega⟩
    obtain ⟨B, v1, v2, v3, v4, v5, v6, v7, v8⟩ := a6 n (by omega)
    have hs : slot (μ 31 0) (μ 31 1) n = 5 + ((μ 31 0 + 23) % 24).toNat := by
      unfold slot
      omega
    rw [hs] at v7
    rw [show ν 30 0 - 1 = n by omega] at y5
    have hV6 := v1.2.2.2.1
    have hV9 := v1.2.1
    have h1V := NowR_V h1 (Or.inl (by have := v1.2.2.1; omega))
    refine ⟨B, ⟨RR_copy v1.2.1 v1.2.2.2.1 v7 z5, ⟨?_, ?_, ?_, ?_, fun l p q => ?_, fun k p q => ⟨?_, ?_, ?_, ?_⟩⟩, Or.inl ⟨v1, v2, v3, ?_⟩⟩, fun r hr => ?_, ?_, ?_, fun j hj => ?_, ?_, ?_⟩
    · rw [y6 24 (by decide), b7, v4]
    · rw [y6 25 (by decide), b8, v5]
    · rw [y5 0 (by decide) (by decide)]; exact v8.1
    · rw [y5 10 (by decide) (by decide)]; exact v8.2.1
    · rw [y5 (1 + l) (by omega) (by omega)]; exact v8.2.2.1 l p q
    · rw [y5 (11 + k) (by omega) (by omega)]; exact (v8.2.2.2 k p q).1
    · rw [y5 (17 + k) (by omega) (by omega)]; exact (v8.2.2.2 k p q).2
    · rw [y6 (26 + k) (by omega), (h1.2.1.2.2.2.2.2 k p (by omega)).2.2.1, (v6 k p (by omega)).1]
    · rw [y6 (32 + k) (by omega), (h1.2.1.2.2.2.2.2 k p (by omega)).2.2.2, (v6 k p (by omega)).2]
    · rw [y6 23 (by decide)]; exact h1V.2.2.2
    · rw [z2 37 (by decide) (by decide), z2 36 (by decide) (by decide), z2 (50 + r) (by omega) (by omega), y1 33 (by decide) (by decide), y1 34 (by decide) (by decide), y1 32 (by decide) (by decide)]
      exact h2 r hr
    · unfold TapeR at h3 ⊢
      rw [z2 34 (by decide) (by decide), z2 35 (by decide) (by decide), y1 35 (by decide) (by decide), y2 2 (by decide), y2 3 (by decide)]
      exact h3
    · unfold TraceR at h4 ⊢
      rw [z2 33 (by decide) (by decide), z2 32 (by decide) (by decide), y1 36 (by decide) (by decide), y2 4 (by decide)]
      exact h4
    · rw [z2 (1 + j) (by omega) (by omega), y1 38 (by decide) (by decide), y1 (1 + j) (by omega) (by omega)]
      exact h5 j hj
    · refine ⟨by omega, by omega, by omega, by omega, by omega, fun j hj => ?_⟩
      obtain ⟨B', w1, w2, w3', w4, w5, w6, w7, w8⟩ := a6 j (by omega)
      have hs' : slot (z.2 31 0) (z.2 31 1) j = slot (μ 31 0) (μ 31 1) j := by
        unfold slot
        rw [z3, z4]
        omega
      have hs2 := slot_lt (μ 31 0) (μ 31 1) j
      rw [hs', z2 _ (by omega) (by omega), y1 31 (by decide) (by decide)]
      exact ⟨B', w1, w2, w3', w4.trans v4.symm, w5.trans v5.symm, fun k p q => ⟨(w6 k p (by omega)).1.trans (v6 k p (by omega)).1.symm, (w6 k p (by omega)).2.trans (v6 k p (by omega)).2.symm⟩, w7, w8⟩
    · rw [z2 30 (by decide) (by decide), y2 1 (by decide)]
      exact h7
