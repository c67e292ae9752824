/-! IMAGES, KINDS, ASKS. -/
theorem RelA_new {μ ν m k : Mm} {A B : Rv} (h : RelA μ ν A) (hC : ∀ g, g ≠ 0 → g ≠ 3 → g ≠ 4 → g ≠ 31 → g ≠ 34 → m g = μ g) (hN : ∀ g, g ≠ 0 → g ≠ 3 → g ≠ 30 → g ≠ 37 → k g = ν g) (a0 : m 31 0 = μ 31 0) (a1 : m 31 1 = 0) (k0 : k 30 0 = 0) (k1 : k 30 1 = ν 30 1) (k4 : k 30 4 = ν 30 4) (hT : TapeR m k) (hB : NowR m k B) : RelA m k B := by
  obtain ⟨h1, h2, h3, h4, h5, h6, h7⟩ := h
  refine ⟨hB, fun r hr => ?_, hT, ?_, fun j hj => ?_, ?_, ?_⟩
  · rw [hC 37 (by decide) (by decide) (by decide) (by decide) (by decide), hC 36 (by decide) (by decide) (by decide) (by decide) (by decide), hC (50 + r) (by omega) (by omega) (by omega) (by omega) (by omega), hN 33 (by decide) (by decide) (by decide) (by decide), hN 34 (by decide) (by decide) (by decide) (by decide), hN 32 (by decide) (by decide) (by decide) (by decide)]
    exact h2 r hr
  · unfold TraceR at h4 ⊢
    rw [hC 33 (by decide) (by decide) (by decide) (by decide) (by decide), hC 32 (by decide) (by decide) (by decide) (by decide) (by decide), hN 36 (by decide) (by decide) (by decide) (by decide), k4]
    exact h4
  · rw [hC (1 + j) (by omega) (by omega) (by omega) (by omega) (by omega), hN 38 (by decide) (by decide) (by decide) (by decide), hN (1 + j) (by omega) (by omega) (by omega) (by omega)]
    exact h5 j hj
  · obtain ⟨a1', a2, a3, a4, a5, a6⟩ := h6
    exact ⟨by omega, by omega, by omega, by omega, by omega, fun j hj => by omega⟩
  · rw [hC 30 (by decide) (by decide) (by decide) (by decide) (by decide), k1]
    exact h7
theorem b_image {μ ν : Mm} (h : Rel μ ν) (p : Int) : Both (f_X5_image μ p) (f_X6_image ν p) := by
  have hRel := h
  obtain ⟨A, hA⟩ := h
  have hN := hA.1
  unfold f_X5_image f_X6_image
  rw [within_eq, in_eq, c_hasRiver' hN]
  by_cases c1 : 0 ≤ p ∧ p ≤ 1
  · obtain ⟨p, rfl⟩ := nat_of c1.1
    rw [if_pos c1]
    refine si_f (by decide) (si_swap (si_f (by decide) (si_swap ?_)))
    by_cases c2 : 0 < A 24
    · obtain ⟨hV, d1, d2, d3⟩ := NowR_V hN (Or.inr c2)
      rw [if_pos c2, Int.toNat_natCast]
      refine si_f (by decide) (si_chk (by omega) (si_swap (m_rv hN c2 (si_f (by decide) (si_swap ?_)))))
      refine si_call (f_become (r := 1 + p) (q := 0) (by omega)) (fun z hz => si_some ?_)
      have e : w3 (38 * w3 (1 + (p : Int))) = 38 * ((1 + p : Nat) : Int) := by
        rw [w3_id (x := 1 + (p : Int)) (by omega) (by omega), w3_id (by omega) (by omega)]
        omega
      rw [e, zadd]
      refine si_call (m_copyAll (a := 0) (b := 1 + p) (by decide) (by omega) (by omega)) (fun y hy => si_chk (by omega) (si_bnd (si_some ⟨rfl, A, ?_⟩)))
      obtain ⟨g1, g2, g3, g4⟩ := hz
      obtain ⟨k1, k2⟩ := hy
      obtain ⟨h1, h2, h3, h4, h5, h6, h7⟩ := hA
      show RelA z (sM y 38 p 1) A
      have eC : ∀ g, g ≠ 1 + p → z g = μ g := g1
      have eN : ∀ g, g ≠ 1 + p → g ≠ 38 → sM y 38 p 1 g = ν g := fun g a b => by rw [sM_g b]; exact k1 g a
      refine ⟨?_, fun r hr => ?_, ?_, ?_, fun j hj => ?_, ?_, ?_⟩
      · unfold NowR at h1 ⊢
        rw [eC 0 (by omega), eN 0 (by omega) (by decide)]
        exact h1
      · rw [eC 37 (by omega), eC 36 (by omega), eC (50 + r) (by omega), eN 33 (by omega) (by decide), eN 34 (by omega) (by decide), eN 32 (by omega) (by decide)]
        exact h2 r hr
      · unfold TapeR at h3 ⊢
        rw [eC 34 (by omega), eC 35 (by omega), eN 35 (by omega) (by decide), eN 30 (by omega) (by decide)]
        exact h3
      · unfold TraceR at h4 ⊢
        rw [eC 33 (by omega), eC 32 (by omega), eN 36 (by omega) (by decide), eN 30 (by omega) (by decide)]
        exact h4
      · by_cases q : j = p
        · subst q
          have g2' : ∀ o : Int, 0 ≤ o → o < 38 → o ≠ 23 → sM y 38 (j : Int) 1 (1 + j) o = ν 0 o := fun o a b _ => by rw [sM_g (by omega)]; exact k2 o a b
          refine Or.inr ⟨sM_s _ _ _ _, A, hV, d1, d2, RR_copy hV.2.1 hV.2.2.2.1 h1.1 g2, RR_copy hV.2.1 hV.2.2.2.1 h1.2.1 g2', ?_⟩
          rw [sM_g (by omega), k2 23 (by decide) (by decide)]
          exact d3
        · rw [eC (1 + j) (by omega), eN (1 + j) (by omega) (by omega), sM_n (by omega), k1 38 (by omega)]
          exact h5 j hj
      · unfold ActsR at h6 ⊢
        rw [eC 31 (by omega), eN 31 (by omega) (by decide), eN 30 (by omega) (by decide)]
        obtain ⟨a1, a2, a3, a4, a5, a6⟩ := h6
        refine ⟨a1, a2, a3, a4, a5, fun j hj => ?_⟩
        have hs := slot_lt (μ 31 0) (μ 31 1) j
        rw [eC _ (by omega)]
        exact a6 j hj
      · rw [eC 30 (by omega), eN 30 (by omega) (by decide)]
        exact h7
    · rw [if_neg c2]
      exact si_t rfl (both_same hRel (m_rvN hN c2 (si_t rfl (si_some ⟨rfl, rfl⟩))))
  · rw [if_neg c1]
    exact si_t rfl (si_some (si_t rfl (si_some ⟨rfl, hRel⟩)))
theorem b_restore {μ ν : Mm} (h : Rel μ ν) (p : Int) : Both (f_X5_restore μ p) (f_X6_restore ν p) := by
  have hRel := h
  obtain ⟨A, hA⟩ := h
  have hN := hA.1
  unfold f_X5_restore f_X6_restore
  rw [within_eq, in_eq]
  by_cases c1 : 0 ≤ p ∧ p ≤ 1
  · obtain ⟨p, rfl⟩ := nat_of c1.1
    rw [if_pos c1, Int.toNat_natCast, zadd]
    refine si_f (by decide) (si_chk (by omega) (si_swap (si_f (by decide) (si_chk (by omega) (si_swap ?_)))))
    rcases hA.2.2.2.2.1 p (by omega) with ⟨i1, i2⟩ | ⟨i1, B, v1, v2, v3, v4, v5, v6⟩
    · exact si_t i1 (si_some (si_t i2 (si_some ⟨rfl, hRel⟩)))
    · have hb := v1.1
      refine si_f (by rw [v4.1]; omega) (si_chk (by omega) (si_swap (si_f (by omega) (si_swap ?_))))
      refine si_call (f_become (r := 0) (q := 1 + p) (by omega)) (fun z hz => ?_)
      have e : w3 (38 * w3 (1 + (p : Int))) = 38 * ((1 + p : Nat) : Int) := by
        rw [w3_id (x := 1 + (p : Int)) (by omega) (by omega), w3_id (by omega) (by omega)]
        omega
      rw [e]
      unfold f_X0_forget
      obtain ⟨g1, g2, g3, g4⟩ := hz
      refine si_call (P := fun x => x = sM z 31 1 0) (si_bnd (si_some rfl)) (fun x hx => si_some ?_)
      subst hx
      refine si_call (m_copyAll (a := 1 + p) (b := 0) (by omega) (by decide) (by omega)) (fun y hy => si_bnd (si_some ⟨rfl, B, ?_⟩))
      obtain ⟨k1, k2⟩ := hy
      have hT := hA.2.2.1
      show RelA (sM z 31 1 0) (sM y 30 0 0) B
      refine RelA_new hA (fun g a _ _ b _ => by rw [sM_g b]; exact g1 g a) (fun g a _ b _ => by rw [sM_g b]; exact k1 g a) (by rw [sM_n (by decide), g1 31 (by decide)]) (sM_s _ _ _ _) (sM_s _ _ _ _) (by rw [sM_n (by decide), k1 30 (by decide)]) (by rw [sM_n (by decide), k1 30 (by decide)]) ?_ ⟨?_, ?_, Or.inl ⟨v1, v2, v3, ?_⟩⟩
      · unfold TapeR at hT ⊢
        rw [sM_g (g := 34) (by decide), sM_g (μ := z) (g := 35) (by decide), sM_g (μ := y) (g := 35) (by decide), g1 34 (by decide), g1 35 (by decide), sM_n (by decide), sM_n (by decide), k1 30 (by decide), k1 35 (by decide)]
        exact hT
      · rw [sM_g (by decide)]
        exact RR_copy v1.2.1 v1.2.2.2.1 v4 g2
      · rw [sM_g (by decide)]
        exact RR_copy v1.2.1 v1.2.2.2.1 v5 (fun o a b _ => k2 o a b)
      · rw [sM_g (by decide), k2 23 (by decide) (by decide)]
        exact v6
  · rw [if_neg c1]
    exact si_t rfl (si_some (si_t rfl (si_some ⟨rfl, hRel⟩)))
/-- whether kind k is one of kind w -/
def asO (k w : Int) : Int := if w = 0 then 1 else (if w = k then 1 else (if w = 1 then (if k < 4 then 1 else (if w = 4 then (if k = 5 then 1 else 0) else 0)) else (if w = 4 then (if k = 5 then 1 else 0) else 0)))
theorem ofKind_z : ∀ k : Nat, k < 6 → ∀ w : Nat, w < 6 → 1 ≤ k → f_X5_isOfKind (fun _ _ => 0) k w = some (asO k w) := by decide +kernel
theorem ofKind {μ : Mm} {k w : Int} (hk : 1 ≤ k ∧ k ≤ 5) (hw : 0 ≤ w ∧ w ≤ 5) : f_X5_isOfKind μ k w = some (asO k w) := by
  obtain ⟨k, rfl⟩ := nat_of (show 0 ≤ k by omega)
  obtain ⟨w, rfl⟩ := nat_of hw.1
  exact ofKind_z k (by omega) w (by omega) (by omega)
theorem b_as {μ ν : Mm} (h : Rel μ ν) (k w : Int) : Both (f_X5_as μ k w) (f_X6_as ν k w) := by
  have hRel := h
  obtain ⟨A, hA⟩ := h
  have hN := hA.1
  unfold f_X5_as f_X6_as
  rw [c_isSwan' hN, within_eq, in_eq]
  by_cases c1 : 0 ≤ k ∧ k < A 25
  · obtain ⟨hV, -⟩ := NowR_V hN (Or.inl (by omega))
    have h6 := hV.2.2.2.1
    have hkd := (hV.2.2.2.2.2.2.2 k c1.1 c1.2).2.2.1
    rw [if_pos c1]
    refine si_f (by decide) (si_swap (m_sw hN c1 (si_f (by decide) (si_swap ?_))))
    by_cases c2 : 0 ≤ w ∧ w ≤ 5
    · rw [if_pos c2]
      refine si_f (by decide) (si_chk (by omega) (si_swap (si_f (by decide) (si_swap ?_))))
      rw [w3_id (x := 26 + k) (by omega) (by omega), rd0 (by omega), (hN.1.2.2.2.2.2 k c1.1 c1.2).2.2.1, (hN.2.1.2.2.2.2.2 k c1.1 c1.2).2.2.1, ofKind hkd c2]
      refine si_swap (si_chk (by omega) (si_bnd (si_swap ?_)))
      show Sat (if asO (A (26 + k)) w = 0 then ((f_X5_found μ 3).bind fun z11 => some (z11.1, z11.2)) else (bnd (sM μ 30 0 0) fun m9 => some (k, m9))) (fun z => Sat (if asO (A (26 + k)) w = 0 then ((f_X6_found ν 3).bind fun z10 => some (z10.1, z10.2)) else ((f_X6_good ν k).bind fun z12 => some (z12.1, z12.2))) (fun y => y.1 = z.1 ∧ Rel z.2 y.2))
      refine si_if (fun c => si_swap (si_t c (si_swap (both_found hA 3)))) (fun c => si_bnd (si_some (si_f c ?_)))
      unfold f_X6_good
      exact si_call (P := fun y : Int × Mm => y.1 = k ∧ y.2 = sM ν 30 1 0) (si_bnd (si_some ⟨rfl, rfl⟩)) (fun y hy => si_some ⟨hy.1, A, by show RelA (sM μ 30 0 0) y.2 A; rw [hy.2]; exact RelA_found hA 0⟩)
    · rw [if_neg c2]
      exact si_t rfl (si_some (si_t rfl (si_some ⟨rfl, hRel⟩)))
  · rw [if_neg c1]
    exact si_t rfl (both_same hRel (m_swN hN c1 (si_t rfl (si_some ⟨rfl, rfl⟩))))
-- asks
def AS (μ ν : Mm) (A : Rv) (s : Int) (m k : Mm) : Prop := (∀ g, g ≠ 32 → g ≠ 33 → m g = μ g) ∧ (m 33 1 = s ∧ m 33 2 = A (26 + s) ∧ m 33 3 = A (11 + s) ∧ m 33 4 = A (17 + s)) ∧ (∀ g, g ≠ 30 → g ≠ 36 → k g = ν g) ∧ (∀ o, o ≠ 4 → k 30 o = ν 30 o) ∧ TraceR m k
def As2 (μ ν : Mm) (A : Rv) (s : Int) (o p : Option (Int × Mm)) : Prop := Sat o (fun z => Sat p (fun y => y.1 = z.1 ∧ AS μ ν A s z.2 y.2))
section
variable {μ ν m k : Mm} {A : Rv} {s : Int}
theorem begin2 (h : AS μ ν A s m k) (b : Int) : Sat (f_X1_begin m b) (fun m' => Sat (f_X6_begins k b) (fun k' => AS μ ν A s m' k')) := by
  have h' := h
  obtain ⟨h1, h2, h3, h4, t1, t2, t3, t4⟩ := h
  unfold f_X1_begin f_X6_begins
  rw [t1]
  refine si_if (fun c => si_some (si_t c (si_some h'))) (fun c => si_swap (si_f c (si_swap ?_)))
  have e1 : sM m 32 (0 + m 33 0) b 33 0 = m 33 0 := sM_n (by omega)
  have e2 : sM k 36 (0 + m 33 0) b 30 4 = m 33 0 := by rw [sM_n (by omega)]; exact t1
  refine si_chk (by omega) (si_bnd (si_bnd (si_some (si_chk (by omega) (si_bnd (si_bnd (si_some ?_)))))))
  rw [e1, e2, zadd, w3_id (by omega) (by omega)]
  refine ⟨fun g a b => by rw [sM_g b, sM_g a]; exact h1 g a b, ⟨?_, ?_, ?_, ?_⟩, fun g a b => by rw [sM_g a, sM_g b]; exact h3 g a b, fun o a => by rw [sM_n (fun q => a q.2), sM_g (by decide)]; exact h4 o a, ?_, ?_, ?_, ?_⟩
  · rw [sM_n (by decide), sM_g (by decide)]; exact h2.1
  · rw [sM_n (by decide), sM_g (by decide)]; exact h2.2.1
  · rw [sM_n (by decide), sM_g (by decide)]; exact h2.2.2.1
  · rw [sM_n (by decide), sM_g (by decide)]; exact h2.2.2.2
  · rw [sM_s, sM_s]
  · rw [sM_s]; omega
  · rw [sM_s]; omega
  · intro i p q
    rw [sM_s] at q
    rw [sM_g (μ := sM k 36 (m 33 0) b) (g := 36) (by decide), sM_g (μ := sM m 32 (m 33 0) b) (g := 32) (by decide)]
    by_cases w : i = m 33 0
    · rw [w, sM_s, sM_s]
    · rw [sM_n (fun z => w z.2), sM_n (fun z => w z.2)]
      exact t4 i p (by omega)
/-- what such a swan has, as the reference reads it -/
theorem as_rd (h : AS μ ν A s m k) (hN : RR A (ν 0)) (hs : 0 ≤ s ∧ s < A 25) (h6 : A 25 ≤ 6) : rdW k (11 + s) = A (11 + s) ∧ rdW k (17 + s) = A (17 + s) ∧ rdW k (26 + s) = A (26 + s) := by
  have e : k 0 = ν 0 := h.2.2.1 0 (by decide) (by decide)
  obtain ⟨p1, p2, p3, p4⟩ := hN.2.2.2.2.2 s hs.1 hs.2
  rw [rd0 (by omega), rd0 (by omega), rd0 (by omega), e]
  exact ⟨p1, p2, p3⟩
theorem markAny2 (h : AS μ ν A s m k) : As2 μ ν A s (f_X1_markOfAny m) (f_X6_markLent k s) := by
  unfold f_X1_markOfAny f_X6_markLent
  exact si_call2 (begin2 h 20) (fun a b hab => si_some (si_some ⟨hab.2.1.1.symm, hab⟩))
theorem markPen2 (h : AS μ ν A s m k) (hN : RR A (ν 0)) (hs : 0 ≤ s ∧ s < A 25) (h6 : A 25 ≤ 6) : As2 μ ν A s (f_X1_markOfPen m) (f_X6_markPen k s) := by
  unfold f_X1_markOfPen f_X6_markPen
  refine si_call2 (begin2 h 21) (fun a b hab => si_call2 (markAny2 hab) (fun z y hzy => si_some ?_))
  rw [w3_id (x := 11 + s) (by omega) (by omega), (as_rd hzy.2 hN hs h6).1]
  refine si_chk (by omega) (si_some ⟨?_, hzy.2⟩)
  show w3 (y.1 + A (11 + s)) = w3 (z.1 + z.2 33 3)
  rw [hzy.1, hzy.2.2.1.2.2.1]
theorem markCob2 (h : AS μ ν A s m k) (hN : RR A (ν 0)) (hs : 0 ≤ s ∧ s < A 25) (h6 : A 25 ≤ 6) : As2 μ ν A s (f_X1_markOfCob m) ((f_X6_begins k 24).bind fun z7 => (f_X6_markPen z7 s).bind fun z9 => some (w3 (2 * z9.1), z9.2)) := by
  unfold f_X1_markOfCob
  exact si_call2 (begin2 h 24) (fun a b hab => si_call2 (markPen2 hab hN hs h6) (fun z y hzy => si_some (si_some ⟨by show w3 (2 * y.1) = w3 (2 * z.1); rw [hzy.1], hzy.2⟩)))
theorem markCyg2 (h : AS μ ν A s m k) (hN : RR A (ν 0)) (hs : 0 ≤ s ∧ s < A 25) (h6 : A 25 ≤ 6) : As2 μ ν A s (f_X1_markOfCygnet m) ((f_X6_begins k 22).bind fun z12 => (f_X6_markPen z12 s).bind fun z14 => some (w3 (z14.1 - 1000), z14.2)) := by
  unfold f_X1_markOfCygnet
  exact si_call2 (begin2 h 22) (fun a b hab => si_call2 (markPen2 hab hN hs h6) (fun z y hzy => si_some (si_some ⟨by show w3 (y.1 - 1000) = w3 (z.1 - 1000); rw [hzy.1], hzy.2⟩)))
theorem sizeOld2 (h : AS μ ν A s m k) (hN : RR A (ν 0)) (hs : 0 ≤ s ∧ s < A 25) (h6 : A 25 ≤ 6) : As2 μ ν A s (f_X1_sizeOfOld m) ((f_X6_begins k 13).bind fun z3 => (f_X6_begins z3 10).bind fun z5 => chk ((0 : Int) ≤ (w3 (17 + s)) ∧ (w3 (17 + s)) < (152 : Int)) (bnd ((w3 ((rdW z5 (w3 (17 + s))) - 100) : Int)) fun a7 => some (a7, z5))) := by
  unfold f_X1_sizeOfOld f_X1_sizeOfAny
  refine si_call2 (begin2 h 13) (fun a b hab => si_call (P := fun z : Int × Mm => Sat (f_X6_begins b 10) (fun y => z.1 = A (17 + s) ∧ AS μ ν A s z.2 y)) (si_call (begin2 hab 10) (fun z hz => si_some (si_mono hz (fun y hy => ⟨hy.2.1.2.2.2, hy⟩)))) (fun z hz => si_some (si_call hz (fun y hy => ?_))))
  rw [w3_id (x := 17 + s) (by omega) (by omega), (as_rd hy.2 hN hs h6).2.1]
  refine si_chk (by omega) (si_bnd (si_some ⟨?_, hy.2⟩))
  show w3 (A (17 + s) - 100) = w3 (z.1 - 100)
  rw [hy.1]
theorem sizeOld3 (h : AS μ ν A s m k) (hN : RR A (ν 0)) (hs : 0 ≤ s ∧ s < A 25) (h6 : A 25 ≤ 6) : As2 μ ν A s (f_X1_sizeOfOld m) (f_X6_sizeOld k s 0) := by
  unfold f_X6_sizeOld
  refine si_swap (si_call (P := fun x => x = k) (si_t rfl (si_some rfl)) (fun x hx => ?_))
  subst hx
  refine si_swap (si_mono (sizeOld2 h hN hs h6) (fun z hz => ?_))
  obtain ⟨y, hy, hy2⟩ := hz
  exact ⟨y, hy, hy2⟩
theorem sizeBlack2 (h : AS μ ν A s m k) (hN : RR A (ν 0)) (hs : 0 ≤ s ∧ s < A 25) (h6 : A 25 ≤ 6) : As2 μ ν A s (f_X1_sizeOfBlack m) (f_X6_sizeOld k s 1) := by
  unfold f_X1_sizeOfBlack f_X6_sizeOld
  refine si_call (P := fun a => Sat (f_X6_begins k 14) (fun b => AS μ ν A s a b)) (begin2 h 14) (fun a ha => ?_)
  refine si_swap (si_call (P := fun x => AS μ ν A s a x) (si_f (by decide) (si_call ha (fun b hb => si_some hb))) (fun b hb => ?_))
  have h2 := sizeOld2 hb hN hs h6
  obtain ⟨z, hz, y, hy, hzy⟩ := h2
  refine si_swap (si_call (P := fun x => x = z) ⟨z, hz, rfl⟩ (fun x hx => si_some ?_))
  rw [hx]
  -- the reference's last step
  obtain ⟨z3, e3, hy3⟩ : ∃ z3, f_X6_begins b 13 = some z3 ∧ ((f_X6_begins z3 10).bind fun z5 => chk ((0 : Int) ≤ (w3 (17 + s)) ∧ (w3 (17 + s)) < (152 : Int)) (bnd ((w3 ((rdW z5 (w3 (17 + s))) - 100) : Int)) fun a7 => some (a7, z5))) = some y := by
    cases q : f_X6_begins b 13 with
    | none => rw [q] at hy; cases hy
    | some w => rw [q] at hy; exact ⟨w, rfl, hy⟩
  obtain ⟨z5, e5, hy5⟩ : ∃ z5, f_X6_begins z3 10 = some z5 ∧ chk ((0 : Int) ≤ (w3 (17 + s)) ∧ (w3 (17 + s)) < (152 : Int)) (bnd ((w3 ((rdW z5 (w3 (17 + s))) - 100) : Int)) fun a7 => some (a7, z5)) = some y := by
    cases q : f_X6_begins z3 10 with
    | none => rw [q] at hy3; cases hy3
    | some w => rw [q] at hy3; exact ⟨w, rfl, hy3⟩
  refine si_call (P := fun w => w = z3) ⟨z3, e3, rfl⟩ (fun w3' hw3 => ?_)
  rw [hw3]
  refine si_call (P := fun w => w = z5) ⟨z5, e5, rfl⟩ (fun w5 hw5 => ?_)
  rw [hw5]
  have hc : (0 : Int) ≤ (w3 (17 + s)) ∧ (w3 (17 + s)) < (152 : Int) := by rw [w3_id (by omega) (by omega)]; omega
  have hy6 : some ((w3 ((rdW z5 (w3 (17 + s))) - 100) : Int), z5) = some y := by
    have := hy5
    unfold chk at this
    rw [if_pos hc] at this
    exact this
  have hy7 := Option.some.inj hy6
  refine si_chk hc (si_bnd (si_f (by decide) (si_some ⟨?_, ?_⟩)))
  · show w3 (2 * w3 (rdW z5 (w3 (17 + s)) - 100)) = w3 (2 * z.1)
    have := hzy.1
    rw [← hy7] at this
    rw [← this]
  · have := hzy.2
    rw [← hy7] at this
    exact this
theorem markOld2 (h : AS μ ν A s m k) (hN : RR A (ν 0)) (hs : 0 ≤ s ∧ s < A 25) (h6 : A 25 ≤ 6) : As2 μ ν A s (f_X1_markOfOld m) ((f_X6_begins k 23).bind fun z16 => (f_X6_markLent z16 s).bind fun z18 => if A (26 + s) = 5 then ((f_X6_sizeOld z18.2 s 1).bind fun z23 => some (w3 (z18.1 - z23.1), z23.2)) else ((f_X6_sizeOld z18.2 s 0).bind fun z21 => some (w3 (z18.1 - z21.1), z21.2))) := by
  unfold f_X1_markOfOld
  refine si_call2 (begin2 h 23) (fun a b hab => si_call2 (markAny2 hab) (fun z y hzy => ?_))
  rw [hzy.2.2.1.2.1, hzy.1]
  refine si_if (fun c => si_swap (si_t c (si_swap ?_))) (fun c => si_swap (si_f c (si_swap ?_)))
  · exact si_call2 (sizeBlack2 hzy.2 hN hs h6) (fun u v huv => si_some (si_some ⟨by show w3 (z.1 - v.1) = w3 (z.1 - u.1); rw [huv.1], huv.2⟩))
  · exact si_call2 (sizeOld3 hzy.2 hN hs h6) (fun u v huv => si_some (si_some ⟨by show w3 (z.1 - v.1) = w3 (z.1 - u.1); rw [huv.1], huv.2⟩))
theorem mark2 (h : AS μ ν A s m k) (hN : RR A (ν 0)) (hs : 0 ≤ s ∧ s < A 25) (h6 : A 25 ≤ 6) {o : Option (Int × Mm)} (h1 : A (26 + s) = 1 → As2 μ ν A s o (f_X6_markPen k s)) (h2 : A (26 + s) = 2 → As2 μ ν A s o ((f_X6_begins k 24).bind fun z7 => (f_X6_markPen z7 s).bind fun z9 => some (w3 (2 * z9.1), z9.2))) (h3 : A (26 + s) = 3 → As2 μ ν A s o ((f_X6_begins k 22).bind fun z12 => (f_X6_markPen z12 s).bind fun z14 => some (w3 (z14.1 - 1000), z14.2))) (h4 : ¬ A (26 + s) = 1 → ¬ A (26 + s) = 2 → ¬ A (26 + s) = 3 → As2 μ ν A s o ((f_X6_begins k 23).bind fun z16 => (f_X6_markLent z16 s).bind fun z18 => if A (26 + s) = 5 then ((f_X6_sizeOld z18.2 s 1).bind fun z23 => some (w3 (z18.1 - z23.1), z23.2)) else ((f_X6_sizeOld z18.2 s 0).bind fun z21 => some (w3 (z18.1 - z21.1), z21.2)))) : As2 μ ν A s o (f_X6_mark k s) := by
  unfold f_X6_mark
  rw [w3_id (x := 26 + s) (by omega) (by omega), (as_rd h hN hs h6).2.2]
  refine si_swap (si_chk (by omega) (si_if (fun c => ?_) (fun c => si_if (fun c' => si_swap (h2 c')) (fun c' => si_if (fun c3 => si_swap (h3 c3)) (fun c3 => si_swap (h4 c c' c3))))))
  refine si_swap (si_mono (h1 c) (fun z hz => ?_))
  exact si_call hz (fun y hy => si_some hy)
theorem sizePen2 (h : AS μ ν A s m k) (hN : RR A (ν 0)) (hs : 0 ≤ s ∧ s < A 25) (h6 : A 25 ≤ 6) (hk : 1 ≤ A (26 + s) ∧ A (26 + s) ≤ 3) : As2 μ ν A s (f_X1_sizeOfPen m) (f_X6_sizePen k s) := by
  unfold f_X1_sizeOfPen f_X6_sizePen f_X1_sizeOfAny
  refine si_call2 (begin2 h 11) (fun a b hab => si_call (P := fun z : Int × Mm => Sat (f_X6_begins b 10) (fun y => z.1 = A (17 + s) ∧ AS μ ν A s z.2 y)) (si_call (begin2 hab 10) (fun z hz => si_some (si_mono hz (fun y hy => ⟨hy.2.1.2.2.2, hy⟩)))) (fun z hz => si_swap (si_call hz (fun y hy => ?_))))
  rw [w3_id (x := 17 + s) (by omega) (by omega), (as_rd hy.2 hN hs h6).2.1]
  refine si_chk (by omega) (si_swap ?_)
  rw [hy.2.2.1.2.1]
  have hfin : ∀ {o : Option (Int × Mm)}, As2 μ ν A s o (f_X6_mark y s) → Sat (o.bind fun z7 => some (w3 (z.1 + z7.1), z7.2)) (fun z' => Sat ((f_X6_mark y s).bind fun z7 => some (w3 (A (17 + s) + z7.1), z7.2)) (fun y' => y'.1 = z'.1 ∧ AS μ ν A s z'.2 y'.2)) := fun hm =>
    si_call2 hm (fun u v huv => si_some (si_some ⟨by show w3 (A (17 + s) + v.1) = w3 (z.1 + u.1); rw [huv.1, hy.1], huv.2⟩))
  refine si_if (fun c => hfin (mark2 hy.2 hN hs h6 (fun c' => absurd c' (by omega)) (fun _ => markCob2 hy.2 hN hs h6) (fun c' => absurd c' (by omega)) (fun _ c' _ => absurd c c'))) (fun c => si_if (fun c1 => hfin (mark2 hy.2 hN hs h6 (fun c' => absurd c' (by omega)) (fun c' => absurd c' (by omega)) (fun _ => markCyg2 hy.2 hN hs h6) (fun _ _ c' => absurd c1 c'))) (fun c1 => hfin (mark2 hy.2 hN hs h6 (fun _ => markPen2 hy.2 hN hs h6) (fun c' => absurd c' (by omega)) (fun c' => absurd c' (by omega)) (fun c' _ _ => by omega))))
theorem sizeCob2 (h : AS μ ν A s m k) (hN : RR A (ν 0)) (hs : 0 ≤ s ∧ s < A 25) (h6 : A 25 ≤ 6) (hk : 1 ≤ A (26 + s) ∧ A (26 + s) ≤ 3) : As2 μ ν A s (f_X1_sizeOfCob m) ((f_X6_begins k 12).bind fun z7 => (f_X6_sizePen z7 s).bind fun z9 => some (w3 (-z9.1), z9.2)) := by
  unfold f_X1_sizeOfCob
  exact si_call2 (begin2 h 12) (fun a b hab => si_call2 (sizePen2 hab hN hs h6 hk) (fun z y hzy => si_some (si_some ⟨by show w3 (-y.1) = w3 (-z.1); rw [hzy.1], hzy.2⟩)))
theorem as_r {o p : Option (Int × Mm)} (h : As2 μ ν A s o p) : As2 μ ν A s o (p.bind fun z => some (z.1, z.2)) := si_mono h (fun _ hz => si_call hz (fun _ hy => si_some hy))
theorem size2 (h : AS μ ν A s m k) (hN : RR A (ν 0)) (hs : 0 ≤ s ∧ s < A 25) (h6 : A 25 ≤ 6) {o : Option (Int × Mm)} (h1 : A (26 + s) = 1 → As2 μ ν A s o (f_X6_sizePen k s)) (h2 : A (26 + s) = 2 → As2 μ ν A s o ((f_X6_begins k 12).bind fun z7 => (f_X6_sizePen z7 s).bind fun z9 => some (w3 (-z9.1), z9.2))) (h3 : A (26 + s) = 3 → As2 μ ν A s o (f_X6_sizePen k s)) (h4 : ¬ A (26 + s) = 1 → ¬ A (26 + s) = 2 → ¬ A (26 + s) = 3 → A (26 + s) = 5 → As2 μ ν A s o (f_X6_sizeOld k s 1)) (h5 : ¬ A (26 + s) = 1 → ¬ A (26 + s) = 2 → ¬ A (26 + s) = 3 → ¬ A (26 + s) = 5 → As2 μ ν A s o (f_X6_sizeOld k s 0)) : As2 μ ν A s o (f_X6_size k s) := by
  unfold f_X6_size
  rw [w3_id (x := 26 + s) (by omega) (by omega), (as_rd h hN hs h6).2.2]
  refine si_swap (si_chk (by omega) (si_if (fun c => si_swap (as_r (h1 c))) (fun c => si_if (fun c' => si_swap (h2 c')) (fun c' => si_if (fun c3 => si_swap (as_r (h3 c3))) (fun c3 => si_if (fun c5 => si_swap (as_r (h4 c c' c3 c5))) (fun c5 => si_swap (as_r (h5 c c' c3 c5))))))))
end
theorem RelA_tr {μ ν m k : Mm} {A : Rv} (h : RelA μ ν A) (hC : ∀ g, g ≠ 32 → g ≠ 33 → m g = μ g) (hN : ∀ g, g ≠ 30 → g ≠ 36 → k g = ν g) (hO : ∀ o, o ≠ 4 → k 30 o = ν 30 o) (hT : TraceR m k) : RelA m k A := by
  obtain ⟨h1, h2, h3, h4, h5, h6, h7⟩ := h
  refine ⟨?_, fun r hr => ?_, ?_, hT, fun j hj => ?_, ?_, ?_⟩
  · unfold NowR at h1 ⊢
    rw [hC 0 (by decide) (by decide), hN 0 (by decide) (by decide)]
    exact h1
  · rw [hC 37 (by decide) (by decide), hC 36 (by decide) (by decide), hC (50 + r) (by omega) (by omega), hN 33 (by decide) (by decide), hN 34 (by decide) (by decide), hN 32 (by decide) (by decide)]
    exact h2 r hr
  · unfold TapeR at h3 ⊢
    rw [hC 34 (by decide) (by decide), hC 35 (by decide) (by decide), hN 35 (by decide) (by decide), hO 2 (by decide), hO 3 (by decide)]
    exact h3
  · rw [hC (1 + j) (by omega) (by omega), hN 38 (by decide) (by decide), hN (1 + j) (by omega) (by omega)]
    exact h5 j hj
  · unfold ActsR at h6 ⊢
    rw [hC 31 (by decide) (by decide), hN 31 (by decide) (by decide), hO 0 (by decide)]
    obtain ⟨a1, a2, a3, a4, a5, a6⟩ := h6
    refine ⟨a1, a2, a3, a4, a5, fun j hj => ?_⟩
    have hs := slot_lt (μ 31 0) (μ 31 1) j
    rw [hC _ (by omega) (by omega)]
    exact a6 j hj
  · rw [hC 30 (by decide) (by decide), hO 1 (by decide)]
    exact h7
theorem b_ask {μ ν : Mm} (h : Rel μ ν) (s w : Int) : Both (f_X5_ask μ s w) (f_X6_ask ν s w) := by
  have hRel := h
  obtain ⟨A, hA⟩ := h
  have hN := hA.1
  unfold f_X5_ask f_X6_ask
  rw [c_isSwan' hN, within_eq, in_eq]
  by_cases c1 : 0 ≤ s ∧ s < A 25
  · obtain ⟨hV, -⟩ := NowR_V hN (Or.inl (by omega))
    have h6 := hV.2.2.2.1
    have hkd := (hV.2.2.2.2.2.2.2 s c1.1 c1.2).2.2.1
    obtain ⟨p1, p2, p3, p4⟩ := hN.1.2.2.2.2.2 s c1.1 c1.2
    rw [if_pos c1]
    refine si_f (by decide) (si_swap (m_sw hN c1 (si_f (by decide) (si_swap ?_))))
    by_cases c2 : 0 ≤ w ∧ w ≤ 1
    · rw [if_pos c2]
      refine si_f (by decide) (si_swap (si_f (by decide) (si_bnd (si_swap ?_))))
      have hrd : Sat (f_X1_ready μ 0 s) (fun m => AS μ ν A s m (sM ν 30 4 0)) := by
        unfold f_X1_ready
        refine si_bnd (si_bnd (si_chk (by omega) (si_bnd (si_chk (by omega) (si_bnd (si_chk (by omega) (si_bnd (si_some ?_))))))))
        refine ⟨fun g _ b => by rw [sM_g b, sM_g b, sM_g b, sM_g b, sM_g b], ⟨?_, ?_, ?_, ?_⟩, fun g a _ => sM_g a, fun o a => sM_n (fun q => a q.2), ?_, ?_, ?_, ?_⟩
        · rw [sM_n (by decide), sM_n (by decide), sM_n (by decide), sM_s]
        · rw [sM_n (by decide), sM_n (by decide), sM_s, sM_g (by decide), sM_g (by decide)]; exact p3
        · rw [sM_n (by decide), sM_s, sM_g (by decide), sM_g (by decide), sM_g (by decide)]; exact p1
        · rw [sM_s, sM_g (by decide), sM_g (by decide), sM_g (by decide), sM_g (by decide)]; exact p2
        · rw [sM_s, sM_n (by decide), sM_n (by decide), sM_n (by decide), sM_n (by decide), sM_s]
        · rw [sM_n (by decide), sM_n (by decide), sM_n (by decide), sM_n (by decide), sM_s]; decide
        · rw [sM_n (by decide), sM_n (by decide), sM_n (by decide), sM_n (by decide), sM_s]; decide
        · intro i a b
          rw [sM_n (by decide), sM_n (by decide), sM_n (by decide), sM_n (by decide), sM_s] at b
          omega
      refine si_call hrd (fun m hm => si_bnd (si_chk (by omega) ?_))
      have e26 : m 0 (26 + s) = A (26 + s) := by rw [hm.1 0 (by decide) (by decide)]; exact p3
      simp only [e26]
      have hfin : ∀ {o p : Option (Int × Mm)}, As2 μ ν A s o p → Sat (o.bind fun z => some (z.1, z.2)) (fun z => Sat (p.bind fun z => some (z.1, z.2)) (fun y => y.1 = z.1 ∧ Rel z.2 y.2)) := fun hop =>
        si_call2 hop (fun u v huv => si_some (si_some ⟨huv.1, A, RelA_tr hA huv.2.1 huv.2.2.2.1 huv.2.2.2.2.1 huv.2.2.2.2.2⟩))
      generalize sM ν 30 4 0 = k at *
      by_cases c3 : w = 0
      · have hv : (if w = 0 then (1 : Int) else 0) = 1 := if_pos c3
        rw [hv]
        refine si_swap (si_t c3 (si_swap ?_))
        refine si_if (fun ck => si_f (by decide) (hfin (size2 hm hN.2.1 c1 h6 (fun q => absurd q (by omega)) (fun _ => sizeCob2 hm hN.2.1 c1 h6 (by omega)) (fun q => absurd q (by omega)) (fun _ q _ _ => absurd ck q) (fun _ q _ _ => absurd ck q)))) (fun n2 => si_if (fun ck => si_f (by decide) (hfin (size2 hm hN.2.1 c1 h6 (fun q => absurd q (by omega)) (fun q => absurd q n2) (fun _ => sizePen2 hm hN.2.1 c1 h6 (by omega)) (fun _ _ q _ => absurd ck q) (fun _ _ q _ => absurd ck q)))) (fun n3 => si_if (fun ck => si_f (by decide) (hfin (size2 hm hN.2.1 c1 h6 (fun q => absurd q (by omega)) (fun q => absurd q n2) (fun q => absurd q n3) (fun _ _ _ q => absurd q (by omega)) (fun _ _ _ _ => sizeOld3 hm hN.2.1 c1 h6)))) (fun n4 => si_if (fun ck => si_f (by decide) (hfin (size2 hm hN.2.1 c1 h6 (fun q => absurd q (by omega)) (fun q => absurd q n2) (fun q => absurd q n3) (fun _ _ _ _ => sizeBlack2 hm hN.2.1 c1 h6) (fun _ _ _ q => absurd ck q)))) (fun n5 => si_f (by decide) (hfin (size2 hm hN.2.1 c1 h6 (fun _ => sizePen2 hm hN.2.1 c1 h6 (by omega)) (fun q => absurd q n2) (fun q => absurd q n3) (fun q _ _ _ => absurd (show A (26 + s) = 1 by omega) q) (fun q _ _ _ => absurd (show A (26 + s) = 1 by omega) q)))))))
      · have hv : (if w = 0 then (1 : Int) else 0) = 0 := if_neg c3
        rw [hv]
        refine si_swap (si_f c3 (si_swap ?_))
        refine si_if (fun ck => si_t rfl (hfin (mark2 hm hN.2.1 c1 h6 (fun q => absurd q (by omega)) (fun _ => markCob2 hm hN.2.1 c1 h6) (fun q => absurd q (by omega)) (fun _ q _ => absurd ck q)))) (fun n2 => si_if (fun ck => si_t rfl (hfin (mark2 hm hN.2.1 c1 h6 (fun q => absurd q (by omega)) (fun q => absurd q n2) (fun _ => markCyg2 hm hN.2.1 c1 h6) (fun _ _ q => absurd ck q)))) (fun n3 => si_if (fun ck => si_t rfl (hfin (mark2 hm hN.2.1 c1 h6 (fun q => absurd q (by omega)) (fun q => absurd q n2) (fun q => absurd q n3) (fun _ _ _ => markOld2 hm hN.2.1 c1 h6)))) (fun n4 => si_if (fun ck => si_t rfl (hfin (mark2 hm hN.2.1 c1 h6 (fun q => absurd q (by omega)) (fun q => absurd q n2) (fun q => absurd q n3) (fun _ _ _ => markOld2 hm hN.2.1 c1 h6)))) (fun n5 => si_t rfl (hfin (mark2 hm hN.2.1 c1 h6 (fun _ => markPen2 hm hN.2.1 c1 h6) (fun q => absurd q n2) (fun q => absurd q n3) (fun q _ _ => absurd (show A (26 + s) = 1 by omega) q)))))))
    · rw [if_neg c2]
      exact si_t rfl (si_some (si_t rfl (si_some ⟨rfl, hRel⟩)))
  · rw [if_neg c1]
    exact si_t rfl (both_same hRel (m_swN hN c1 (si_t rfl (si_some ⟨rfl, rfl⟩))))
