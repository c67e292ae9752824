/-! THE FEWEST: crusts, weirs. -/
def cnt (n : Nat) : Int := countN (fun l => n.testBit l.toNat) 9
theorem cnt_le : ∀ c : Nat, c < 10 → ∀ t : Nat, t < 2 ^ c → cnt t ≤ c := by decide +kernel
theorem cnt_in (t : Nat) : 0 ≤ cnt t := (countN_in _ 9).1
def thrS (A : Rv) (s : Nat) : Nat → Rv
  | 0 => A
  | i + 1 => if s.testBit i = true then thrA (thrS A s i) i 9 else thrS A s i
theorem VR_thrS {A : Rv} (hV : VR A) (s : Nat) : ∀ i : Nat, (i : Int) ≤ A 24 → VR (thrS A s i) ∧ thrS A s i 24 = A 24 ∧ thrS A s i 25 = A 25 := by
  intro i
  induction i with
  | zero => exact fun _ => ⟨hV, rfl, rfl⟩
  | succ i ih =>
    intro hi
    obtain ⟨h1, h2, h3⟩ := ih (by omega)
    show VR (if s.testBit i = true then thrA (thrS A s i) i 9 else thrS A s i) ∧ (if s.testBit i = true then thrA (thrS A s i) i 9 else thrS A s i) 24 = A 24 ∧ (if s.testBit i = true then thrA (thrS A s i) i 9 else thrS A s i) 25 = A 25
    by_cases c : s.testBit i = true
    · rw [if_pos c]
      obtain ⟨g1, g2, g3⟩ := VR_thr h1 (l := i) (n := 9) (by omega) (by decide)
      exact ⟨g1, g2.trans h2, g3.trans h3⟩
    · rw [if_neg c]
      exact ⟨h1, h2, h3⟩
theorem thr0 {A : Rv} (hV : VR A) {l : Int} (hl : 0 ≤ l ∧ l < A 24) : thrA A l 0 = A := by
  have hc := hV.2.2.2.2.2.2.1 l hl.1 hl.2
  funext o
  unfold thrA up
  by_cases c : o = 1 + l
  · rw [if_pos c, c]
    split <;> omega
  · rw [if_neg c]
theorem VR_bOr {A : Rv} (hV : VR A) {s : Nat} (hs : s < 256) : VR (up A 10 (bOr (A 10) s)) := by
  obtain ⟨w, hw⟩ := nat_of hV.2.2.2.2.1
  have h2 := hV.2.2.2.2.2.1
  refine VR_weir hV ?_
  rw [hw, bOr_nat (by omega) (by omega)]
  have := Nat.or_lt_two_pow (n := 8) (show w < 2 ^ 8 by omega) (show s < 2 ^ 8 by omega)
  omega
def endS (A : Rv) (w : Int) (s : Nat) : Rv := if w = 0 then thrS A s (A 24).toNat else up A 10 (bOr (A 10) s)
theorem VR_endS {A : Rv} (hV : VR A) {w : Int} {s : Nat} (hs : w = 0 ∨ s < 256) : VR (endS A w s) ∧ endS A w s 24 = A 24 ∧ endS A w s 25 = A 25 := by
  have h2 := hV.1
  unfold endS
  by_cases c : w = 0
  · rw [if_pos c]
    exact VR_thrS hV s _ (by omega)
  · rw [if_neg c]
    exact ⟨VR_bOr hV (by omega), up_n (by decide), up_n (by decide)⟩
theorem f_comesC {μ : Mm} {A : Rv} (hV : VR A) (hR : RR A (μ 0)) {s : Nat} (hs : s < 512) {k l : Int} (hk : 0 ≤ k ∧ k < A 25) {n : Nat} (hn : n ≤ 100) : Sat (f_X5_comesByCrusts μ s k l n) (fun z => frC μ z.2 ∧ z.1 = if itD (endS A 0 s) n (11 + k) = l then 1 else 0) := by
  have h9 := hV.2.1
  have h6 := hV.2.2.2.1
  have h2 := hV.1
  unfold f_X5_comesByCrusts
  refine si_call (f_become (r := 3) (q := 0) (by decide)) (fun z hz => ?_)
  obtain ⟨g1, g2, g3, g4⟩ := hz
  refine si_call (P := fun e : Int × Mm => (∀ g, g ≠ 3 → e.2 g = μ g) ∧ RR (endS A 0 s) (e.2 3) ∧ e.2 3 40 = 0) (si_loop (fun i (x : Int × Mm) => x.1 = i ∧ (i : Int) ≤ A 24 ∧ (∀ g, g ≠ 3 → x.2 g = μ g) ∧ RR (thrS A s i) (x.2 3) ∧ x.2 3 40 = 0) (A 24).toNat ?_ 1000 (0, z) (by omega) ⟨rfl, by omega, g1, RR_copy hV.2.1 hV.2.2.2.1 hR g2, g3⟩) (fun e he => ?_)
  · rintro i ⟨b, m⟩ hi ⟨hb, hiA, f1, f2, f3⟩
    dsimp only at hb f1 f2 f3 ⊢
    subst hb
    have e24 : m 0 24 = A 24 := by rw [f1 0 (by decide)]; exact hR.1
    simp only [e24]
    refine si_if (fun c => si_some ?_) (fun c => ?_)
    · unfold endS
      rw [if_pos rfl, show (A 24).toNat = i by omega]
      exact ⟨f1, f2, f3⟩
    have hbit : bAnd (bShr (s : Int) (i : Int)) 1 = if s.testBit i then 1 else 0 := bitN_small s hs i (by omega)
    rw [hbit]
    obtain ⟨v1, v2, v3⟩ := VR_thrS hV s i hiA
    by_cases ct : s.testBit i = true
    · rw [if_pos ct]
      refine si_t rfl (si_call (f_scatter v1 f2 (l := i) (n := 9) (by rw [v2]; omega) (by decide)) (fun y hy => si_some ⟨by omega, w3s i (by omega), by omega, fun g hg => (hy.1 g hg).trans (f1 g hg), ?_, hy.2.2.1.trans f3⟩))
      show RR (if s.testBit i = true then thrA (thrS A s i) i 9 else thrS A s i) (y 3)
      rw [if_pos ct]
      exact hy.2.1
    · rw [if_neg ct]
      refine si_f (by decide) (si_some ⟨by omega, w3s i (by omega), by omega, f1, ?_, f3⟩)
      show RR (if s.testBit i = true then thrA (thrS A s i) i 9 else thrS A s i) (m 3)
      rw [if_neg ct]
      exact f2
  · obtain ⟨e1, e2, e3⟩ := he
    obtain ⟨v1, v2, v3⟩ := VR_endS hV (w := 0) (s := s) (Or.inl rfl)
    refine si_call (f_passDays v1 e2 (by omega) hn) (fun y hy => si_chk (by omega) ?_)
    have hp : y 3 (11 + k) = itD (endS A 0 s) n (11 + k) := (hy.2.1.2.2.2.2.2 k hk.1 (by rw [(VR_it v1 n).2.2.1, v3]; exact hk.2)).1
    rw [hp]
    have hf : frC μ y := fun g a b => (hy.1 g a).trans (e1 g a)
    exact si_if (fun c => si_some ⟨hf, by show (1 : Int) = _; rw [if_pos c]⟩) (fun c => si_some ⟨hf, by show (0 : Int) = _; rw [if_neg c]⟩)
theorem f_comesW {μ : Mm} {A : Rv} (hV : VR A) (hR : RR A (μ 0)) {s : Nat} (hs : s < 256) {k l : Int} (hk : 0 ≤ k ∧ k < A 25) {n : Nat} (hn : n ≤ 100) : Sat (f_X5_comesByWeirs μ s k l n) (fun z => frC μ z.2 ∧ z.1 = if bAnd s (A 10) = 0 ∧ itD (endS A 1 s) n (11 + k) = l then 1 else 0) := by
  have h6 := hV.2.2.2.1
  unfold f_X5_comesByWeirs
  rw [hR.2.2.2.1]
  refine si_if (fun c => ?_) (fun c => si_some ⟨frC_rf μ, by show (0 : Int) = _; rw [if_neg (fun q => c q.1)]⟩)
  refine si_call (f_become (r := 3) (q := 0) (by decide)) (fun z hz => ?_)
  obtain ⟨g1, g2, g3, g4⟩ := hz
  have hz3 := RR_copy hV.2.1 hV.2.2.2.1 hR g2
  rw [hz3.2.2.2.1]
  refine si_bnd ?_
  obtain ⟨v1, v2, v3⟩ := VR_endS hV (w := 1) (s := s) (Or.inr hs)
  have he : endS A 1 s = up A 10 (bOr (A 10) s) := by unfold endS; rw [if_neg (by decide)]
  refine si_call (f_passDays (r := 3) v1 (by rw [sM_r, he]; exact RR_up hz3 (by decide) (by decide)) (by rw [sM_n (by omega), g3]; decide) hn) (fun y hy => si_chk (by omega) ?_)
  have hp : y 3 (11 + k) = itD (endS A 1 s) n (11 + k) := (hy.2.1.2.2.2.2.2 k hk.1 (by rw [(VR_it v1 n).2.2.1, v3]; exact hk.2)).1
  rw [hp]
  have hf : frC μ y := fun g a b => by rw [hy.1 g a, sM_g a]; exact g1 g a
  exact si_if (fun c' => si_some ⟨hf, by show (1 : Int) = _; rw [if_pos ⟨c, c'⟩]⟩) (fun c' => si_some ⟨hf, by show (0 : Int) = _; rw [if_neg (fun q => c' q.2)]⟩)
def hitA (A : Rv) (w k l : Int) (n s : Nat) : Prop := (w = 0 ∨ bAnd s (A 10) = 0) ∧ itD (endS A w s) n (11 + k) = l
def bstR (P : Nat → Prop) (i : Nat) (b : Int) : Prop := (b = -1000000 ∧ ∀ t, t < i → ¬ P t) ∨ ∃ s : Nat, s < i ∧ b = s ∧ P s ∧ ∀ t, t < i → P t → cnt s < cnt t ∨ (cnt s = cnt t ∧ s ≤ t)
theorem bstR_eq {P : Nat → Prop} {i : Nat} {a b : Int} (ha : bstR P i a) (hb : bstR P i b) : a = b := by
  rcases ha with ⟨h1, h2⟩ | ⟨s, s1, s2, s3, s4⟩ <;> rcases hb with ⟨g1, g2⟩ | ⟨t, t1, t2, t3, t4⟩
  · rw [h1, g1]
  · exact absurd t3 (h2 t t1)
  · exact absurd s3 (g2 s s1)
  · have p := s4 t t1 t3
    have q := t4 s s1 s3
    omega
def sE {α β : Type} (f : α → Prop) (g : β → Prop) : α ⊕ β → Prop
  | .inl a => f a
  | .inr b => g b
theorem f_fewest {μ : Mm} {A : Rv} (hV : VR A) (hR : RR A (μ 0)) {w k l : Int} (hw : w = 0 ∨ w = 1) (hk : 0 ≤ k ∧ k < A 25) {n : Nat} (hn : n ≤ 100) {c N : Nat} (hc : (c : Int) = A 24 - w) (hsh : bShl 1 (c : Int) = N) (hN : N ≤ 512) (hN2 : w = 0 ∨ N ≤ 256) (hcnt : ∀ t, t < N → cnt t ≤ c) : Sat (f_X5_fewest μ w k l n) (fun z => frC μ z.2 ∧ bstR (hitA A w k l n) N z.1) := by
  have h9 := hV.2.1
  have h2 := hV.1
  unfold f_X5_fewest
  have hv : (if w = 0 then μ 0 24 else w3 (μ 0 24 - 1)) = (c : Int) := by
    rw [hR.1]
    rcases hw with hw | hw
    · rw [if_pos hw]; omega
    · rw [if_neg (by omega), w3_id (by omega) (by omega)]; omega
  rw [hv]
  refine si_bnd ?_
  rw [hsh]
  refine si_call (P := sE (fun e : Int × Mm => frC μ e.2 ∧ ∀ t, t < N → ¬ hitA A w k l n t) (fun r : Int × Mm => frC μ r.2 ∧ bstR (hitA A w k l n) N r.1)) (si_loop (fun z (x : Int × Mm) => x.1 = z ∧ z ≤ c + 1 ∧ frC μ x.2 ∧ ∀ t, t < N → hitA A w k l n t → (z : Int) ≤ cnt t) (c + 1) ?_ 1000 (0, μ) (by omega) ⟨rfl, by omega, frC_rf μ, fun t _ _ => cnt_in t⟩) (fun y hy => ?_)
  · rintro z ⟨b, m⟩ hz ⟨hb, hzc, f1, f2⟩
    dsimp only at hb f1 f2 ⊢
    subst hb
    refine si_if (fun c1 => si_some ⟨f1, fun t ht hp => ?_⟩) (fun c1 => ?_)
    · have q1 := f2 t ht hp
      have q2 := hcnt t ht
      omega
    refine si_call (P := sE (fun e : Int × Mm => frC μ e.2 ∧ ∀ t, t < N → hitA A w k l n t → (z : Int) + 1 ≤ cnt t) (fun r : Int × Mm => frC μ r.2 ∧ bstR (hitA A w k l n) N r.1)) (si_loop (fun i (x : Int × Mm) => x.1 = i ∧ i ≤ N ∧ frC μ x.2 ∧ ∀ t, t < i → hitA A w k l n t → (z : Int) + 1 ≤ cnt t) N ?_ 1000 (0, m) (by omega) ⟨rfl, by omega, f1, fun t ht => by omega⟩) (fun y hy => ?_)
    · rintro i ⟨b, m'⟩ hi ⟨hb, hiN, g1, g2⟩
      dsimp only at hb g1 g2 ⊢
      subst hb
      refine si_if (fun c2 => si_some ⟨g1, fun t ht hp => g2 t (by omega) hp⟩) (fun c2 => ?_)
      have hlt : i < N := by omega
      have hR' : RR A (m' 0) := by rw [g1 0 (by decide) (by decide)]; exact hR
      rw [show f_J6_bitCount_0f7a4 m' (i : Int) = cnt i from bitCount_eq m' (by omega)]
      have hno : ∀ m'' : Mm, frC μ m'' → (cnt i = (z : Int) → ¬ hitA A w k l n i) → i < N ∧ w3 ((i : Int) + 1) = ((i + 1 : Nat) : Int) ∧ i + 1 ≤ N ∧ frC μ m'' ∧ ∀ t, t < i + 1 → hitA A w k l n t → (z : Int) + 1 ≤ cnt t := fun m'' hm'' hh => ⟨hlt, w3s i (by omega), by omega, hm'', fun t ht hp => by
        by_cases q : t = i
        · subst q
          have q1 := f2 t hlt hp
          have q2 : cnt t ≠ (z : Int) := fun e => hh e hp
          omega
        · exact g2 t (by omega) hp⟩
      have hyes : cnt i = (z : Int) → hitA A w k l n i → bstR (hitA A w k l n) N i := fun e hp => Or.inr ⟨i, hlt, rfl, hp, fun t ht htp => by
        have q1 := f2 t ht htp
        by_cases q : t < i
        · have := g2 t q htp
          omega
        · omega⟩
      refine si_if (fun c3 => ?_) (fun c3 => si_some (hno m' g1 (fun e => absurd e c3)))
      rcases hw with rfl | rfl
      · refine si_t rfl (si_call (f_comesC hV hR' (by omega) hk hn) (fun y hy => ?_))
        have hfr := frC_tr g1 hy.1
        by_cases c4 : itD (endS A 0 i) n (11 + k) = l
        · have h1 := hy.2
          rw [if_pos c4] at h1
          exact si_f (by omega) (si_some ⟨hfr, hyes c3 ⟨Or.inl rfl, c4⟩⟩)
        · have h1 := hy.2
          rw [if_neg c4] at h1
          exact si_t h1 (si_some (hno y.2 hfr (fun _ q => c4 q.2)))
      · refine si_f (by decide) (si_call (f_comesW hV hR' (by omega) hk hn) (fun y hy => ?_))
        have hfr := frC_tr g1 hy.1
        by_cases c4 : bAnd i (A 10) = 0 ∧ itD (endS A 1 i) n (11 + k) = l
        · have h1 := hy.2
          rw [if_pos c4] at h1
          exact si_f (by omega) (si_some ⟨hfr, hyes c3 ⟨Or.inr c4.1, c4.2⟩⟩)
        · have h1 := hy.2
          rw [if_neg c4] at h1
          exact si_t h1 (si_some (hno y.2 hfr (fun _ q => c4 ⟨by rcases q.1 with q' | q'; exact absurd q' (by decide); exact q', q.2⟩)))
    · cases y with
      | inl e => exact si_some ⟨by omega, w3s z (by omega), by omega, hy.1, fun t ht hp => by have := hy.2 t ht hp; omega⟩
      | inr r => exact si_some hy
  · cases y with
    | inl e => exact si_some ⟨hy.1, Or.inl ⟨rfl, hy.2⟩⟩
    | inr r => exact si_some hy
def tryO (m : Mm) (p1 p2 p3 p4 s b : Int) : Option ((Int × Int × Mm) ⊕ (Int × Int × Mm)) := (f_X6_tries m).bind fun z8 => chk ((0 : Int) ≤ 124 ∧ 124 < (152 : Int)) (bnd ((if p4 = 0 then (0) else (s) : Int)) fun v10 => chk ((0 : Int) ≤ 124 ∧ 124 < (152 : Int)) (bnd (wrW z8 124 (bOr (rdW z8 124) v10)) fun m12 => (loopO (fun (x13 : Int × Mm) => chk ((0 : Int) ≤ 24 ∧ 24 < (152 : Int)) (if (rdW x13.2 24) ≤ x13.1 then (some (.inr x13)) else (if p4 = 0 then (if (f_X6_has x13.2 s x13.1) = 0 then ((f_X6_throwsOn x13.2 114 x13.1 0).bind fun z31 => some (.inl (w3 (x13.1 + 1), z31))) else ((f_X6_throwsOn x13.2 114 x13.1 9).bind fun z33 => some (.inl (w3 (x13.1 + 1), z33)))) else ((f_X6_throwsOn x13.2 114 x13.1 0).bind fun z27 => some (.inl (w3 (x13.1 + 1), z27)))))) 1000 (0, m12)).bind fun e34 => (loopO (fun (x35 : Int × Mm) => if p3 ≤ x35.1 then (some (.inr x35)) else ((f_X6_passes x35.2 114).bind fun z38 => some (.inl (w3 (x35.1 + 1), z38)))) 1000 (0, e34.2)).bind fun e39 => chk ((0 : Int) ≤ (w3 (125 + p1)) ∧ (w3 (125 + p1)) < (152 : Int)) (if (rdW e39.2 (w3 (125 + p1))) = p2 then (some (.inl (s, w3 (s + 1), e39.2))) else (some (.inl (b, w3 (s + 1), e39.2))))))
theorem wr3 {ν : Mm} {i o v : Int} (h : 0 ≤ o ∧ o < 38) (hi : i = 114 + o) : wrW ν i v = sM ν 3 o v := wq (q := 3) h (by omega)
theorem frM_3 {ν m : Mm} (h : ∀ g, g ≠ 3 → m g = ν g) : frM ν m := ⟨fun g a _ => h g a, fun o _ => by rw [h 30 (by decide)]⟩
theorem m_try {ν : Mm} {A : Rv} (hV : VR A) (hR : RR A (ν 0)) {w k l b : Int} (hw : w = 0 ∨ w = 1) (hk : 0 ≤ k ∧ k < A 25) {n : Nat} (hn : n ≤ 100) {s : Nat} (hs : s < 512) (hs2 : w = 0 ∨ s < 256) : Sat (tryO ν k l n w s b) (fun y => ∃ z, y = .inl (if itD (endS A w s) n (11 + k) = l then (s : Int) else b, w3 ((s : Int) + 1), z) ∧ frM ν z) := by
  have h9 := hV.2.1
  have h6 := hV.2.2.2.1
  have h2 := hV.1
  obtain ⟨v1, v2, v3⟩ := VR_endS hV hs2
  unfold tryO
  refine si_call (m_tries hV.2.1 hV.2.2.2.1 hR) (fun z hz => si_chk (by decide) (si_bnd (si_chk (by decide) (si_bnd ?_))))
  rw [rd3 (o := 10) (by decide) (by decide), wr3 (o := 10) (by decide) (by decide), hz.2.2.2.2.1]
  -- what it begins with
  have hb0 : VR (if w = 0 then A else endS A w s) ∧ (if w = 0 then A else endS A w s) 24 = A 24 ∧ (if w = 0 then A else endS A w s) 25 = A 25 ∧ RR (if w = 0 then A else endS A w s) (sM z 3 10 (bOr (A 10) (if w = 0 then (0 : Int) else s)) 3) := by
    rw [sM_r]
    rcases hw with rfl | rfl
    · rw [if_pos rfl, if_pos rfl, bOr_0 ⟨by have := hV.2.2.2.2.1; omega, by have := hV.2.2.2.2.2.1; omega⟩]
      refine ⟨hV, rfl, rfl, ?_⟩
      have := RR_up (o := 10) (v := A 10) hz.2 (by decide) (by decide)
      have e : up A 10 (A 10) = A := by
        funext o
        unfold up
        split
        · rename_i q; rw [q]
        · rfl
      rw [e] at this
      exact this
    · rw [if_neg (by decide), if_neg (by decide)]
      refine ⟨v1, v2, v3, ?_⟩
      have he : endS A 1 s = up A 10 (bOr (A 10) s) := by unfold endS; rw [if_neg (by decide)]
      rw [he]
      exact RR_up hz.2 (by decide) (by decide)
  have hfr0 : frM ν (sM z 3 10 (bOr (A 10) (if w = 0 then (0 : Int) else s))) := frM_tr hz.1 (frM_3 (fun g hg => sM_g hg))
  generalize sM z 3 10 (bOr (A 10) (if w = 0 then (0 : Int) else s)) = m0 at *
  obtain ⟨u1, u2, u3, u4⟩ := hb0
  refine si_call (P := fun e : Int × Mm => frM ν e.2 ∧ RR (endS A w s) (e.2 3)) (si_loop (fun i (x : Int × Mm) => x.1 = i ∧ (i : Int) ≤ A 24 ∧ frM ν x.2 ∧ RR (if w = 0 then thrS A s i else endS A w s) (x.2 3)) (A 24).toNat ?_ 1000 (0, m0) (by omega) ⟨rfl, by omega, hfr0, u4⟩) (fun e he => ?_)
  · rintro i ⟨x, m⟩ hi ⟨hx, hiA, f1, f2⟩
    dsimp only at hx f1 f2 ⊢
    subst hx
    have e24 : rdW m 24 = A 24 := by rw [rd0 (by decide), f1.1 0 (by decide) (by decide)]; exact hR.1
    rw [e24]
    refine si_chk (by decide) (si_if (fun c => si_some ⟨f1, ?_⟩) (fun c => ?_))
    · rcases hw with rfl | rfl
      · rw [if_pos rfl] at f2
        unfold endS
        rw [if_pos rfl, show (A 24).toNat = i by omega]
        exact f2
      · rw [if_neg (by decide)] at f2
        exact f2
    rw [has_eq, bitN_small s hs i (by omega)]
    rcases hw with rfl | rfl
    · rw [if_pos rfl] at f2
      obtain ⟨t1, t2, t3⟩ := VR_thrS hV s i hiA
      refine si_t rfl ?_
      by_cases ct : s.testBit i = true
      · rw [if_pos ct]
        refine si_f (by decide) (si_call (m_throwsOn (q := 3) (by decide) t1 f2 (l := i) (n := 9) (by rw [t2]; omega) (by decide)) (fun y hy => si_some ⟨by omega, w3s i (by omega), by omega, frM_tr f1 (frM_3 hy.1), ?_⟩))
        rw [if_pos rfl]
        show RR (if s.testBit i = true then thrA (thrS A s i) i 9 else thrS A s i) (y 3)
        rw [if_pos ct]
        exact hy.2.1
      · rw [if_neg ct]
        refine si_t (by decide) (si_call (m_throwsOn (q := 3) (by decide) t1 f2 (l := i) (n := 0) (by rw [t2]; omega) (by decide)) (fun y hy => si_some ⟨by omega, w3s i (by omega), by omega, frM_tr f1 (frM_3 hy.1), ?_⟩))
        rw [if_pos rfl]
        show RR (if s.testBit i = true then thrA (thrS A s i) i 9 else thrS A s i) (y 3)
        rw [if_neg ct]
        have := hy.2.1
        rw [thr0 t1 (by rw [t2]; omega)] at this
        exact this
    · rw [if_neg (by decide)] at f2
      refine si_f (by decide) (si_call (m_throwsOn (q := 3) (by decide) v1 f2 (l := i) (n := 0) (by rw [v2]; omega) (by decide)) (fun y hy => si_some ⟨by omega, w3s i (by omega), by omega, frM_tr f1 (frM_3 hy.1), ?_⟩))
      rw [if_neg (by decide)]
      have := hy.2.1
      rw [thr0 v1 (by rw [v2]; omega)] at this
      exact this
  refine si_call (P := fun x : Int × Mm => frM ν x.2 ∧ RR (itD (endS A w s) n) (x.2 3)) (si_loop (fun i (x : Int × Mm) => x.1 = i ∧ i ≤ n ∧ frM ν x.2 ∧ RR (itD (endS A w s) i) (x.2 3)) n ?_ 1000 (0, e.2) (by omega) ⟨rfl, by omega, he.1, he.2⟩) (fun x hx => ?_)
  · rintro i ⟨x, m⟩ hi ⟨hx, hin, f1, f2⟩
    dsimp only at hx f1 f2 ⊢
    subst hx
    refine si_if (fun c => si_some ⟨f1, ?_⟩) (fun c => si_call (m_pass3 (VR_it v1 i).1 f2) (fun y hy => si_some ⟨by omega, w3s i (by omega), by omega, frM_tr f1 hy.1, hy.2.1⟩))
    have : i = n := by omega
    subst this
    exact f2
  rw [w3_id (x := 125 + k) (by omega) (by omega), rd3 (o := 11 + k) (by omega) (by omega), (hx.2.2.2.2.2.2 k hk.1 (by rw [(VR_it v1 n).2.2.1, v3]; exact hk.2)).1]
  refine si_chk (by omega) (si_if (fun c => si_some ⟨x.2, ?_, hx.1⟩) (fun c => si_some ⟨x.2, ?_, hx.1⟩))
  · rw [if_pos c]
  · rw [if_neg c]
theorem m_fewest {ν : Mm} {A : Rv} (hV : VR A) (hR : RR A (ν 0)) {w k l : Int} (hw : w = 0 ∨ w = 1) (hk : 0 ≤ k ∧ k < A 25) {n : Nat} (hn : n ≤ 100) {c N : Nat} (hc : (c : Int) = A 24 - w) (hsh : bShl 1 (c : Int) = N) (hN : N ≤ 512) (hN2 : w = 0 ∨ N ≤ 256) : Sat (f_X6_fewest ν k l n w) (fun z => frM ν z.2 ∧ bstR (hitA A w k l n) N z.1) := by
  have h9 := hV.2.1
  have h2 := hV.1
  unfold f_X6_fewest
  refine si_call (P := fun z : Int × Int × Mm => frM ν z.2.2 ∧ bstR (hitA A w k l n) N z.1) (si_loop (fun i (x : Int × Int × Mm) => x.2.1 = i ∧ i ≤ N ∧ frM ν x.2.2 ∧ bstR (hitA A w k l n) i x.1) N ?_ 1000 (-1000000, 0, ν) (by omega) ⟨rfl, by omega, frM_rf ν, Or.inl ⟨rfl, fun t ht => by omega⟩⟩) (fun z hz => si_some hz)
  rintro i ⟨b, x, m⟩ hi ⟨hx, hiN, f1, f2⟩
  dsimp only at hx f1 f2 ⊢
  subst hx
  have hRm : RR A (m 0) := by rw [f1.1 0 (by decide) (by decide)]; exact hR
  have hv : w3 (A 24 - (if w = 0 then (0 : Int) else 1)) = (c : Int) := by
    rcases hw with hw | hw
    · rw [if_pos hw, w3_id (by omega) (by omega)]; omega
    · rw [if_neg (by omega), w3_id (by omega) (by omega)]; omega
  rw [rd0 (by decide), hRm.1, rd0 (by decide), hRm.2.2.2.1]
  refine si_chk (by decide) (si_bnd ?_)
  rw [hv, hsh]
  refine si_if (fun c1 => si_some ⟨f1, ?_⟩) (fun c1 => ?_)
  · rw [show N = i by omega]; exact f2
  have hlt : i < N := by omega
  have hkeep : ∀ m' : Mm, frM ν m' → (¬ hitA A w k l n i ∨ ∃ s : Nat, b = s ∧ cnt s ≤ cnt i) → i < N ∧ w3 ((i : Int) + 1) = ((i + 1 : Nat) : Int) ∧ i + 1 ≤ N ∧ frM ν m' ∧ bstR (hitA A w k l n) (i + 1) b := fun m' hm' hh => ⟨hlt, w3s i (by omega), by omega, hm', by
    rcases f2 with ⟨q1, q2⟩ | ⟨s, s1, s2, s3, s4⟩
    · rcases hh with hh | ⟨s, e, _⟩
      · exact Or.inl ⟨q1, fun t ht => by
          by_cases q : t = i
          · subst q; exact hh
          · exact q2 t (by omega)⟩
      · omega
    · refine Or.inr ⟨s, by omega, s2, s3, fun t ht hp => ?_⟩
      by_cases q : t = i
      · subst q
        rcases hh with hh | ⟨s', e, e2⟩
        · exact absurd hp hh
        · have : s' = s := by omega
          subst this
          omega
      · exact s4 t (by omega) hp⟩
  have hnew : ∀ m' : Mm, frM ν m' → hitA A w k l n i → (b = -1000000 ∨ ∃ s : Nat, b = s ∧ cnt i < cnt s) → i < N ∧ w3 ((i : Int) + 1) = ((i + 1 : Nat) : Int) ∧ i + 1 ≤ N ∧ frM ν m' ∧ bstR (hitA A w k l n) (i + 1) i := fun m' hm' hp hb => ⟨hlt, w3s i (by omega), by omega, hm', Or.inr ⟨i, by omega, rfl, hp, fun t ht htp => by
    by_cases q : t = i
    · subst q; omega
    · rcases f2 with ⟨q1, q2⟩ | ⟨s, s1, s2, s3, s4⟩
      · exact absurd htp (q2 t (by omega))
      · have := s4 t (by omega) htp
        rcases hb with hb | ⟨s', e, e2⟩
        · omega
        · have : s' = s := by omega
          subst this
          omega⟩⟩
  have hi2 : w = 0 ∨ i < 256 := by
    rcases hN2 with q | q
    · exact Or.inl q
    · exact Or.inr (by omega)
  have htry : ∀ {K : (Int × Int × Mm) ⊕ (Int × Int × Mm) → Prop}, (∀ x' : Int × Int × Mm, (i < N ∧ x'.2.1 = ((i + 1 : Nat) : Int) ∧ i + 1 ≤ N ∧ frM ν x'.2.2 ∧ bstR (hitA A w k l n) (i + 1) x'.1) → K (.inl x')) → (w = 0 ∨ bAnd i (A 10) = 0) → (b = -1000000 ∨ ∃ s : Nat, b = s ∧ cnt i < cnt s) → Sat (tryO m k l n w i b) K := fun hK hg hb => by
    refine si_mono (m_try hV hRm (b := b) hw hk hn (show i < 512 by omega) hi2) (fun y hy => ?_)
    obtain ⟨z, rfl, hz⟩ := hy
    have hf := frM_tr f1 hz
    by_cases c4 : itD (endS A w i) n (11 + k) = l
    · rw [if_pos c4]
      exact hK _ (hnew z hf ⟨hg, c4⟩ hb)
    · rw [if_neg c4]
      exact hK _ (hkeep z hf (Or.inl (fun q => c4 q.2)))
  -- which of the ways
  have hcmp : ∀ {K : (Int × Int × Mm) ⊕ (Int × Int × Mm) → Prop}, (b ≠ -1000000 → ∃ s : Nat, b = s ∧ s < 512) := fun hb => by
    rcases f2 with ⟨q1, _⟩ | ⟨s, s1, s2, _, _⟩
    · exact absurd q1 hb
    · exact ⟨s, s2, by omega⟩
  have hboth : ∀ {o1 o2 : Option ((Int × Int × Mm) ⊕ (Int × Int × Mm))} {K : (Int × Int × Mm) ⊕ (Int × Int × Mm) → Prop}, b ≠ -1000000 → ((∃ s : Nat, b = s ∧ cnt s ≤ cnt i) → Sat o1 K) → ((∃ s : Nat, b = s ∧ cnt i < cnt s) → Sat o2 K) → Sat ((f_X6_ones m i).bind fun z44 => (f_X6_ones m b).bind fun z46 => if z46 ≤ z44 then o1 else o2) K := fun hb k1 k2 => by
    obtain ⟨s, rfl, hs⟩ := hcmp (K := fun _ => True) hb
    refine si_call (m_ones (n := i) (by omega)) (fun x hx => si_call (m_ones (n := s) hs) (fun y hy => ?_))
    rw [hx, hy]
    exact si_if (fun q => k1 ⟨s, rfl, q⟩) (fun q => k2 ⟨s, rfl, by show cnt i < cnt s; unfold cnt; omega⟩)
  rcases hw with rfl | rfl
  · refine si_t rfl (si_if (fun c2 => htry (fun _ h => h) (Or.inl rfl) (Or.inl c2)) (fun c2 => hboth c2 (fun h => si_some (hkeep m f1 (Or.inr h))) (fun h => htry (fun _ h => h) (Or.inl rfl) (Or.inr h))))
  · refine si_f (by decide) (si_chk (by decide) (si_if (fun c3 => ?_) (fun c3 => si_some (hkeep m f1 (Or.inl (fun q => by rcases q.1 with q' | q'; exact absurd q' (by decide); exact c3 q'))))))
    exact si_if (fun c2 => htry (fun _ h => h) (Or.inr c3) (Or.inl c2)) (fun c2 => hboth c2 (fun h => si_some (hkeep m f1 (Or.inr h))) (fun h => htry (fun _ h => h) (Or.inr c3) (Or.inr h)))
theorem pow_sh : ∀ c : Nat, c < 10 → bShl 1 (c : Int) = ((2 ^ c : Nat) : Int) := fun c h => bShl1 c (by omega)
theorem both_fewest {μ ν : Mm} {A : Rv} (hA : RelA μ ν A) (hV : VR A) {w k l : Int} (hw : w = 0 ∨ w = 1) (hk : 0 ≤ k ∧ k < A 25) {n : Nat} (hn : n ≤ 100) {v : Int} : Sat ((f_X5_fewest μ w k l n).bind fun z10 => some ((f_X5_sizeOrSet z10.2 z10.1 v), z10.2)) (fun z => Sat ((f_X6_fewest ν k l n w).bind fun z12 => if z12.1 = (-1000000) then (some (z12.1, z12.2)) else (if v = 1 then (some (z12.1, z12.2)) else ((f_X6_ones z12.2 z12.1).bind fun z16 => some (z16, z12.2)))) (fun y => y.1 = z.1 ∧ Rel z.2 y.2)) := by
  have h9 := hV.2.1
  have h2 := hV.1
  obtain ⟨c, hc⟩ := nat_of (show 0 ≤ A 24 - w by omega)
  have hp : 2 ^ c ≤ 2 ^ 9 := Nat.pow_le_pow_right (by decide) (by omega)
  have hp2 : w = 0 ∨ 2 ^ c ≤ 256 := by
    rcases hw with hw | hw
    · exact Or.inl hw
    · exact Or.inr (Nat.pow_le_pow_right (j := 8) (by decide) (by omega))
  refine si_call (f_fewest hV hA.1.1 hw hk hn hc.symm (pow_sh c (by omega)) (by omega) hp2 (cnt_le c (by omega))) (fun z hz => si_some ?_)
  refine si_call (m_fewest hV hA.1.2.1 hw hk hn hc.symm (pow_sh c (by omega)) (by omega) hp2) (fun y hy => ?_)
  have he := bstR_eq hy.2 hz.2
  have hrel : Rel z.2 y.2 := ⟨A, RelA_fr hA hz.1 (frN_of hy.1)⟩
  rw [he]
  unfold f_X5_sizeOrSet
  refine si_if (fun c1 => si_some ⟨?_, hrel⟩) (fun c1 => si_if (fun c2 => si_some ⟨?_, hrel⟩) (fun c2 => ?_))
  · show z.1 = _
    rw [if_pos c1]
  · show z.1 = _
    rw [if_neg c1, if_pos c2]
  · rcases hz.2 with ⟨q1, _⟩ | ⟨s, s1, s2, _, _⟩
    · exact absurd q1 c1
    · rw [s2] at c1 ⊢
      refine si_call (m_ones (n := s) (by omega)) (fun x hx => si_some ⟨?_, hrel⟩)
      show x = _
      rw [if_neg c1, if_neg c2, bitCount_eq _ (by omega)]
      exact hx
theorem b_fewest {μ ν : Mm} (h : Rel μ ν) {w : Int} (hw : w = 0 ∨ w = 1) (k l n v : Int) : Both (if (f_X5_isSwan μ k) = 0 then (some ((-1000001), μ)) else (if (f_X5_isLawn μ l) = 0 then (some ((-1000001), μ)) else (if (f_X5_within μ n 1 20) = 0 then (some ((-1000001), μ)) else (if (f_X5_within μ v 0 1) = 0 then (some ((-1000001), μ)) else ((f_X5_fewest μ w k l n).bind fun z10 => some ((f_X5_sizeOrSet z10.2 z10.1 v), z10.2)))))) ((f_X6_fewestOf ν k l n v w).bind fun z2 => some (z2.1, z2.2)) := by
  have hRel := h
  obtain ⟨A, hA⟩ := h
  have hN := hA.1
  refine si_swap (si_call (P := fun y => Sat (if (f_X5_isSwan μ k) = 0 then (some ((-1000001), μ)) else (if (f_X5_isLawn μ l) = 0 then (some ((-1000001), μ)) else (if (f_X5_within μ n 1 20) = 0 then (some ((-1000001), μ)) else (if (f_X5_within μ v 0 1) = 0 then (some ((-1000001), μ)) else ((f_X5_fewest μ w k l n).bind fun z10 => some ((f_X5_sizeOrSet z10.2 z10.1 v), z10.2)))))) (fun z : Int × Mm => y.1 = z.1 ∧ Rel z.2 y.2)) ?_ (fun y hy => si_some hy))
  unfold f_X6_fewestOf
  rw [c_isSwan' hN, c_isLawn' hN, within_eq, within_eq, in_eq, in_eq]
  by_cases c1 : 0 ≤ k ∧ k < A 25
  · obtain ⟨hV, -⟩ := NowR_V hN (Or.inl (by omega))
    rw [if_pos c1]
    refine m_sw hN c1 (si_f (by decide) (si_swap (si_f (by decide) (si_swap ?_))))
    by_cases c2 : 0 ≤ l ∧ l < A 24
    · rw [if_pos c2]
      refine m_ln hN c2 (si_f (by decide) (si_swap (si_f (by decide) (si_swap ?_))))
      by_cases c3 : 1 ≤ n ∧ n ≤ 20
      · rw [if_pos c3]
        refine si_f (by decide) (si_swap (si_f (by decide) (si_swap ?_)))
        by_cases c4 : 0 ≤ v ∧ v ≤ 1
        · rw [if_pos c4]
          obtain ⟨n, rfl⟩ := nat_of (show 0 ≤ n by omega)
          exact si_f (by decide) (si_swap (si_f (by decide) (both_fewest hA hV hw c1 (by omega))))
        · rw [if_neg c4]
          exact si_t rfl (si_some (si_t rfl (si_some ⟨rfl, hRel⟩)))
      · rw [if_neg c3]
        exact si_t rfl (si_some (si_t rfl (si_some ⟨rfl, hRel⟩)))
    · rw [if_neg c2]
      exact m_lnN hN c2 (si_t rfl (si_some (si_t rfl (si_some ⟨rfl, hRel⟩))))
  · rw [if_neg c1]
    exact m_swN hN c1 (si_t rfl (si_some (si_t rfl (si_some ⟨rfl, hRel⟩))))
theorem b_crusts {μ ν : Mm} (h : Rel μ ν) (k l n v : Int) : Both (f_X5_crusts μ k l n v) (f_X6_crusts ν k l n v) := b_fewest h (Or.inl rfl) k l n v
theorem b_weirs {μ ν : Mm} (h : Rel μ ν) (k l n v : Int) : Both (f_X5_weirs μ k l n v) (f_X6_weirs ν k l n v) := b_fewest h (Or.inr rfl) k l n v
