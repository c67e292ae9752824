/-! A RIVER IS READ. -/
def fq3 (m z : Mm) : Prop := (∀ g, g ≠ 34 → g ≠ 3 → z g = m g) ∧ z 34 0 = m 34 0
def fq3N (k y : Mm) : Prop := (∀ g, g ≠ 30 → g ≠ 3 → y g = k g) ∧ ∀ o : Int, (o < 3 ∨ o = 4) → y 30 o = k 30 o
theorem fq3_rf (m : Mm) : fq3 m m := ⟨fun _ _ _ => rfl, rfl⟩
theorem fq3N_rf (k : Mm) : fq3N k k := ⟨fun _ _ _ => rfl, fun _ _ => rfl⟩
theorem fq3_of {a b : Mm} (h : fq a b) : fq3 a b := ⟨fun g x _ => h.1 g x, h.2⟩
theorem fq3N_of {a b : Mm} (h : fqN a b) : fq3N a b := ⟨fun g x _ => h.1 g x, h.2⟩
theorem fq3_tr {a b c : Mm} (h1 : fq3 a b) (h2 : fq3 b c) : fq3 a c := ⟨fun g x y => (h2.1 g x y).trans (h1.1 g x y), h2.2.trans h1.2⟩
theorem fq3N_tr {a b c : Mm} (h1 : fq3N a b) (h2 : fq3N b c) : fq3N a c := ⟨fun g x y => (h2.1 g x y).trans (h1.1 g x y), fun o x => (h2.2 o x).trans (h1.2 o x)⟩
theorem fq3_3 {m z : Mm} (h : ∀ g, g ≠ 3 → z g = m g) : fq3 m z := ⟨fun g _ a => h g a, by rw [h 34 (by decide)]⟩
theorem fq3N_3 {m z : Mm} (h : ∀ g, g ≠ 3 → z g = m g) : fq3N m z := ⟨fun g _ a => h g a, fun o _ => by rw [h 30 (by decide)]⟩
theorem RT_3 {m k m' k' : Mm} (h : RT m k) (hm : ∀ g, g ≠ 3 → m' g = m g) (hk : ∀ g, g ≠ 3 → k' g = k g) : RT m' k' := by
  unfold RT at h ⊢
  rw [hm 34 (by decide), hm 35 (by decide), hk 30 (by decide), hk 35 (by decide)]
  exact h
/-- a river that is being read -/
def VP (B : Rv) : Prop := 2 ≤ B 24 ∧ B 24 ≤ 9 ∧ 0 ≤ B 25 ∧ B 25 ≤ 6 ∧ B 0 = 0 ∧ B 10 = 0 ∧ (∀ l, 0 ≤ l → l < B 24 → 0 ≤ B (1 + l) ∧ B (1 + l) ≤ 99) ∧ ∀ k, 0 ≤ k → k < B 25 → (0 ≤ B (11 + k) ∧ B (11 + k) < B 24) ∧ (1 ≤ B (17 + k) ∧ B (17 + k) ≤ 9) ∧ (1 ≤ B (26 + k) ∧ B (26 + k) ≤ 5) ∧ (0 ≤ B (32 + k) ∧ B (32 + k) < B 24)
theorem VP_VR {B : Rv} (h : VP B) (h1 : 1 ≤ B 25) : VR B := by
  obtain ⟨v1, v2, v3, v4, v5, v6, v7, v8⟩ := h
  exact ⟨v1, v2, h1, v4, by omega, by omega, v7, v8⟩
theorem f_begin {m : Mm} {L c : Int} (hL : 2 ≤ L ∧ L ≤ 9) : Sat (f_X2_begin m 3 L c) (fun z => (∀ g, g ≠ 3 → z g = m g) ∧ z 3 24 = L ∧ z 3 25 = 0 ∧ z 3 0 = 0 ∧ z 3 10 = 0 ∧ ∀ l : Int, 0 ≤ l → l < L → z 3 (1 + l) = c) := by
  unfold f_X2_begin
  refine si_bnd (si_bnd (si_bnd (si_bnd ?_)))
  refine si_call (P := fun e : Int × Mm => (∀ g, g ≠ 3 → e.2 g = m g) ∧ e.2 3 24 = L ∧ e.2 3 25 = 0 ∧ e.2 3 0 = 0 ∧ e.2 3 10 = 0 ∧ ∀ l : Int, 0 ≤ l → l < L → e.2 3 (1 + l) = c) (si_loop (fun i (x : Int × Mm) => x.1 = i ∧ i ≤ 9 ∧ (∀ g, g ≠ 3 → x.2 g = m g) ∧ x.2 3 24 = L ∧ x.2 3 25 = 0 ∧ x.2 3 0 = 0 ∧ x.2 3 10 = 0 ∧ ∀ l : Int, 0 ≤ l → l < i → l < L → x.2 3 (1 + l) = c) 9 ?_ 1000 _ (by decide) ⟨rfl, by decide, fun g hg => by dsimp only; rw [sM_g hg, sM_g hg, sM_g hg, sM_g hg], by dsimp only; rw [sM_n (by decide), sM_n (by decide), sM_n (by decide), sM_s], by dsimp only; rw [sM_n (by decide), sM_n (by decide), sM_s], by dsimp only; rw [sM_n (by decide), sM_s], by dsimp only; rw [sM_s], fun l a b => by omega⟩) (fun e he => si_some he)
  rintro i ⟨b, k⟩ hi ⟨hb, hi9, f1, f2, f3, f4, f5, f6⟩
  dsimp only at hb f1 f2 f3 f4 f5 f6 ⊢
  subst hb
  refine si_if (fun q => si_some ⟨f1, f2, f3, f4, f5, fun l a b => f6 l a (by omega) b⟩) (fun q => si_if (fun q1 => si_chk (by omega) (si_bnd (si_some ?_))) (fun q1 => si_chk (by omega) (si_bnd (si_some ?_))))
  · refine ⟨by omega, w3s i (by omega), by omega, fun g hg => by dsimp only; rw [sM_g hg]; exact f1 g hg, ?_, ?_, ?_, ?_, fun l a b d => ?_⟩
    · dsimp only; rw [sM_n (by omega)]; exact f2
    · dsimp only; rw [sM_n (by omega)]; exact f3
    · dsimp only; rw [sM_n (by omega)]; exact f4
    · dsimp only; rw [sM_n (by omega)]; exact f5
    · dsimp only; rw [sM_n (by omega)]; exact f6 l a (by omega) d
  · refine ⟨by omega, w3s i (by omega), by omega, fun g hg => by dsimp only; rw [sM_g hg]; exact f1 g hg, ?_, ?_, ?_, ?_, fun l a b d => ?_⟩
    · dsimp only; rw [sM_n (by omega)]; exact f2
    · dsimp only; rw [sM_n (by omega)]; exact f3
    · dsimp only; rw [sM_n (by omega)]; exact f4
    · dsimp only; rw [sM_n (by omega)]; exact f5
    · dsimp only
      by_cases w : l = (i : Int)
      · rw [w, sM_s]
      · rw [sM_n (by omega)]; exact f6 l a (by omega) d
def lawB (L c : Int) : Rv := fun o => if o = 24 then L else if 1 ≤ o ∧ o ≤ 9 then c else 0
theorem VP_law {L c : Int} (hL : 2 ≤ L ∧ L ≤ 9) (hc : 0 ≤ c ∧ c ≤ 9) : VP (lawB L c) := by
  have h24 : lawB L c 24 = L := rfl
  have h25 : lawB L c 25 = 0 := rfl
  unfold VP
  rw [h24, h25]
  refine ⟨hL.1, hL.2, by decide, by decide, rfl, rfl, fun l a b => ?_, fun k a b => by omega⟩
  have : lawB L c (1 + l) = c := by
    unfold lawB
    rw [if_neg (by omega), if_pos (by omega)]
  omega
theorem RR_law {L c : Int} (hL : 2 ≤ L ∧ L ≤ 9) {z : Rv} (h24 : z 24 = L) (h25 : z 25 = 0) (h0 : z 0 = 0) (h10 : z 10 = 0) (hl : ∀ l : Int, 0 ≤ l → l < L → z (1 + l) = c) : RR (lawB L c) z := by
  have e24 : lawB L c 24 = L := rfl
  have e25 : lawB L c 25 = 0 := rfl
  unfold RR
  rw [e24, e25]
  refine ⟨h24, h25, h0, h10, fun l a b => ?_, fun k a b => by omega⟩
  rw [hl l a b]
  unfold lawB
  rw [if_neg (by omega), if_pos (by omega)]
def lawQ (m k : Mm) (z y : Int × Mm) : Prop := fq3 m z.2 ∧ fq3N k y.2 ∧ ((z.1 = 0 ∧ y.1 = 0 ∧ Flt z.2 y.2) ∨ (z.1 = 1 ∧ y.1 = 1 ∧ RT z.2 y.2 ∧ y.2 3 23 = 1 ∧ ∃ B : Rv, VP B ∧ B 25 = 0 ∧ RR B (z.2 3) ∧ RR B (y.2 3)))
theorem law2 {m k : Mm} (h : RT m k) : Sat (f_X4_readLaw m 3) (fun z => Sat (f_X6_takesLaw k) (fun y => lawQ m k z y)) := by
  unfold f_X4_readLaw f_X6_takesLaw
  refine si_swap (si_call (P := fun e : Int × Mm => (∀ g, g ≠ 3 → e.2 g = k g) ∧ ∀ o : Int, 0 ≤ o → o < 38 → e.2 3 o = 0) (si_loop (fun i (x : Int × Mm) => x.1 = i ∧ i ≤ 38 ∧ (∀ g, g ≠ 3 → x.2 g = k g) ∧ ∀ o : Int, 0 ≤ o → o < i → x.2 3 o = 0) 38 ?_ 1000 (0, k) (by decide) ⟨rfl, by decide, fun _ _ => rfl, fun o a b => by omega⟩) (fun e he => ?_))
  · rintro i ⟨b, k'⟩ hi ⟨hb, hi38, f1, f2⟩
    dsimp only at hb f1 f2 ⊢
    subst hb
    rw [w3_id (x := 114 + (i : Int)) (by omega) (by omega)]
    refine si_if (fun q => si_some ⟨f1, fun o a b => f2 o a (by omega)⟩) (fun q => ?_)
    rw [wr3 (o := (i : Int)) (by omega) (by omega)]
    refine si_chk (by omega) (si_bnd (si_some ⟨by omega, w3s i (by omega), by omega, fun g hg => by dsimp only; rw [sM_g hg]; exact f1 g hg, fun o a b => ?_⟩))
    dsimp only
    by_cases w : o = (i : Int)
    · rw [w, sM_s]
    · rw [sM_n (fun z => w z.2)]
      exact f2 o a (by omega)
  obtain ⟨e1, e2⟩ := he
  rw [wr3 (o := 23) (by decide) (by decide)]
  refine si_chk (by decide) (si_bnd (si_swap ?_))
  have hk1 : ∀ g, g ≠ 3 → sM e.2 3 23 1 g = k g := fun g hg => by rw [sM_g hg]; exact e1 g hg
  have k23 : sM e.2 3 23 1 3 23 = 1 := sM_s _ _ _ _
  have kz : ∀ o : Int, 0 ≤ o → o < 38 → o ≠ 23 → sM e.2 3 23 1 3 o = 0 := fun o a b c => by rw [sM_n (fun z => c z.2)]; exact e2 o a b
  generalize sM e.2 3 23 1 = k1 at *
  have hRT1 : RT m k1 := RT_3 h (fun _ _ => rfl) hk1
  have fk1 : fq3N k k1 := fq3N_3 hk1
  refine si_call2 (single2 hRT1 (c := 114) (by decide) (by unfold isF; decide)) (fun z y hzy => ?_)
  obtain ⟨z1, y1, hzy⟩ := hzy
  have f1 : fq3 m z.2 := fq3_of z1
  have f2 : fq3N k y.2 := fq3N_tr fk1 (fq3N_of y1)
  rcases hzy with ⟨a1, a2, a3⟩ | ⟨a1, a2, a3⟩
  · refine si_f (by omega) (si_swap (si_f (by omega) (si_swap ?_)))
    have y3 : y.2 3 = k1 3 := y1.1 3 (by decide)
    refine num2 a3 (c := 44) (by decide) (by decide) (by unfold isF; decide) (fun m' k' p q r => ⟨fq3_tr f1 (fq3_of p), fq3N_tr f2 (fq3N_of q), Or.inl ⟨rfl, rfl, r⟩⟩) (fun z5 z8 w l1 l2 p q r hv => ?_)
    rw [wr3 (o := 24) (by decide) (by decide), hv]
    refine si_swap (si_chk (by decide) (si_bnd (si_swap ?_)))
    have w3' : w.2 3 = k1 3 := (q.1 3 (by decide)).trans y3
    have fk2 : fq3N k (sM w.2 3 24 z5.1) := fq3N_tr (fq3N_tr f2 (fq3N_of q)) (fq3N_3 (fun g hg => sM_g hg))
    refine num2 (RT_3 r (fun _ _ => rfl) (fun g hg => sM_g hg)) (c := 59) (by decide) (by decide) (by unfold isF; decide) (fun m' k' p' q' r' => ⟨fq3_tr f1 (fq3_of (fq_tr p p')), fq3N_tr fk2 (fq3N_of q'), Or.inl ⟨rfl, rfl, r'⟩⟩) (fun z11 z14 u l3 l4 p' q' r' hv' => ?_)
    refine si_call (f_begin (c := z11.1) ⟨l1, l2⟩) (fun b hb => si_some ?_)
    obtain ⟨b1, b2, b3, b4, b5, b6⟩ := hb
    have u3 : u.2 3 = sM w.2 3 24 z5.1 3 := q'.1 3 (by decide)
    have u24 : u.2 3 24 = z5.1 := by rw [u3, sM_s]
    have ug : ∀ o : Int, o ≠ 24 → u.2 3 o = k1 3 o := fun o ho => by rw [u3, sM_n (fun z => ho z.2), w3']
    refine si_call (P := fun e : Int × Mm => (∀ g, g ≠ 3 → e.2 g = u.2 g) ∧ (∀ o : Int, (o < 1 ∨ 10 ≤ o) → e.2 3 o = u.2 3 o) ∧ ∀ l : Int, 0 ≤ l → l < z5.1 → e.2 3 (1 + l) = z11.1) (si_loop (fun i (x : Int × Mm) => x.1 = i ∧ (i : Int) ≤ z5.1 ∧ (∀ g, g ≠ 3 → x.2 g = u.2 g) ∧ (∀ o : Int, (o < 1 ∨ 10 ≤ o) → x.2 3 o = u.2 3 o) ∧ ∀ l : Int, 0 ≤ l → l < i → x.2 3 (1 + l) = z11.1) 9 ?_ 1000 (0, u.2) (by decide) ⟨rfl, by omega, fun _ _ => rfl, fun _ _ => rfl, fun l a b => by omega⟩) (fun v hv2 => si_some ?_)
    · rintro i ⟨x, j⟩ hi ⟨hx, hi9, g1, g2, g3⟩
      dsimp only at hx g1 g2 g3 ⊢
      subst hx
      have e24 : rdW j 138 = z5.1 := by rw [rd3 (o := 24) (by decide) (by decide), g2 24 (by decide), u24]
      have e30 : j 30 6 = z11.1 := by rw [g1 30 (by decide)]; exact hv'
      rw [e24, w3_id (x := 115 + (i : Int)) (by omega) (by omega)]
      refine si_chk (by decide) (si_if (fun q => si_some ⟨g1, g2, fun l a b => g3 l a (by omega)⟩) (fun q => ?_))
      rw [wr3 (o := 1 + (i : Int)) (by omega) (by omega), e30]
      refine si_chk (by omega) (si_bnd (si_some ⟨by omega, w3s i (by omega), by omega, fun g hg => by dsimp only; rw [sM_g hg]; exact g1 g hg, fun o a => by dsimp only; rw [sM_n (by omega)]; exact g2 o a, fun l a b => ?_⟩))
      dsimp only
      by_cases w : l = (i : Int)
      · rw [w, sM_s]
      · rw [sM_n (by omega)]
        exact g3 l a (by omega)
    · obtain ⟨v1, v2, v3⟩ := hv2
      refine ⟨fq3_tr (fq3_tr f1 (fq3_of (fq_tr p p'))) (fq3_3 b1), fq3N_tr (fq3N_tr fk2 (fq3N_of q')) (fq3N_3 v1), Or.inr ⟨rfl, rfl, RT_3 r' b1 v1, ?_, lawB z5.1 z11.1, VP_law ⟨l1, l2⟩ ⟨l3, l4⟩, rfl, RR_law ⟨l1, l2⟩ b2 b3 b4 b5 b6, RR_law ⟨l1, l2⟩ ?_ ?_ ?_ ?_ v3⟩⟩
      · show v.2 3 23 = 1
        rw [v2 23 (by decide), ug 23 (by decide)]; exact k23
      · show v.2 3 24 = z5.1
        rw [v2 24 (by decide)]; exact u24
      · show v.2 3 25 = 0
        rw [v2 25 (by decide), ug 25 (by decide)]; exact kz 25 (by decide) (by decide) (by decide)
      · show v.2 3 0 = 0
        rw [v2 0 (by decide), ug 0 (by decide)]; exact kz 0 (by decide) (by decide) (by decide)
      · show v.2 3 10 = 0
        rw [v2 10 (by decide), ug 10 (by decide)]; exact kz 10 (by decide) (by decide) (by decide)
  · exact si_t a1 (si_some (si_t a2 (si_some ⟨f1, f2, Or.inl ⟨rfl, rfl, a3⟩⟩)))
-- a swan
def addS (C : Rv) (s kd pl pt wt : Int) : Rv := up (up (up (up (up C (26 + s) kd) (11 + s) pl) (32 + s) pt) (17 + s) wt) 25 (s + 1)
theorem addS_o {C : Rv} {s kd pl pt wt o : Int} (h : o ≠ 26 + s ∧ o ≠ 11 + s ∧ o ≠ 32 + s ∧ o ≠ 17 + s ∧ o ≠ 25) : addS C s kd pl pt wt o = C o := by
  unfold addS
  rw [up_n h.2.2.2.2, up_n h.2.2.2.1, up_n h.2.2.1, up_n h.2.1, up_n h.1]
theorem addS_s {C : Rv} {s kd pl pt wt : Int} (hs : 0 ≤ s ∧ s < 6) : addS C s kd pl pt wt (11 + s) = pl ∧ addS C s kd pl pt wt (17 + s) = wt ∧ addS C s kd pl pt wt (26 + s) = kd ∧ addS C s kd pl pt wt (32 + s) = pt ∧ addS C s kd pl pt wt 25 = s + 1 := by
  unfold addS
  refine ⟨?_, ?_, ?_, ?_, up_s _ _ _⟩
  · rw [up_n (by omega), up_n (by omega), up_n (by omega), up_s]
  · rw [up_n (by omega), up_s]
  · rw [up_n (by omega), up_n (by omega), up_n (by omega), up_n (by omega), up_s]
  · rw [up_n (by omega), up_n (by omega), up_s]
theorem VP_add {B : Rv} (h : VP B) {s kd pl pt wt : Int} (hs : B 25 = s) (h6 : s < 6) (hk : 1 ≤ kd ∧ kd ≤ 5) (hp : 0 ≤ pl ∧ pl < B 24) (ht : 0 ≤ pt ∧ pt < B 24) (hw : 1 ≤ wt ∧ wt ≤ 9) : VP (addS B s kd pl pt wt) := by
  obtain ⟨v1, v2, v3, v4, v5, v6, v7, v8⟩ := h
  obtain ⟨a1, a2, a3, a4, a5⟩ := addS_s (C := B) (kd := kd) (pl := pl) (pt := pt) (wt := wt) (show 0 ≤ s ∧ s < 6 by omega)
  have e24 : addS B s kd pl pt wt 24 = B 24 := addS_o (by omega)
  have e0 : addS B s kd pl pt wt 0 = B 0 := addS_o (by omega)
  have e10 : addS B s kd pl pt wt 10 = B 10 := addS_o (by omega)
  unfold VP
  rw [e24, e0, e10, a5]
  refine ⟨v1, v2, by omega, by omega, v5, v6, fun l p q => ?_, fun k p q => ?_⟩
  · rw [addS_o (by omega)]; exact v7 l p q
  · by_cases c : k = s
    · subst c
      rw [a1, a2, a3, a4]
      exact ⟨hp, hw, hk, ht⟩
    · rw [addS_o (by omega), addS_o (by omega), addS_o (by omega), addS_o (by omega)]
      exact v8 k p (by omega)
theorem RR_add {B C : Rv} (h : RR B C) (h9 : B 24 ≤ 9) {s kd pl pt wt : Int} (hs : B 25 = s) (h6 : 0 ≤ s ∧ s < 6) : RR (addS B s kd pl pt wt) (addS C s kd pl pt wt) := by
  obtain ⟨e1, e2, e3, e4, e5, e6⟩ := h
  obtain ⟨a1, a2, a3, a4, a5⟩ := addS_s (C := B) (kd := kd) (pl := pl) (pt := pt) (wt := wt) h6
  obtain ⟨b1, b2, b3, b4, b5⟩ := addS_s (C := C) (kd := kd) (pl := pl) (pt := pt) (wt := wt) h6
  have e24 : addS B s kd pl pt wt 24 = B 24 := addS_o (by omega)
  unfold RR
  rw [e24, a5, b5]
  refine ⟨?_, rfl, ?_, ?_, fun l p q => ?_, fun k p q => ?_⟩
  · rw [addS_o (by omega)]; exact e1
  · rw [addS_o (by omega), addS_o (by omega)]; exact e3
  · rw [addS_o (by omega), addS_o (by omega)]; exact e4
  · rw [addS_o (by omega), addS_o (by omega)]; exact e5 l p q
  · by_cases c : k = s
    · subst c
      rw [a1, a2, a3, a4, b1, b2, b3, b4]
      exact ⟨rfl, rfl, rfl, rfl⟩
    · rw [addS_o (o := 11 + k) (by omega), addS_o (o := 17 + k) (by omega), addS_o (o := 26 + k) (by omega), addS_o (o := 32 + k) (by omega), addS_o (o := 11 + k) (by omega), addS_o (o := 17 + k) (by omega), addS_o (o := 26 + k) (by omega), addS_o (o := 32 + k) (by omega)]
      exact e6 k p (by omega)
def kOf (b : Int) : Int := if b = 98 then 5 else (if b = 99 then 2 else (if b = 111 then 4 else (if b = 112 then 1 else (if b = 121 then 3 else -1))))
theorem kOf_c (b : Int) : (kOf b = -1 ∧ b ≠ 98 ∧ b ≠ 99 ∧ b ≠ 111 ∧ b ≠ 112 ∧ b ≠ 121) ∨ (b = 98 ∧ kOf b = 5) ∨ (b = 99 ∧ kOf b = 2) ∨ (b = 111 ∧ kOf b = 4) ∨ (b = 112 ∧ kOf b = 1) ∨ (b = 121 ∧ kOf b = 3) := by
  unfold kOf
  by_cases c1 : b = 98
  · exact Or.inr (Or.inl ⟨c1, by rw [if_pos c1]⟩)
  · by_cases c2 : b = 99
    · exact Or.inr (Or.inr (Or.inl ⟨c2, by rw [if_neg c1, if_pos c2]⟩))
    · by_cases c3 : b = 111
      · exact Or.inr (Or.inr (Or.inr (Or.inl ⟨c3, by rw [if_neg c1, if_neg c2, if_pos c3]⟩)))
      · by_cases c4 : b = 112
        · exact Or.inr (Or.inr (Or.inr (Or.inr (Or.inl ⟨c4, by rw [if_neg c1, if_neg c2, if_neg c3, if_pos c4]⟩))))
        · by_cases c5 : b = 121
          · exact Or.inr (Or.inr (Or.inr (Or.inr (Or.inr ⟨c5, by rw [if_neg c1, if_neg c2, if_neg c3, if_neg c4, if_pos c5]⟩))))
          · exact Or.inl ⟨by rw [if_neg c1, if_neg c2, if_neg c3, if_neg c4, if_neg c5], c1, c2, c3, c4, c5⟩
theorem m_kindOf (μ : Mm) (b : Int) : f_X6_kindOf μ b = if kOf b = -1 then 0 else kOf b := by
  unfold f_X6_kindOf
  rcases kOf_c b with ⟨h, q1, q2, q3, q4, q5⟩ | ⟨rfl, h⟩ | ⟨rfl, h⟩ | ⟨rfl, h⟩ | ⟨rfl, h⟩ | ⟨rfl, h⟩
  · rw [h, if_neg q4, if_neg q2, if_neg q5, if_neg q3, if_neg q1]; rfl
  · rw [h]; rfl
  · rw [h]; rfl
  · rw [h]; rfl
  · rw [h]; rfl
  · rw [h]; rfl
theorem f_sort {m : Mm} {n a : Int} (h : okT m n a) : Sat (f_X4_readSort m) (fun z => fq m z.2 ∧ ((a < n ∧ kOf (m 35 a) ≠ -1 ∧ z.1 = kOf (m 35 a) ∧ z.2 34 3 = a + 1 ∧ z.2 34 1 = m 34 1 ∧ z.2 34 4 = a) ∨ (¬ (a < n ∧ kOf (m 35 a) ≠ -1) ∧ z.1 = -1 ∧ z.2 34 1 = 1 ∧ z.2 34 2 = a))) := by
  unfold f_X4_readSort
  refine si_call (f_scan h) (fun z hz => si_bnd ?_)
  obtain ⟨z1, z2, z4, hz⟩ := hz
  have hno : ∀ v : Int, v = -1 → ¬ (a < n ∧ kOf (m 35 a) ≠ -1) → Sat (if v = (-1) then ((f_X4_refuse z 1).bind fun z6 => some (v, z6.2)) else (some (v, z))) (fun z => fq m z.2 ∧ ((a < n ∧ kOf (m 35 a) ≠ -1 ∧ z.1 = kOf (m 35 a) ∧ z.2 34 3 = a + 1 ∧ z.2 34 1 = m 34 1 ∧ z.2 34 4 = a) ∨ (¬ (a < n ∧ kOf (m 35 a) ≠ -1) ∧ z.1 = -1 ∧ z.2 34 1 = 1 ∧ z.2 34 2 = a))) := fun v hv hn =>
    si_t hv (si_call f_refuse (fun y hy => si_some ⟨fq_tr z1 hy.2.1, Or.inr ⟨hn, hv, hy.2.2.1, hy.2.2.2.trans z4⟩⟩))
  rcases hz with ⟨q1, q2, q3⟩ | ⟨q1, q2, q3, q4, q5⟩ | ⟨q1, q2, i, q3, q4, q5, q6⟩
  · rw [if_neg (show ¬ z 34 5 = 0 by omega)]
    exact hno _ rfl (fun q => by omega)
  · rw [if_pos q3, q4]
    show Sat (if kOf (m 35 a) = (-1) then ((f_X4_refuse z 1).bind fun z6 => some (kOf (m 35 a), z6.2)) else (some (kOf (m 35 a), z))) _
    by_cases c : kOf (m 35 a) = -1
    · exact hno _ c (fun q => q.2 c)
    · exact si_f c (si_some ⟨z1, Or.inl ⟨q1, c, rfl, q5, z2, z4⟩⟩)
  · have h5 : ¬ z 34 5 = 0 := by
      rw [q6]
      split <;> decide
    rw [if_neg h5]
    refine hno _ rfl (fun q => q.2 ?_)
    unfold isF at q2
    rcases kOf_c (m 35 a) with ⟨h, -⟩ | ⟨h, -⟩ | ⟨h, -⟩ | ⟨h, -⟩ | ⟨h, -⟩ | ⟨h, -⟩
    · exact h
    · omega
    · omega
    · omega
    · omega
    · omega
def swQ (m k : Mm) (B : Rv) (z y : Int × Mm) : Prop := fq3 m z.2 ∧ fq3N k y.2 ∧ ((z.1 = 0 ∧ y.1 = 0 ∧ Flt z.2 y.2) ∨ (z.1 = 1 ∧ y.1 = 1 ∧ B 25 < 6 ∧ RT z.2 y.2 ∧ y.2 3 23 = 1 ∧ ∃ B' : Rv, VP B' ∧ B' 25 = B 25 + 1 ∧ RR B' (z.2 3) ∧ RR B' (y.2 3)))
theorem sM3 {μ : Mm} {o v : Int} {C : Rv} (h : μ 3 = C) : sM μ 3 o v 3 = up C o v := by rw [sM_r, h]
theorem swan2 {m k : Mm} (h : RT m k) {B : Rv} (hV : VP B) (hC : RR B (m 3)) (hN : RR B (k 3)) (h23 : k 3 23 = 1) : Sat (f_X4_readSwan m 3 (B 25)) (fun z => Sat (f_X6_takesSwan k) (fun y => swQ m k B z y)) := by
  have hV' := hV
  obtain ⟨v1, v2, v3, v4, v5, v6, v7, v8⟩ := hV
  have hb : m 34 3 < m 34 0 → k 35 (m 34 3) = m 35 (m 34 3) := fun q => (h.2.2.2.2.1 _ h.2.1 q).1
  unfold f_X4_readSwan f_X6_takesSwan
  rw [rd3 (o := 25) (by decide) (by decide), hN.2.1, h.2.2.2.2.2.2]
  refine si_swap (si_chk (by decide) (si_call (m_byteAt h.1 h.2.1 h.2.2.2.1) (fun z3 hz3 => si_swap ?_)))
  refine si_call (f_sort (RT_T h)) (fun z hz => ?_)
  obtain ⟨z1, hz⟩ := hz
  rw [m_kindOf]
  rcases hz with ⟨p1, p2, p3, p4, p5, p6⟩ | ⟨p1, p2, p3, p4⟩
  · have hz3' : z3 = m 35 (m 34 3) := by
      rcases hz3 with ⟨q1, q2⟩ | ⟨q1, q2⟩
      · omega
      · rw [q2, hb p1]
    rw [hz3', if_neg p2]
    have hkd : 1 ≤ kOf (m 35 (m 34 3)) ∧ kOf (m 35 (m 34 3)) ≤ 5 := by
      rcases kOf_c (m 35 (m 34 3)) with ⟨h, -⟩ | ⟨-, h⟩ | ⟨-, h⟩ | ⟨-, h⟩ | ⟨-, h⟩ | ⟨-, h⟩
      · exact absurd h p2
      · omega
      · omega
      · omega
      · omega
      · omega
    rw [p3]
    generalize kOf (m 35 (m 34 3)) = kd at *
    refine si_f (by omega) (si_swap (si_f (by omega) ?_))
    by_cases c6 : B 25 < 6
    · refine si_f (by omega) (si_bnd (si_swap (si_t c6 ?_)))
      obtain ⟨s, hs⟩ := nat_of v3
      have m24 : m 3 24 = B 24 := hC.1
      have k24 : k 3 24 = B 24 := hN.1
      rw [hs] at c6 ⊢
      rw [w3_id (x := 140 + (s : Int)) (by omega) (by omega), w3_id (x := 125 + (s : Int)) (by omega) (by omega), w3_id (x := 146 + (s : Int)) (by omega) (by omega), w3_id (x := 131 + (s : Int)) (by omega) (by omega), w3_id (x := m 34 3 + 1) (by have := h.2.1; omega) (by have := h.2.2.2.1; omega), wr3 (o := 26 + (s : Int)) (by omega) (by omega)]
      refine si_swap (si_chk (by omega) (si_bnd (si_chk (by decide) ?_)))
      -- behind the sort
      have fz : fq3 m z.2 := fq3_of z1
      have hk1 : ∀ g, g ≠ 3 → sM (sM k 30 5 (m 34 3 + 1)) 3 (26 + (s : Int)) kd g = sM k 30 5 (m 34 3 + 1) g := fun g hg => sM_g hg
      have hRT1 : RT z.2 (sM (sM k 30 5 (m 34 3 + 1)) 3 (26 + (s : Int)) kd) := by
        refine RT_3 (m := z.2) (k := sM k 30 5 (m 34 3 + 1)) ?_ (fun _ _ => rfl) hk1
        refine ⟨?_, ?_, ?_, ?_, fun i p q => ?_, ?_, ?_⟩
        · rw [sM_n (by decide), z1.2]; exact h.1
        · have := h.2.1; omega
        · rw [z1.2]; omega
        · rw [z1.2]; exact h.2.2.2.1
        · rw [z1.2] at q
          rw [sM_g (by decide), z1.1 35 (by decide)]
          exact h.2.2.2.2.1 i p q
        · rw [sM_n (by decide), p5]; exact h.2.2.2.2.2.1
        · rw [sM_s, p4]
      have fk1 : fq3N k (sM (sM k 30 5 (m 34 3 + 1)) 3 (26 + (s : Int)) kd) := fq3N_tr ⟨fun g a _ => sM_g a, fun o ho => sM_n (by omega)⟩ (fq3N_3 hk1)
      have e3 : sM (sM k 30 5 (m 34 3 + 1)) 3 (26 + (s : Int)) kd 3 = up (k 3) (26 + (s : Int)) kd := by rw [sM_r, sM_g (by decide)]
      generalize sM (sM k 30 5 (m 34 3 + 1)) 3 (26 + (s : Int)) kd = k1 at *
      have z3 : z.2 3 = m 3 := z1.1 3 (by decide)
      have k1_24 : k1 3 24 = B 24 := by rw [e3, up_n (by omega)]; exact k24
      rw [rd3 (o := 24) (by decide) (by decide), k1_24, w3_id (x := B 24 - 1) (by omega) (by omega), z3, m24, w3_id (x := B 24 - 1) (by omega) (by omega)]
      refine si_swap (num2 hRT1 (c := 44) (by decide) (by decide) (by unfold isF; decide) (fun m' k' p q r => ⟨fq3_tr fz (fq3_of p), fq3N_tr fk1 (fq3N_of q), Or.inl ⟨rfl, rfl, r⟩⟩) (fun z6 z9 y1 l1 l2 p q r hv => ?_))
      have fz9 := fq3_tr fz (fq3_of p)
      have fy1 := fq3N_tr fk1 (fq3N_of q)
      have z93 : z9.2 3 = m 3 := (p.1 3 (by decide)).trans z3
      have y13 : y1.2 3 = up (k 3) (26 + (s : Int)) kd := (q.1 3 (by decide)).trans e3
      rw [wr3 (o := 11 + (s : Int)) (by omega) (by omega), hv, z93, m24, w3_id (x := B 24 - 1) (by omega) (by omega)]
      refine si_swap (si_chk (by omega) (si_bnd (si_chk (by decide) ?_)))
      have e4 : sM y1.2 3 (11 + (s : Int)) z6.1 3 = up (up (k 3) (26 + (s : Int)) kd) (11 + (s : Int)) z6.1 := sM3 y13
      have k2_24 : sM y1.2 3 (11 + (s : Int)) z6.1 3 24 = B 24 := by rw [e4, up_n (by omega), up_n (by omega)]; exact k24
      have hRT2 : RT z9.2 (sM y1.2 3 (11 + (s : Int)) z6.1) := RT_3 r (fun _ _ => rfl) (fun g hg => sM_g hg)
      have fk2 : fq3N k (sM y1.2 3 (11 + (s : Int)) z6.1) := fq3N_tr fy1 (fq3N_3 (fun g hg => sM_g hg))
      generalize sM y1.2 3 (11 + (s : Int)) z6.1 = k2 at *
      rw [rd3 (o := 24) (by decide) (by decide), k2_24, w3_id (x := B 24 - 1) (by omega) (by omega)]
      refine si_swap (num2 hRT2 (c := 44) (by decide) (by decide) (by unfold isF; decide) (fun m' k' p q r => ⟨fq3_tr fz9 (fq3_of p), fq3N_tr fk2 (fq3N_of q), Or.inl ⟨rfl, rfl, r⟩⟩) (fun z12 z15 y2 l3 l4 p' q' r' hv' => ?_))
      have fz15 := fq3_tr fz9 (fq3_of p')
      have fy2 := fq3N_tr fk2 (fq3N_of q')
      have z153 : z15.2 3 = m 3 := (p'.1 3 (by decide)).trans z93
      have y23 : y2.2 3 = up (up (k 3) (26 + (s : Int)) kd) (11 + (s : Int)) z6.1 := (q'.1 3 (by decide)).trans e4
      rw [wr3 (o := 32 + (s : Int)) (by omega) (by omega), hv']
      refine si_swap (si_chk (by omega) (si_bnd ?_))
      have e5 : sM y2.2 3 (32 + (s : Int)) z12.1 3 = up (up (up (k 3) (26 + (s : Int)) kd) (11 + (s : Int)) z6.1) (32 + (s : Int)) z12.1 := sM3 y23
      have hRT3 : RT z15.2 (sM y2.2 3 (32 + (s : Int)) z12.1) := RT_3 r' (fun _ _ => rfl) (fun g hg => sM_g hg)
      have fk3 : fq3N k (sM y2.2 3 (32 + (s : Int)) z12.1) := fq3N_tr fy2 (fq3N_3 (fun g hg => sM_g hg))
      generalize sM y2.2 3 (32 + (s : Int)) z12.1 = k3 at *
      refine si_swap (num2 hRT3 (c := 59) (by decide) (by decide) (by unfold isF; decide) (fun m' k' p q r => ⟨fq3_tr fz15 (fq3_of p), fq3N_tr fk3 (fq3N_of q), Or.inl ⟨rfl, rfl, r⟩⟩) (fun z18 z21 y3 l5 l6 p'' q'' r'' hv'' => ?_))
      have fz21 := fq3_tr fz15 (fq3_of p'')
      have fy3 := fq3N_tr fk3 (fq3N_of q'')
      have z213 : z21.2 3 = m 3 := (p''.1 3 (by decide)).trans z153
      have y33 : y3.2 3 = up (up (up (k 3) (26 + (s : Int)) kd) (11 + (s : Int)) z6.1) (32 + (s : Int)) z12.1 := (q''.1 3 (by decide)).trans e5
      rw [wr3 (o := 17 + (s : Int)) (by omega) (by omega), hv'', w3_id (x := (s : Int) + 1) (by omega) (by omega)]
      refine si_chk (by omega) (si_bnd (si_chk (by omega) (si_bnd (si_chk (by omega) (si_bnd (si_chk (by omega) (si_bnd (si_bnd (si_some ?_)))))))))
      refine si_chk (by omega) (si_bnd (si_chk (by decide) (si_chk (by decide) ?_)))
      have k25 : rdW (sM y3.2 3 (17 + (s : Int)) z18.1) 139 = s := by
        rw [rd3 (o := 25) (by decide) (by decide), sM_n (by omega), y33, up_n (by omega), up_n (by omega), up_n (by omega), hN.2.1]
        exact hs
      rw [k25, wr3 (o := 25) (by decide) (by decide), w3_id (x := (s : Int) + 1) (by omega) (by omega)]
      refine si_bnd (si_some ⟨?_, ?_, Or.inr ⟨rfl, rfl, by omega, ?_, ?_, addS B (B 25) kd z6.1 z12.1 z18.1, VP_add hV' rfl (by omega) hkd ⟨l1, by omega⟩ ⟨l3, by omega⟩ ⟨l5, l6⟩, ?_, ?_, ?_⟩⟩)
      · exact fq3_tr fz21 (fq3_3 (fun g hg => by dsimp only; rw [sM_g hg, sM_g hg, sM_g hg, sM_g hg, sM_g hg]))
      · exact fq3N_tr fy3 (fq3N_3 (fun g hg => by dsimp only; rw [sM_g hg, sM_g hg]))
      · exact RT_3 r'' (fun g hg => by dsimp only; rw [sM_g hg, sM_g hg, sM_g hg, sM_g hg, sM_g hg]) (fun g hg => by dsimp only; rw [sM_g hg, sM_g hg])
      · dsimp only
        rw [sM_n (by omega), sM_n (by omega), y33, up_n (by omega), up_n (by omega), up_n (by omega)]
        exact h23
      · exact (addS_s (C := B) (by omega)).2.2.2.2
      · dsimp only
        rw [sM_r, sM_r, sM_r, sM_r, sM_r, z213, hs]
        exact RR_add hC v2 hs (by omega)
      · dsimp only
        rw [sM_r, sM_r, y33, hs]
        exact RR_add hN v2 hs (by omega)
    · refine si_t (by omega) (si_swap (si_f c6 ?_))
      refine si_call f_refuse (fun x hx => si_some (si_call m_fails (fun y hy => si_some ⟨fq3_of (fq_tr z1 hx.2.1), fq3N_of hy.2.1, Or.inl ⟨hx.1, hy.1, ?_, ?_⟩⟩)))
      · show y.2 30 3 = x.2 34 1
        rw [hy.2.2.1, hx.2.2.1]
      · show y.2 30 7 = x.2 34 2
        rw [hy.2.2.2.1, hx.2.2.2, p6]
  · have hz0 : kOf z3 = -1 := by
      rcases hz3 with ⟨q1, q2⟩ | ⟨q1, q2⟩
      · rw [q2]; rfl
      · rw [q2, hb q1]
        by_cases c : kOf (m 35 (m 34 3)) = -1
        · exact c
        · exact absurd ⟨q1, c⟩ p1
    rw [if_pos hz0]
    refine si_t p2 (si_some (si_t rfl (si_call m_fails (fun y hy => si_some ⟨fq3_of z1, fq3N_of hy.2.1, Or.inl ⟨rfl, hy.1, ?_, ?_⟩⟩))))
    · show y.2 30 3 = z.2 34 1
      rw [hy.2.2.1, p3]
    · show y.2 30 7 = z.2 34 2
      rw [hy.2.2.2.1, p4]
-- the whole
theorem loopO_r {σ ρ : Type} {b : σ → Option (σ ⊕ ρ)} {x : σ} {r : ρ} {n : Nat} (h : b x = some (.inr r)) : loopO b (n + 1) x = some r := by
  unfold loopO
  rw [h]
theorem si_loopR {σ ρ σ' ρ' : Type} {b1 : σ → Option (σ ⊕ ρ)} {b2 : σ' → Option (σ' ⊕ ρ')} {K : ρ → ρ' → Prop} (I : Nat → σ → σ' → Prop) (N : Nat) (hs : ∀ i x x', i ≤ N → I i x x' → Sat (b1 x) (sE (fun z => i < N ∧ Sat (b2 x') (fun y' => ∃ z', y' = .inl z' ∧ I (i + 1) z z')) (fun r => ∀ n, 3 ≤ n → Sat (loopO b2 n x') (fun r' => K r r')))) : ∀ (n n' : Nat) (x0 : σ) (x0' : σ'), N < n → N + 3 < n' → I 0 x0 x0' → Sat (loopO b1 n x0) (fun r => Sat (loopO b2 n' x0') (fun r' => K r r')) := by
  have key : ∀ (d i n n' : Nat) (x : σ) (x' : σ'), N - i = d → i ≤ N → N - i < n → N - i + 3 < n' → I i x x' → Sat (loopO b1 n x) (fun r => Sat (loopO b2 n' x') (fun r' => K r r')) := by
    intro d
    induction d with
    | zero =>
      intro i n n' x x' hd hi hn hn' hI
      obtain ⟨n, rfl⟩ : ∃ m, n = m + 1 := ⟨n - 1, by omega⟩
      obtain ⟨y, hy, hk⟩ := hs i x x' hi hI
      cases y with
      | inl z => exact absurd hk.1 (by omega)
      | inr r => exact ⟨r, loopO_r hy, hk n' (by omega)⟩
    | succ d ih =>
      intro i n n' x x' hd hi hn hn' hI
      obtain ⟨n, rfl⟩ : ∃ m, n = m + 1 := ⟨n - 1, by omega⟩
      obtain ⟨y, hy, hk⟩ := hs i x x' hi hI
      cases y with
      | inl z =>
        obtain ⟨n', rfl⟩ : ∃ m, n' = m + 1 := ⟨n' - 1, by omega⟩
        obtain ⟨_, y', hy', z', rfl, hI'⟩ := hk
        unfold loopO
        rw [hy, hy']
        exact ih (i + 1) n n' z z' (by omega) (by omega) (by omega) (by omega) hI'
      | inr r => exact ⟨r, loopO_r hy, hk n' (by omega)⟩
  intro n n' x0 x0' hn hn' h0
  exact key N 0 n n' x0 x0' (by omega) (by omega) (by omega) (by omega) h0
theorem loop_1 {σ ρ : Type} {b : σ → Option (σ ⊕ ρ)} {K : ρ → Prop} {x : σ} {n : Nat} (hn : 1 ≤ n) {P : ρ → Prop} (h : Sat (b x) (sE (fun _ => False) P)) (hk : ∀ r, P r → K r) : Sat (loopO b n x) K := by
  obtain ⟨m, rfl⟩ : ∃ m, n = m + 1 := ⟨n - 1, by omega⟩
  obtain ⟨y, hy, hp⟩ := h
  unfold loopO
  rw [hy]
  cases y with
  | inl z => exact absurd hp id
  | inr r => exact si_some (hk r hp)
theorem loop_s {σ ρ : Type} {b : σ → Option (σ ⊕ ρ)} {K : ρ → Prop} {x : σ} {n : Nat} (hn : 2 ≤ n) (h : Sat (b x) (sE (fun z => ∀ m, 1 ≤ m → Sat (loopO b m z) K) (fun _ => False))) : Sat (loopO b n x) K := by
  obtain ⟨m, rfl⟩ : ∃ m, n = m + 1 := ⟨n - 1, by omega⟩
  obtain ⟨y, hy, hp⟩ := h
  unfold loopO
  rw [hy]
  cases y with
  | inl z => exact hp m (by omega)
  | inr r => exact absurd hp id
def rdQ (m k : Mm) (z y : Int × Mm) : Prop := fq3 m z.2 ∧ fq3N k y.2 ∧ ((z.1 = 0 ∧ y.1 = 0 ∧ Flt z.2 y.2) ∨ (z.1 = 1 ∧ y.1 = 1 ∧ y.2 30 3 = z.2 34 1 ∧ y.2 3 23 = 1 ∧ ∃ B : Rv, VR B ∧ B 0 = 0 ∧ RR B (z.2 3) ∧ RR B (y.2 3)))
/-- behind so many swans -/
def rvI (m k : Mm) (i : Nat) (x y : Int × Mm) : Prop := x.1 = i ∧ y.1 = 1 ∧ fq3 m x.2 ∧ fq3N k y.2 ∧ RT x.2 y.2 ∧ y.2 3 23 = 1 ∧ ∃ B : Rv, VP B ∧ B 25 = i ∧ RR B (x.2 3) ∧ RR B (y.2 3)
def rvB (x4 : Int × Mm) : Option ((Int × Mm) ⊕ (Int × Mm)) := if x4.1 = 0 then (some (.inr x4)) else (if (x4.2 30 5) < (x4.2 30 2) then ((f_X6_takesSwan x4.2).bind fun z14 => some (.inl (z14.1, z14.2))) else (chk ((0 : Int) ≤ 139 ∧ 139 < (152 : Int)) (if (rdW x4.2 139) = 0 then ((f_X6_takesSwan x4.2).bind fun z24 => some (.inl (z24.1, z24.2))) else (some (.inr x4)))))
theorem rvB_0 {o : Int} (k : Mm) (ho : o = 0) : rvB (o, k) = some (.inr (o, k)) := by
  unfold rvB
  dsimp only
  rw [if_pos ho]
theorem rvB_r {k : Mm} (h : k 30 5 < k 30 2 ∨ rdW k 139 = 0) : rvB (1, k) = (f_X6_takesSwan k).bind fun z14 => some (.inl (z14.1, z14.2)) := by
  unfold rvB
  dsimp only
  rw [if_neg (show ¬ (1 : Int) = 0 by decide)]
  by_cases c : k 30 5 < k 30 2
  · rw [if_pos c]
  · rw [if_neg c]
    unfold chk
    rw [if_pos (by decide), if_pos (by rcases h with h | h; exact absurd h c; exact h)]
theorem rvB_e {k : Mm} (h : ¬ k 30 5 < k 30 2) (h2 : ¬ rdW k 139 = 0) : rvB (1, k) = some (.inr (1, k)) := by
  unfold rvB
  dsimp only
  rw [if_neg (show ¬ (1 : Int) = 0 by decide), if_neg h]
  unfold chk
  rw [if_pos (by decide), if_neg h2]
def KK (m k : Mm) (r : (Int × Mm) ⊕ (Int × Mm)) (y : Int × Mm) : Prop := sE (fun _ => False) (fun q : Int × Mm => rdQ m k q y) r
theorem read2 {μ ν : Mm} (hT : TapeR μ ν) : Sat (f_X4_readInto μ 3) (fun z => Sat ((f_X6_takesLaw (sM ν 30 5 0)).bind fun z3 => loopO rvB 1000 (z3.1, z3.2)) (fun y : Int × Mm => rdQ (sM μ 34 3 0) (sM ν 30 5 0) z y)) := by
  obtain ⟨t1, t2, t3, t4, t5⟩ := hT
  unfold f_X4_readInto
  refine si_bnd ?_
  have hRT : RT (sM μ 34 3 0) (sM ν 30 5 0) := by
    refine ⟨?_, ?_, ?_, ?_, fun i p q => ?_, ?_, ?_⟩
    · rw [sM_n (by decide), sM_n (by decide)]; exact t1
    · rw [sM_s]; exact Int.le_refl _
    · rw [sM_s, sM_n (by decide)]; exact t2
    · rw [sM_n (by decide)]; exact t3
    · rw [sM_n (by decide)] at q
      rw [sM_g (by decide), sM_g (by decide)]
      exact t4 i p q
    · rw [sM_n (by decide), sM_n (by decide)]; exact t5
    · rw [sM_s, sM_s]
  generalize sM μ 34 3 0 = m at *
  generalize sM ν 30 5 0 = k at *
  refine si_call2 (law2 hRT) (fun z y hzy => ?_)
  obtain ⟨f1, f2, hzy⟩ := hzy
  rcases hzy with ⟨a1, a2, a3⟩ | ⟨a1, a2, a3, a4, B, a5, a6, a7, a8⟩
  · refine si_t a1 (si_some ?_)
    exact loop_1 (P := fun r => r = (y.1, y.2)) (by decide) ⟨_, rvB_0 y.2 a2, rfl⟩ (fun r hr => ⟨f1, by rw [hr]; exact f2, Or.inl ⟨rfl, by rw [hr]; exact a2, by rw [hr]; exact a3⟩⟩)
  refine si_f (by omega) ?_
  refine si_call (P := fun r => Sat (loopO rvB 1000 (y.1, y.2)) (fun y' => KK m k r y')) (si_loopR (K := KK m k) (rvI m k) 7 ?_ 1000 1000 (0, z.2) (y.1, y.2) (by decide) (by decide) ⟨rfl, a2, f1, f2, a3, a4, B, a5, a6, a7, a8⟩) (fun r hr => ?_)
  · rintro i ⟨s, m'⟩ ⟨ok, k'⟩ hi ⟨g1, g2, g3, g4, g5, g6, B, g7, g8, g9, g10⟩
    dsimp only at g1 g2 g3 g4 g5 g6 g9 g10 ⊢
    subst g1 g2
    have hBi := g7.2.2.2.1
    have k25 : rdW k' 139 = i := by rw [rd3 (o := 25) (by decide) (by decide), g10.2.1, g8]
    have hread : (k' 30 5 < k' 30 2 ∨ i = 0) → Sat ((f_X4_readSwan m' 3 i).bind fun z9 => if z9.1 = 0 then (some (.inr (.inr (0, z9.2)))) else (some (.inl (w3 ((i : Int) + 1), z9.2)))) (sE (fun z => i < 7 ∧ Sat (rvB (1, k')) (fun y' => ∃ z', y' = .inl z' ∧ rvI m k (i + 1) z z')) (fun r => ∀ n, 3 ≤ n → Sat (loopO rvB n (1, k')) (fun r' => KK m k r r'))) := fun hc => by
      have hRB := rvB_r (k := k') (by rcases hc with hc | hc; exact Or.inl hc; exact Or.inr (by omega))
      have hsw := swan2 g5 g7 g9 g10 g6
      rw [g8] at hsw
      refine si_call hsw (fun z9 hz9 => ?_)
      obtain ⟨yy, hyy, q1, q2, q⟩ := hz9
      have heq : rvB (1, k') = some (.inl (yy.1, yy.2)) := by rw [hRB, hyy]; rfl
      rcases q with ⟨p1, p2, p3⟩ | ⟨p1, p2, p3, p4, p5, B', p6, p7, p8, p9⟩
      · refine si_t p1 (si_some (fun n hn => loop_s (by omega) ⟨_, heq, fun mm hmm => loop_1 hmm (P := fun r => r = (yy.1, yy.2)) ⟨_, rvB_0 yy.2 p2, rfl⟩ (fun r hr => ?_)⟩))
        exact ⟨fq3_tr g3 q1, by rw [hr]; exact fq3N_tr g4 q2, Or.inl ⟨rfl, by rw [hr]; exact p2, by rw [hr]; exact p3⟩⟩
      · refine si_f (by omega) (si_some ⟨by omega, _, heq, (yy.1, yy.2), rfl, w3s i (by omega), p2, fq3_tr g3 q1, fq3N_tr g4 q2, p4, p5, B', p6, ?_, p8, p9⟩)
        rw [p7, g8]
        omega
    refine si_f (by omega) (si_if (fun c => hread (Or.inr (by omega))) (fun c => si_if (fun c1 => hread (Or.inl ?_)) (fun c1 => si_some (fun n hn => loop_1 (P := fun r => r = (1, k')) (by omega) ⟨_, rvB_e ?_ (by omega), rfl⟩ (fun r hr => ?_)))))
    · rw [g5.2.2.2.2.2.2, g5.1]; exact c1
    · rw [g5.2.2.2.2.2.2, g5.1]; exact c1
    · rw [hr]
      exact ⟨g3, g4, Or.inr ⟨rfl, rfl, g5.2.2.2.2.2.1, g6, B, VP_VR g7 (by omega), g7.2.2.2.2.1, g9, g10⟩⟩
  · cases r with
    | inl e =>
      obtain ⟨_, _, hf⟩ := hr
      exact absurd hf id
    | inr q => exact si_some hr
theorem b_river {μ ν : Mm} (h : Rel μ ν) : Both (f_X5_river μ) (f_X6_river ν) := by
  obtain ⟨A, hA⟩ := h
  unfold f_X5_river f_X6_river
  refine si_call (read2 hA.2.2.1) (fun z hz => si_bnd ?_)
  refine si_swap (si_bnd (si_call3 hz (fun y hy => si_bnd (si_swap ?_))))
  obtain ⟨f1, f2, hy⟩ := hy
  have g1 : ∀ g, g ≠ 34 → g ≠ 3 → z.2 g = μ g := fun g a b => (f1.1 g a b).trans (sM_g a)
  have g2 : ∀ g, g ≠ 30 → g ≠ 3 → y.2 g = ν g := fun g a b => (f2.1 g a b).trans (sM_g a)
  have g3 : ∀ o : Int, (o < 3 ∨ o = 4) → y.2 30 o = ν 30 o := fun o ho => (f2.2 o ho).trans (sM_n (by omega))
  rcases hy with ⟨a1, a2, a3, a4⟩ | ⟨a1, a2, a3, a4, B, a5, a6, a7, a8⟩
  · refine si_t a1 (si_some (si_t a2 (si_some ⟨?_, A, ?_⟩)))
    · show w3 (-1000100 - sM y.2 30 2 0 30 7) = w3 (-1000100 - sM z.2 34 0 0 34 2)
      rw [sM_n (by decide), sM_n (by decide), a4]
    · show RelA (sM z.2 34 0 0) (sM y.2 30 2 0) A
      refine RelA_tape hA (fun g a _ b _ => by rw [sM_g b]; exact g1 g b a) (fun g a b _ _ => by rw [sM_g b]; exact g2 g b a) (by rw [sM_n (by decide)]; exact g3 0 (Or.inl (by decide))) (by rw [sM_n (by decide)]; exact g3 1 (Or.inl (by decide))) (by rw [sM_n (by decide)]; exact g3 4 (Or.inr rfl)) ?_
      unfold TapeR
      rw [sM_s, sM_s, sM_n (by decide), sM_n (by decide)]
      exact ⟨rfl, by decide, by decide, fun i p q => by omega, a3⟩
  · refine si_f (by omega) (si_swap (si_f (by omega) (si_swap ?_)))
    refine si_call (f_become (r := 0) (q := 3) (by decide)) (fun u hu => ?_)
    unfold f_X0_forget
    refine si_call (P := fun x => x = sM u 31 1 0) (si_bnd (si_some rfl)) (fun x hx => si_some ?_)
    subst hx
    refine si_call (m_copyAll (a := 3) (b := 0) (by decide) (by decide) (by decide)) (fun v hv => si_bnd (si_chk (by decide) (si_some ⟨?_, B, ?_⟩)))
    · obtain ⟨u1, u2, u3, u4⟩ := hu
      obtain ⟨k1, k2⟩ := hv
      show rdW (sM v 30 0 0) 25 = sM u 31 1 0 0 25
      rw [rd0 (by decide), sM_n (by decide), sM_n (by decide), k2 25 (by decide) (by decide), u2 25 (by decide) (by decide) (by decide), sM_n (by decide), sM_n (by decide), a7.2.1, a8.2.1]
    · obtain ⟨u1, u2, u3, u4⟩ := hu
      obtain ⟨k1, k2⟩ := hv
      show RelA (sM u 31 1 0) (sM v 30 0 0) B
      refine RelA_new hA (fun g a b _ c d => by rw [sM_g c, u1 g a, sM_g d]; exact g1 g d b) (fun g a b c _ => by rw [sM_g c, k1 g a, sM_g c]; exact g2 g c b) (by rw [sM_n (by decide), u1 31 (by decide), sM_n (by decide)]; rw [g1 31 (by decide) (by decide)]) (sM_s _ _ _ _) (sM_s _ _ _ _) (by rw [sM_n (by decide), k1 30 (by decide), sM_n (by decide)]; exact g3 1 (Or.inl (by decide))) (by rw [sM_n (by decide), k1 30 (by decide), sM_n (by decide)]; exact g3 4 (Or.inr rfl)) ?_ ⟨?_, ?_, Or.inl ⟨a5, by omega, by omega, ?_⟩⟩
      · unfold TapeR
        have e1 : sM u 31 1 0 34 = sM z.2 34 0 0 34 := by rw [sM_g (by decide)]; exact u1 34 (by decide)
        have e2 : sM v 30 0 0 30 2 = 0 := by rw [sM_n (by decide), k1 30 (by decide), sM_s]
        have e3 : sM v 30 0 0 30 3 = y.2 30 3 := by rw [sM_n (by decide), k1 30 (by decide), sM_n (by decide)]
        rw [e1, e2, e3, sM_s, sM_n (by decide)]
        exact ⟨rfl, by decide, by decide, fun i p q => by omega, a3⟩
      · rw [sM_g (by decide)]
        exact RR_copy a5.2.1 a5.2.2.2.1 a7 (fun o p q r => by rw [u2 o p q r, sM_g (by decide)])
      · rw [sM_g (by decide)]
        exact RR_copy a5.2.1 a5.2.2.2.1 a8 (fun o p q _ => by rw [k2 o p q, sM_g (by decide)])
      · rw [sM_g (by decide), k2 23 (by decide) (by decide), sM_g (by decide)]
        exact a4
