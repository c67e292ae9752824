/-! BY WHERE IT WAS: who, which. -/
def fitN (B : Rv) (k : Int) (f : Int → Int) : Nat → Bool
  | 0 => true
  | d + 1 => fitN B k f d && decide (itD B (d + 1) (11 + k) = f (d : Int))
theorem fitN_s {B : Rv} {k : Int} {f : Int → Int} {d : Nat} : fitN B k f (d + 1) = true ↔ fitN B k f d = true ∧ itD B (d + 1) (11 + k) = f (d : Int) := by
  show (fitN B k f d && decide (itD B (d + 1) (11 + k) = f (d : Int))) = true ↔ _
  rw [Bool.and_eq_true, decide_eq_true_eq]
theorem fitN_mono {B : Rv} {k : Int} {f : Int → Int} {t n : Nat} (h : t ≤ n) (hn : fitN B k f n = true) : fitN B k f t = true := by
  induction n with
  | zero =>
    have : t = 0 := by omega
    rw [this]; exact hn
  | succ n ih =>
    by_cases c : t = n + 1
    · rw [c]; exact hn
    · exact ih (by omega) (fitN_s.mp hn).1
theorem f_fits {m : Mm} {B : Rv} (hV : VR B) (hR : RR B (m 3)) (h40 : m 3 40 = 0) {s : Int} (hs : 0 ≤ s ∧ s < B 25) {r : Nat} (hr : r < 8) {i : Int} {n : Nat} (hi : 0 ≤ i ∧ i + n ≤ 40) : Sat (f_X5_trialFits m s r i n) (fun z => frC m z.2 ∧ z.1 = if fitN B s (fun d => m (50 + r) (i + d)) n = true then 1 else 0) := by
  have h6 := hV.2.2.2.1
  unfold f_X5_trialFits
  refine si_call (P := sE (fun e : Int × Mm => frC m e.2 ∧ fitN B s (fun d => m (50 + r) (i + d)) n = true) (fun y : Int × Mm => y.1 = 0 ∧ frC m y.2 ∧ ¬ fitN B s (fun d => m (50 + r) (i + d)) n = true)) (si_loop (fun t (x : Int × Mm) => x.1 = t ∧ t ≤ n ∧ (∀ g, g ≠ 3 → x.2 g = m g) ∧ RR (itD B t) (x.2 3) ∧ x.2 3 40 = sumLost B t ∧ fitN B s (fun d => m (50 + r) (i + d)) t = true) n ?_ 1000 (0, m) (by omega) ⟨rfl, by omega, fun _ _ => rfl, hR, h40, rfl⟩) (fun y hy => ?_)
  · rintro t ⟨b, k⟩ ht ⟨hb, htn, f1, f2, f3, f4⟩
    dsimp only at hb f1 f2 f3 f4 ⊢
    subst hb
    have hsl := sumLost_in hV t
    refine si_if (fun c => si_some ⟨fun g a _ => f1 g a, ?_⟩) (fun c => ?_)
    · have : t = n := by omega
      subst this
      exact f4
    refine si_call (f_passDay (VR_it hV t).1 f2 (by omega)) (fun z hz => si_chk (by omega) ?_)
    obtain ⟨g1, g2, g3, g4⟩ := hz
    unfold f_X3_itemAt
    rw [w3_id (x := i + (t : Int)) (by omega) (by omega), zadd, Int.toNat_natCast, g1 (50 + r) (by omega), f1 (50 + r) (by omega)]
    refine si_call (P := fun v => v = m (50 + r) (i + t)) (si_chk (by omega) (si_chk (by omega) (si_some rfl))) (fun v hv => ?_)
    have hp : z 3 (11 + s) = itD B (t + 1) (11 + s) := (g2.2.2.2.2.2 s hs.1 (by rw [(VR_day (VR_it hV t).1).2.2.1, (VR_it hV t).2.2.1]; exact hs.2)).1
    rw [hp, hv]
    refine si_if (fun c1 => si_some ⟨by omega, w3s t (by omega), by omega, fun g hg => (g1 g hg).trans (f1 g hg), g2, ?_, fitN_s.mpr ⟨f4, c1⟩⟩) (fun c1 => si_some ⟨rfl, fun g a _ => (g1 g a).trans (f1 g a), fun q => c1 (fitN_s.mp (fitN_mono (t := t + 1) (by omega) q)).2⟩)
    show z 3 40 = sumLost B t + dayLost (itD B t)
    rw [g3, f3]
  · cases y with
    | inl e => exact si_some ⟨hy.1, by show (1 : Int) = _; rw [if_pos hy.2]⟩
    | inr e => exact si_some ⟨hy.2.1, by show e.1 = _; rw [if_neg hy.2.2]; exact hy.1⟩
theorem m_isSo {k : Mm} {B : Rv} (hV : VR B) (hR : RR B (k 3)) {s : Int} (hs : 0 ≤ s ∧ s < B 25) {p : Int} {n : Nat} (hp : 0 ≤ p ∧ p + n ≤ 320) (hn : n ≤ 100) {f : Int → Int} (hf : ∀ d : Int, 0 ≤ d → d < n → k 32 (p + d) = f d) : Sat (f_X6_isSo k s p n) (fun y => frM k y.2 ∧ y.1 = if fitN B s f n = true then 1 else 0) := by
  have h6 := hV.2.2.2.1
  unfold f_X6_isSo
  refine si_call (P := fun e : Int × Int × Mm => frM k e.2.2 ∧ e.1 = if fitN B s f n = true then 1 else 0) (si_loop (fun t (x : Int × Int × Mm) => x.2.1 = t ∧ t ≤ n ∧ frM k x.2.2 ∧ RR (itD B t) (x.2.2 3) ∧ x.1 = if fitN B s f t = true then 1 else 0) n ?_ 1000 (1, 0, k) (by omega) ⟨rfl, by omega, frM_rf k, hR, rfl⟩) (fun e he => si_chk ?_ (si_some he))
  · rintro t ⟨a, b, m⟩ ht ⟨hb, htn, f1, f2, f3⟩
    dsimp only at hb f1 f2 f3 ⊢
    subst hb
    refine si_if (fun c => si_some ⟨f1, ?_⟩) (fun c => si_call (m_pass3 (VR_it hV t).1 f2) (fun z hz => ?_))
    · have : t = n := by omega
      subst this
      exact f3
    have hfr := frM_tr f1 hz.1
    have hz2 : RR (itD B (t + 1)) (z 3) := hz.2.1
    by_cases c1 : fitN B s f t = true
    · rw [if_pos c1] at f3
      refine si_f (by omega) ?_
      have h3 := (hz2.2.2.2.2.2 s hs.1 (by rw [(VR_it hV (t + 1)).2.2.1]; exact hs.2)).1
      rw [w3_id (x := 125 + s) (by omega) (by omega), w3_id (x := p + (t : Int)) (by omega) (by omega), rd3 (o := 11 + s) (by omega) (by omega), zadd, h3, hfr.1 32 (by decide) (by decide), hf t (by omega) (by omega)]
      refine si_chk (by omega) (si_chk (by omega) (si_if (fun c2 => si_some ⟨by omega, w3s t (by omega), by omega, hfr, hz2, ?_⟩) (fun c2 => si_some ⟨by omega, w3s t (by omega), by omega, hfr, hz2, ?_⟩)))
      · rw [if_pos (fitN_s.mpr ⟨c1, c2⟩)]
      · rw [if_neg (fun q => c2 (fitN_s.mp q).2)]
    · rw [if_neg c1] at f3
      refine si_t f3 (si_some ⟨by omega, w3s t (by omega), by omega, hfr, hz2, ?_⟩)
      rw [if_neg (fun q => c1 (fitN_s.mp q).1)]
  · rw [he.2]
    split
    · exact Or.inr rfl
    · exact Or.inl rfl
theorem frN_good {ν k : Mm} (h : frN ν k) : frN (sM ν 30 1 0) (sM k 30 1 0) := by
  refine ⟨fun g a b c => by rw [sM_g b, sM_g b]; exact h.1 g a b c, fun o ho => ?_⟩
  by_cases c : o = 1
  · rw [c, sM_s, sM_s]
  · rw [sM_n (fun q => c q.2), sM_n (fun q => c q.2)]
    exact h.2 o ho
/-- one guess, or one swan, on both sides -/
theorem fits2 {m k : Mm} {B : Rv} (hV : VR B) (hC : RR B (m 3)) (h40 : m 3 40 = 0) (hN : RR B (k 3)) {s : Int} (hs : 0 ≤ s ∧ s < B 25) {r : Nat} (hr : r < 8) {i : Int} {n : Nat} (hi : 0 ≤ i ∧ i + n ≤ 40) (hit : ∀ j : Int, 0 ≤ j → j < 40 → k 32 (40 * (r : Int) + j) = m (50 + r) j) {a t : Int} (ha : inR a) {K : (Int × Int × Mm) ⊕ (Int × Int × Mm) → (Int × Int × Mm) ⊕ (Int × Int × Mm) → Prop} (hK : ∀ a' m' k', inR a' → frC m m' → frM k k' → K (.inl (a', w3 (t + 1), m')) (.inl (a', w3 (t + 1), k'))) :
    Sat ((f_X5_trialFits m s r i n).bind fun z22 => if z22.1 = 0 then (some (.inl (a, w3 (t + 1), z22.2))) else (bnd ((bOr a (bShl 1 t) : Int)) fun a24 => some (.inl (a24, w3 (t + 1), z22.2)))) (fun x => Sat ((f_X6_isSo k s (40 * (r : Int) + i) n).bind fun z28 => if z28.1 = 0 then (some (.inl (bOr a 0, w3 (t + 1), z28.2))) else (bnd ((bOr a (bShl 1 t) : Int)) fun a30 => some (.inl (a30, w3 (t + 1), z28.2)))) (fun y => K x y)) := by
  refine si_call (f_fits hV hC h40 hs hr hi) (fun z hz => ?_)
  have hso := m_isSo (p := 40 * (r : Int) + i) (n := n) hV hN hs (by omega) (by omega) (f := fun d => m (50 + r) (i + d)) (fun d p q => by rw [show 40 * (r : Int) + i + d = 40 * r + (i + d) by omega]; exact hit _ (by omega) (by omega))
  by_cases c : fitN B s (fun d => m (50 + r) (i + d)) n = true
  · rw [if_pos c] at hz
    refine si_f (by omega) (si_bnd (si_some (si_call hso (fun y hy => ?_))))
    rw [if_pos c] at hy
    exact si_f (by omega) (si_bnd (si_some (hK _ _ _ (toInt_R _) hz.1 hy.1)))
  · rw [if_neg c] at hz
    refine si_t hz.2 (si_some (si_call hso (fun y hy => ?_)))
    rw [if_neg c] at hy
    refine si_t hy.2 (si_some ?_)
    rw [bOr_0 ha]
    exact hK _ _ _ ha hz.1 hy.1
theorem b_which {μ ν : Mm} (h : Rel μ ν) {r i n : Int} (hiR : inR i) : Both (f_X5_which μ r i n) (f_X6_which ν r i n) := by
  have hRel := h
  obtain ⟨A, hA⟩ := h
  have hN := hA.1
  unfold f_X5_which f_X6_which
  rw [c_hasRiver' hN, within_eq, within_eq, isRow_eq, in_eq]
  by_cases c1 : 0 < A 24
  · obtain ⟨hV, -⟩ := NowR_V hN (Or.inr c1)
    have h6 := hV.2.2.2.1
    have h5 := hV.2.2.1
    rw [if_pos c1]
    refine si_f (by decide) (si_swap (m_rv hN c1 (si_f (by decide) (si_swap ?_))))
    by_cases c2 : 0 ≤ r ∧ r ≤ 7
    · obtain ⟨r, rfl⟩ := nat_of c2.1
      rw [if_pos c2]
      refine si_f (by decide) (si_swap (si_f (by decide) (si_swap ?_)))
      by_cases c3 : 1 ≤ n ∧ n ≤ 12
      · obtain ⟨n, rfl⟩ := nat_of (show 0 ≤ n by omega)
        rw [if_pos c3]
        refine si_f (by decide) (si_swap (si_f (by decide) (si_swap ?_)))
        refine si_call2 (both_against hA (r := r) (by omega) hiR c3) (fun z y hzy => ?_)
        rcases hzy with ⟨rfl, rfl, i0, i1⟩ | ⟨z0, y0, y1, y2⟩
        · have hr40 := (hA.2.1 r (by omega)).1.2.2.2.1
          refine si_t rfl (si_swap (si_t (Int.le_refl 0) (si_swap (si_bnd ?_))))
          dsimp only
          have hA0 := RelA_found hA 0
          rw [w3_id (x := 40 * (r : Int)) (by omega) (by omega), w3_id (x := 40 * (r : Int) + i) (by omega) (by omega)]
          refine si_call2 (P := fun (x y : Int × Int × Mm) => x.1 = y.1 ∧ frC (sM μ 30 0 0) x.2.2 ∧ frM ν y.2.2) (si_loop2 (fun t (x y : Int × Int × Mm) => x.1 = y.1 ∧ inR x.1 ∧ x.2.1 = t ∧ y.2.1 = t ∧ (t : Int) ≤ A 25 ∧ frC (sM μ 30 0 0) x.2.2 ∧ frM ν y.2.2) (A 25).toNat ?_ 1000 1000 (0, 0, sM μ 30 0 0) (0, 0, ν) (by omega) (by omega) ⟨rfl, inR_0, rfl, rfl, by omega, frC_rf _, frM_rf ν⟩) (fun x y hxy => ?_)
          · rintro t ⟨a, u, m⟩ ⟨a', u', k⟩ ht ⟨ha, haR, hu, hu', htA, f1, f2⟩
            dsimp only at ha haR hu hu' f1 f2 ⊢
            subst ha hu hu'
            have hR0 : RR A (m 0) := by rw [f1 0 (by decide) (by decide), sM_g (by decide)]; exact hN.1
            have hR0' : RR A (k 0) := by rw [f2.1 0 (by decide) (by decide)]; exact hN.2.1
            rw [rd0 (by decide), hR0'.2.1]
            simp only [hR0.2.1]
            refine si_swap (si_chk (by decide) (si_swap ?_))
            refine si_if (fun c => si_some (si_t c (si_some ⟨rfl, f1, f2⟩))) (fun c => si_swap (si_f c ?_))
            refine si_call (m_tries hV.2.1 hV.2.2.2.1 hR0') (fun k2 hk2 => si_swap (si_call (f_become (r := 3) (q := 0) (by decide)) (fun m2 hm2 => ?_)))
            have f1' : frC (sM μ 30 0 0) m2 := fun g a b => (hm2.1 g a).trans (f1 g a b)
            have f2' : frM ν k2 := frM_tr f2 hk2.1
            refine fits2 (B := A) hV (RR_copy hV.2.1 hV.2.2.2.1 hR0 hm2.2.1) hm2.2.2.1 hk2.2 ⟨by omega, by omega⟩ (by omega) ⟨i0, by omega⟩ (fun j p q => ?_) haR (fun a' m' k' q1 q2 q3 => ⟨by omega, rfl, q1, w3s t (by omega), w3s t (by omega), by omega, frC_tr f1' q2, frM_tr f2' q3⟩)
            rw [f2'.1 32 (by decide) (by decide), f1' (50 + r) (by omega) (by omega), sM_g (by omega)]
            exact (hA.2.1 r (by omega)).2 j p q
          · refine si_some ?_
            unfold f_X6_good
            refine si_call (P := fun v : Int × Mm => v.1 = y.1 ∧ v.2 = sM y.2.2 30 1 0) (si_bnd (si_some ⟨rfl, rfl⟩)) (fun v hv => si_some ⟨hv.1.trans hxy.1.symm, A, ?_⟩)
            show RelA x.2.2 v.2 A
            rw [hv.2]
            exact RelA_fr hA0 hxy.2.1 (frN_good (frN_of hxy.2.2))
        · refine si_f z0 (si_swap (si_f (by omega) (si_some ?_)))
          unfold f_X5_found
          exact si_call (P := fun x : Int × Mm => x.1 = w3 (-1000010 - z) ∧ x.2 = sM μ 30 0 z) (si_bnd (si_some ⟨rfl, rfl⟩)) (fun x hx => si_some ⟨by rw [hx.1]; exact y1, by rw [hx.2]; exact y2⟩)
      · rw [if_neg c3]
        exact si_t rfl (si_some (si_t rfl (si_some ⟨rfl, hRel⟩)))
    · rw [if_neg c2]
      exact si_t rfl (si_some (si_t rfl (si_some ⟨rfl, hRel⟩)))
  · rw [if_neg c1]
    exact si_t rfl (both_same hRel (m_rvN hN c1 (si_t rfl (si_some ⟨rfl, rfl⟩))))
/-- what is supposed of swan k -/
def supO (w : Int) : Int := if w = 0 then 26 else if w = 1 then 11 else 17
theorem VR_sup {A : Rv} (hV : VR A) {w k g : Int} (hk : 0 ≤ k ∧ k < A 25) (hw : 0 ≤ w ∧ w ≤ 2) (hg : (w = 0 → 1 ≤ g ∧ g ≤ 5) ∧ (w = 1 → 0 ≤ g ∧ g < A 24) ∧ (w = 2 → 1 ≤ g ∧ g ≤ 9)) : VR (up A (supO w + k) g) ∧ up A (supO w + k) g 24 = A 24 ∧ up A (supO w + k) g 25 = A 25 ∧ 11 ≤ supO w ∧ supO w ≤ 26 := by
  have h6 := hV.2.2.2.1
  have h9 := hV.2.1
  obtain ⟨g0, g1, g2⟩ := hg
  have hc : (w = 0 ∧ supO w = 26) ∨ (w = 1 ∧ supO w = 11) ∨ (w = 2 ∧ supO w = 17) := by
    unfold supO
    have : w = 0 ∨ w = 1 ∨ w = 2 := by omega
    rcases this with rfl | rfl | rfl
    · exact Or.inl ⟨rfl, rfl⟩
    · exact Or.inr (Or.inl ⟨rfl, rfl⟩)
    · exact Or.inr (Or.inr ⟨rfl, rfl⟩)
  rcases hc with ⟨e, q⟩ | ⟨e, q⟩ | ⟨e, q⟩
  · rw [q]
    have := g0 e
    exact ⟨VR_up hV (by omega) (fun l a b c => by omega) (fun j a b => ⟨fun _ => by omega, fun _ => by omega, fun _ => by omega, fun _ => by omega⟩), up_n (by omega), up_n (by omega), by decide, by decide⟩
  · rw [q]
    have := g1 e
    exact ⟨VR_up hV (by omega) (fun l a b c => by omega) (fun j a b => ⟨fun _ => by omega, fun _ => by omega, fun _ => by omega, fun _ => by omega⟩), up_n (by omega), up_n (by omega), by decide, by decide⟩
  · rw [q]
    have := g2 e
    exact ⟨VR_up hV (by omega) (fun l a b c => by omega) (fun j a b => ⟨fun _ => by omega, fun _ => by omega, fun _ => by omega, fun _ => by omega⟩), up_n (by omega), up_n (by omega), by decide, by decide⟩
theorem f_suppose {μ : Mm} {A : Rv} (h9 : A 24 ≤ 9) (h6 : A 25 ≤ 6) (hR : RR A (μ 0)) {k w g : Int} (hk : 0 ≤ k ∧ k < A 25) (ho : supO w + k ≠ 24 ∧ supO w + k ≠ 25 ∧ supO w + k < 38) : Sat (f_X5_suppose μ k w g) (fun m => (∀ g, g ≠ 3 → m g = μ g) ∧ RR (up A (supO w + k) g) (m 3) ∧ m 3 40 = 0) := by
  unfold f_X5_suppose
  refine si_call (f_become (r := 3) (q := 0) (by decide)) (fun z hz => ?_)
  obtain ⟨g1, g2, g3, g4⟩ := hz
  have h3 := RR_copy h9 h6 hR g2
  have key : ∀ o : Int, o = supO w → Sat (chk ((0 : Int) ≤ k ∧ k < (6 : Int)) (bnd (sM z 3 (o + k) g) fun m5 => some m5)) (fun m => (∀ g, g ≠ 3 → m g = μ g) ∧ RR (up A (supO w + k) g) (m 3) ∧ m 3 40 = 0) := fun o e => by
    subst e
    refine si_chk (by omega) (si_bnd (si_some ⟨fun g hg => by rw [sM_g hg]; exact g1 g hg, ?_, by rw [sM_n (by omega)]; exact g3⟩))
    rw [sM_r]
    exact RR_up h3 ho.1 ho.2.1
  refine si_if (fun c => key 26 ?_) (fun c => si_if (fun c1 => key 11 ?_) (fun c1 => key 17 ?_))
  · unfold supO; rw [if_pos c]
  · unfold supO; rw [if_neg c, if_pos c1]
  · unfold supO; rw [if_neg c, if_neg c1]
theorem b_who {μ ν : Mm} (h : Rel μ ν) {k w o r i n : Int} (hiR : inR i) : Both (f_X5_who μ k w o r i n) (f_X6_who ν k w o r i n) := by
  have hRel := h
  obtain ⟨A, hA⟩ := h
  have hN := hA.1
  unfold f_X5_who f_X6_who
  rw [c_isSwan' hN, within_eq, within_eq, within_eq, isRow_eq, in_eq, in_eq]
  by_cases c1 : 0 ≤ k ∧ k < A 25
  · obtain ⟨hV, -⟩ := NowR_V hN (Or.inl (by omega))
    have h6 := hV.2.2.2.1
    have h9 := hV.2.1
    have h2 := hV.1
    rw [if_pos c1]
    refine si_f (by decide) (si_swap (m_sw hN c1 (si_f (by decide) (si_swap ?_))))
    by_cases cw : 0 ≤ w ∧ w ≤ 2
    · rw [if_pos cw]
      refine si_f (by decide) (si_swap (si_f (by decide) (si_swap ?_)))
      rw [c_isSwan' hN]
      by_cases co : 0 ≤ o ∧ o < A 25
      · rw [if_pos co]
        refine si_f (by decide) (si_swap (m_sw hN co (si_f (by decide) (si_swap ?_))))
        by_cases c2 : 0 ≤ r ∧ r ≤ 7
        · obtain ⟨r, rfl⟩ := nat_of c2.1
          rw [if_pos c2]
          refine si_f (by decide) (si_swap (si_f (by decide) (si_swap ?_)))
          by_cases c3 : 1 ≤ n ∧ n ≤ 12
          · obtain ⟨n, rfl⟩ := nat_of (show 0 ≤ n by omega)
            rw [if_pos c3]
            refine si_f (by decide) (si_swap (si_f (by decide) (si_swap ?_)))
            refine si_call2 (both_against hA (r := r) (by omega) hiR c3) (fun z y hzy => ?_)
            rcases hzy with ⟨rfl, rfl, i0, i1⟩ | ⟨z0, y0, y1, y2⟩
            · have hr40 := (hA.2.1 r (by omega)).1.2.2.2.1
              refine si_t rfl (si_swap (si_t (Int.le_refl 0) (si_swap (si_bnd (si_bnd (si_bnd (si_swap (si_bnd ?_))))))))
              dsimp only
              have hA0 := RelA_found hA 0
              have e24 : sM μ 30 0 0 0 24 = A 24 := by rw [sM_g (by decide)]; exact hN.1.1
              rw [w3_id (x := 40 * (r : Int)) (by omega) (by omega), w3_id (x := 40 * (r : Int) + i) (by omega) (by omega), rd0 (by decide), hN.2.1.1, e24, w3_id (x := A 24 - 1) (by omega) (by omega)]
              refine si_call (P := fun v => v = if w = 0 then 5 else if w = 1 then A 24 - 1 else 9) (si_if (fun c => si_some ?_) (fun c => si_if (fun c' => si_chk (by decide) (si_some ?_)) (fun c' => si_some ?_))) (fun v hv => si_bnd ?_)
              · rw [if_pos c]
              · rw [if_neg c, if_pos c']
              · rw [if_neg c, if_neg c']
              subst hv
              have hso : (if w = 0 then (26 : Int) else if w = 1 then 11 else 17) = supO w := rfl
              rw [hso]
              generalize hM : (if w = 0 then (5 : Int) else if w = 1 then A 24 - 1 else 9) = M
              generalize hL : (if w = 1 then (0 : Int) else 1) = L
              have hML : (w = 0 ∧ M = 5 ∧ L = 1) ∨ (w = 1 ∧ M = A 24 - 1 ∧ L = 0) ∨ (w = 2 ∧ M = 9 ∧ L = 1) := by
                have : w = 0 ∨ w = 1 ∨ w = 2 := by omega
                rcases this with rfl | rfl | rfl
                · rw [if_pos rfl] at hM
                  rw [if_neg (by decide)] at hL
                  omega
                · rw [if_neg (by decide), if_pos rfl] at hM
                  rw [if_pos rfl] at hL
                  omega
                · rw [if_neg (by decide), if_neg (by decide)] at hM
                  rw [if_neg (by decide)] at hL
                  omega
              have hso2 : supO w = 26 ∨ supO w = 11 ∨ supO w = 17 := by
                unfold supO
                split
                · exact Or.inl rfl
                · split
                  · exact Or.inr (Or.inl rfl)
                  · exact Or.inr (Or.inr rfl)
              rw [w3_id (x := 114 + supO w) (by omega) (by omega), w3_id (x := 114 + supO w + k) (by omega) (by omega)]
              refine si_swap (si_call2 (P := fun (x y : Int × Int × Mm) => x.1 = y.1 ∧ frC (sM μ 30 0 0) x.2.2 ∧ frM ν y.2.2) (si_loop2 (fun t (x y : Int × Int × Mm) => x.1 = y.1 ∧ inR x.1 ∧ x.2.1 = L + t ∧ y.2.1 = L + t ∧ L + (t : Int) ≤ M + 1 ∧ frC (sM μ 30 0 0) x.2.2 ∧ frM ν y.2.2) 20 ?_ 1000 1000 (0, L, sM μ 30 0 0) (0, L, ν) (by decide) (by decide) ⟨rfl, inR_0, by show L = L + 0; omega, by show L = L + 0; omega, by omega, frC_rf _, frM_rf ν⟩) (fun x y hxy => ?_))
              · rintro t ⟨a, u, m⟩ ⟨a', u', j⟩ ht ⟨ha, haR, hu, hu', htM, f1, f2⟩
                dsimp only at ha haR hu hu' f1 f2 ⊢
                subst ha hu hu'
                have hR0 : RR A (m 0) := by rw [f1 0 (by decide) (by decide), sM_g (by decide)]; exact hN.1
                have hR0' : RR A (j 0) := by rw [f2.1 0 (by decide) (by decide)]; exact hN.2.1
                refine si_if (fun c => si_some (si_t c (si_some ⟨rfl, f1, f2⟩))) (fun c => si_swap (si_f c ?_))
                obtain ⟨s1, s2, s3, s4, s5⟩ := VR_sup hV (w := w) (g := L + t) c1 cw ⟨fun e => by omega, fun e => by omega, fun e => by omega⟩
                refine si_call (m_tries hV.2.1 hV.2.2.2.1 hR0') (fun k2 hk2 => si_chk (by omega) (si_bnd (si_swap (si_call (f_suppose h9 h6 hR0 c1 (w := w) (g := L + t) (by omega)) (fun m2 hm2 => ?_)))))
                rw [wr3 (o := supO w + k) (by omega) (by omega)]
                have f1' : frC (sM μ 30 0 0) m2 := fun g a b => (hm2.1 g a).trans (f1 g a b)
                have f2' : frM ν (sM k2 3 (supO w + k) (L + t)) := frM_tr (frM_tr f2 hk2.1) (frM_3 (fun g hg => sM_g hg))
                have hw1 : w3 (L + (t : Int) + 1) = L + ((t + 1 : Nat) : Int) := by rw [w3_id (by omega) (by omega)]; omega
                refine fits2 (B := up A (supO w + k) (L + t)) s1 hm2.2.1 hm2.2.2 (by rw [sM_r]; exact RR_up hk2.2 (by omega) (by omega)) (by rw [s3]; exact co) (by omega) ⟨i0, by omega⟩ (fun j p q => ?_) haR (fun a' m' k' q1 q2 q3 => ⟨by omega, rfl, q1, hw1, hw1, by omega, frC_tr f1' q2, frM_tr f2' q3⟩)
                rw [f2'.1 32 (by decide) (by decide), f1' (50 + r) (by omega) (by omega), sM_g (by omega)]
                exact (hA.2.1 r (by omega)).2 j p q
              · refine si_some ?_
                unfold f_X6_good
                refine si_call (P := fun v : Int × Mm => v.1 = y.1 ∧ v.2 = sM y.2.2 30 1 0) (si_bnd (si_some ⟨rfl, rfl⟩)) (fun v hv => si_some ⟨hv.1.trans hxy.1.symm, A, ?_⟩)
                show RelA x.2.2 v.2 A
                rw [hv.2]
                exact RelA_fr hA0 hxy.2.1 (frN_good (frN_of hxy.2.2))
            · refine si_f z0 (si_swap (si_f (by omega) (si_some ?_)))
              unfold f_X5_found
              exact si_call (P := fun x : Int × Mm => x.1 = w3 (-1000010 - z) ∧ x.2 = sM μ 30 0 z) (si_bnd (si_some ⟨rfl, rfl⟩)) (fun x hx => si_some ⟨by rw [hx.1]; exact y1, by rw [hx.2]; exact y2⟩)
          · rw [if_neg c3]
            exact si_t rfl (si_some (si_t rfl (si_some ⟨rfl, hRel⟩)))
        · rw [if_neg c2]
          exact si_t rfl (si_some (si_t rfl (si_some ⟨rfl, hRel⟩)))
      · rw [if_neg co]
        exact si_t rfl (both_same hRel (m_swN hN co (si_t rfl (si_some ⟨rfl, rfl⟩))))
    · rw [if_neg cw]
      exact si_t rfl (si_some (si_t rfl (si_some ⟨rfl, hRel⟩)))
  · rw [if_neg c1]
    exact si_t rfl (both_same hRel (m_swN hN c1 (si_t rfl (si_some ⟨rfl, rfl⟩))))
