/-! THE CLASS' RIVER, over an abstract river A that μ r holds. -/
theorem within_eq (μ : Mm) (a b c : Int) : f_X5_within μ a b c = if b ≤ a ∧ a ≤ c then 1 else 0 := by
  unfold f_X5_within
  by_cases h1 : a < b
  · rw [if_pos h1, if_neg (by omega)]
  · rw [if_neg h1]
    by_cases h2 : c < a
    · rw [if_pos h2, if_neg (by omega)]
    · rw [if_neg h2, if_pos (by omega)]
theorem compare_eq (μ : Mm) (a b : Int) : f_J6_compare_7cf53 μ a b = if a < b then -1 else if a = b then 0 else 1 := by
  unfold f_J6_compare_7cf53
  by_cases h1 : b ≤ a
  · rw [if_pos h1, if_neg (show ¬ a < b by omega)]
  · rw [if_neg h1, if_pos (show a < b by omega)]
theorem bitN_01 {w i : Int} (hw : 0 ≤ w ∧ w < 512) (hi : 0 ≤ i ∧ i < 10) : bitN w i = 0 ∨ bitN w i = 1 := by
  obtain ⟨n, rfl⟩ : ∃ n : Nat, w = n := ⟨w.toNat, by omega⟩
  obtain ⟨k, rfl⟩ : ∃ k : Nat, i = k := ⟨i.toNat, by omega⟩
  rw [bitN_small n (by omega) k (by omega)]
  split
  · exact Or.inr rfl
  · exact Or.inl rfl
theorem openA_iff {A : Rv} {l w : Int} : openA A l w = true ↔ 0 ≤ l + w ∧ l + w < A 24 ∧ bitN (A 10) (if 0 < w then l else l + w) ≠ 1 := by
  unfold openA
  simp [and_assoc]
theorem RV_L {A B : Rv} (hR : RR A B) : B 24 = A 24 := hR.1
theorem f_beside2 {μ : Mm} {r : Nat} {A : Rv} (hV : VR A) (e1 : μ r 24 = A 24) (e4 : μ r 10 = A 10) {l w : Int} (hl : 0 ≤ l ∧ l < A 24) (hw : w = 1 ∨ w = -1) : f_X2_beside μ r l w = besideA A l w := by
  obtain ⟨v1, v2, v3, v4, v5, v6, v7, v8⟩ := hV
  unfold f_X2_beside besideA bnd
  dsimp only
  rw [w3_id (by omega) (by omega), e1, e4]
  by_cases c1 : l + w < 0
  · rw [if_pos c1, if_neg (fun q => by have := (openA_iff.mp q).1; omega)]
  · rw [if_neg c1]
    by_cases c2 : l + w < A 24
    · rw [if_pos c2]
      have hx : (if 0 ≤ w then l else l + w) = (if 0 < w then l else l + w) := by
        rcases hw with rfl | rfl <;> rfl
      rw [hx]
      by_cases c3 : bitN (A 10) (if 0 < w then l else l + w) = 1
      · rw [if_pos (show bAnd (bShr (A 10) (if 0 < w then l else l + w)) 1 = 1 from c3), if_neg (fun q => (openA_iff.mp q).2.2 c3)]
      · rw [if_neg (show ¬ bAnd (bShr (A 10) (if 0 < w then l else l + w)) 1 = 1 from c3), if_pos (openA_iff.mpr ⟨by omega, c2, c3⟩)]
    · rw [if_neg c2, if_neg (fun q => c2 (openA_iff.mp q).2.1)]
theorem f_beside {μ : Mm} {r : Nat} {A : Rv} (hV : VR A) (hR : RR A (μ r)) {l w : Int} (hl : 0 ≤ l ∧ l < A 24) (hw : w = 1 ∨ w = -1) : f_X2_beside μ r l w = besideA A l w := f_beside2 hV hR.1 hR.2.2.2.1 hl hw
theorem besideA_in {A : Rv} {l w : Int} (hl : 0 ≤ l ∧ l < A 24) : 0 ≤ besideA A l w ∧ besideA A l w < A 24 := by
  unfold besideA
  split
  · rename_i h
    have := openA_iff.mp h
    omega
  · exact hl
theorem f_crumbsSeen {μ : Mm} {r : Nat} {l sh : Int} (hl : 0 ≤ l ∧ l < 9) : Sat (f_X2_crumbsSeen μ r l sh) (fun z => z = if bitN sh l = 1 then 0 else μ r (1 + l)) := by
  unfold f_X2_crumbsSeen
  refine si_if (fun c => si_some ?_) (fun c => si_chk hl (si_some ?_))
  · rw [if_pos (show bitN sh l = 1 from c)]
  · rw [if_neg (show ¬ bitN sh l = 1 from c)]
theorem cobAt_iff {A : Rv} (hV : VR A) {k l : Int} : cobAt A k l = true ↔ ∃ o : Int, 0 ≤ o ∧ o < A 25 ∧ o ≠ k ∧ A (26 + o) = 2 ∧ A (11 + o) = l := by
  unfold cobAt
  rw [anyN_iff]
  have h1 := hV.2.2.1
  constructor
  · rintro ⟨o, a, b, c⟩
    simp at c
    exact ⟨o, a, by omega, c.1.1, c.1.2, c.2⟩
  · rintro ⟨o, a, b, c, d, e⟩
    exact ⟨o, a, by omega, by simp [c, d, e]⟩
theorem f_lawnsOfOtherCobs {μ : Mm} {r : Nat} {A : Rv} (hV : VR A) (hR : RR A (μ r)) {k : Int} (hk : 0 ≤ k ∧ k < A 25) : Sat (f_X2_lawnsOfOtherCobs μ r k) (fun z => ∃ n : Nat, n < 512 ∧ z = n ∧ ∀ l : Nat, l < 9 → (n.testBit l = true ↔ cobAt A k l = true)) := by
  have hV' := hV
  obtain ⟨v1, v2, v3, v4, v5, v6, v7, v8⟩ := hV
  obtain ⟨e1, e2, e3, e4, e5, e6⟩ := hR
  unfold f_X2_lawnsOfOtherCobs
  refine si_bind (si_loop (fun i (x : Int × Int) => x.2 = i ∧ (i : Int) ≤ A 25 ∧ ∃ n : Nat, n < 512 ∧ x.1 = n ∧ ∀ l : Nat, l < 9 → (n.testBit l = true ↔ ∃ o : Int, 0 ≤ o ∧ o < i ∧ o ≠ k ∧ A (26 + o) = 2 ∧ A (11 + o) = l)) (A 25).toNat ?_ 1000 (0, 0) (by omega) ⟨rfl, by omega, 0, by decide, rfl, fun l hl => by simp; intro x h1 h2; omega⟩)
  rintro i ⟨a, b⟩ hi ⟨hb, hiA, n, hn, ha, hnl⟩
  dsimp only at hb ha ⊢
  subst hb ha
  rw [e2]
  refine si_if (fun c => si_some (si_some ?_)) (fun c => si_if (fun c1 => si_some ?_) (fun c1 => si_chk (by omega) (si_if (fun c2 => si_chk (by omega) (si_bnd (si_some ?_))) (fun c2 => si_some ?_))))
  · refine ⟨n, hn, rfl, fun l hl => ?_⟩
    rw [hnl l hl, cobAt_iff hV']
    constructor
    · rintro ⟨o, h1, h2, h3⟩; exact ⟨o, h1, by omega, h3⟩
    · rintro ⟨o, h1, h2, h3⟩; exact ⟨o, h1, by omega, h3⟩
  · refine ⟨by omega, w3_id (by omega) (by omega), by omega, n, hn, rfl, fun l hl => ?_⟩
    rw [hnl l hl]
    constructor
    · rintro ⟨o, h1, h2, h3⟩; exact ⟨o, h1, by omega, h3⟩
    · rintro ⟨o, h1, h2, h3, h4⟩
      exact ⟨o, h1, by by_cases q : o = i; exact absurd (q.trans c1) h3; omega, h3, h4⟩
  · have hp := e6 i (by omega) (by omega)
    have hpl := (v8 i (by omega) (by omega)).1
    rw [hp.1]
    rw [hp.2.2.1] at c2
    obtain ⟨pl, hpl2⟩ : ∃ pl : Nat, A (11 + (i : Int)) = pl := ⟨(A (11 + i)).toNat, by omega⟩
    rw [hpl2, bShl1 pl (by omega), bOr_nat (by omega) (by have : 2 ^ pl < 2 ^ 9 := Nat.pow_lt_pow_right (by decide) (by omega); omega)]
    have hpw : 2 ^ pl < 2 ^ 9 := Nat.pow_lt_pow_right (by decide) (by omega)
    refine ⟨by omega, w3_id (by omega) (by omega), by omega, n ||| 2 ^ pl, Nat.or_lt_two_pow (n := 9) (by omega) (by omega), rfl, fun l hl => ?_⟩
    rw [Nat.testBit_or, Bool.or_eq_true, hnl l hl, Nat.testBit_two_pow, decide_eq_true_eq]
    constructor
    · rintro (⟨o, h1, h2, h3⟩ | h)
      · exact ⟨o, h1, by omega, h3⟩
      · exact ⟨i, by omega, by omega, c1, c2, by omega⟩
    · rintro ⟨o, h1, h2, h3, h4, h5⟩
      by_cases q : o = i
      · subst q; exact Or.inr (by omega)
      · exact Or.inl ⟨o, h1, by omega, h3, h4, h5⟩
  · have hp := e6 i (by omega) (by omega)
    rw [hp.2.2.1] at c2
    refine ⟨by omega, w3_id (by omega) (by omega), by omega, n, hn, rfl, fun l hl => ?_⟩
    rw [hnl l hl]
    constructor
    · rintro ⟨o, h1, h2, h3⟩; exact ⟨o, h1, by omega, h3⟩
    · rintro ⟨o, h1, h2, h3, h4, h5⟩
      exact ⟨o, h1, by by_cases q : o = i; subst q; exact absurd h4 c2; omega, h3, h4, h5⟩
def cmpI (a b : Int) : Int := if a < b then -1 else if a = b then 0 else 1
theorem openA_in {A : Rv} {l w : Int} (h : openA A l w = true) : 0 ≤ l + w ∧ l + w < A 24 := ⟨(openA_iff.mp h).1, (openA_iff.mp h).2.1⟩
theorem besideA_t {A : Rv} {l w : Int} (h : openA A l w = true) : besideA A l w = l + w := by unfold besideA; rw [if_pos h]
theorem besideA_f {A : Rv} {l w : Int} (h : ¬ openA A l w = true) : besideA A l w = l := by unfold besideA; rw [if_neg h]
theorem look_f {c : Bool} {v d : Int} {q : Int × Int} (h : ¬ (c = true ∧ q.1 < v)) : look c v d q = q := by unfold look; rw [if_neg h]
theorem look_t {c : Bool} {v d : Int} {q : Int × Int} (h : c = true ∧ q.1 < v) : look c v d q = (v, d) := by unfold look; rw [if_pos h]
/-- where it has come to, and which way it would go -/
theorem tw_in {S : Int → Int} {A : Rv} {own : Int} (h : 0 ≤ own ∧ own < A 24) (n : Nat) : (0 ≤ (tw S A own n).2.1 ∧ (tw S A own n).2.1 ≤ own) ∧ (own ≤ (tw S A own n).2.2 ∧ (tw S A own n).2.2 < A 24) ∧ ((tw S A own n).1.2 = 0 ∨ ((tw S A own n).1.2 = -1 ∧ (tw S A own n).2.1 < own) ∨ ((tw S A own n).1.2 = 1 ∧ own < (tw S A own n).2.2)) := by
  induction n with
  | zero => exact ⟨⟨h.1, Int.le_refl _⟩, ⟨Int.le_refl _, h.2⟩, Or.inl rfl⟩
  | succ n ih =>
    obtain ⟨⟨a1, a2⟩, ⟨b1, b2⟩, ih3⟩ := ih
    have hlo : (0 ≤ besideA A (tw S A own n).2.1 (-1) ∧ besideA A (tw S A own n).2.1 (-1) ≤ (tw S A own n).2.1) := by
      by_cases c : openA A (tw S A own n).2.1 (-1) = true
      · rw [besideA_t c]; have := openA_in c; omega
      · rw [besideA_f c]; omega
    have hup : ((tw S A own n).2.2 ≤ besideA A (tw S A own n).2.2 1 ∧ besideA A (tw S A own n).2.2 1 < A 24) := by
      by_cases c : openA A (tw S A own n).2.2 1 = true
      · rw [besideA_t c]; have := openA_in c; omega
      · rw [besideA_f c]; omega
    show (0 ≤ besideA A (tw S A own n).2.1 (-1) ∧ besideA A (tw S A own n).2.1 (-1) ≤ own) ∧ (own ≤ besideA A (tw S A own n).2.2 1 ∧ besideA A (tw S A own n).2.2 1 < A 24) ∧ ((look (openA A (tw S A own n).2.2 1) (S ((tw S A own n).2.2 + 1)) 1 (look (openA A (tw S A own n).2.1 (-1)) (S ((tw S A own n).2.1 - 1)) (-1) (tw S A own n).1)).2 = 0 ∨ ((look (openA A (tw S A own n).2.2 1) (S ((tw S A own n).2.2 + 1)) 1 (look (openA A (tw S A own n).2.1 (-1)) (S ((tw S A own n).2.1 - 1)) (-1) (tw S A own n).1)).2 = -1 ∧ besideA A (tw S A own n).2.1 (-1) < own) ∨ ((look (openA A (tw S A own n).2.2 1) (S ((tw S A own n).2.2 + 1)) 1 (look (openA A (tw S A own n).2.1 (-1)) (S ((tw S A own n).2.1 - 1)) (-1) (tw S A own n).1)).2 = 1 ∧ own < besideA A (tw S A own n).2.2 1))
    refine ⟨by omega, by omega, ?_⟩
    generalize tw S A own n = p at *
    by_cases c2 : openA A p.2.2 1 = true ∧ (look (openA A p.2.1 (-1)) (S (p.2.1 - 1)) (-1) p.1).1 < S (p.2.2 + 1)
    · rw [look_t c2, besideA_t c2.1]
      exact Or.inr (Or.inr ⟨rfl, by omega⟩)
    · rw [look_f c2]
      by_cases c1 : openA A p.2.1 (-1) = true ∧ p.1.1 < S (p.2.1 - 1)
      · rw [look_t c1, besideA_t c1.1]
        exact Or.inr (Or.inl ⟨rfl, by omega⟩)
      · rw [look_f c1]
        omega
theorem f_towards {μ : Mm} {r : Nat} {A : Rv} (hV : VR A) (hR : RR A (μ r)) {own : Int} (hown : 0 ≤ own ∧ own < A 24) {s : Nat} (hs : s ≤ 2) {sh : Int} {S : Int → Int} (hS : ∀ l, 0 ≤ l → l < A 24 → Sat (f_X2_crumbsSeen μ r l sh) (fun z => z = S l)) : Sat (f_X2_towardsBread μ r own s sh) (fun z => z = own + (tw S A own s).1.2) := by
  have hA9 : A 24 ≤ 9 := hV.2.1
  unfold f_X2_towardsBread
  refine si_call (hS own hown.1 hown.2) (fun z2 hz2 => ?_)
  subst hz2
  refine si_bind (si_loop (fun i (x : Int × Int × Int × Int × Int) => x.2.2.2.2 = i + 1 ∧ i ≤ s ∧ x.2.1 = (tw S A own i).1.1 ∧ x.2.2.1 = (tw S A own i).2.1 ∧ x.2.2.2.1 = (tw S A own i).2.2 ∧ cmpI x.1 own = (tw S A own i).1.2 ∧ S x.2.2.1 ≤ x.2.1 ∧ S x.2.2.2.1 ≤ x.2.1) s ?_ 1000 _ (by omega) ⟨rfl, Nat.zero_le _, rfl, rfl, rfl, by unfold cmpI; rw [if_neg (by omega), if_pos rfl]; rfl, Int.le_refl _, Int.le_refl _⟩)
  rintro i ⟨best, most, low, upp, off⟩ hi ⟨h1, h2, h3, h4, h5, h6, h7, h8⟩
  dsimp only at h1 h2 h3 h4 h5 h6 h7 h8 ⊢
  have hin := tw_in (S := S) hown i
  rw [← h4, ← h5] at hin
  obtain ⟨⟨a1, a2⟩, ⟨b1, b2⟩, -⟩ := hin
  refine si_if (fun c => si_some (si_some ?_)) (fun c => ?_)
  · have : i = s := by omega
    subst this
    show w3 (own + f_J6_compare_7cf53 μ best own) = own + (tw S A own i).1.2
    rw [compare_eq, ← h6]
    unfold cmpI
    rw [w3_id]
    · split
      · omega
      · split <;> omega
    · split
      · omega
      · split <;> omega
  rw [f_beside hV hR ⟨a1, by omega⟩ (Or.inr rfl), f_beside hV hR ⟨by omega, b2⟩ (Or.inl rfl)]
  refine si_bnd ?_
  have blo := besideA_in (A := A) (w := -1) ⟨a1, show low < A 24 by omega⟩
  have bup := besideA_in (A := A) (w := 1) ⟨show 0 ≤ upp by omega, b2⟩
  refine si_call (hS _ blo.1 blo.2) (fun z9 hz9 => ?_)
  subst hz9
  refine si_call (P := fun v : Int × Int => v.2 = (look (openA A low (-1)) (S (low - 1)) (-1) (tw S A own i).1).1 ∧ cmpI v.1 own = (look (openA A low (-1)) (S (low - 1)) (-1) (tw S A own i).1).2 ∧ S (besideA A low (-1)) ≤ v.2 ∧ S upp ≤ v.2) ?_ (fun v hv => ?_)
  · refine si_if (fun c1 => si_some ?_) (fun c1 => si_call (hS _ blo.1 blo.2) (fun z hz => si_some ?_))
    · rw [look_f (fun q => by
        rw [besideA_t q.1] at c1
        rw [← h3] at q
        have := q.2
        rw [show low + -1 = low - 1 by omega] at c1
        omega)]
      exact ⟨h3, h6, c1, h8⟩
    · subst hz
      have ho : openA A low (-1) = true := by
        by_cases q : openA A low (-1) = true
        · exact q
        · rw [besideA_f q] at c1; omega
      rw [besideA_t ho, show low + -1 = low - 1 by omega] at c1 ⊢
      rw [look_t ⟨ho, by rw [← h3]; omega⟩]
      exact ⟨rfl, by show cmpI (low - 1) own = -1; unfold cmpI; rw [if_pos (by omega)], Int.le_refl _, by show S upp ≤ S (low - 1); omega⟩
  obtain ⟨vb, vm⟩ := v
  obtain ⟨g1, g2, g3, g4⟩ := hv
  dsimp only at g1 g2 g3 g4 ⊢
  refine si_bnd (si_call (hS _ bup.1 bup.2) (fun z hz => ?_))
  subst hz
  have hw : w3 (off + 1) = ((i + 1 : Nat) : Int) + 1 := by rw [w3_id (by omega) (by omega)]; omega
  refine si_if (fun c1 => si_some ?_) (fun c1 => si_call (hS _ bup.1 bup.2) (fun z hz => si_some ?_))
  · refine ⟨by omega, hw, by omega, ?_, ?_, ?_, ?_, g3, c1⟩
    · show vm = (look (openA A (tw S A own i).2.2 1) (S ((tw S A own i).2.2 + 1)) 1 (look (openA A (tw S A own i).2.1 (-1)) (S ((tw S A own i).2.1 - 1)) (-1) (tw S A own i).1)).1
      rw [← h4, ← h5, look_f (fun q => by
        rw [besideA_t q.1] at c1
        have := q.2
        omega)]
      exact g1
    · show besideA A low (-1) = besideA A (tw S A own i).2.1 (-1)
      rw [h4]
    · show besideA A upp 1 = besideA A (tw S A own i).2.2 1
      rw [h5]
    · show cmpI vb own = (look (openA A (tw S A own i).2.2 1) (S ((tw S A own i).2.2 + 1)) 1 (look (openA A (tw S A own i).2.1 (-1)) (S ((tw S A own i).2.1 - 1)) (-1) (tw S A own i).1)).2
      rw [← h4, ← h5, look_f (fun q => by
        rw [besideA_t q.1] at c1
        have := q.2
        omega)]
      exact g2
  · subst hz
    have ho : openA A upp 1 = true := by
      by_cases q : openA A upp 1 = true
      · exact q
      · rw [besideA_f q] at c1; omega
    rw [besideA_t ho] at c1 ⊢
    have hl : openA A upp 1 = true ∧ (look (openA A low (-1)) (S (low - 1)) (-1) (tw S A own i).1).1 < S (upp + 1) := ⟨ho, by omega⟩
    refine ⟨by omega, hw, by omega, ?_, ?_, ?_, ?_, ?_, Int.le_refl _⟩
    · show S (upp + 1) = (look (openA A (tw S A own i).2.2 1) (S ((tw S A own i).2.2 + 1)) 1 (look (openA A (tw S A own i).2.1 (-1)) (S ((tw S A own i).2.1 - 1)) (-1) (tw S A own i).1)).1
      rw [← h4, ← h5, look_t hl]
    · show besideA A low (-1) = besideA A (tw S A own i).2.1 (-1)
      rw [h4]
    · show upp + 1 = besideA A (tw S A own i).2.2 1
      rw [← h5, besideA_t ho]
    · show cmpI (upp + 1) own = (look (openA A (tw S A own i).2.2 1) (S ((tw S A own i).2.2 + 1)) 1 (look (openA A (tw S A own i).2.1 (-1)) (S ((tw S A own i).2.1 - 1)) (-1) (tw S A own i).1)).2
      rw [← h4, ← h5, look_t hl]
      unfold cmpI
      rw [if_neg (by omega), if_neg (by omega)]
    · show S (besideA A low (-1)) ≤ S (upp + 1)
      omega
theorem f_seen {μ : Mm} {r : Nat} {A : Rv} (hV : VR A) (hR : RR A (μ r)) {k : Int} {n : Nat} (hn : n < 512) (hb : ∀ l : Nat, l < 9 → (n.testBit l = true ↔ (A (26 + k) = 2 ∧ cobAt A k l = true))) : ∀ l, 0 ≤ l → l < A 24 → Sat (f_X2_crumbsSeen μ r l n) (fun z => z = seenA A k l) := by
  intro l h1 h2
  have hA9 : A 24 ≤ 9 := hV.2.1
  refine si_mono (f_crumbsSeen ⟨h1, by omega⟩) (fun z hz => ?_)
  rw [hz]
  obtain ⟨m, rfl⟩ : ∃ m : Nat, l = m := ⟨l.toNat, by omega⟩
  rw [bitN_small n hn m (by omega), hR.2.2.2.2.1 m h1 h2]
  unfold seenA
  by_cases c : n.testBit m = true
  · rw [if_pos c, if_pos rfl, if_pos ((hb m (by omega)).mp c)]
  · rw [if_neg c, if_neg (by decide), if_neg (fun q => c ((hb m (by omega)).mpr q))]
theorem f_goalOf {μ : Mm} {r : Nat} {A : Rv} (hV : VR A) (hR : RR A (μ r)) {k : Int} (hk : 0 ≤ k ∧ k < A 25) : Sat (f_X2_goalOf μ r k) (fun z => z = goalA A k) := by
  have hA9 : A 24 ≤ 9 := hV.2.1
  have hA6 : A 25 ≤ 6 := hV.2.2.2.1
  obtain ⟨hp, hw, hkd, -⟩ := hV.2.2.2.2.2.2.2 k hk.1 hk.2
  obtain ⟨rp, -, rk, -⟩ := hR.2.2.2.2.2 k hk.1 hk.2
  have hc := (hR.2.2.2.2.1 (A (11 + k)) hp.1 hp.2)
  unfold f_X2_goalOf
  refine si_chk (by omega) (si_chk (by omega) ?_)
  rw [rp, rk, hc]
  have h0 : ∀ {s : Nat}, s ≤ 2 → A (26 + k) ≠ 2 → Sat ((f_X2_towardsBread μ r (A (11 + k)) s 0).bind fun z => some z) (fun z => z = towA A k s) := fun hs h2 =>
    si_call (f_towards hV hR hp hs (f_seen (n := 0) hV hR (by decide) (fun l _ => by simp [h2]))) (fun z hz => si_some hz)
  unfold goalA
  refine si_if (fun c => ?_) (fun c => si_if (fun c1 => ?_) (fun c1 => si_if (fun c2 => si_chk (by omega) ?_) (fun c2 => si_if (fun c3 => si_chk (by omega) ?_) (fun c3 => ?_))))
  · rw [if_neg (by omega), if_neg (by omega), if_neg (by omega)]
    refine si_call (f_lawnsOfOtherCobs hV hR hk) (fun z hz => ?_)
    obtain ⟨n, hn, rfl, hb⟩ := hz
    exact si_call (f_towards (s := 2) hV hR hp (by decide) (f_seen hV hR hn (fun l hl => by rw [hb l hl]; simp [c]))) (fun z hz => si_some hz)
  · rw [if_pos c1]
    exact h0 (s := 1) (by decide) c
  · rw [if_neg c1, if_pos c2]
    refine si_if (fun c4 => si_some ?_) (fun c4 => si_some ?_)
    · rw [if_pos c4, f_beside hV hR hp (Or.inr rfl)]
    · rw [if_neg c4]
  · rw [if_neg c1, if_neg c2, if_pos c3]
    refine si_if (fun c4 => si_some ?_) (fun c4 => si_some ?_)
    · rw [if_pos c4, f_beside hV hR hp (Or.inl rfl)]
    · rw [if_neg c4]
  · rw [if_neg c1, if_neg c2, if_neg c3]
    exact h0 (s := 2) (by decide) c
theorem goalA_in {A : Rv} (hV : VR A) {k : Int} (hk : 0 ≤ k ∧ k < A 25) : 0 ≤ goalA A k ∧ goalA A k < A 24 := by
  obtain ⟨hp, -, -, -⟩ := hV.2.2.2.2.2.2.2 k hk.1 hk.2
  have ht : ∀ s, 0 ≤ towA A k s ∧ towA A k s < A 24 := fun s => by
    have := tw_in (S := seenA A k) hp s
    unfold towA
    omega
  unfold goalA
  split
  · exact ht 1
  · split
    · split
      · exact besideA_in hp
      · exact hp
    · split
      · split
        · exact besideA_in hp
        · exact hp
      · exact ht 2
