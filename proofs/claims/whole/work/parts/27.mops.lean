/-! WHAT ELSE THE REFERENCE DOES WITH A RIVER. -/
/-- the reference's foretelling: what it touches besides river 3 -/
def frM (ν m : Mm) : Prop := (∀ g, g ≠ 3 → g ≠ 30 → m g = ν g) ∧ ∀ o : Int, o < 5 → m 30 o = ν 30 o
theorem frM_rf (ν : Mm) : frM ν ν := ⟨fun _ _ _ => rfl, fun _ _ => rfl⟩
theorem frM_tr {ν m k : Mm} (h1 : frM ν m) (h2 : frM m k) : frM ν k := ⟨fun g a b => (h2.1 g a b).trans (h1.1 g a b), fun o a => (h2.2 o a).trans (h1.2 o a)⟩
theorem m_copyAll {ν : Mm} {a b : Nat} (ha : a < 4) (hb : b < 4) (hab : a ≠ b) : Sat (f_X6_copyAll ν (38 * (a : Int)) (38 * (b : Int))) (fun m => (∀ g, g ≠ b → m g = ν g) ∧ ∀ o : Int, 0 ≤ o → o < 38 → m b o = ν a o) := by
  unfold f_X6_copyAll
  refine si_bind (si_loop (fun i (x : Int × Mm) => x.1 = i ∧ i ≤ 38 ∧ (∀ g, g ≠ b → x.2 g = ν g) ∧ ∀ o : Int, 0 ≤ o → o < i → x.2 b o = ν a o) 38 ?_ 1000 (0, ν) (by decide) ⟨rfl, by decide, fun _ _ => rfl, fun o h1 h2 => by omega⟩)
  rintro i ⟨c, m⟩ hi ⟨hc, hi38, f1, f2⟩
  dsimp only at hc f1 f2 ⊢
  subst hc
  refine si_if (fun c => si_some (si_some ⟨f1, fun o h1 h2 => f2 o h1 (by omega)⟩)) (fun c => ?_)
  simp (disch := omega) only [w3_id, rq1, wq1]
  refine si_chk (by omega) (si_chk (by omega) (si_bnd (si_some ?_)))
  refine ⟨by omega, by dsimp only; omega, by omega, fun g hg => by dsimp only; rw [sM_g hg]; exact f1 g hg, fun o h1 h2 => ?_⟩
  dsimp only
  by_cases w : o = i
  · rw [w, sM_s, f1 a hab]
  · rw [sM_n (fun z => w z.2)]
    exact f2 o h1 (by omega)
theorem m_tries {ν : Mm} {A : Rv} (h9 : A 24 ≤ 9) (h6 : A 25 ≤ 6) (hR : RR A (ν 0)) : Sat (f_X6_tries ν) (fun m => frM ν m ∧ RR A (m 3)) := by
  unfold f_X6_tries
  refine si_call (m_copyAll (a := 0) (b := 3) (by decide) (by decide) (by decide)) (fun z hz => si_some ?_)
  exact ⟨⟨fun g a b => hz.1 g a, fun o ho => by rw [hz.1 30 (by decide)]⟩, RR_copy h9 h6 hR (fun o a b c => hz.2 o a b)⟩
theorem m_pass3 {ν : Mm} {A : Rv} (hV : VR A) (hR : RR A (ν 3)) : Sat (f_X6_passes ν 114) (fun m => frM ν m ∧ RR (dayA A) (m 3) ∧ m 30 8 = dayEat A 0 ∧ m 30 9 = dayLost A) :=
  si_mono (m_passes (q := 3) (by decide) hV hR) (fun m hm => ⟨⟨hm.1, fun o ho => hm.2.1 o (by omega) (by omega)⟩, hm.2.2.1, hm.2.2.2.2.1, hm.2.2.2.2.2⟩)
theorem m_triesFor {ν : Mm} {A : Rv} (hV : VR A) (hR : RR A (ν 0)) {n : Nat} (hn : n ≤ 100) : Sat (f_X6_triesFor ν n) (fun m => frM ν m ∧ RR (itD A n) (m 3)) := by
  unfold f_X6_triesFor
  refine si_call (m_tries hV.2.1 hV.2.2.2.1 hR) (fun z hz => ?_)
  refine si_bind (si_loop (fun i (x : Int × Mm) => x.1 = i ∧ i ≤ n ∧ frM ν x.2 ∧ RR (itD A i) (x.2 3)) n ?_ 1000 (0, z) (by omega) ⟨rfl, Nat.zero_le _, hz.1, hz.2⟩)
  rintro i ⟨b, m⟩ hi ⟨hb, hin, f1, f2⟩
  dsimp only at hb f1 f2 ⊢
  subst hb
  refine si_if (fun c => si_some (si_some ?_)) (fun c => si_call (m_pass3 (VR_it hV i).1 f2) (fun y hy => si_some ?_))
  · have : i = n := by omega
    subst this
    exact ⟨f1, f2⟩
  · exact ⟨by omega, by dsimp only; rw [w3_id (by omega) (by omega)]; omega, by omega, frM_tr f1 hy.1, hy.2.1⟩
theorem m_throwsOn {ν : Mm} {q : Nat} (hq : q < 4) {A : Rv} (hV : VR A) (hR : RR A (ν q)) {l n : Int} (hl : 0 ≤ l ∧ l < A 24) (hn : 0 ≤ n ∧ n ≤ 9) : Sat (f_X6_throwsOn ν (38 * (q : Int)) l n) (fun m => (∀ g, g ≠ q → m g = ν g) ∧ RR (thrA A l n) (m q) ∧ m q 23 = ν q 23) := by
  have h9 := hV.2.1
  have hc := hV.2.2.2.2.2.2.1 l hl.1 hl.2
  have hcr := hR.2.2.2.2.1 l hl.1 hl.2
  unfold f_X6_throwsOn bnd
  simp (disch := omega) only [w3_id, rq2, wq2]
  rw [hcr]
  have key : ∀ v, v = (if 99 ≤ A (1 + l) + n then 99 else A (1 + l) + n) → (∀ g, g ≠ q → sM ν q (1 + l) v g = ν g) ∧ RR (thrA A l n) (sM ν q (1 + l) v q) ∧ sM ν q (1 + l) v q 23 = ν q 23 := fun v hv => ⟨fun g hg => sM_g hg, by rw [sM_r, hv]; exact RR_up hR (by omega) (by omega), sM_n (by omega)⟩
  refine si_chk (by omega) (si_if (fun c => si_chk (by omega) (si_some (key _ ?_))) (fun c => si_chk (by omega) (si_some (key _ ?_))))
  · split <;> omega
  · rw [if_pos (by omega)]
theorem bOr_0 {x : Int} (h : inR x) : bOr x 0 = x := by
  unfold bOr
  rw [show (I3 0 : Int32) = 0 from rfl, show I3 x ||| 0 = I3 x from by simp, I3_t h]
theorem orN_R (P : Int → Bool) (bit : Int → Int) (n : Nat) : inR (orN P bit n) := by
  induction n with
  | zero => exact inR_0
  | succ n ih =>
    unfold orN
    split
    · exact toInt_R _
    · exact ih
theorem m_swansOn {ν : Mm} {q : Nat} (hq : q < 4) {A : Rv} (h0 : 0 ≤ A 25) (h6 : A 25 ≤ 6) (hR : RR A (ν q)) {l : Int} : Sat (f_X6_swansOn ν (38 * (q : Int)) l) (fun z => z = swansOnA A l) := by
  unfold f_X6_swansOn
  refine si_bind (si_loop (fun i (x : Int × Int) => x.2 = i ∧ (i : Int) ≤ A 25 ∧ x.1 = orN (fun k => decide (A (11 + k) = l)) (fun k => bShl 1 k) i) (A 25).toNat ?_ 1000 (0, 0) (by omega) ⟨rfl, by omega, rfl⟩)
  rintro i ⟨a, b⟩ hi ⟨hb, hiA, ha⟩
  dsimp only at hb ha ⊢
  subst hb
  have e2 := hR.2.1
  simp (disch := omega) only [w3_id, rq1, rq2]
  refine si_chk (by omega) (si_if (fun c => si_some (si_some ?_)) (fun c => ?_))
  · unfold swansOnA
    rw [show (A 25).toNat = i by omega]
    exact ha
  have hp := (hR.2.2.2.2.2 i (by omega) (by omega)).1
  have hs : orN (fun k => decide (A (11 + k) = l)) (fun k => bShl 1 k) (i + 1) = if A (11 + (i : Int)) = l then bOr a (bShl 1 i) else a := by
    show (if decide (A (11 + (i : Int)) = l) = true then _ else _) = _
    rw [← ha]
    by_cases c : A (11 + (i : Int)) = l
    · rw [if_pos c, if_pos (by simpa using c)]
    · rw [if_neg c, if_neg (by simpa using c)]
  refine si_chk (by omega) (si_if (fun c1 => si_some ⟨by omega, by omega, by omega, ?_⟩) (fun c1 => si_some ⟨by omega, by omega, by omega, ?_⟩))
  · rw [hp] at c1
    rw [hs, if_pos c1]
  · rw [hp] at c1
    rw [hs, if_neg c1]
    exact bOr_0 (ha ▸ orN_R _ _ _)
theorem m_plotsOf {ν : Mm} {q : Nat} (hq : q < 4) {A : Rv} (h0 : 0 ≤ A 25) (h6 : A 25 ≤ 6) (hR : RR A (ν q)) {l : Int} : Sat (f_X6_plotsOf ν (38 * (q : Int)) l) (fun z => z = plotsA A l) := by
  unfold f_X6_plotsOf
  refine si_bind (si_loop (fun i (x : Int × Int) => x.2 = i ∧ (i : Int) ≤ A 25 ∧ x.1 = orN (fun k => decide (A (11 + k) = l)) (fun k => bShl 1 (A (32 + k))) i) (A 25).toNat ?_ 1000 (0, 0) (by omega) ⟨rfl, by omega, rfl⟩)
  rintro i ⟨a, b⟩ hi ⟨hb, hiA, ha⟩
  dsimp only at hb ha ⊢
  subst hb
  have e2 := hR.2.1
  simp (disch := omega) only [w3_id, rq1, rq2]
  refine si_chk (by omega) (si_if (fun c => si_some (si_some ?_)) (fun c => ?_))
  · unfold plotsA
    rw [show (A 25).toNat = i by omega]
    exact ha
  obtain ⟨hp, -, -, hpl⟩ := hR.2.2.2.2.2 i (by omega) (by omega)
  have hs : orN (fun k => decide (A (11 + k) = l)) (fun k => bShl 1 (A (32 + k))) (i + 1) = if A (11 + (i : Int)) = l then bOr a (bShl 1 (A (32 + i))) else a := by
    show (if decide (A (11 + (i : Int)) = l) = true then _ else _) = _
    rw [← ha]
    by_cases c : A (11 + (i : Int)) = l
    · rw [if_pos c, if_pos (by simpa using c)]
    · rw [if_neg c, if_neg (by simpa using c)]
  refine si_chk (by omega) (si_if (fun c1 => si_chk (by omega) (si_bnd (si_some ⟨by omega, by omega, by omega, ?_⟩))) (fun c1 => si_some ⟨by omega, by omega, by omega, ?_⟩))
  · rw [hp] at c1
    rw [hs, if_pos c1, hpl]
  · rw [hp] at c1
    rw [hs, if_neg c1]
    exact bOr_0 (ha ▸ orN_R _ _ _)
theorem m_ownersIn {ν : Mm} {q : Nat} (hq : q < 4) {A : Rv} (hV : VR A) (hR : RR A (ν q)) : Sat (f_X6_ownersIn ν (38 * (q : Int))) (fun z => ∃ n : Nat, z = n ∧ isOwnS A n) := by
  have h9 := hV.2.1
  have h1 := hV.2.2.1
  have h6 := hV.2.2.2.1
  have v8 := hV.2.2.2.2.2.2.2
  unfold f_X6_ownersIn
  refine si_bind (si_loop (fun i (x : Int × Int) => x.2 = i ∧ (i : Int) ≤ A 25 ∧ ∃ n : Nat, n < 512 ∧ x.1 = n ∧ ∀ l : Nat, l < 9 → (n.testBit l = true ↔ ∃ k : Int, 0 ≤ k ∧ k < i ∧ A (11 + k) = l)) (A 25).toNat ?_ 1000 (0, 0) (by omega) ⟨rfl, by omega, 0, by decide, rfl, fun l hl => ⟨fun g => by simp at g, fun ⟨k, k1, k2, k3⟩ => by omega⟩⟩)
  rintro i ⟨a, b⟩ hi ⟨hb, hiA, n, hn, ha, hl⟩
  dsimp only at hb ha ⊢
  subst hb ha
  have e2 := hR.2.1
  simp (disch := omega) only [w3_id, rq1, rq2]
  refine si_chk (by omega) (si_if (fun c => si_some (si_some ⟨n, rfl, hn, fun l hl9 => ?_⟩)) (fun c => ?_))
  · rw [hl l hl9, occA_iff (by omega)]
    have : (i : Int) = A 25 := by omega
    rw [this]
  have hp := (hR.2.2.2.2.2 i (by omega) (by omega)).1
  have hpl := (v8 i (by omega) (by omega)).1
  refine si_chk (by omega) (si_bnd (si_some ?_))
  rw [hp]
  obtain ⟨p, hp9⟩ : ∃ p : Nat, A (11 + (i : Int)) = p := ⟨(A (11 + i)).toNat, by omega⟩
  have hpw : 2 ^ p < 2 ^ 9 := Nat.pow_lt_pow_right (by decide) (by omega)
  rw [hp9, bShl1 p (by omega), bOr_nat (by omega) (by omega)]
  refine ⟨by omega, by dsimp only; omega, by omega, n ||| 2 ^ p, Nat.or_lt_two_pow (n := 9) (by omega) (by omega), rfl, fun l hl9 => ?_⟩
  rw [Nat.testBit_or, Bool.or_eq_true, hl l hl9, Nat.testBit_two_pow, decide_eq_true_eq]
  constructor
  · rintro (⟨k, k1, k2, k3⟩ | g)
    · exact ⟨k, k1, by omega, k3⟩
    · exact ⟨i, by omega, by omega, by omega⟩
  · rintro ⟨k, k1, k2, k3⟩
    by_cases w : k = i
    · subst w; exact Or.inr (by omega)
    · exact Or.inl ⟨k, k1, by omega, k3⟩
theorem m_ones {ν : Mm} {n : Nat} (hn : n < 512) : Sat (f_X6_ones ν n) (fun z => z = countN (fun l => n.testBit l.toNat) 9) := by
  unfold f_X6_ones
  refine si_bind (si_loop (fun i (x : Int × Int) => x.2 = i ∧ i ≤ 9 ∧ x.1 = countN (fun l => n.testBit l.toNat) i) 9 ?_ 1000 (0, 0) (by decide) ⟨rfl, by decide, rfl⟩)
  rintro i ⟨a, b⟩ hi ⟨hb, hiA, ha⟩
  dsimp only at hb ha ⊢
  subst hb
  have hcn := countN_in (fun l => n.testBit l.toNat) i
  refine si_if (fun c => si_some (si_some ?_)) (fun c => si_bnd (si_some ⟨by omega, by dsimp only; rw [w3_id (by omega) (by omega)]; omega, by omega, ?_⟩))
  · have : i = 9 := by omega
    subst this
    exact ha
  · show w3 (a + bitN (n : Int) (i : Int)) = (if n.testBit ((i : Int)).toNat = true then _ else _)
    rw [bitN_small n hn i (by omega), ha, Int.toNat_natCast]
    by_cases c : n.testBit i = true
    · rw [if_pos c, if_pos c, w3_id (by omega) (by omega)]
    · rw [if_neg c, if_neg c, w3_id (by omega) (by omega)]
      omega
theorem m_ownerCount {ν : Mm} {q : Nat} (hq : q < 4) {A : Rv} (hV : VR A) (hR : RR A (ν q)) {β : Type} {f : Int → Option β} {K : β → Prop} (k : Sat (f (ownA A)) K) : Sat ((f_X6_ownersIn ν (38 * (q : Int))).bind fun z => (f_X6_ones ν z).bind f) K := by
  refine si_call (m_ownersIn hq hV hR) (fun z hz => ?_)
  obtain ⟨n, rfl, hn⟩ := hz
  refine si_call (m_ones hn.1) (fun y hy => ?_)
  rw [hy, cnt_own hn]
  exact k
