/-! The reference's fights, lawn by lawn, and its whole day. -/
def fightTo (A : Rv) (j : Int) : Rv := fun o => if 11 ≤ o ∧ o < 11 + A 25 ∧ beatenA A (o - 11) = true ∧ A o < j then besideA A (A o) (-1) else A o
theorem fT_o {A : Rv} {j o : Int} (h : o < 11 ∨ 17 ≤ o) (hA : A 25 ≤ 6) : fightTo A j o = A o := by
  unfold fightTo
  rw [if_neg (fun q => by omega)]
theorem fT_p {A : Rv} {j k : Int} (h : 0 ≤ k ∧ k < A 25) : fightTo A j (11 + k) = if beatenA A k = true ∧ A (11 + k) < j then besideA A (A (11 + k)) (-1) else A (11 + k) := by
  unfold fightTo
  rw [show 11 + k - 11 = k by omega]
  by_cases c : beatenA A k = true ∧ A (11 + k) < j
  · rw [if_pos ⟨by omega, by omega, c.1, c.2⟩, if_pos c]
  · rw [if_neg (fun q => c ⟨q.2.2.1, q.2.2.2⟩), if_neg c]
theorem beside_le {A : Rv} {p : Int} : besideA A p (-1) ≤ p := by
  unfold besideA
  split <;> omega
theorem fT_j {A : Rv} {j k : Int} (h : 0 ≤ k ∧ k < A 25) : fightTo A j (11 + k) = j ↔ A (11 + k) = j := by
  rw [fT_p h]
  by_cases c : beatenA A k = true ∧ A (11 + k) < j
  · rw [if_pos c]
    have := beside_le (A := A) (p := A (11 + k))
    omega
  · rw [if_neg c]
theorem beats_asym {A : Rv} {a b : Int} (h1 : beatsA A a b = true) (h2 : beatsA A b a = true) : False := by
  obtain ⟨a1, a2, a3, a4⟩ := beatsA_iff.mp h1
  obtain ⟨b1, b2, b3, b4⟩ := beatsA_iff.mp h2
  omega
set_option maxHeartbeats 2000000 in
theorem m_fightsOn {ν : Mm} {q : Nat} (hq : q < 4) {A : Rv} (hV : VR A) {j : Int} (hj : 0 ≤ j ∧ j < A 24) (hR : RR (fightTo A j) (ν q)) (h9 : 0 ≤ ν 30 9 ∧ ν 30 9 ≤ 100000) : Sat (f_X6_fightsOn ν (38 * (q : Int)) j) (fun m => (∀ g, g ≠ q → g ≠ 30 → m g = ν g) ∧ (∀ o, o ≠ 9 → m 30 o = ν 30 o) ∧ RR (fightTo A (j + 1)) (m q) ∧ m q 23 = ν q 23 ∧ m 30 9 = ν 30 9 + countN (fun k => beatenA A k && decide (A (11 + k) = j)) (A 25).toNat) := by
  have hV0 := hV
  obtain ⟨v1, v2, v3, v4, v5, v6, v7, v8⟩ := hV
  obtain ⟨e1, e2, e3, e4, e5, e6⟩ := hR
  rw [fT_o (Or.inr (by decide)) v4] at e1 e2 e5
  rw [fT_o (Or.inl (by decide)) v4] at e3 e4
  have n25 : (fightTo A j) 25 = A 25 := fT_o (Or.inr (by decide)) v4
  have pl : ∀ k : Int, 0 ≤ k → k < A 25 → ν q (11 + k) = fightTo A j (11 + k) ∧ ν q (17 + k) = A (17 + k) ∧ ν q (26 + k) = A (26 + k) ∧ ν q (32 + k) = A (32 + k) := fun k a b => by
    have := e6 k a (by rw [n25]; exact b)
    rw [fT_o (o := 17 + k) (Or.inr (by omega)) v4, fT_o (o := 26 + k) (Or.inr (by omega)) v4, fT_o (o := 32 + k) (Or.inr (by omega)) v4] at this
    exact this
  unfold f_X6_fightsOn
  refine si_call (P := fun x : Int × Int => (x.1 = -1 ∧ ∀ k : Int, 0 ≤ k → k < A 25 → ¬ (A (26 + k) = 2 ∧ A (11 + k) = j)) ∨ (0 ≤ x.1 ∧ x.1 < A 25 ∧ (A (26 + x.1) = 2 ∧ A (11 + x.1) = j) ∧ ∀ k : Int, 0 ≤ k → k < A 25 → A (26 + k) = 2 → A (11 + k) = j → k ≠ x.1 → beatsA A x.1 k = true)) ?_ (fun x hx => ?_)
  · refine si_loop (fun i (x : Int × Int) => x.2 = i ∧ (i : Int) ≤ A 25 ∧ ((x.1 = -1 ∧ ∀ k : Int, 0 ≤ k → k < i → ¬ (A (26 + k) = 2 ∧ A (11 + k) = j)) ∨ (0 ≤ x.1 ∧ x.1 < i ∧ (A (26 + x.1) = 2 ∧ A (11 + x.1) = j) ∧ ∀ k : Int, 0 ≤ k → k < i → A (26 + k) = 2 → A (11 + k) = j → k ≠ x.1 → beatsA A x.1 k = true))) (A 25).toNat ?_ 1000 ((-1), 0) (by omega) ⟨rfl, by omega, Or.inl ⟨rfl, fun k _ _ => by omega⟩⟩
    rintro i ⟨b, a⟩ hi ⟨ha, hiA, hd⟩
    dsimp only at ha hd ⊢
    subst ha
    simp (disch := omega) only [w3_id, rq1, rq2]
    rw [e2]
    refine si_chk (by omega) (si_if (fun c => si_some ?_) (fun c => ?_))
    · show (b = -1 ∧ _) ∨ _
      rcases hd with ⟨g1, g2⟩ | ⟨g1, g2, g3, g4⟩
      · exact Or.inl ⟨g1, fun k p r => g2 k p (by omega)⟩
      · exact Or.inr ⟨g1, by omega, g3, fun k p r => g4 k p (by omega)⟩
    have hlt : (i : Int) < A 25 := by omega
    obtain ⟨ip, iw, ik, -⟩ := pl i (by omega) hlt
    rw [ik, ip]
    have hw : w3 ((i : Int) + 1) = ((i + 1 : Nat) : Int) := by rw [w3_id (by omega) (by omega)]; omega
    refine si_chk (by omega) (si_call (P := fun v : Int => (v = 1 ∧ A (26 + (i : Int)) = 2 ∧ A (11 + (i : Int)) = j) ∨ (v = 0 ∧ ¬ (A (26 + (i : Int)) = 2 ∧ A (11 + (i : Int)) = j))) ?_ (fun v hv => ?_))
    · refine si_if (fun c1 => si_chk (by omega) (si_if (fun c2 => si_some ?_) (fun c2 => si_some ?_))) (fun c1 => si_some ?_)
      · exact Or.inl ⟨rfl, c1, (fT_j ⟨by omega, hlt⟩).mp c2⟩
      · exact Or.inr ⟨rfl, fun w => c2 ((fT_j ⟨by omega, hlt⟩).mpr w.2)⟩
      · exact Or.inr ⟨rfl, fun w => c1 w.1⟩
    · rcases hv with ⟨hv1, hk, hp⟩ | ⟨hv1, hn⟩
      · refine si_f (by omega) ?_
        rcases hd with ⟨g1, g2⟩ | ⟨g1, g2, g3, g4⟩
        · refine si_t (by omega) (si_some ⟨by omega, by omega, by omega, Or.inr ⟨by omega, by show (i : Int) < ((i + 1 : Nat) : Int); omega, ⟨hk, hp⟩, fun k p r k2 kj kn => ?_⟩⟩)
          exact absurd ⟨k2, kj⟩ (g2 k p (by
            have : k ≠ (i : Int) := kn
            omega))
        · refine si_f (by omega) ?_
          obtain ⟨bp, bw, bk, -⟩ := pl b g1 (by omega)
          simp (disch := omega) only [rq2]
          rw [iw, bw]
          refine si_chk (by omega) (si_chk (by omega) (si_if (fun c3 => si_some ?_) (fun c3 => si_some ?_)))
          · try dsimp only
            refine ⟨by omega, by omega, by omega, Or.inr ⟨g1, by omega, g3, fun k p r k2 kj kn => ?_⟩⟩
            by_cases w : k = i
            · subst w
              exact beatsA_iff.mpr ⟨by omega, g3.1, by omega, by omega⟩
            · exact g4 k p (by omega) k2 kj kn
          · try dsimp only
            refine ⟨by omega, by omega, by omega, Or.inr ⟨by omega, by show (i : Int) < ((i + 1 : Nat) : Int); omega, ⟨hk, hp⟩, fun k p r k2 kj kn => ?_⟩⟩
            have hki : k < i := by
              have : k ≠ (i : Int) := kn
              omega
            by_cases w : k = b
            · subst w
              exact beatsA_iff.mpr ⟨by omega, hk, by omega, by omega⟩
            · have := beatsA_iff.mp (g4 k p hki k2 kj w)
              exact beatsA_iff.mpr ⟨by omega, hk, by omega, by omega⟩
      · refine si_t hv1 (si_some ⟨by omega, by omega, by omega, ?_⟩)
        rcases hd with ⟨g1, g2⟩ | ⟨g1, g2, g3, g4⟩
        · refine Or.inl ⟨g1, fun k p r => ?_⟩
          by_cases w : k = i
          · rw [w]; exact hn
          · exact g2 k p (by omega)
        · refine Or.inr ⟨g1, by omega, g3, fun k p r k2 kj kn => ?_⟩
          by_cases w : k = i
          · subst w; exact absurd ⟨k2, kj⟩ hn
          · exact g4 k p (by omega) k2 kj kn
  -- who is beaten on this lawn
  have hbt : ∀ k : Int, 0 ≤ k → k < A 25 → A (26 + k) = 2 → A (11 + k) = j → (beatenA A k = true ↔ k ≠ x.1) := by
    intro k p r k2 kj
    rcases hx with ⟨g1, g2⟩ | ⟨g1, g2, g3, g4⟩
    · exact absurd ⟨k2, kj⟩ (g2 k p r)
    · constructor
      · intro hb w
        subst w
        obtain ⟨-, o, o1, o2, o3⟩ := (beatenA_iff hV0).mp hb
        have ob := beatsA_iff.mp o3
        exact beats_asym o3 (g4 o o1 o2 ob.2.1 (by omega) ob.1)
      · intro w
        exact (beatenA_iff hV0).mpr ⟨k2, x.1, g1, g2, g4 k p r k2 kj w⟩
  refine si_bind (si_loop (fun i (y : Int × Mm) => y.1 = i ∧ (i : Int) ≤ A 25 ∧ (∀ g, g ≠ q → g ≠ 30 → y.2 g = ν g) ∧ (∀ o, o ≠ 9 → y.2 30 o = ν 30 o) ∧ (∀ o, (o < 11 ∨ 17 ≤ o) → y.2 q o = ν q o) ∧ (∀ k : Nat, (k : Int) < A 25 → y.2 q (11 + k) = if k < i ∧ beatenA A k = true ∧ A (11 + (k : Int)) = j then besideA A j (-1) else ν q (11 + k)) ∧ y.2 30 9 = ν 30 9 + countN (fun k => beatenA A k && decide (A (11 + k) = j)) i) (A 25).toNat ?_ 1000 (0, ν) (by omega) ⟨rfl, by omega, fun _ _ _ => rfl, fun _ _ => rfl, fun _ _ => rfl, fun k hk => by rw [if_neg (by omega)], by show ν 30 9 = ν 30 9 + 0; omega⟩)
  rintro i ⟨b, m⟩ hi ⟨hb, hiA, f1, f2, f3, f4, f5⟩
  dsimp only at hb f1 f2 f3 f4 f5 ⊢
  subst hb
  have m25 : m q 25 = A 25 := (f3 25 (Or.inr (by decide))).trans e2
  have m24 : m q 24 = A 24 := (f3 24 (Or.inr (by decide))).trans e1
  have m10 : m q 10 = A 10 := (f3 10 (Or.inl (by decide))).trans e4
  simp (disch := omega) only [w3_id, rq1, rq2]
  rw [m25]
  have hcn := countN_in (fun k => beatenA A k && decide (A (11 + k) = j)) i
  have hw : w3 ((i : Int) + 1) = ((i + 1 : Nat) : Int) := by rw [w3_id (by omega) (by omega)]; omega
  refine si_chk (by omega) (si_if (fun c => si_some (si_some ⟨f1, f2, ?_, f3 23 (Or.inr (by decide)), ?_⟩)) (fun c => ?_))
  · try dsimp only
    unfold RR
    rw [fT_o (Or.inr (by decide)) v4, fT_o (Or.inr (by decide)) v4, fT_o (Or.inl (by decide)) v4, fT_o (Or.inl (by decide)) v4]
    refine ⟨m24, m25, (f3 0 (Or.inl (by decide))).trans e3, m10, fun l h1 h2 => by rw [fT_o (Or.inl (by omega)) v4, f3 (1 + l) (Or.inl (by omega)), e5 l h1 h2, fT_o (Or.inl (by omega)) v4], fun k h1 h2 => ?_⟩
    obtain ⟨b1, b2, b3, b4⟩ := pl k h1 h2
    rw [fT_p ⟨h1, h2⟩, fT_o (Or.inr (by omega)) v4, fT_o (Or.inr (by omega)) v4, fT_o (Or.inr (by omega)) v4, f3 (17 + k) (Or.inr (by omega)), f3 (26 + k) (Or.inr (by omega)), f3 (32 + k) (Or.inr (by omega))]
    refine ⟨?_, b2, b3, b4⟩
    obtain ⟨k', rfl⟩ : ∃ k' : Nat, k = k' := ⟨k.toNat, by omega⟩
    rw [f4 k' h2]
    by_cases w : beatenA A k' = true ∧ A (11 + (k' : Int)) = j
    · rw [if_pos ⟨by omega, w⟩, if_pos ⟨w.1, by omega⟩, w.2]
    · rw [if_neg (fun u => w u.2), b1, fT_p ⟨h1, h2⟩]
      by_cases u : beatenA A k' = true ∧ A (11 + (k' : Int)) < j
      · rw [if_pos u, if_pos ⟨u.1, by omega⟩]
      · rw [if_neg u, if_neg (fun z => u ⟨z.1, by
          by_cases y : A (11 + (k' : Int)) = j
          · exact absurd ⟨z.1, y⟩ w
          · omega⟩)]
  · try dsimp only
    rw [f5, show (A 25).toNat = i by omega]
  have hlt : (i : Int) < A 25 := by omega
  obtain ⟨ip, iw, ik, -⟩ := pl i (by omega) hlt
  have hno : ¬ (beatenA A i = true ∧ A (11 + (i : Int)) = j) → i < (A 25).toNat ∧ w3 ((i : Int) + 1) = ((i + 1 : Nat) : Int) ∧ ((i + 1 : Nat) : Int) ≤ A 25 ∧ (∀ g, g ≠ q → g ≠ 30 → m g = ν g) ∧ (∀ o, o ≠ 9 → m 30 o = ν 30 o) ∧ (∀ o, (o < 11 ∨ 17 ≤ o) → m q o = ν q o) ∧ (∀ k : Nat, (k : Int) < A 25 → m q (11 + k) = if k < i + 1 ∧ beatenA A k = true ∧ A (11 + (k : Int)) = j then besideA A j (-1) else ν q (11 + k)) ∧ m 30 9 = ν 30 9 + countN (fun k => beatenA A k && decide (A (11 + k) = j)) (i + 1) := fun hn =>
    ⟨by omega, hw, by omega, f1, f2, f3, fun k hk => by
      rw [f4 k hk]
      by_cases u : k < i ∧ beatenA A k = true ∧ A (11 + (k : Int)) = j
      · rw [if_pos u, if_pos ⟨by omega, u.2⟩]
      · rw [if_neg u, if_neg (fun z => u ⟨by
          by_cases y : k = i
          · subst y; exact absurd z.2 hn
          · omega, z.2⟩)], by
      rw [f5]
      show _ = ν 30 9 + (if (beatenA A (i : Int) && decide (A (11 + (i : Int)) = j)) = true then countN (fun k => beatenA A k && decide (A (11 + k) = j)) i + 1 else countN (fun k => beatenA A k && decide (A (11 + k) = j)) i)
      rw [if_neg (fun w => hn (by simpa using w))]⟩
  refine si_if (fun c1 => si_some (hno (fun w => by
    have hk2 := ((beatenA_iff hV0).mp w.1).1
    exact (hbt i (by omega) hlt hk2 w.2).mp w.1 c1))) (fun c1 => ?_)
  have mi : m q (11 + (i : Int)) = fightTo A j (11 + i) := by rw [f4 i hlt, if_neg (fun w => by omega), ip]
  simp (disch := omega) only [w3_id, rq1, rq2]
  rw [f3 (26 + (i : Int)) (Or.inr (by omega)), ik, mi]
  refine si_chk (by omega) (si_if (fun c2 => si_chk (by omega) (si_if (fun c3 => si_bnd (si_chk (by omega) ?_)) (fun c3 => si_some (hno (fun w => c3 ((fT_j ⟨by omega, hlt⟩).mpr w.2)))))) (fun c2 => si_some (hno (fun w => c2 ((beatenA_iff hV0).mp w.1).1))))
  have hpj : A (11 + (i : Int)) = j := (fT_j ⟨by omega, hlt⟩).mp c3
  have hbe : beatenA A i = true := (hbt i (by omega) hlt c2 hpj).mpr c1
  have q30 : (q : Nat) ≠ 30 := by omega
  refine si_call (m_isOpen (ν := sM m 30 9 (w3 (m 30 9 + 1))) hq hV0 (by rw [sM_g q30]; exact m24) (by rw [sM_g q30]; exact m10) hj (Or.inr rfl)) (fun z hz => ?_)
  have rd : sM m 30 9 (w3 (m 30 9 + 1)) q (11 + (i : Int)) = j := by rw [sM_g q30, mi]; exact c3
  simp (disch := omega) only [rq2, wq2]
  rw [rd]
  have hend : ∀ v : Int, v = besideA A j (-1) → i < (A 25).toNat ∧ w3 ((i : Int) + 1) = ((i + 1 : Nat) : Int) ∧ ((i + 1 : Nat) : Int) ≤ A 25 ∧ (∀ g, g ≠ q → g ≠ 30 → sM (sM m 30 9 (w3 (m 30 9 + 1))) q (11 + (i : Int)) v g = ν g) ∧ (∀ o, o ≠ 9 → sM (sM m 30 9 (w3 (m 30 9 + 1))) q (11 + (i : Int)) v 30 o = ν 30 o) ∧ (∀ o, (o < 11 ∨ 17 ≤ o) → sM (sM m 30 9 (w3 (m 30 9 + 1))) q (11 + (i : Int)) v q o = ν q o) ∧ (∀ k : Nat, (k : Int) < A 25 → sM (sM m 30 9 (w3 (m 30 9 + 1))) q (11 + (i : Int)) v q (11 + k) = if k < i + 1 ∧ beatenA A k = true ∧ A (11 + (k : Int)) = j then besideA A j (-1) else ν q (11 + k)) ∧ sM (sM m 30 9 (w3 (m 30 9 + 1))) q (11 + (i : Int)) v 30 9 = ν 30 9 + countN (fun k => beatenA A k && decide (A (11 + k) = j)) (i + 1) := fun v hv =>
    ⟨by omega, hw, by omega, fun g g1 g2 => by rw [sM_g g1, sM_g g2]; exact f1 g g1 g2, fun o ho => by rw [sM_g (fun w => q30 w.symm), sM_n (by omega)]; exact f2 o ho, fun o ho => by rw [sM_n (by omega), sM_g q30]; exact f3 o ho, fun k hk => by
      by_cases u : k = i
      · subst u
        rw [sM_s, if_pos ⟨by omega, hbe, hpj⟩]
        exact hv
      · try dsimp only
        rw [sM_n (by omega), sM_g q30, f4 k hk]
        by_cases z : k < i ∧ beatenA A k = true ∧ A (11 + (k : Int)) = j
        · rw [if_pos z, if_pos ⟨by omega, z.2⟩]
        · rw [if_neg z, if_neg (fun y => z ⟨by omega, y.2⟩)], by
      rw [sM_g (fun w => q30 w.symm), sM_s, f5, w3_id (by omega) (by omega)]
      show _ = ν 30 9 + (if (beatenA A (i : Int) && decide (A (11 + (i : Int)) = j)) = true then countN (fun k => beatenA A k && decide (A (11 + k) = j)) i + 1 else countN (fun k => beatenA A k && decide (A (11 + k) = j)) i)
      rw [if_pos (by simp [hbe, hpj])]
      omega⟩
  by_cases w : openA A j (-1) = true
  · rw [if_pos w] at hz
    refine si_f (by omega) (si_chk (by omega) (si_bnd (si_some ?_)))
    rw [w3_id (x := j - 1) (by omega) (by omega)]
    exact hend _ (by rw [besideA_t w]; omega)
  · rw [if_neg w] at hz
    refine si_t hz (si_chk (by omega) (si_bnd (si_some ?_)))
    rw [w3_id (x := j - 0) (by omega) (by omega)]
    exact hend _ (by rw [besideA_f w]; omega)
theorem fT_0 {A : Rv} (hV : VR A) {B : Rv} (h : RR A B) : RR (fightTo A 0) B := by
  obtain ⟨v1, v2, v3, v4, v5, v6, v7, v8⟩ := hV
  obtain ⟨e1, e2, e3, e4, e5, e6⟩ := h
  unfold RR
  rw [fT_o (Or.inr (by decide)) v4, fT_o (Or.inr (by decide)) v4, fT_o (Or.inl (by decide)) v4, fT_o (Or.inl (by decide)) v4]
  refine ⟨e1, e2, e3, e4, fun l h1 h2 => by rw [fT_o (Or.inl (by omega)) v4]; exact e5 l h1 h2, fun k h1 h2 => ?_⟩
  rw [fT_p ⟨h1, h2⟩, fT_o (Or.inr (by omega)) v4, fT_o (Or.inr (by omega)) v4, fT_o (Or.inr (by omega)) v4, if_neg (fun w => by have := (v8 k h1 h2).1; omega)]
  exact e6 k h1 h2
theorem fT_n {A : Rv} (hV : VR A) {B : Rv} (h : RR (fightTo A (A 24)) B) : RR (fightA A) B := by
  obtain ⟨v1, v2, v3, v4, v5, v6, v7, v8⟩ := hV
  obtain ⟨e1, e2, e3, e4, e5, e6⟩ := h
  rw [fT_o (Or.inr (by decide)) v4] at e1 e2 e5 e6
  rw [fT_o (Or.inl (by decide)) v4] at e3 e4
  unfold RR
  rw [fightA_o (Or.inr (by decide)) v4, fightA_o (Or.inr (by decide)) v4, fightA_o (Or.inl (by decide)) v4, fightA_o (Or.inl (by decide)) v4]
  refine ⟨e1, e2, e3, e4, fun l h1 h2 => by rw [fightA_o (Or.inl (by omega)) v4, e5 l h1 h2, fT_o (Or.inl (by omega)) v4], fun k h1 h2 => ?_⟩
  have := e6 k h1 h2
  rw [fT_p ⟨h1, h2⟩, fT_o (Or.inr (by omega)) v4, fT_o (Or.inr (by omega)) v4, fT_o (Or.inr (by omega)) v4] at this
  rw [fightA_p ⟨h1, h2⟩, fightA_o (Or.inr (by omega)) v4, fightA_o (Or.inr (by omega)) v4, fightA_o (Or.inr (by omega)) v4]
  refine ⟨?_, this.2⟩
  rw [this.1]
  by_cases c : beatenA A k = true
  · rw [if_pos ⟨c, (v8 k h1 h2).1.2⟩, if_pos c]
  · rw [if_neg (fun w => c w.1), if_neg c]
set_option maxHeartbeats 2000000 in
theorem m_passes {ν : Mm} {q : Nat} (hq : q < 4) {A : Rv} (hV : VR A) (hR : RR A (ν q)) : Sat (f_X6_passes ν (38 * (q : Int))) (fun m => (∀ g, g ≠ q → g ≠ 30 → m g = ν g) ∧ (∀ o, o ≠ 8 → o ≠ 9 → m 30 o = ν 30 o) ∧ RR (dayA A) (m q) ∧ m q 23 = ν q 23 ∧ m 30 8 = dayEat A 0 ∧ m 30 9 = dayLost A) := by
  have hA6 : A 25 ≤ 6 := hV.2.2.2.1
  have hA1 : 1 ≤ A 25 := hV.2.2.1
  have hA9 : A 24 ≤ 9 := hV.2.1
  have hA2 : 2 ≤ A 24 := hV.1
  have q30 : (q : Nat) ≠ 30 := by omega
  have q30' : (30 : Nat) ≠ q := by omega
  unfold f_X6_passes
  refine si_bnd (si_bnd ?_)
  refine si_call (P := fun x : Int × Mm => (∀ g, g ≠ q → g ≠ 30 → x.2 g = ν g) ∧ (∀ o, o ≠ 8 → o ≠ 9 → x.2 30 o = ν 30 o) ∧ RR (swimsA A (A 25).toNat) (x.2 q) ∧ x.2 q 23 = ν q 23 ∧ x.2 30 8 = eatN A (A 25).toNat 0 ∧ x.2 30 9 = 0) ?_ (fun x hx => ?_)
  · refine si_loop (fun i (x : Int × Mm) => x.1 = i ∧ (i : Int) ≤ A 25 ∧ (∀ g, g ≠ q → g ≠ 30 → x.2 g = ν g) ∧ (∀ o, o ≠ 8 → o ≠ 9 → x.2 30 o = ν 30 o) ∧ RR (swimsA A i) (x.2 q) ∧ x.2 q 23 = ν q 23 ∧ x.2 30 8 = eatN A i 0 ∧ x.2 30 9 = 0) (A 25).toNat ?_ 1000 _ (by omega) ⟨rfl, by omega, fun g g1 g2 => by rw [sM_g g2, sM_g g2], fun o o1 o2 => by rw [sM_n (by omega), sM_n (by omega)], by rw [sM_g q30, sM_g q30]; exact hR, by rw [sM_g q30, sM_g q30], by rw [sM_n (by decide), sM_s]; rfl, by rw [sM_s]⟩
    rintro i ⟨b, m⟩ hi ⟨hb, hiA, f1, f2, f3, f4, f5, f6⟩
    dsimp only at hb f1 f2 f3 f4 f5 f6 ⊢
    subst hb
    obtain ⟨g1, g2, g3⟩ := VR_swims hV i hiA
    simp (disch := omega) only [w3_id, rq1, rq2]
    rw [f3.2.1, g3]
    refine si_chk (by omega) (si_if (fun c => si_some ?_) (fun c => ?_))
    · try dsimp only
      rw [show (A 25).toNat = i by omega]
      exact ⟨f1, f2, f3, f4, f5, f6⟩
    have hlt : (i : Int) < A 25 := by omega
    have hk : 0 ≤ (i : Int) ∧ (i : Int) < swimsA A i 25 := ⟨by omega, by rw [g3]; exact hlt⟩
    refine si_call (m_swimsTo hq g1 f3 hk) (fun z hz => ?_)
    subst hz
    have hg := goalA_in g1 hk
    rw [g2] at hg
    have hw : w3 ((i : Int) + 1) = ((i + 1 : Nat) : Int) := by rw [w3_id (by omega) (by omega)]; omega
    simp (disch := omega) only [w3_id, wq2, rq2]
    refine si_chk (by omega) (si_bnd (si_chk (by omega) (si_bnd ?_)))
    rw [sM_s]
    simp (disch := omega) only [w3_id, wq2, rq2]
    have hcr : sM m q (11 + (i : Int)) (goalA (swimsA A i) i) q (1 + goalA (swimsA A i) i) = swimsA A i (1 + goalA (swimsA A i) i) := by
      rw [sM_n (by omega)]
      exact f3.2.2.2.2.1 _ hg.1 (by rw [g2]; exact hg.2)
    rw [hcr]
    have hv := g1.2.2.2.2.2.2.1 (goalA (swimsA A i) i) hg.1 (by rw [g2]; exact hg.2)
    refine si_chk (by omega) (si_if (fun c1 => si_some ?_) (fun c1 => si_chk (by omega) (si_chk (by omega) (si_bnd (si_bnd (si_some ?_))))))
    · have hn : ¬ eatsA (swimsA A i) i = true := by unfold eatsA; simp; omega
      try dsimp only
      refine ⟨by omega, hw, by omega, fun g h1 h2 => by rw [sM_g h1]; exact f1 g h1 h2, fun o h1 h2 => by rw [sM_g q30']; exact f2 o h1 h2, ?_, by rw [sM_n (by omega)]; exact f4, ?_, by rw [sM_g q30']; exact f6⟩
      · try dsimp only
        rw [sM_r]
        show RR (swimA (swimsA A i) i) _
        unfold swimA
        rw [if_neg hn]
        exact RR_up f3 (by omega) (by omega)
      · try dsimp only
        rw [sM_g q30', f5]
        show _ = if eatsA (swimsA A i) (i : Int) = true then _ else _
        rw [if_neg hn]
    · have hn : eatsA (swimsA A i) i = true := by unfold eatsA; simp; omega
      have e : w3 (swimsA A i (1 + goalA (swimsA A i) i) - 1) = swimsA A i (1 + goalA (swimsA A i) i) - 1 := w3_id (by omega) (by omega)
      try dsimp only
      refine ⟨by omega, hw, by omega, fun g h1 h2 => by rw [sM_g h2, sM_g h1, sM_g h1]; exact f1 g h1 h2, fun o h1 h2 => by rw [sM_n (by omega), sM_g q30', sM_g q30']; exact f2 o h1 h2, ?_, by rw [sM_g q30, sM_n (by omega), sM_n (by omega)]; exact f4, ?_, by rw [sM_n (by omega), sM_g q30', sM_g q30']; exact f6⟩
      · try dsimp only
        rw [sM_g q30, sM_r, sM_r, e]
        show RR (swimA (swimsA A i) i) _
        unfold swimA
        rw [if_pos hn]
        exact RR_up (RR_up f3 (by omega) (by omega)) (by omega) (by omega)
      · try dsimp only
        rw [sM_s, sM_g q30', sM_g q30', f5]
        show _ = if eatsA (swimsA A i) (i : Int) = true then _ else _
        rw [if_pos hn]
  obtain ⟨k1, k2, k3, k4, k5, k6⟩ := hx
  obtain ⟨g1, g2, g3⟩ := VR_swims hV (A 25).toNat (by omega)
  generalize hB : swimsA A (A 25).toNat = B at *
  refine si_call (P := fun y : Int × Mm => (∀ g, g ≠ q → g ≠ 30 → y.2 g = ν g) ∧ (∀ o, o ≠ 8 → o ≠ 9 → y.2 30 o = ν 30 o) ∧ RR (fightA B) (y.2 q) ∧ y.2 q 23 = ν q 23 ∧ y.2 30 8 = eatN A (A 25).toNat 0 ∧ y.2 30 9 = lostA B) ?_ (fun y hy => ?_)
  · refine si_loop (fun i (y : Int × Mm) => y.1 = i ∧ (i : Int) ≤ A 24 ∧ (∀ g, g ≠ q → g ≠ 30 → y.2 g = ν g) ∧ (∀ o, o ≠ 8 → o ≠ 9 → y.2 30 o = ν 30 o) ∧ RR (fightTo B i) (y.2 q) ∧ y.2 q 23 = ν q 23 ∧ y.2 30 8 = eatN A (A 25).toNat 0 ∧ y.2 30 9 = countN (fun k => beatenA B k && decide (B (11 + k) < i)) (B 25).toNat) (A 24).toNat ?_ 1000 _ (by omega) ⟨rfl, by omega, k1, k2, fT_0 g1 k3, k4, k5, by
      rw [k6, countN_congr (Q := fun _ => false) (fun k a b => by
        have := (g1.2.2.2.2.2.2.2 k a (by omega)).1.1
        have hnn : ¬ B (11 + k) < 0 := by omega
        simp [hnn])]
      generalize (B 25).toNat = n
      induction n with
      | zero => rfl
      | succ n ih => unfold countN; rw [if_neg (by decide)]; exact ih⟩
    rintro i ⟨b, m⟩ hi ⟨hb, hiA, f1, f2, f3, f4, f5, f6⟩
    dsimp only at hb f1 f2 f3 f4 f5 f6 ⊢
    subst hb
    simp (disch := omega) only [w3_id, rq1, rq2]
    have m24 : m q 24 = A 24 := by rw [f3.1, fT_o (Or.inr (by decide)) g1.2.2.2.1]; exact g2
    rw [m24]
    have hcn := countN_in (fun k => beatenA B k && decide (B (11 + k) < (i : Int))) (B 25).toNat
    refine si_chk (by omega) (si_if (fun c => si_some ?_) (fun c => ?_))
    · have hiN : (i : Int) = B 24 := by omega
      refine ⟨f1, f2, fT_n g1 (by rw [← hiN]; exact f3), f4, f5, ?_⟩
      rw [f6]
      unfold lostA
      refine countN_congr (fun k a b => ?_)
      have := (g1.2.2.2.2.2.2.2 k a (by omega)).1.2
      rw [hiN]
      simp [this]
    · refine si_call (m_fightsOn hq g1 (j := (i : Int)) ⟨by omega, by omega⟩ f3 (by omega)) (fun z hz => si_some ?_)
      obtain ⟨n1, n2, n3, n4, n5⟩ := hz
      try dsimp only
      refine ⟨by omega, by rw [w3_id (by omega) (by omega)]; omega, by omega, fun g h1 h2 => (n1 g h1 h2).trans (f1 g h1 h2), fun o h1 h2 => (n2 o h2).trans (f2 o h1 h2), by rw [show ((i + 1 : Nat) : Int) = (i : Int) + 1 by omega]; exact n3, n4.trans f4, (n2 8 (by decide)).trans f5, ?_⟩
      rw [n5, f6]
      refine countN_add (fun k a b => ⟨?_, ?_⟩)
      · simp
        constructor
        · rintro ⟨w1, w2⟩
          by_cases u : B (11 + k) = i
          · exact Or.inr ⟨w1, u⟩
          · exact Or.inl ⟨w1, by omega⟩
        · rintro (⟨w1, w2⟩ | ⟨w1, w2⟩)
          · exact ⟨w1, by omega⟩
          · exact ⟨w1, by omega⟩
      · simp
        intro w1 w2 w3
        omega
  obtain ⟨j1, j2, j3, j4, j5, j6⟩ := hy
  simp (disch := omega) only [w3_id, rq1, rq2, wq1]
  have h0 : y.2 q 0 = fightA B 0 := j3.2.2.1
  refine si_chk (by omega) (si_chk (by omega) (si_bnd (si_some ?_)))
  refine ⟨fun g h1 h2 => by rw [sM_g h1]; exact j1 g h1 h2, fun o h1 h2 => by rw [sM_g q30']; exact j2 o h1 h2, ?_, by rw [sM_n (by decide)]; exact j4, by rw [sM_g q30']; exact j5, by rw [sM_g q30']; unfold dayLost; rw [hB]; exact j6⟩
  rw [sM_r, h0]
  unfold dayA
  rw [hB]
  exact RR_up j3 (by decide) (by decide)
