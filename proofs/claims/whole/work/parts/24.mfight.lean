/-! The reference's fights, lawn by lawn, and its whole day. -/
def fightTo (A : Rv) (j : Int) : Rv := fun o => if 11 ≤ o ∧ o < 11 + A 25 ∧ beatenA A (o - 11) = true ∧ A o < j then besideA A (A o) (-1) else A o
theorem fT_o {A : Rv} {j o : Int} (h : o < 11 ∨ 17 ≤ o) (hA : A 25 ≤ 6) : fightTo A j o = A o := by
  unfold fightTo
  rw [if_neg (fun q => by omega)]
theorem fT_p {A : Rv} {j k : Int} (h : 0 ≤ k ∧ k < A 25) : fightTo A j (11 + k) = if beatenA A k = true ∧ A (11 + k) < j then besideA A (A (11 + k)) (-1) else A (11 + k) := by
  unfold fightTo
  rw [show 11 + k - 11 = k by omega]
  by_cases c : beatenA A k = true ∧ A (11 + k) < j
  · rw [if_pos ⟨by omega, by omega, c.1, c.2⟩, if_pos c]
  · rw [if_neg (fun q => c ⟨q.2.2.1, q.2.2.2⟩), if_neg c]
theorem beside_le {A : Rv} {p : Int} : besideA A p (-1) ≤ p := by
  unfold besideA
  split <;> omega
theorem fT_j {A : Rv} {j k : Int} (h : 0 ≤ k ∧ k < A 25) : fightTo A j (11 + k) = j ↔ A (11 + k) = j := by
  rw [fT_p h]
  by_cases c : beatenA A k = true ∧ A (11 + k) < j
  · rw [if_pos c]
    have := beside_le (A := A) (p := A (11 + k))
    omega
  · rw [if_neg c]
theorem beats_asym {A : Rv} {a b : Int} (h1 : beatsA A a b = true) (h2 : beatsA A b a = true) : False := by
  obtain ⟨a1, a2, a3, a4⟩ := beatsA_iff.mp h1
  obtain ⟨b1, b2, b3, b4⟩ := beatsA_iff.mp h2
  omega
/-- the best cob of the first n on lawn j (-1: none) -/
def bestI (A : Rv) (j n b : Int) : Prop := (b = -1 ∧ ∀ k : Int, 0 ≤ k → k < n → ¬ (A (26 + k) = 2 ∧ A (11 + k) = j)) ∨ (0 ≤ b ∧ b < n ∧ (A (26 + b) = 2 ∧ A (11 + b) = j) ∧ ∀ k : Int, 0 ≤ k → k < n → A (26 + k) = 2 → A (11 + k) = j → k ≠ b → beatsA A b k = true)
theorem bestI_no {A : Rv} {j n b : Int} (h : bestI A j n b) (hn : ¬ (A (26 + n) = 2 ∧ A (11 + n) = j)) : bestI A j (n + 1) b := by
  rcases h with ⟨g1, g2⟩ | ⟨g1, g2, g3, g4⟩
  · refine Or.inl ⟨g1, fun k p r => ?_⟩
    by_cases w : k = n
    · rw [w]; exact hn
    · exact g2 k p (by omega)
  · refine Or.inr ⟨g1, by omega, g3, fun k p r k2 kj kn => ?_⟩
    by_cases w : k = n
    · subst w; exact absurd ⟨k2, kj⟩ hn
    · exact g4 k p (by omega) k2 kj kn
theorem bestI_first {A : Rv} {j n b : Int} (h : bestI A j n b) (hb : b < 0) (h0 : 0 ≤ n) (hn : A (26 + n) = 2 ∧ A (11 + n) = j) : bestI A j (n + 1) n := by
  rcases h with ⟨g1, g2⟩ | ⟨g1, g2, g3, g4⟩
  · refine Or.inr ⟨h0, by omega, hn, fun k p r k2 kj kn => ?_⟩
    exact absurd ⟨k2, kj⟩ (g2 k p (by omega))
  · omega
theorem bestI_keep {A : Rv} {j n b : Int} (h : bestI A j n b) (hb : 0 ≤ b) (hn : A (26 + n) = 2 ∧ A (11 + n) = j) (hw : A (17 + n) ≤ A (17 + b)) : bestI A j (n + 1) b := by
  rcases h with ⟨g1, g2⟩ | ⟨g1, g2, g3, g4⟩
  · omega
  · refine Or.inr ⟨g1, by omega, g3, fun k p r k2 kj kn => ?_⟩
    by_cases w : k = n
    · subst w
      exact beatsA_iff.mpr ⟨fun q => kn q.symm, g3.1, by rw [g3.2, kj], by omega⟩
    · exact g4 k p (by omega) k2 kj kn
theorem bestI_new {A : Rv} {j n b : Int} (h : bestI A j n b) (hb : 0 ≤ b) (hn : A (26 + n) = 2 ∧ A (11 + n) = j) (hw : ¬ A (17 + n) ≤ A (17 + b)) : bestI A j (n + 1) n := by
  rcases h with ⟨g1, g2⟩ | ⟨g1, g2, g3, g4⟩
  · omega
  · refine Or.inr ⟨by omega, by omega, hn, fun k p r k2 kj kn => ?_⟩
    by_cases w : k = b
    · subst w
      exact beatsA_iff.mpr ⟨fun q => kn q.symm, hn.1, by rw [hn.2, kj], by omega⟩
    · have := (beatsA_iff.mp (g4 k p (by omega) k2 kj w)).2.2.2
      exact beatsA_iff.mpr ⟨fun q => kn q.symm, hn.1, by rw [hn.2, kj], by omega⟩
theorem bestI_b {A : Rv} {j n b : Int} (h : bestI A j n b) (hn : 0 ≤ n) : -1 ≤ b ∧ b < n ∨ b = -1 := by
  rcases h with ⟨g1, -⟩ | ⟨g1, g2, -, -⟩
  · exact Or.inr g1
  · exact Or.inl ⟨by omega, g2⟩
theorem bestI_beaten {A : Rv} (hV : VR A) {j b : Int} (h : bestI A j (A 25) b) {k : Int} (p : 0 ≤ k) (r : k < A 25) (k2 : A (26 + k) = 2) (kj : A (11 + k) = j) : beatenA A k = true ↔ k ≠ b := by
  rcases h with ⟨g1, g2⟩ | ⟨g1, g2, g3, g4⟩
  · exact absurd ⟨k2, kj⟩ (g2 k p r)
  · constructor
    · intro hb w
      subst w
      obtain ⟨-, o, o1, o2, o3⟩ := (beatenA_iff hV).mp hb
      have ob := beatsA_iff.mp o3
      exact beats_asym o3 (g4 o o1 o2 ob.2.1 (by rw [ob.2.2.1]; exact kj) ob.1)
    · intro w
      exact (beatenA_iff hV).mpr ⟨k2, b, g1, g2, g4 k p r k2 kj w⟩
/-- i swans have been gone through on lawn j -/
def FI (A : Rv) (ν : Mm) (q : Nat) (j : Int) (i : Nat) (m : Mm) : Prop := (∀ g, g ≠ q → g ≠ 30 → m g = ν g) ∧ (∀ o, o ≠ 9 → m 30 o = ν 30 o) ∧ (∀ o, (o < 11 ∨ 17 ≤ o) → m q o = ν q o) ∧ (∀ k : Nat, (k : Int) < A 25 → m q (11 + k) = if k < i ∧ beatenA A k = true ∧ A (11 + (k : Int)) = j then besideA A j (-1) else ν q (11 + k)) ∧ m 30 9 = ν 30 9 + countN (fun k => beatenA A k && decide (A (11 + k) = j)) i
theorem FI_no {A : Rv} {ν m : Mm} {q : Nat} {j : Int} {i : Nat} (h : FI A ν q j i m) (hn : ¬ (beatenA A i = true ∧ A (11 + (i : Int)) = j)) : FI A ν q j (i + 1) m := by
  obtain ⟨f1, f2, f3, f4, f5⟩ := h
  refine ⟨f1, f2, f3, fun k hk => ?_, ?_⟩
  · rw [f4 k hk]
    by_cases u : k < i ∧ beatenA A k = true ∧ A (11 + (k : Int)) = j
    · rw [if_pos u, if_pos ⟨by omega, u.2⟩]
    · rw [if_neg u, if_neg (fun z => u ⟨by
        by_cases y : k = i
        · subst y; exact absurd z.2 hn
        · omega, z.2⟩)]
  · rw [f5]
    show _ = ν 30 9 + (if (beatenA A (i : Int) && decide (A (11 + (i : Int)) = j)) = true then countN (fun k => beatenA A k && decide (A (11 + k) = j)) i + 1 else countN (fun k => beatenA A k && decide (A (11 + k) = j)) i)
    rw [if_neg (fun w => hn (by simpa using w))]
theorem FI_yes {A : Rv} {ν m : Mm} {q : Nat} {j : Int} {i : Nat} (q30 : q ≠ 30) (h : FI A ν q j i m) (hbe : beatenA A i = true) (hpj : A (11 + (i : Int)) = j) {w v : Int} (hw : w = m 30 9 + 1) (hv : v = besideA A j (-1)) (hi6 : i < 6) : FI A ν q j (i + 1) (sM (sM m 30 9 w) q (11 + (i : Int)) v) := by
  obtain ⟨f1, f2, f3, f4, f5⟩ := h
  refine ⟨fun g g1 g2 => by rw [sM_g g1, sM_g g2]; exact f1 g g1 g2, fun o ho => by rw [sM_g (fun w => q30 w.symm), sM_n (by omega)]; exact f2 o ho, fun o ho => by rw [sM_n (by omega), sM_g q30]; exact f3 o ho, fun k hk => ?_, ?_⟩
  · by_cases u : k = i
    · subst u
      rw [sM_s, if_pos ⟨by omega, hbe, hpj⟩]
      exact hv
    · rw [sM_n (by omega), sM_g q30, f4 k hk]
      by_cases z : k < i ∧ beatenA A k = true ∧ A (11 + (k : Int)) = j
      · rw [if_pos z, if_pos ⟨by omega, z.2⟩]
      · rw [if_neg z, if_neg (fun y => z ⟨by omega, y.2⟩)]
  · rw [sM_g (fun w => q30 w.symm), sM_s, hw, f5]
    show _ = ν 30 9 + (if (beatenA A (i : Int) && decide (A (11 + (i : Int)) = j)) = true then countN (fun k => beatenA A k && decide (A (11 + k) = j)) i + 1 else countN (fun k => beatenA A k && decide (A (11 + k) = j)) i)
    rw [if_pos (by simp [hbe, hpj])]
    omega
/-- the reference's river q holds what stands when the lawns below j are fought over -/
def hasT (A : Rv) (ν : Mm) (q : Nat) (j : Int) : Prop := ν q 24 = A 24 ∧ ν q 25 = A 25 ∧ ν q 0 = A 0 ∧ ν q 10 = A 10 ∧ (∀ l, 0 ≤ l → l < A 24 → ν q (1 + l) = A (1 + l)) ∧ ∀ k : Int, 0 ≤ k → k < A 25 → ν q (11 + k) = fightTo A j (11 + k) ∧ ν q (17 + k) = A (17 + k) ∧ ν q (26 + k) = A (26 + k) ∧ ν q (32 + k) = A (32 + k)
theorem hasT_iff {A : Rv} (v4 : A 25 ≤ 6) (v2 : A 24 ≤ 9) {ν : Mm} {q : Nat} {j : Int} : hasT A ν q j ↔ RR (fightTo A j) (ν q) := by
  unfold hasT RR
  rw [fT_o (Or.inr (by decide)) v4, fT_o (Or.inr (by decide)) v4, fT_o (Or.inl (by decide)) v4, fT_o (Or.inl (by decide)) v4]
  constructor
  · rintro ⟨e1, e2, e3, e4, e5, e6⟩
    refine ⟨e1, e2, e3, e4, fun l a b => by rw [fT_o (Or.inl (by omega)) v4]; exact e5 l a b, fun k a b => ?_⟩
    rw [fT_o (o := 17 + k) (Or.inr (by omega)) v4, fT_o (o := 26 + k) (Or.inr (by omega)) v4, fT_o (o := 32 + k) (Or.inr (by omega)) v4]
    exact e6 k a b
  · rintro ⟨e1, e2, e3, e4, e5, e6⟩
    refine ⟨e1, e2, e3, e4, fun l a b => by rw [e5 l a b, fT_o (Or.inl (by omega)) v4], fun k a b => ?_⟩
    have := e6 k a b
    rw [fT_o (o := 17 + k) (Or.inr (by omega)) v4, fT_o (o := 26 + k) (Or.inr (by omega)) v4, fT_o (o := 32 + k) (Or.inr (by omega)) v4] at this
    exact this
theorem FI_end {A : Rv} (v4 : A 25 ≤ 6) (v2 : A 24 ≤ 9) {ν m : Mm} {q : Nat} {j : Int} {i : Nat} (hi : (i : Int) = A 25) (hT : hasT A ν q j) (h : FI A ν q j i m) : hasT A m q (j + 1) := by
  obtain ⟨f1, f2, f3, f4, f5⟩ := h
  obtain ⟨e1, e2, e3, e4, e5, e6⟩ := hT
  refine ⟨(f3 24 (Or.inr (by decide))).trans e1, (f3 25 (Or.inr (by decide))).trans e2, (f3 0 (Or.inl (by decide))).trans e3, (f3 10 (Or.inl (by decide))).trans e4, fun l a b => (f3 (1 + l) (Or.inl (by omega))).trans (e5 l a b), fun k a b => ?_⟩
  obtain ⟨b1, b2, b3, b4⟩ := e6 k a b
  refine ⟨?_, (f3 (17 + k) (Or.inr (by omega))).trans b2, (f3 (26 + k) (Or.inr (by omega))).trans b3, (f3 (32 + k) (Or.inr (by omega))).trans b4⟩
  obtain ⟨k', rfl⟩ : ∃ k' : Nat, k = k' := ⟨k.toNat, by omega⟩
  rw [f4 k' b, fT_p ⟨a, b⟩]
  by_cases w : beatenA A k' = true ∧ A (11 + (k' : Int)) = j
  · rw [if_pos ⟨by omega, w⟩, if_pos ⟨w.1, by omega⟩, w.2]
  · rw [if_neg (fun u => w u.2), b1, fT_p ⟨a, b⟩]
    by_cases u : beatenA A k' = true ∧ A (11 + (k' : Int)) < j
    · rw [if_pos u, if_pos ⟨u.1, by omega⟩]
    · rw [if_neg u, if_neg (fun z => u ⟨z.1, by
        by_cases y : A (11 + (k' : Int)) = j
        · exact absurd ⟨z.1, y⟩ w
        · omega⟩)]
set_option maxHeartbeats 2000000 in
theorem m_fightsOn {ν : Mm} {q : Nat} (hq : q < 4) {A : Rv} (hV : VR A) {j : Int} (hj : 0 ≤ j ∧ j < A 24) (hT : hasT A ν q j) (h9 : 0 ≤ ν 30 9 ∧ ν 30 9 ≤ 100000) : Sat (f_X6_fightsOn ν (38 * (q : Int)) j) (fun m => FI A ν q j (A 25).toNat m) := by
  have hV0 := hV
  have v4 : A 25 ≤ 6 := hV.2.2.2.1
  have v3 : 1 ≤ A 25 := hV.2.2.1
  have v2 : A 24 ≤ 9 := hV.2.1
  have pl := hT.2.2.2.2.2
  have e1 := hT.1
  have e2 := hT.2.1
  have e4 := hT.2.2.2.1
  unfold f_X6_fightsOn
  refine si_call (P := fun x : Int × Int => bestI A j (A 25) x.1) ?_ (fun x hx => ?_)
  · refine si_loop (fun i (x : Int × Int) => x.2 = i ∧ (i : Int) ≤ A 25 ∧ bestI A j i x.1) (A 25).toNat ?_ 1000 ((-1), 0) (by omega) ⟨rfl, by omega, Or.inl ⟨rfl, fun k _ _ => by omega⟩⟩
    rintro i ⟨b, a⟩ hi ⟨ha, hiA, hd⟩
    dsimp only at ha hd ⊢
    subst ha
    have hbb := bestI_b hd (by omega)
    have hb1 : -1 ≤ b ∧ b < 6 := by omega
    clear hbb
    simp (disch := omega) only [w3_id, rq1, rq2]
    refine si_chk (by omega) (si_if (fun c => si_some ?_) (fun c => ?_))
    · rw [e2] at c
      rw [show A 25 = (i : Int) by omega]
      exact hd
    rw [e2] at c
    have hlt : (i : Int) < A 25 := by omega
    obtain ⟨ip, iw, ik, -⟩ := pl i (by omega) hlt
    refine si_chk (by omega) (si_call (P := fun v : Int => (v = 1 ∧ A (26 + (i : Int)) = 2 ∧ A (11 + (i : Int)) = j) ∨ (v = 0 ∧ ¬ (A (26 + (i : Int)) = 2 ∧ A (11 + (i : Int)) = j))) ?_ (fun v hv => ?_))
    · refine si_if (fun c1 => si_chk (by omega) (si_if (fun c2 => si_some ?_) (fun c2 => si_some ?_))) (fun c1 => si_some ?_)
      · rw [ik] at c1
        rw [ip] at c2
        exact Or.inl ⟨rfl, c1, (fT_j ⟨by omega, hlt⟩).mp c2⟩
      · rw [ip] at c2
        exact Or.inr ⟨rfl, fun w => c2 ((fT_j ⟨by omega, hlt⟩).mpr w.2)⟩
      · rw [ik] at c1
        exact Or.inr ⟨rfl, fun w => c1 w.1⟩
    · rcases hv with ⟨hv1, hkp⟩ | ⟨hv1, hn⟩
      · refine si_f (by omega) (si_if (fun c3 => si_some ⟨by omega, by omega, by omega, bestI_first hd c3 (by omega) hkp⟩) (fun c3 => ?_))
        obtain ⟨bp, bw, bk, -⟩ := pl b (by omega) (by
          rcases hd with ⟨g1, -⟩ | ⟨g1, g2, -, -⟩
          · omega
          · omega)
        refine si_chk (by omega) (si_chk (by omega) (si_if (fun c4 => si_some ?_) (fun c4 => si_some ?_)))
        · rw [iw, bw] at c4
          exact ⟨by omega, by omega, by omega, bestI_keep hd (by omega) hkp c4⟩
        · rw [iw, bw] at c4
          exact ⟨by omega, by omega, by omega, bestI_new hd (by omega) hkp c4⟩
      · exact si_t hv1 (si_some ⟨by omega, by omega, by omega, bestI_no hd hn⟩)
  refine si_bind (si_loop (fun i (y : Int × Mm) => y.1 = i ∧ (i : Int) ≤ A 25 ∧ FI A ν q j i y.2) (A 25).toNat ?_ 1000 (0, ν) (by omega) ⟨rfl, by omega, fun _ _ _ => rfl, fun _ _ => rfl, fun _ _ => rfl, fun k hk => by rw [if_neg (by omega)], by show ν 30 9 = ν 30 9 + 0; omega⟩)
  rintro i ⟨b, m⟩ hi ⟨hb, hiA, hF⟩
  dsimp only at hb hF ⊢
  subst hb
  have m25 : m q 25 = A 25 := (hF.2.2.1 25 (Or.inr (by decide))).trans e2
  have m24 : m q 24 = A 24 := (hF.2.2.1 24 (Or.inr (by decide))).trans e1
  have m10 : m q 10 = A 10 := (hF.2.2.1 10 (Or.inl (by decide))).trans e4
  have m9 := hF.2.2.2.2
  have hcn := countN_in (fun k => beatenA A k && decide (A (11 + k) = j)) i
  simp (disch := omega) only [w3_id, rq1, rq2]
  refine si_chk (by omega) (si_if (fun c => si_some (si_some ?_)) (fun c => ?_))
  · rw [show (A 25).toNat = i by omega]
    exact hF
  have hlt : (i : Int) < A 25 := by omega
  obtain ⟨ip, iw, ik, -⟩ := pl i (by omega) hlt
  refine si_if (fun c1 => si_some ⟨by omega, by omega, by omega, FI_no hF (fun w => ?_)⟩) (fun c1 => ?_)
  · exact (bestI_beaten hV0 hx (by omega) hlt ((beatenA_iff hV0).mp w.1).1 w.2).mp w.1 c1
  have mi : m q (11 + (i : Int)) = fightTo A j (11 + i) := by rw [hF.2.2.2.1 i hlt, if_neg (fun w => by omega), ip]
  have mk : m q (26 + (i : Int)) = A (26 + i) := (hF.2.2.1 (26 + (i : Int)) (Or.inr (by omega))).trans ik
  refine si_chk (by omega) (si_if (fun c2 => si_chk (by omega) (si_if (fun c3 => si_bnd (si_chk (by omega) ?_)) (fun c3 => si_some ⟨by omega, by omega, by omega, FI_no hF (fun w => ?_)⟩))) (fun c2 => si_some ⟨by omega, by omega, by omega, FI_no hF (fun w => ?_)⟩))
  · have hpj : A (11 + (i : Int)) = j := (fT_j ⟨by omega, hlt⟩).mp (mi.symm.trans c3)
    have hbe : beatenA A i = true := (bestI_beaten hV0 hx (by omega) hlt (mk.symm.trans c2) hpj).mpr c1
    have q30 : (q : Nat) ≠ 30 := by omega
    refine si_call (m_isOpen hq hV0 (by rw [sM_g q30]; exact m24) (by rw [sM_g q30]; exact m10) hj (Or.inr rfl)) (fun z hz => ?_)
    simp (disch := omega) only [w3_id, rq2, wq2]
    by_cases w : openA A j (-1) = true
    · rw [if_pos w] at hz
      refine si_f (by omega) (si_chk (by omega) (si_bnd (si_some ⟨by omega, by omega, by omega, ?_⟩)))
      refine FI_yes q30 hF hbe hpj rfl ?_ (by omega)
      rw [sM_g q30, c3, besideA_t w, w3_id (by omega) (by omega)]
      omega
    · rw [if_neg w] at hz
      refine si_t hz (si_chk (by omega) (si_bnd (si_some ⟨by omega, by omega, by omega, ?_⟩)))
      refine FI_yes q30 hF hbe hpj rfl ?_ (by omega)
      rw [sM_g q30, c3, besideA_f w, w3_id (by omega) (by omega)]
      omega
  · exact c3 (mi.trans ((fT_j ⟨by omega, hlt⟩).mpr w.2))
  · exact c2 (mk.trans ((beatenA_iff hV0).mp w.1).1)
theorem fT_0 {A : Rv} (hV : VR A) {B : Rv} (h : RR A B) : RR (fightTo A 0) B := by
  obtain ⟨v1, v2, v3, v4, v5, v6, v7, v8⟩ := hV
  obtain ⟨e1, e2, e3, e4, e5, e6⟩ := h
  unfold RR
  rw [fT_o (Or.inr (by decide)) v4, fT_o (Or.inr (by decide)) v4, fT_o (Or.inl (by decide)) v4, fT_o (Or.inl (by decide)) v4]
  refine ⟨e1, e2, e3, e4, fun l h1 h2 => by rw [fT_o (Or.inl (by omega)) v4]; exact e5 l h1 h2, fun k h1 h2 => ?_⟩
  rw [fT_p ⟨h1, h2⟩, fT_o (Or.inr (by omega)) v4, fT_o (Or.inr (by omega)) v4, fT_o (Or.inr (by omega)) v4, if_neg (fun w => by have := (v8 k h1 h2).1; omega)]
  exact e6 k h1 h2
theorem fT_n {A : Rv} (hV : VR A) {B : Rv} (h : RR (fightTo A (A 24)) B) : RR (fightA A) B := by
  obtain ⟨v1, v2, v3, v4, v5, v6, v7, v8⟩ := hV
  obtain ⟨e1, e2, e3, e4, e5, e6⟩ := h
  rw [fT_o (Or.inr (by decide)) v4] at e1 e2 e5 e6
  rw [fT_o (Or.inl (by decide)) v4] at e3 e4
  unfold RR
  rw [fightA_o (Or.inr (by decide)) v4, fightA_o (Or.inr (by decide)) v4, fightA_o (Or.inl (by decide)) v4, fightA_o (Or.inl (by decide)) v4]
  refine ⟨e1, e2, e3, e4, fun l h1 h2 => by rw [fightA_o (Or.inl (by omega)) v4, e5 l h1 h2, fT_o (Or.inl (by omega)) v4], fun k h1 h2 => ?_⟩
  have := e6 k h1 h2
  rw [fT_p ⟨h1, h2⟩, fT_o (Or.inr (by omega)) v4, fT_o (Or.inr (by omega)) v4, fT_o (Or.inr (by omega)) v4] at this
  rw [fightA_p ⟨h1, h2⟩, fightA_o (Or.inr (by omega)) v4, fightA_o (Or.inr (by omega)) v4, fightA_o (Or.inr (by omega)) v4]
  refine ⟨?_, this.2⟩
  rw [this.1]
  by_cases c : beatenA A k = true
  · rw [if_pos ⟨c, (v8 k h1 h2).1.2⟩, if_pos c]
  · rw [if_neg (fun w => c w.1), if_neg c]
set_option maxHeartbeats 2000000 in
theorem m_passes {ν : Mm} {q : Nat} (hq : q < 4) {A : Rv} (hV : VR A) (hR : RR A (ν q)) : Sat (f_X6_passes ν (38 * (q : Int))) (fun m => (∀ g, g ≠ q → g ≠ 30 → m g = ν g) ∧ (∀ o, o ≠ 8 → o ≠ 9 → m 30 o = ν 30 o) ∧ RR (dayA A) (m q) ∧ m q 23 = ν q 23 ∧ m 30 8 = dayEat A 0 ∧ m 30 9 = dayLost A) := by
  have hA6 : A 25 ≤ 6 := hV.2.2.2.1
  have hA1 : 1 ≤ A 25 := hV.2.2.1
  have hA9 : A 24 ≤ 9 := hV.2.1
  have hA2 : 2 ≤ A 24 := hV.1
  have q30 : (q : Nat) ≠ 30 := by omega
  have q30' : (30 : Nat) ≠ q := by omega
  unfold f_X6_passes
  refine si_bnd (si_bnd ?_)
  refine si_call (P := fun x : Int × Mm => (∀ g, g ≠ q → g ≠ 30 → x.2 g = ν g) ∧ (∀ o, o ≠ 8 → o ≠ 9 → x.2 30 o = ν 30 o) ∧ RR (swimsA A (A 25).toNat) (x.2 q) ∧ x.2 q 23 = ν q 23 ∧ x.2 30 8 = eatN A (A 25).toNat 0 ∧ x.2 30 9 = 0) ?_ (fun x hx => ?_)
  · refine si_loop (fun i (x : Int × Mm) => x.1 = i ∧ (i : Int) ≤ A 25 ∧ (∀ g, g ≠ q → g ≠ 30 → x.2 g = ν g) ∧ (∀ o, o ≠ 8 → o ≠ 9 → x.2 30 o = ν 30 o) ∧ RR (swimsA A i) (x.2 q) ∧ x.2 q 23 = ν q 23 ∧ x.2 30 8 = eatN A i 0 ∧ x.2 30 9 = 0) (A 25).toNat ?_ 1000 _ (by omega) ⟨rfl, by omega, fun g g1 g2 => by dsimp only; rw [sM_g g2, sM_g g2], fun o o1 o2 => by dsimp only; rw [sM_n (by omega), sM_n (by omega)], by dsimp only; rw [sM_g q30, sM_g q30]; exact hR, by dsimp only; rw [sM_g q30, sM_g q30], by dsimp only; rw [sM_n (by omega), sM_s]; rfl, by dsimp only; rw [sM_s]⟩
    rintro i ⟨b, m⟩ hi ⟨hb, hiA, f1, f2, f3, f4, f5, f6⟩
    dsimp only at hb f1 f2 f3 f4 f5 f6 ⊢
    subst hb
    obtain ⟨g1, g2, g3⟩ := VR_swims hV i hiA
    simp (disch := omega) only [w3_id, rq1, rq2]
    rw [f3.2.1, g3]
    refine si_chk (by omega) (si_if (fun c => si_some ?_) (fun c => ?_))
    · try dsimp only
      rw [show (A 25).toNat = i by omega]
      exact ⟨f1, f2, f3, f4, f5, f6⟩
    have hlt : (i : Int) < A 25 := by omega
    have hk : 0 ≤ (i : Int) ∧ (i : Int) < swimsA A i 25 := ⟨by omega, by rw [g3]; exact hlt⟩
    refine si_call (m_swimsTo hq g1 f3 hk) (fun z hz => ?_)
    subst hz
    have hg := goalA_in g1 hk
    rw [g2] at hg
    have hw : w3 ((i : Int) + 1) = ((i + 1 : Nat) : Int) := by rw [w3_id (by omega) (by omega)]; omega
    simp (disch := omega) only [w3_id, wq2, rq2]
    refine si_chk (by omega) (si_bnd (si_chk (by omega) (si_bnd ?_)))
    rw [sM_s]
    simp (disch := omega) only [w3_id, wq2, rq2]
    have hcr : sM m q (11 + (i : Int)) (goalA (swimsA A i) i) q (1 + goalA (swimsA A i) i) = swimsA A i (1 + goalA (swimsA A i) i) := by
      rw [sM_n (by omega)]
      exact f3.2.2.2.2.1 _ hg.1 (by rw [g2]; exact hg.2)
    rw [hcr]
    have hv := g1.2.2.2.2.2.2.1 (goalA (swimsA A i) i) hg.1 (by rw [g2]; exact hg.2)
    refine si_chk (by omega) (si_if (fun c1 => si_some ?_) (fun c1 => si_chk (by omega) (si_chk (by omega) (si_bnd (si_bnd (si_some ?_))))))
    · have hn : ¬ eatsA (swimsA A i) i = true := by unfold eatsA; simp; omega
      try dsimp only
      refine ⟨by omega, by omega, by omega, fun g h1 h2 => by rw [sM_g h1]; exact f1 g h1 h2, fun o h1 h2 => by rw [sM_g q30']; exact f2 o h1 h2, ?_, by rw [sM_n (by omega)]; exact f4, ?_, by rw [sM_g q30']; exact f6⟩
      · try dsimp only
        rw [sM_r]
        show RR (swimA (swimsA A i) i) _
        unfold swimA
        rw [if_neg hn]
        exact RR_up f3 (by omega) (by omega)
      · try dsimp only
        rw [sM_g q30', f5]
        show _ = if eatsA (swimsA A i) (i : Int) = true then _ else _
        rw [if_neg hn]
    · have hn : eatsA (swimsA A i) i = true := by unfold eatsA; simp; omega
      have e : w3 (swimsA A i (1 + goalA (swimsA A i) i) - 1) = swimsA A i (1 + goalA (swimsA A i) i) - 1 := w3_id (by omega) (by omega)
      try dsimp only
      refine ⟨by omega, by omega, by omega, fun g h1 h2 => by rw [sM_g h2, sM_g h1, sM_g h1]; exact f1 g h1 h2, fun o h1 h2 => by rw [sM_n (by omega), sM_g q30', sM_g q30']; exact f2 o h1 h2, ?_, by rw [sM_g q30, sM_n (by omega), sM_n (by omega)]; exact f4, ?_, by rw [sM_n (by omega), sM_g q30', sM_g q30']; exact f6⟩
      · try dsimp only
        rw [sM_g q30, sM_r, sM_r, e]
        show RR (swimA (swimsA A i) i) _
        unfold swimA
        rw [if_pos hn]
        exact RR_up (RR_up f3 (by omega) (by omega)) (by omega) (by omega)
      · try dsimp only
        rw [sM_s, sM_g q30', sM_g q30', f5]
        show _ = if eatsA (swimsA A i) (i : Int) = true then _ else _
        rw [if_pos hn]
  obtain ⟨k1, k2, k3, k4, k5, k6⟩ := hx
  obtain ⟨g1, g2, g3⟩ := VR_swims hV (A 25).toNat (by omega)
  generalize hB : swimsA A (A 25).toNat = B at *
  refine si_call (P := fun y : Int × Mm => (∀ g, g ≠ q → g ≠ 30 → y.2 g = ν g) ∧ (∀ o, o ≠ 8 → o ≠ 9 → y.2 30 o = ν 30 o) ∧ RR (fightA B) (y.2 q) ∧ y.2 q 23 = ν q 23 ∧ y.2 30 8 = eatN A (A 25).toNat 0 ∧ y.2 30 9 = lostA B) ?_ (fun y hy => ?_)
  · refine si_loop (fun i (y : Int × Mm) => y.1 = i ∧ (i : Int) ≤ A 24 ∧ (∀ g, g ≠ q → g ≠ 30 → y.2 g = ν g) ∧ (∀ o, o ≠ 8 → o ≠ 9 → y.2 30 o = ν 30 o) ∧ hasT B y.2 q i ∧ y.2 q 23 = ν q 23 ∧ y.2 30 8 = eatN A (A 25).toNat 0 ∧ y.2 30 9 = countN (fun k => beatenA B k && decide (B (11 + k) < i)) (B 25).toNat) (A 24).toNat ?_ 1000 _ (by omega) ⟨rfl, by omega, k1, k2, (hasT_iff g1.2.2.2.1 g1.2.1).mpr (fT_0 g1 k3), k4, k5, by
      rw [k6, countN_congr (Q := fun _ => false) (fun k a b => by
        have := (g1.2.2.2.2.2.2.2 k a (by omega)).1.1
        have hnn : ¬ B (11 + k) < 0 := by omega
        simp [hnn])]
      generalize (B 25).toNat = n
      induction n with
      | zero => rfl
      | succ n ih => unfold countN; rw [if_neg (by decide)]; exact ih⟩
    rintro i ⟨b, m⟩ hi ⟨hb, hiA, f1, f2, f3, f4, f5, f6⟩
    dsimp only at hb f1 f2 f3 f4 f5 f6 ⊢
    subst hb
    simp (disch := omega) only [w3_id, rq1, rq2]
    have m24 : m q 24 = A 24 := f3.1.trans g2
    have hcn := countN_in (fun k => beatenA B k && decide (B (11 + k) < (i : Int))) (B 25).toNat
    refine si_chk (by omega) (si_if (fun c => si_some ?_) (fun c => ?_))
    · have hiN : (i : Int) = B 24 := by omega
      refine ⟨f1, f2, fT_n g1 (by rw [← hiN]; exact (hasT_iff g1.2.2.2.1 g1.2.1).mp f3), f4, f5, ?_⟩
      show m 30 9 = lostA B
      rw [f6]
      unfold lostA
      refine countN_congr (fun k a b => ?_)
      have := (g1.2.2.2.2.2.2.2 k a (by omega)).1.2
      rw [hiN]
      simp [this]
    · refine si_call (m_fightsOn hq g1 (j := (i : Int)) ⟨by omega, by omega⟩ f3 (by omega)) (fun z hz => si_some ?_)
      have hN := FI_end g1.2.2.2.1 g1.2.1 (by omega) f3 hz
      obtain ⟨n1, n2, n3, n4, n5⟩ := hz
      refine ⟨by omega, by omega, by omega, fun g h1 h2 => (n1 g h1 h2).trans (f1 g h1 h2), fun o h1 h2 => (n2 o h2).trans (f2 o h1 h2), by rw [show ((i + 1 : Nat) : Int) = (i : Int) + 1 by omega]; exact hN, (n3 23 (Or.inr (by decide))).trans f4, (n2 8 (by decide)).trans f5, ?_⟩
      show z 30 9 = _
      rw [n5, f6]
      refine countN_add (fun k a b => ⟨?_, ?_⟩)
      · simp
        constructor
        · rintro ⟨w1, w2⟩
          by_cases u : B (11 + k) = i
          · exact Or.inr ⟨w1, u⟩
          · exact Or.inl ⟨w1, by omega⟩
        · rintro (⟨w1, w2⟩ | ⟨w1, w2⟩)
          · exact ⟨w1, by omega⟩
          · exact ⟨w1, by omega⟩
      · simp
        intro w1 w2 w3
        omega
  obtain ⟨j1, j2, j3, j4, j5, j6⟩ := hy
  simp (disch := omega) only [w3_id, rq1, rq2, wq1]
  have h0 : y.2 q 0 = fightA B 0 := j3.2.2.1
  refine si_chk (by omega) (si_chk (by omega) (si_bnd (si_some ?_)))
  refine ⟨fun g h1 h2 => by rw [sM_g h1]; exact j1 g h1 h2, fun o h1 h2 => by rw [sM_g q30']; exact j2 o h1 h2, ?_, by rw [sM_n (by omega)]; exact j4, by rw [sM_g q30']; exact j5, by rw [sM_g q30']; unfold dayLost; rw [hB]; exact j6⟩
  rw [sM_r, h0]
  unfold dayA
  rw [hB]
  exact RR_up j3 (by decide) (by decide)
