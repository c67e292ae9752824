/-! A DAY of the class' river. -/
theorem sM_r (μ : Mm) (r : Nat) (o v : Int) : sM μ r o v r = up (μ r) o v := by
  funext x
  simp [sM, up]
theorem sM_g {μ : Mm} {r g : Nat} {o v : Int} (h : g ≠ r) : sM μ r o v g = μ g := by
  funext x
  simp [sM, h]
theorem RR_up {A B : Rv} {o v : Int} (h : RR A B) (h24 : o ≠ 24) (h25 : o ≠ 25) : RR (up A o v) (up B o v) := by
  obtain ⟨e1, e2, e3, e4, e5, e6⟩ := h
  have key : ∀ x, B x = A x → up B o v x = up A o v x := fun x hx => by unfold up; rw [hx]
  have a24 : up A o v 24 = A 24 := up_n (fun q => h24 q.symm)
  have a25 : up A o v 25 = A 25 := up_n (fun q => h25 q.symm)
  refine ⟨key _ e1, key _ e2, key _ e3, key _ e4, fun l h1 h2 => key _ (e5 l h1 (a24 ▸ h2)), fun k h1 h2 => ?_⟩
  have := e6 k h1 (a25 ▸ h2)
  exact ⟨key _ this.1, key _ this.2.1, key _ this.2.2.1, key _ this.2.2.2⟩
theorem VR_up {A : Rv} (hV : VR A) {o v : Int} (ho : o ≠ 24 ∧ o ≠ 25 ∧ o ≠ 10) (hc : ∀ l, 0 ≤ l → l < A 24 → o = 1 + l → 0 ≤ v ∧ v ≤ 99) (hp : ∀ k, 0 ≤ k → k < A 25 → (o = 11 + k → 0 ≤ v ∧ v < A 24) ∧ (o = 17 + k → 1 ≤ v ∧ v ≤ 9) ∧ (o = 26 + k → 1 ≤ v ∧ v ≤ 5) ∧ (o = 32 + k → 0 ≤ v ∧ v < A 24)) : VR (up A o v) := by
  obtain ⟨v1, v2, v3, v4, v5, v6, v7, v8⟩ := hV
  have a24 : up A o v 24 = A 24 := up_n (fun q => ho.1 q.symm)
  have a25 : up A o v 25 = A 25 := up_n (fun q => ho.2.1 q.symm)
  have a10 : up A o v 10 = A 10 := up_n (fun q => ho.2.2 q.symm)
  have key : ∀ (x : Int) (P : Int → Prop), P (A x) → (o = x → P v) → P (up A o v x) := fun x P h1 h2 => by
    unfold up
    by_cases c : x = o
    · rw [if_pos c]; exact h2 c.symm
    · rw [if_neg c]; exact h1
  unfold VR
  rw [a24, a25, a10]
  refine ⟨v1, v2, v3, v4, v5, v6, fun l h1 h2 => key _ (fun z => 0 ≤ z ∧ z ≤ 99) (v7 l h1 h2) (hc l h1 h2), fun k h1 h2 => ?_⟩
  obtain ⟨b1, b2, b3, b4⟩ := v8 k h1 h2
  obtain ⟨c1, c2, c3, c4⟩ := hp k h1 h2
  exact ⟨key _ (fun z => 0 ≤ z ∧ z < A 24) b1 c1, key _ (fun z => 1 ≤ z ∧ z ≤ 9) b2 c2, key _ (fun z => 1 ≤ z ∧ z ≤ 5) b3 c3, key _ (fun z => 0 ≤ z ∧ z < A 24) b4 c4⟩
theorem beatsA_iff {A : Rv} {o k : Int} : beatsA A o k = true ↔ o ≠ k ∧ A (26 + o) = 2 ∧ A (11 + o) = A (11 + k) ∧ (A (17 + k) < A (17 + o) ∨ (A (17 + o) = A (17 + k) ∧ o < k)) := by
  unfold beatsA
  simp [and_assoc]
theorem beatenA_iff {A : Rv} (hV : VR A) {k : Int} : beatenA A k = true ↔ A (26 + k) = 2 ∧ ∃ o : Int, 0 ≤ o ∧ o < A 25 ∧ beatsA A o k = true := by
  unfold beatenA
  have h1 := hV.2.2.1
  rw [Bool.and_eq_true, decide_eq_true_eq, anyN_iff]
  constructor
  · rintro ⟨h, o, a, b, c⟩; exact ⟨h, o, a, by omega, c⟩
  · rintro ⟨h, o, a, b, c⟩; exact ⟨h, o, a, by omega, c⟩
theorem f_isBeaten {μ : Mm} {r : Nat} {A : Rv} (hV : VR A) (hR : RR A (μ r)) {k : Int} (hk : 0 ≤ k ∧ k < A 25) (hc : A (26 + k) = 2) : Sat (f_X2_isBeaten μ r k) (fun z => z = if beatenA A k = true then 1 else 0) := by
  have hA6 : A 25 ≤ 6 := hV.2.2.2.1
  have hA1 : 1 ≤ A 25 := hV.2.2.1
  obtain ⟨kp, kw, -, -⟩ := hR.2.2.2.2.2 k hk.1 hk.2
  unfold f_X2_isBeaten
  refine si_bind (si_loop (fun i (x : Int) => x = i ∧ (i : Int) ≤ A 25 ∧ ∀ o : Int, 0 ≤ o → o < i → ¬ beatsA A o k = true) (A 25).toNat ?_ 1000 0 (by omega) ⟨rfl, by omega, fun o h1 h2 => by omega⟩)
  rintro i x hi ⟨rfl, h1, h2⟩
  rw [hR.2.1]
  have hno : (i : Int) < A 25 → ¬ beatsA A i k = true → (i : Int) < A 25 ∧ w3 ((i : Int) + 1) = ((i + 1 : Nat) : Int) ∧ ((i + 1 : Nat) : Int) ≤ A 25 ∧ ∀ o : Int, 0 ≤ o → o < ((i + 1 : Nat) : Int) → ¬ beatsA A o k = true := fun hlt hb =>
    ⟨hlt, by rw [w3_id (by omega) (by omega)]; omega, by omega, fun o a b => by
      by_cases q : o = i
      · rw [q]; exact hb
      · exact h2 o a (by omega)⟩
  have hno2 : (i : Int) < A 25 → ¬ beatsA A i k = true → i < (A 25).toNat ∧ w3 ((i : Int) + 1) = ((i + 1 : Nat) : Int) ∧ ((i + 1 : Nat) : Int) ≤ A 25 ∧ ∀ o : Int, 0 ≤ o → o < ((i + 1 : Nat) : Int) → ¬ beatsA A o k = true := fun hlt hb => ⟨by omega, (hno hlt hb).2⟩
  have hyes : (i : Int) < A 25 → beatsA A i k = true → (1 : Int) = if beatenA A k = true then 1 else 0 := fun hlt hb => by
    rw [if_pos ((beatenA_iff hV).mpr ⟨hc, i, by omega, hlt, hb⟩)]
  refine si_if (fun c => si_some (si_some ?_)) (fun c => ?_)
  · rw [if_neg (fun q => by
      obtain ⟨-, o, a, b, d⟩ := (beatenA_iff hV).mp q
      exact h2 o a (by omega) d)]
  have hlt : (i : Int) < A 25 := by omega
  obtain ⟨ip, iw, ik, -⟩ := hR.2.2.2.2.2 i (by omega) hlt
  rw [ik, ip, iw, kp, kw]
  refine si_if (fun c1 => si_some (hno2 hlt (fun q => (beatsA_iff.mp q).1 c1))) (fun c1 => si_chk (by omega) (si_if (fun c2 => si_chk (by omega) (si_chk (by omega) (si_if (fun c3 => si_chk (by omega) (si_chk (by omega) (si_if (fun c4 => si_chk (by omega) (si_chk (by omega) (si_if (fun c5 => si_if (fun c6 => si_some (hno2 hlt ?_)) (fun c6 => si_some (si_some (hyes hlt ?_)))) (fun c5 => si_some (hno2 hlt ?_))))) (fun c4 => si_some (si_some (hyes hlt ?_)))))) (fun c3 => si_some (hno2 hlt ?_))))) (fun c2 => si_some (hno2 hlt ?_))))
  · intro q
    have := (beatsA_iff.mp q).2.2.2
    omega
  · exact beatsA_iff.mpr ⟨c1, c2, c3, Or.inr ⟨c5, by omega⟩⟩
  · intro q
    have := (beatsA_iff.mp q).2.2.2
    omega
  · exact beatsA_iff.mpr ⟨c1, c2, c3, Or.inl (by omega)⟩
  · intro q
    exact c3 (beatsA_iff.mp q).2.2.1
  · intro q
    exact c2 (beatsA_iff.mp q).2.1
theorem fightA_o {A : Rv} {o : Int} (h : o < 11 ∨ 17 ≤ o) (hA : A 25 ≤ 6) : fightA A o = A o := by
  unfold fightA
  rw [if_neg (fun q => by omega)]
theorem fightA_p {A : Rv} {k : Int} (h : 0 ≤ k ∧ k < A 25) : fightA A (11 + k) = if beatenA A k = true then besideA A (A (11 + k)) (-1) else A (11 + k) := by
  unfold fightA
  rw [show 11 + k - 11 = k by omega]
  by_cases c : beatenA A k = true
  · rw [if_pos ⟨by omega, by omega, c⟩, if_pos c]
  · rw [if_neg (fun q => c q.2.2), if_neg c]
theorem countN_in (P : Int → Bool) (n : Nat) : 0 ≤ countN P n ∧ countN P n ≤ n := by
  induction n with
  | zero => exact ⟨Int.le_refl _, Int.le_refl _⟩
  | succ n ih =>
    unfold countN
    split <;> omega
theorem VR_fight {A : Rv} (hV : VR A) : VR (fightA A) := by
  have hV0 := hV
  obtain ⟨v1, v2, v3, v4, v5, v6, v7, v8⟩ := hV
  unfold VR
  rw [fightA_o (Or.inr (by decide)) v4, fightA_o (Or.inr (by decide)) v4, fightA_o (Or.inl (by decide)) v4]
  refine ⟨v1, v2, v3, v4, v5, v6, fun l h1 h2 => by rw [fightA_o (Or.inl (by omega)) v4]; exact v7 l h1 h2, fun k h1 h2 => ?_⟩
  obtain ⟨b1, b2, b3, b4⟩ := v8 k h1 h2
  rw [fightA_p ⟨h1, h2⟩, fightA_o (Or.inr (by omega)) v4, fightA_o (Or.inr (by omega)) v4, fightA_o (Or.inr (by omega)) v4]
  refine ⟨?_, b2, b3, b4⟩
  split
  · exact besideA_in b1
  · exact b1
set_option maxHeartbeats 1000000 in
theorem f_send {μ : Mm} {r : Nat} {A : Rv} (hV : VR A) (hR : RR A (μ r)) : Sat (f_X2_sendBeatenDown μ r) (fun m => (∀ g, g ≠ r → m g = μ g) ∧ RR (fightA A) (m r) ∧ ((0 ≤ μ r 40 ∧ μ r 40 ≤ 100000) → m r 40 = μ r 40 + lostA A) ∧ m r 41 = μ r 41) := by
  have hV0 := hV
  have hR0 := hR
  obtain ⟨v1, v2, v3, v4, v5, v6, v7, v8⟩ := hV
  obtain ⟨e1, e2, e3, e4, e5, e6⟩ := hR
  unfold f_X2_sendBeatenDown
  refine si_call (P := fun x : Int × Int => ∃ n : Nat, n < 64 ∧ x.1 = n ∧ ∀ k : Nat, (k : Int) < A 25 → (n.testBit k = true ↔ beatenA A k = true)) ?_ (fun x hx => ?_)
  · refine si_loop (fun i (x : Int × Int) => x.2 = i ∧ (i : Int) ≤ A 25 ∧ ∃ n : Nat, n < 64 ∧ x.1 = n ∧ ∀ k : Nat, (n.testBit k = true ↔ (k < i ∧ beatenA A k = true))) (A 25).toNat ?_ 1000 (0, 0) (by omega) ⟨rfl, by omega, 0, by decide, rfl, fun k => by simp⟩
    rintro i ⟨a, b⟩ hi ⟨hb, hiA, n, hn, ha, hnk⟩
    dsimp only at hb ha ⊢
    subst hb ha
    rw [e2]
    have hno : (i : Int) < A 25 → ¬ beatenA A i = true → i < (A 25).toNat ∧ w3 ((i : Int) + 1) = ((i + 1 : Nat) : Int) ∧ ((i + 1 : Nat) : Int) ≤ A 25 ∧ ∃ n' : Nat, n' < 64 ∧ (n : Int) = n' ∧ ∀ k : Nat, (n'.testBit k = true ↔ (k < i + 1 ∧ beatenA A k = true)) := fun hlt hb =>
      ⟨by omega, by rw [w3_id (by omega) (by omega)]; omega, by omega, n, hn, rfl, fun k => by
        rw [hnk k]
        constructor
        · rintro ⟨p, q⟩; exact ⟨by omega, q⟩
        · rintro ⟨p, q⟩
          by_cases w : k = i
          · subst w; exact absurd q hb
          · exact ⟨by omega, q⟩⟩
    refine si_if (fun c => si_some ⟨n, hn, rfl, fun k hk => ?_⟩) (fun c => si_chk (by omega) ?_)
    · rw [hnk k]
      constructor
      · exact fun q => q.2
      · exact fun q => ⟨by omega, q⟩
    have hlt : (i : Int) < A 25 := by omega
    obtain ⟨ip, iw, ik, -⟩ := e6 i (by omega) hlt
    rw [ik]
    refine si_if (fun c1 => si_call (f_isBeaten hV0 hR0 ⟨by omega, hlt⟩ c1) (fun z hz => ?_)) (fun c1 => si_some (hno hlt (fun q => c1 ((beatenA_iff hV0).mp q).1)))
    rw [hz]
    by_cases c2 : beatenA A i = true
    · rw [if_pos c2]
      refine si_f (by decide) (si_some ?_)
      have hpw : 2 ^ i < 2 ^ 6 := Nat.pow_lt_pow_right (by decide) (by omega)
      try dsimp only
      refine ⟨by omega, by rw [w3_id (by omega) (by omega)]; omega, by omega, n ||| 2 ^ i, Nat.or_lt_two_pow (n := 6) (by omega) (by omega), ?_, fun k => ?_⟩
      · rw [bShl1 i (by omega), bOr_nat (by omega) (by omega)]
      · rw [Nat.testBit_or, Bool.or_eq_true, hnk k, Nat.testBit_two_pow, decide_eq_true_eq]
        constructor
        · rintro (⟨p, q⟩ | h)
          · exact ⟨by omega, q⟩
          · subst h; exact ⟨by omega, c2⟩
        · rintro ⟨p, q⟩
          by_cases w : i = k
          · exact Or.inr w
          · exact Or.inl ⟨by omega, q⟩
    · rw [if_neg c2]
      exact si_t rfl (si_some (hno hlt c2))
  obtain ⟨n, hn, hx1, hnk⟩ := hx
  rw [hx1]
  refine si_bind (si_loop (fun i (y : Int × Mm) => y.1 = i ∧ (i : Int) ≤ A 25 ∧ (∀ g, g ≠ r → y.2 g = μ g) ∧ (∀ o, (o < 11 ∨ 17 ≤ o) → o ≠ 40 → y.2 r o = μ r o) ∧ (∀ k : Nat, (k : Int) < A 25 → y.2 r (11 + k) = if k < i ∧ beatenA A k = true then besideA A (A (11 + k)) (-1) else A (11 + k)) ∧ ((0 ≤ μ r 40 ∧ μ r 40 ≤ 100000) → y.2 r 40 = μ r 40 + countN (beatenA A) i)) (A 25).toNat ?_ 1000 (0, μ) (by omega) ⟨rfl, by omega, fun _ _ => rfl, fun _ _ _ => rfl, fun k hk => by rw [if_neg (by omega)]; exact (e6 k (by omega) hk).1, fun _ => by show μ r 40 = μ r 40 + 0; omega⟩)
  rintro i ⟨b, m⟩ hi ⟨hb, hiA, f1, f2, f3, f4⟩
  dsimp only at hb f1 f2 f3 f4 ⊢
  subst hb
  have m25 : m r 25 = A 25 := (f2 25 (Or.inr (by decide)) (by decide)).trans e2
  have m24 : m r 24 = A 24 := (f2 24 (Or.inr (by decide)) (by decide)).trans e1
  have m10 : m r 10 = A 10 := (f2 10 (Or.inl (by decide)) (by decide)).trans e4
  have hcn := countN_in (beatenA A) i
  refine si_if (fun c => si_some (si_some ⟨f1, ?_, ?_, f2 41 (Or.inr (by decide)) (by decide)⟩)) (fun c => ?_)
  · try dsimp only
    unfold RR
    rw [fightA_o (Or.inr (by decide)) v4, fightA_o (Or.inr (by decide)) v4, fightA_o (Or.inl (by decide)) v4, fightA_o (Or.inl (by decide)) v4]
    refine ⟨m24, m25, (f2 0 (Or.inl (by decide)) (by decide)).trans e3, m10, fun l h1 h2 => by rw [fightA_o (Or.inl (by omega)) v4, f2 (1 + l) (Or.inl (by omega)) (by omega)]; exact e5 l h1 h2, fun k h1 h2 => ?_⟩
    obtain ⟨b1, b2, b3, b4⟩ := e6 k h1 h2
    rw [fightA_p ⟨h1, h2⟩, fightA_o (Or.inr (by omega)) v4, fightA_o (Or.inr (by omega)) v4, fightA_o (Or.inr (by omega)) v4, f2 (17 + k) (Or.inr (by omega)) (by omega), f2 (26 + k) (Or.inr (by omega)) (by omega), f2 (32 + k) (Or.inr (by omega)) (by omega)]
    refine ⟨?_, b2, b3, b4⟩
    obtain ⟨k', rfl⟩ : ∃ k' : Nat, k = k' := ⟨k.toNat, by omega⟩
    rw [f3 k' h2]
    by_cases q : beatenA A k' = true
    · rw [if_pos ⟨by omega, q⟩, if_pos q]
    · rw [if_neg (fun w => q w.2), if_neg q]
  · intro hD
    try dsimp only
    rw [f4 hD]
    unfold lostA
    rw [show (A 25).toNat = i by omega]
  have hlt : (i : Int) < A 25 := by omega
  have hbit : (bAnd (bShr (n : Int) (i : Int)) 1 = 1) ↔ beatenA A i = true := by
    rw [← hnk i hlt]
    show bitN (n : Int) (i : Int) = 1 ↔ _
    rw [bitN_small n (by omega) i (by omega)]
    constructor
    · intro q
      by_cases w : n.testBit i = true
      · exact w
      · rw [if_neg w] at q; exact absurd q (by decide)
    · intro q; rw [if_pos q]
  refine si_if (fun c1 => si_chk (by omega) (si_chk (by omega) (si_bnd (si_bnd (si_some ?_))))) (fun c1 => si_some ?_)
  · have hbt := hbit.mp c1
    have hpl := (v8 i (by omega) hlt).1
    have hold : m r (11 + (i : Int)) = A (11 + i) := by rw [f3 i hlt, if_neg (fun q => by omega)]
    rw [hold, f_beside2 hV0 m24 m10 hpl (Or.inr rfl)]
    have h40 : sM m r (11 + (i : Int)) (besideA A (A (11 + i)) (-1)) r 40 = m r 40 := sM_n (by omega)
    rw [h40]
    try dsimp only
    refine ⟨by omega, by rw [w3_id (by omega) (by omega)]; omega, by omega, fun g hg => by rw [sM_g hg, sM_g hg]; exact f1 g hg, fun o h1 h2 => by rw [sM_n (by omega), sM_n (by omega)]; exact f2 o h1 h2, fun k hk => ?_, ?_⟩
    · try dsimp only
      rw [sM_n (by omega)]
      by_cases q : k = i
      · subst q
        rw [sM_s, if_pos ⟨by omega, hbt⟩]
      · try dsimp only
        rw [sM_n (by omega), f3 k hk]
        by_cases w : k < i ∧ beatenA A k = true
        · rw [if_pos w, if_pos ⟨by omega, w.2⟩]
        · rw [if_neg w, if_neg (fun u => w ⟨by omega, u.2⟩)]
    · intro hD
      have f4' := f4 hD
      try dsimp only
      rw [sM_s, w3_id (by omega) (by omega), f4']
      show μ r 40 + countN (beatenA A) i + 1 = μ r 40 + (if beatenA A (i : Int) = true then countN (beatenA A) i + 1 else countN (beatenA A) i)
      rw [if_pos hbt]
      omega
  · have hbt : ¬ beatenA A i = true := fun q => c1 (hbit.mpr q)
    try dsimp only
    refine ⟨by omega, by rw [w3_id (by omega) (by omega)]; omega, by omega, f1, f2, fun k hk => ?_, ?_⟩
    · try dsimp only
      rw [f3 k hk]
      by_cases w : k < i ∧ beatenA A k = true
      · rw [if_pos w, if_pos ⟨by omega, w.2⟩]
      · rw [if_neg w, if_neg (fun u => w ⟨by
          by_cases z : k = i
          · subst z; exact absurd u.2 hbt
          · omega, u.2⟩)]
    · intro hD
      try dsimp only
      rw [f4 hD]
      show μ r 40 + countN (beatenA A) i = μ r 40 + (if beatenA A (i : Int) = true then countN (beatenA A) i + 1 else countN (beatenA A) i)
      rw [if_neg hbt]
theorem VR_swim {A : Rv} (hV : VR A) {k : Int} (hk : 0 ≤ k ∧ k < A 25) : VR (swimA A k) ∧ swimA A k 24 = A 24 ∧ swimA A k 25 = A 25 := by
  have hV0 := hV
  have hg := goalA_in hV hk
  obtain ⟨v1, v2, v3, v4, v5, v6, v7, v8⟩ := hV
  have h1 : VR (up A (11 + k) (goalA A k)) := VR_up hV0 (by omega) (fun l a b c => by omega) (fun j a b => ⟨fun _ => hg, fun c => by omega, fun c => by omega, fun c => by omega⟩)
  have a24 : up A (11 + k) (goalA A k) 24 = A 24 := up_n (by omega)
  have a25 : up A (11 + k) (goalA A k) 25 = A 25 := up_n (by omega)
  unfold swimA
  by_cases c : eatsA A k = true
  · rw [if_pos c]
    have hc : 0 < A (1 + goalA A k) := by unfold eatsA at c; simpa using c
    have hcr := v7 (goalA A k) hg.1 hg.2
    exact ⟨VR_up h1 (by omega) (fun l a b c => by omega) (fun j a b => by rw [a25] at b; exact ⟨fun q => by omega, fun q => by omega, fun q => by omega, fun q => by omega⟩), by rw [up_n (by omega)]; exact a24, by rw [up_n (by omega)]; exact a25⟩
  · rw [if_neg c]
    exact ⟨h1, a24, a25⟩
theorem VR_swims {A : Rv} (hV : VR A) (n : Nat) (hn : (n : Int) ≤ A 25) : VR (swimsA A n) ∧ swimsA A n 24 = A 24 ∧ swimsA A n 25 = A 25 := by
  induction n with
  | zero => exact ⟨hV, rfl, rfl⟩
  | succ n ih =>
    obtain ⟨h1, h2, h3⟩ := ih (by omega)
    have := VR_swim h1 (k := (n : Int)) ⟨by omega, by rw [h3]; omega⟩
    exact ⟨this.1, this.2.1.trans h2, this.2.2.trans h3⟩
theorem VR_day {A : Rv} (hV : VR A) : VR (dayA A) ∧ dayA A 24 = A 24 ∧ dayA A 25 = A 25 ∧ dayA A 10 = A 10 := by
  have hA1 : 1 ≤ A 25 := hV.2.2.1
  obtain ⟨h1, h2, h3⟩ := VR_swims hV (A 25).toNat (by omega)
  have h4 := VR_fight h1
  have h6 := h1.2.2.2.1
  unfold dayA
  refine ⟨VR_up h4 (by omega) (fun l a b c => by omega) (fun j a b => ⟨fun q => by omega, fun q => by omega, fun q => by omega, fun q => by omega⟩), ?_, ?_, ?_⟩
  · rw [up_n (by decide), fightA_o (Or.inr (by decide)) h6]; exact h2
  · rw [up_n (by decide), fightA_o (Or.inr (by decide)) h6]; exact h3
  · rw [up_n (by decide), fightA_o (Or.inl (by decide)) h6]
    have : ∀ n : Nat, (n : Int) ≤ A 25 → swimsA A n 10 = A 10 := by
      intro n
      induction n with
      | zero => intro _; rfl
      | succ n ih =>
        intro hn
        obtain ⟨g1, g2, g3⟩ := VR_swims hV n (by omega)
        have hg := goalA_in g1 (k := (n : Int)) ⟨by omega, by rw [g3]; omega⟩
        have g9 := g1.2.1
        show swimA (swimsA A n) n 10 = A 10
        unfold swimA
        split
        · rw [up_n (by omega), up_n (by omega)]; exact ih (by omega)
        · rw [up_n (by omega)]; exact ih (by omega)
    exact this _ (by omega)
theorem f_passDayG {μ : Mm} {r : Nat} {A : Rv} (hV : VR A) (hR : RR A (μ r)) : Sat (f_X2_passDay μ r) (fun m => (∀ g, g ≠ r → m g = μ g) ∧ RR (dayA A) (m r) ∧ ((0 ≤ μ r 40 ∧ μ r 40 ≤ 100000) → m r 40 = μ r 40 + dayLost A) ∧ m r 41 = dayEat A (μ r 41)) := by
  have hA6 : A 25 ≤ 6 := hV.2.2.2.1
  have hA1 : 1 ≤ A 25 := hV.2.2.1
  have hA9 : A 24 ≤ 9 := hV.2.1
  unfold f_X2_passDay
  refine si_call (P := fun x : Int × Mm => (∀ g, g ≠ r → x.2 g = μ g) ∧ RR (swimsA A (A 25).toNat) (x.2 r) ∧ x.2 r 40 = μ r 40 ∧ x.2 r 41 = eatN A (A 25).toNat (μ r 41)) ?_ (fun x hx => ?_)
  · refine si_loop (fun i (x : Int × Mm) => x.1 = i ∧ (i : Int) ≤ A 25 ∧ (∀ g, g ≠ r → x.2 g = μ g) ∧ RR (swimsA A i) (x.2 r) ∧ x.2 r 40 = μ r 40 ∧ x.2 r 41 = eatN A i (μ r 41)) (A 25).toNat ?_ 1000 (0, μ) (by omega) ⟨rfl, by omega, fun _ _ => rfl, hR, rfl, rfl⟩
    rintro i ⟨b, m⟩ hi ⟨hb, hiA, f1, f2, f3, f4⟩
    dsimp only at hb f1 f2 f3 f4 ⊢
    subst hb
    obtain ⟨g1, g2, g3⟩ := VR_swims hV i hiA
    have hm25 : m r 25 = A 25 := f2.2.1.trans g3
    refine si_if (fun c => si_some ?_) (fun c => ?_)
    · try dsimp only
      rw [show (A 25).toNat = i by omega]
      exact ⟨f1, f2, f3, f4⟩
    have hlt : (i : Int) < A 25 := by omega
    have hk : 0 ≤ (i : Int) ∧ (i : Int) < swimsA A i 25 := ⟨by omega, by rw [g3]; exact hlt⟩
    refine si_call (f_goalOf g1 f2 hk) (fun z hz => ?_)
    subst hz
    have hg := goalA_in g1 hk
    rw [g2] at hg
    refine si_chk (by omega) (si_bnd (si_chk (by omega) ?_))
    have hcr : sM m r (11 + (i : Int)) (goalA (swimsA A i) i) r (1 + goalA (swimsA A i) i) = swimsA A i (1 + goalA (swimsA A i) i) := by
      rw [sM_n (by omega)]
      exact f2.2.2.2.2.1 _ hg.1 (by rw [g2]; exact hg.2)
    rw [hcr]
    have hw : w3 ((i : Int) + 1) = ((i + 1 : Nat) : Int) := by rw [w3_id (by omega) (by omega)]; omega
    have hv := g1.2.2.2.2.2.2.1 (goalA (swimsA A i) i) hg.1 (by rw [g2]; exact hg.2)
    refine si_if (fun c1 => si_some ?_) (fun c1 => si_chk (by omega) (si_chk (by omega) (si_bnd (si_bnd (si_some ?_)))))
    · have hn : ¬ eatsA (swimsA A i) i = true := by unfold eatsA; simp; omega
      try dsimp only
      refine ⟨by omega, hw, by omega, fun g hg' => by rw [sM_g hg']; exact f1 g hg', ?_, by rw [sM_n (by omega)]; exact f3, ?_⟩
      · try dsimp only
        rw [sM_r]
        show RR (swimA (swimsA A i) i) _
        unfold swimA
        rw [if_neg hn]
        exact RR_up f2 (by omega) (by omega)
      · try dsimp only
        rw [sM_n (by omega), f4]
        show _ = if eatsA (swimsA A i) (i : Int) = true then _ else _
        rw [if_neg hn]
    · have hn : eatsA (swimsA A i) i = true := by unfold eatsA; simp; omega
      try dsimp only
      refine ⟨by omega, hw, by omega, fun g hg' => by rw [sM_g hg', sM_g hg', sM_g hg']; exact f1 g hg', ?_, by rw [sM_n (by omega), sM_n (by omega), sM_n (by omega)]; exact f3, ?_⟩
      · have e : w3 (swimsA A i (1 + goalA (swimsA A i) i) - 1) = swimsA A i (1 + goalA (swimsA A i) i) - 1 := w3_id (by omega) (by omega)
        have h41 : ∀ (B C : Rv) (v : Int), B 25 ≤ 6 → B 24 ≤ 9 → RR B C → RR B (up C 41 v) := fun B C v hb hb9 h => by
          obtain ⟨q1, q2, q3, q4, q5, q6⟩ := h
          refine ⟨(up_n (by decide)).trans q1, (up_n (by decide)).trans q2, (up_n (by decide)).trans q3, (up_n (by decide)).trans q4, fun l a b => (up_n (by omega)).trans (q5 l a b), fun k a b => ?_⟩
          obtain ⟨w1, w2, w3', w4⟩ := q6 k a b
          exact ⟨(up_n (by omega)).trans w1, (up_n (by omega)).trans w2, (up_n (by omega)).trans w3', (up_n (by omega)).trans w4⟩
        rw [sM_r, sM_r, sM_r, e]
        have hsw := (VR_swim g1 hk)
        show RR (swimA (swimsA A i) i) _
        refine h41 _ _ _ (by rw [hsw.2.2, g3]; exact hA6) (by rw [hsw.2.1, g2]; exact hA9) ?_
        unfold swimA
        rw [if_pos hn]
        exact RR_up (RR_up f2 (by omega) (by omega)) (by omega) (by omega)
      · try dsimp only
        rw [sM_s, sM_n (by omega), sM_n (by omega), f4]
        show _ = if eatsA (swimsA A i) (i : Int) = true then _ else _
        rw [if_pos hn]
  obtain ⟨k1, k2, k3, k4⟩ := hx
  obtain ⟨g1, g2, g3⟩ := VR_swims hV (A 25).toNat (by omega)
  refine si_call (f_send g1 k2) (fun m hm => ?_)
  obtain ⟨n1, n2, n3, n4⟩ := hm
  refine si_bnd (si_some ?_)
  have g6 := g1.2.2.2.1
  have h0 : m r 0 = fightA (swimsA A (A 25).toNat) 0 := n2.2.2.1
  refine ⟨fun g hg => by rw [sM_g hg, n1 g hg, k1 g hg], ?_, fun hD => by rw [sM_n (by omega), n3 (by rw [k3]; exact hD), k3]; rfl, by rw [sM_n (by omega), n4, k4]; rfl⟩
  rw [sM_r, h0]
  exact RR_up n2 (by decide) (by decide)
theorem f_passDay {μ : Mm} {r : Nat} {A : Rv} (hV : VR A) (hR : RR A (μ r)) (hD : 0 ≤ μ r 40 ∧ μ r 40 ≤ 100000) : Sat (f_X2_passDay μ r) (fun m => (∀ g, g ≠ r → m g = μ g) ∧ RR (dayA A) (m r) ∧ m r 40 = μ r 40 + dayLost A ∧ m r 41 = dayEat A (μ r 41)) :=
  si_mono (f_passDayG hV hR) (fun m hm => ⟨hm.1, hm.2.1, hm.2.2.1 hD, hm.2.2.2⟩)
