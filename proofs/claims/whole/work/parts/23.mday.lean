/-! A DAY of the reference's river q (0 what is, 3 what is tried), over an abstract river A. -/
theorem cmp3_lt {x y : Int} : cmp3 x y < 0 ↔ x < y := by
  unfold cmp3
  split
  · constructor
    · intro h; omega
    · intro h; omega
  · split
    · constructor
      · intro h; omega
      · intro h; omega
    · constructor
      · intro _; omega
      · intro _; decide
theorem cmp3_gt {x y : Int} : 0 < cmp3 x y ↔ y < x := by
  unfold cmp3
  split
  · rename_i h
    exact ⟨fun _ => h, fun _ => by decide⟩
  · split
    · constructor
      · intro h; omega
      · intro h; omega
    · constructor
      · intro h; omega
      · intro h; omega
theorem in_eq (ν : Mm) (a b c : Int) : f_X6_in ν a b c = if b ≤ a ∧ a ≤ c then 1 else 0 := by
  unfold f_X6_in
  by_cases h1 : a < b
  · rw [if_pos (cmp3_lt.mpr h1), if_neg (by omega)]
  · rw [if_neg (fun q => h1 (cmp3_lt.mp q))]
    by_cases h2 : c < a
    · rw [if_pos (cmp3_gt.mpr h2), if_neg (by omega)]
    · rw [if_neg (fun q => h2 (cmp3_gt.mp q)), if_pos (by omega)]
theorem has_eq (ν : Mm) (a b : Int) : f_X6_has ν a b = if bitN a b = 1 then 1 else 0 := rfl
theorem m_isOpen {ν : Mm} {q : Nat} (hq : q < 4) {A : Rv} (hV : VR A) (e1 : ν q 24 = A 24) (e4 : ν q 10 = A 10) {l w : Int} (hl : 0 ≤ l ∧ l < A 24) (hw : w = 1 ∨ w = -1) : Sat (f_X6_isOpen ν (38 * (q : Int)) l w) (fun z => z = if openA A l w = true then 1 else 0) := by
  obtain ⟨v1, v2, v3, v4, v5, v6, v7, v8⟩ := hV
  unfold f_X6_isOpen
  refine si_bnd ?_
  simp (disch := omega) only [w3_id, rq1]
  rw [e1, e4, in_eq, has_eq]
  refine si_chk (by omega) ?_
  have hx : (if w ≤ 0 then l + w else l) = (if 0 < w then l else l + w) := by
    rcases hw with rfl | rfl <;> rfl
  rw [hx]
  by_cases c1 : 0 ≤ l + w ∧ l + w ≤ A 24 - 1
  · rw [if_pos c1]
    refine si_f (by decide) (si_chk (by omega) ?_)
    by_cases c2 : bitN (A 10) (if 0 < w then l else l + w) = 1
    · rw [if_pos c2]
      refine si_f (by decide) (si_some ?_)
      rw [if_neg (fun h => (openA_iff.mp h).2.2 c2)]
    · rw [if_neg c2]
      refine si_t rfl (si_some ?_)
      rw [if_pos (openA_iff.mpr ⟨c1.1, by omega, c2⟩)]
  · rw [if_neg c1]
    refine si_t rfl (si_some ?_)
    rw [if_neg (fun h => c1 (by have := openA_in h; omega))]
theorem m_seesOn {ν : Mm} {q : Nat} (hq : q < 4) {A : Rv} (hV : VR A) (hR : RR A (ν q)) {k l : Int} (hk : 0 ≤ k ∧ k < A 25) (hl : 0 ≤ l ∧ l < A 24) : Sat (f_X6_seesOn ν (38 * (q : Int)) k l) (fun z => z = seenA A k l) := by
  have hV0 := hV
  obtain ⟨v1, v2, v3, v4, v5, v6, v7, v8⟩ := hV
  obtain ⟨e1, e2, e3, e4, e5, e6⟩ := hR
  unfold f_X6_seesOn
  simp (disch := omega) only [w3_id, rq1, rq2]
  rw [(e6 k hk.1 hk.2).2.2.1, e5 l hl.1 hl.2, e2]
  refine si_chk (by omega) (si_call (P := fun v : Int => v = if A (26 + k) = 2 ∧ cobAt A k l = true then 1 else 0) ?_ (fun v hv => ?_))
  · refine si_if (fun c => ?_) (fun c => si_some (by rw [if_neg (fun w => c w.1)]))
    refine si_bind (si_loop (fun i (x : Int × Int) => x.2 = i ∧ (i : Int) ≤ A 25 ∧ ((x.1 = 0 ∧ ∀ o : Int, 0 ≤ o → o < i → ¬ (o ≠ k ∧ A (26 + o) = 2 ∧ A (11 + o) = l)) ∨ (x.1 = 1 ∧ cobAt A k l = true))) (A 25).toNat ?_ 1000 (0, 0) (by omega) ⟨rfl, by omega, Or.inl ⟨rfl, fun o _ _ => by omega⟩⟩)
    rintro i ⟨a, b⟩ hi ⟨hb, hiA, hd⟩
    dsimp only at hb hd ⊢
    subst hb
    refine si_chk (by omega) (si_if (fun c1 => si_some (si_some ?_)) (fun c1 => ?_))
    · rcases hd with ⟨h1, h2⟩ | ⟨h1, h2⟩
      · show a = _
        rw [h1, if_neg (fun w => by
          obtain ⟨o, g1, g2, g3⟩ := (cobAt_iff hV0).mp w.2
          exact h2 o g1 (by omega) g3)]
      · show a = _
        rw [h1, if_pos ⟨c, h2⟩]
    have hlt : (i : Int) < A 25 := by omega
    obtain ⟨ip, iw, ik, -⟩ := e6 i (by omega) hlt
    have hw : w3 ((i : Int) + 1) = ((i + 1 : Nat) : Int) := by rw [w3_id (by omega) (by omega)]; omega
    simp (disch := omega) only [w3_id, rq1, rq2]
    rw [ik, ip]
    rcases hd with ⟨h1, h2⟩ | ⟨h1, h2⟩
    · have hno : ¬ ((i : Int) ≠ k ∧ A (26 + (i : Int)) = 2 ∧ A (11 + (i : Int)) = l) → i < (A 25).toNat ∧ (i : Int) + 1 = ((i + 1 : Nat) : Int) ∧ ((i + 1 : Nat) : Int) ≤ A 25 ∧ (((0 : Int) = 0 ∧ ∀ o : Int, 0 ≤ o → o < ((i + 1 : Nat) : Int) → ¬ (o ≠ k ∧ A (26 + o) = 2 ∧ A (11 + o) = l)) ∨ ((0 : Int) = 1 ∧ cobAt A k l = true)) := fun hn => ⟨by omega, by omega, by omega, Or.inl ⟨rfl, fun o g1 g2 => by
        by_cases w : o = i
        · rw [w]; exact hn
        · exact h2 o g1 (by omega)⟩⟩
      refine si_t h1 (si_if (fun c2 => si_some (hno (fun w => w.1 c2))) (fun c2 => si_chk (by omega) (si_if (fun c3 => si_chk (by omega) (si_if (fun c4 => si_some ?_) (fun c4 => si_some (hno (fun w => c4 w.2.2))))) (fun c3 => si_some (hno (fun w => c3 w.2.1))))))
      exact ⟨by omega, by omega, by omega, Or.inr ⟨rfl, (cobAt_iff hV0).mpr ⟨i, by omega, hlt, c2, c3, c4⟩⟩⟩
    · exact si_f (by omega) (si_some ⟨by omega, by omega, by omega, Or.inr ⟨rfl, h2⟩⟩)
  · rw [hv]
    unfold seenA
    by_cases c : A (26 + k) = 2 ∧ cobAt A k l = true
    · rw [if_pos c, if_pos c]
      exact si_f (by decide) (si_some rfl)
    · rw [if_neg c, if_neg c]
      exact si_t rfl (si_chk (by omega) (si_some rfl))
theorem m_towards {ν : Mm} {q : Nat} (hq : q < 4) {A : Rv} (hV : VR A) (hR : RR A (ν q)) {k : Int} (hk : 0 ≤ k ∧ k < A 25) {s : Nat} (hs : s ≤ 2) : Sat (f_X6_towards ν (38 * (q : Int)) k s) (fun z => z = towA A k s) := by
  have hA9 : A 24 ≤ 9 := hV.2.1
  have hA6 : A 25 ≤ 6 := hV.2.2.2.1
  obtain ⟨hp, -, -, -⟩ := hV.2.2.2.2.2.2.2 k hk.1 hk.2
  unfold f_X6_towards
  simp (disch := omega) only [w3_id, rq2]
  rw [(hR.2.2.2.2.2 k hk.1 hk.2).1]
  refine si_chk (by omega) (si_bnd (si_call (m_seesOn hq hV hR hk hp) (fun z hz => ?_)))
  subst hz
  unfold towA
  generalize hown : A (11 + k) = own at *
  generalize hS : seenA A k = S
  have hsee : ∀ l, 0 ≤ l → l < A 24 → Sat (f_X6_seesOn ν (38 * (q : Int)) k l) (fun z => z = S l) := fun l a b => hS ▸ m_seesOn hq hV hR hk ⟨a, b⟩
  have hopen : ∀ l w, 0 ≤ l → l < A 24 → (w = 1 ∨ w = -1) → Sat (f_X6_isOpen ν (38 * (q : Int)) l w) (fun z => z = if openA A l w = true then 1 else 0) := fun l w a b c => m_isOpen hq hV hR.1 hR.2.2.2.1 ⟨a, b⟩ c
  refine si_bind (si_loop (fun i (x : Int × Int × Int × Int × Int) => x.2.2.2.2 = i + 1 ∧ i ≤ s ∧ x.1 = (tw S A own i).1.1 ∧ x.2.1 = own + (tw S A own i).1.2 ∧ ((x.2.2.1 = 1 ∧ (tw S A own i).2.1 = own - i) ∨ (x.2.2.1 = 0 ∧ ¬ openA A (tw S A own i).2.1 (-1) = true)) ∧ ((x.2.2.2.1 = 1 ∧ (tw S A own i).2.2 = own + i) ∨ (x.2.2.2.1 = 0 ∧ ¬ openA A (tw S A own i).2.2 1 = true))) s ?_ 1000 _ (by omega) ⟨rfl, Nat.zero_le _, rfl, by show own = own + 0; omega, Or.inl ⟨rfl, by show own = own - 0; omega⟩, Or.inl ⟨rfl, by show own = own + 0; omega⟩⟩)
  rintro i ⟨most, to, dn, un, d⟩ hi ⟨h1, h2, h3, h4, h5, h6⟩
  dsimp only at h1 h2 h3 h4 h5 h6 ⊢
  have hin := tw_in (S := S) hp i
  have hin2 := tw_in (S := S) hp (i + 1)
  refine si_if (fun c => si_some (si_some ?_)) (fun c => ?_)
  · have : i = s := by omega
    subst this
    exact h4
  have hdn : Sat (if dn = 0 then some (0 : Int) else (f_X6_isOpen ν (38 * (q : Int)) (own - d + 1) (-1)).bind fun z28 => if z28 = 0 then some 0 else some 1) (fun v => v = if openA A (tw S A own i).2.1 (-1) = true then 1 else 0) := by
    rcases h5 with ⟨g1, g2⟩ | ⟨g1, g2⟩
    · refine si_f (by omega) (si_call (hopen _ _ (by omega) (by omega) (Or.inr rfl)) (fun z hz => ?_))
      rw [hz, g2, show own - d + 1 = own - (i : Int) by omega]
      by_cases w : openA A (own - (i : Int)) (-1) = true
      · rw [if_pos w]; exact si_f (by decide) (si_some rfl)
      · rw [if_neg w]; exact si_t rfl (si_some rfl)
    · refine si_t g1 (si_some ?_)
      rw [if_neg g2]
  have hun : Sat (if un = 0 then some (0 : Int) else (f_X6_isOpen ν (38 * (q : Int)) (own + d - 1) 1).bind fun z24 => if z24 = 0 then some 0 else some 1) (fun v => v = if openA A (tw S A own i).2.2 1 = true then 1 else 0) := by
    rcases h6 with ⟨g1, g2⟩ | ⟨g1, g2⟩
    · refine si_f (by omega) (si_call (hopen _ _ (by omega) (by omega) (Or.inl rfl)) (fun z hz => ?_))
      rw [hz, g2, show own + d - 1 = own + (i : Int) by omega]
      by_cases w : openA A (own + (i : Int)) 1 = true
      · rw [if_pos w]; exact si_f (by decide) (si_some rfl)
      · rw [if_neg w]; exact si_t rfl (si_some rfl)
    · refine si_t g1 (si_some ?_)
      rw [if_neg g2]
  simp (disch := omega) only [w3_id]
  refine si_call hdn (fun dn' hd' => si_call hun (fun un' hu' => ?_))
  have hlow : openA A (tw S A own i).2.1 (-1) = true → (tw S A own i).2.1 = own - i := fun w => by
    rcases h5 with ⟨_, g2⟩ | ⟨_, g2⟩
    · exact g2
    · exact absurd w g2
  have hupp : openA A (tw S A own i).2.2 1 = true → (tw S A own i).2.2 = own + i := fun w => by
    rcases h6 with ⟨_, g2⟩ | ⟨_, g2⟩
    · exact g2
    · exact absurd w g2
  refine si_call (P := fun v : Int × Int => v.1 = (look (openA A (tw S A own i).2.1 (-1)) (S ((tw S A own i).2.1 - 1)) (-1) (tw S A own i).1).1 ∧ v.2 = own + (look (openA A (tw S A own i).2.1 (-1)) (S ((tw S A own i).2.1 - 1)) (-1) (tw S A own i).1).2) ?_ (fun v hv => ?_)
  · by_cases w : openA A (tw S A own i).2.1 (-1) = true
    · rw [if_pos w] at hd'
      have ho := openA_in w
      have hl := hlow w
      rw [hl] at ho
      refine si_f (by omega) (si_call (hsee (own - d) (by omega) (by omega)) (fun z hz => ?_))
      have e : (tw S A own i).2.1 - 1 = own - d := by omega
      rw [hz, e]
      refine si_if (fun c1 => si_some ?_) (fun c1 => si_call (hsee (own - d) (by omega) (by omega)) (fun z hz => si_some ?_))
      · rw [look_f (fun q => by have := q.2; omega)]
        exact ⟨h3, h4⟩
      · rw [look_t ⟨w, by omega⟩]
        exact ⟨hz, by show own - 1 = own + -1; omega⟩
    · rw [if_neg w] at hd'
      refine si_t hd' (si_some ?_)
      rw [look_f (fun q => w q.1)]
      exact ⟨h3, h4⟩
  obtain ⟨vm, vt⟩ := v
  obtain ⟨g1, g2⟩ := hv
  dsimp only at g1 g2 ⊢
  have hdn2 : (dn' = 1 ∧ (tw S A own (i + 1)).2.1 = own - ((i + 1 : Nat) : Int)) ∨ (dn' = 0 ∧ ¬ openA A (tw S A own (i + 1)).2.1 (-1) = true) := by
    show (dn' = 1 ∧ besideA A (tw S A own i).2.1 (-1) = own - ((i + 1 : Nat) : Int)) ∨ (dn' = 0 ∧ ¬ openA A (besideA A (tw S A own i).2.1 (-1)) (-1) = true)
    by_cases w : openA A (tw S A own i).2.1 (-1) = true
    · rw [if_pos w] at hd'
      rw [besideA_t w, hlow w]
      exact Or.inl ⟨hd', by omega⟩
    · rw [if_neg w] at hd'
      rw [besideA_f w]
      exact Or.inr ⟨hd', w⟩
  have hun2 : (un' = 1 ∧ (tw S A own (i + 1)).2.2 = own + ((i + 1 : Nat) : Int)) ∨ (un' = 0 ∧ ¬ openA A (tw S A own (i + 1)).2.2 1 = true) := by
    show (un' = 1 ∧ besideA A (tw S A own i).2.2 1 = own + ((i + 1 : Nat) : Int)) ∨ (un' = 0 ∧ ¬ openA A (besideA A (tw S A own i).2.2 1) 1 = true)
    by_cases w : openA A (tw S A own i).2.2 1 = true
    · rw [if_pos w] at hu'
      rw [besideA_t w, hupp w]
      exact Or.inl ⟨hu', by omega⟩
    · rw [if_neg w] at hu'
      rw [besideA_f w]
      exact Or.inr ⟨hu', w⟩
  have hfin : ∀ m t : Int, m = (tw S A own (i + 1)).1.1 → t = own + (tw S A own (i + 1)).1.2 → i < s ∧ d + 1 = ((i + 1 : Nat) : Int) + 1 ∧ i + 1 ≤ s ∧ m = (tw S A own (i + 1)).1.1 ∧ t = own + (tw S A own (i + 1)).1.2 ∧ ((dn' = 1 ∧ (tw S A own (i + 1)).2.1 = own - ((i + 1 : Nat) : Int)) ∨ (dn' = 0 ∧ ¬ openA A (tw S A own (i + 1)).2.1 (-1) = true)) ∧ ((un' = 1 ∧ (tw S A own (i + 1)).2.2 = own + ((i + 1 : Nat) : Int)) ∨ (un' = 0 ∧ ¬ openA A (tw S A own (i + 1)).2.2 1 = true)) := fun m t a b => ⟨by omega, by omega, by omega, a, b, hdn2, hun2⟩
  have hfin1 : (tw S A own (i + 1)).1 = look (openA A (tw S A own i).2.2 1) (S ((tw S A own i).2.2 + 1)) 1 (look (openA A (tw S A own i).2.1 (-1)) (S ((tw S A own i).2.1 - 1)) (-1) (tw S A own i).1) := rfl
  by_cases w : openA A (tw S A own i).2.2 1 = true
  · rw [if_pos w] at hu'
    have ho := openA_in w
    have hl := hupp w
    rw [hl] at ho
    have e : (tw S A own i).2.2 + 1 = own + d := by omega
    refine si_f (by omega) (si_call (hsee (own + d) (by omega) (by omega)) (fun z hz => ?_))
    rw [hz]
    refine si_if (fun c1 => si_some ?_) (fun c1 => si_call (hsee (own + d) (by omega) (by omega)) (fun z hz => si_some ?_))
    · refine hfin _ _ ?_ ?_
      · rw [hfin1, e, look_f (fun q => by have := q.2; omega)]; exact g1
      · rw [hfin1, e, look_f (fun q => by have := q.2; omega)]; exact g2
    · refine hfin _ _ ?_ ?_
      · rw [hfin1, e, look_t ⟨w, by omega⟩]; exact hz
      · rw [hfin1, e, look_t ⟨w, by omega⟩]
  · rw [if_neg w] at hu'
    refine si_t hu' (si_some (hfin _ _ ?_ ?_))
    · rw [hfin1, look_f (fun q => w q.1)]; exact g1
    · rw [hfin1, look_f (fun q => w q.1)]; exact g2
theorem m_swimsTo {ν : Mm} {q : Nat} (hq : q < 4) {A : Rv} (hV : VR A) (hR : RR A (ν q)) {k : Int} (hk : 0 ≤ k ∧ k < A 25) : Sat (f_X6_swimsTo ν (38 * (q : Int)) k) (fun z => z = goalA A k) := by
  have hA9 : A 24 ≤ 9 := hV.2.1
  have hA6 : A 25 ≤ 6 := hV.2.2.2.1
  obtain ⟨hp, -, hkd, -⟩ := hV.2.2.2.2.2.2.2 k hk.1 hk.2
  obtain ⟨rp, -, rk, -⟩ := hR.2.2.2.2.2 k hk.1 hk.2
  have hcr := hV.2.2.2.2.2.2.1 _ hp.1 hp.2
  unfold f_X6_swimsTo bnd
  simp (disch := omega) only [w3_id, rq2]
  rw [rp, rk]
  try simp (disch := omega) only [w3_id, rq2]
  rw [hR.2.2.2.2.1 _ hp.1 hp.2]
  have hop : ∀ w, (w = 1 ∨ w = -1) → Sat (f_X6_isOpen ν (38 * (q : Int)) (A (11 + k)) w) (fun z => z = if openA A (A (11 + k)) w = true then 1 else 0) := fun w c => m_isOpen hq hV hR.1 hR.2.2.2.1 hp c
  refine si_chk (by omega) (si_chk (by omega) ?_)
  unfold goalA
  refine si_if (fun c => ?_) (fun c => si_if (fun c1 => si_chk (by omega) ?_) (fun c1 => si_if (fun c2 => si_chk (by omega) ?_) (fun c2 => ?_)))
  · rw [if_pos c]
    exact si_call (m_towards (s := 1) hq hV hR hk (by decide)) (fun z hz => si_some hz)
  · rw [if_neg c, if_pos c1]
    refine si_if (fun c3 => si_call (hop _ (Or.inr rfl)) (fun z hz => ?_)) (fun c3 => si_some ?_)
    · rw [if_pos (show A (1 + A (11 + k)) ≤ 0 by omega), hz]
      by_cases w : openA A (A (11 + k)) (-1) = true
      · rw [if_pos w, besideA_t w]
        exact si_f (by decide) (si_some (by omega))
      · rw [if_neg w, besideA_f w]
        exact si_t rfl (si_some rfl)
    · rw [if_neg (show ¬ A (1 + A (11 + k)) ≤ 0 by omega)]
  · rw [if_neg c, if_neg c1, if_pos c2]
    refine si_if (fun c3 => si_call (hop _ (Or.inl rfl)) (fun z hz => ?_)) (fun c3 => si_some ?_)
    · rw [if_pos (show A (1 + A (11 + k)) ≤ 0 by omega), hz]
      by_cases w : openA A (A (11 + k)) 1 = true
      · rw [if_pos w, besideA_t w]
        exact si_f (by decide) (si_some rfl)
      · rw [if_neg w, besideA_f w]
        exact si_t rfl (si_some rfl)
    · rw [if_neg (show ¬ A (1 + A (11 + k)) ≤ 0 by omega)]
  · rw [if_neg c, if_neg c1, if_neg c2]
    exact si_call (m_towards (s := 2) hq hV hR hk (by decide)) (fun z hz => si_some hz)
