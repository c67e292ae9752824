/-! BOTH SIDES IN STEP; what is only told: status, fault, trace, count, kind, swan, lawn, doubles. -/
theorem si_swap {α β : Type} {o : Option α} {p : Option β} {K : α → β → Prop} (h : Sat p (fun y => Sat o (fun z => K z y))) : Sat o (fun z => Sat p (fun y => K z y)) := by
  obtain ⟨y, h1, z, h2, h3⟩ := h
  exact ⟨z, h2, y, h1, h3⟩
theorem si_call2 {α β γ δ : Type} {o : Option α} {p : Option β} {f : α → Option γ} {g : β → Option δ} {K : γ → δ → Prop} {P : α → β → Prop} (h : Sat o (fun a => Sat p (fun b => P a b))) (k : ∀ a b, P a b → Sat (f a) (fun z => Sat (g b) (fun y => K z y))) : Sat (o.bind f) (fun z => Sat (p.bind g) (fun y => K z y)) := by
  obtain ⟨a, rfl, b, rfl, h3⟩ := h
  exact k a b h3
def both2 {σ ρ σ' ρ' : Type} (S : σ → σ' → Prop) (K : ρ → ρ' → Prop) : σ ⊕ ρ → σ' ⊕ ρ' → Prop
  | .inl z, .inl z' => S z z'
  | .inr r, .inr r' => K r r'
  | _, _ => False
theorem si_loop2 {σ ρ σ' ρ' : Type} {b1 : σ → Option (σ ⊕ ρ)} {b2 : σ' → Option (σ' ⊕ ρ')} {K : ρ → ρ' → Prop} (I : Nat → σ → σ' → Prop) (N : Nat) (hs : ∀ i x x', i ≤ N → I i x x' → Sat (b1 x) (fun y => Sat (b2 x') (fun y' => both2 (fun z z' => i < N ∧ I (i + 1) z z') K y y'))) : ∀ (n n' : Nat) (x0 : σ) (x0' : σ'), N < n → N < n' → I 0 x0 x0' → Sat (loopO b1 n x0) (fun r => Sat (loopO b2 n' x0') (fun r' => K r r')) := by
  have key : ∀ (d i n n' : Nat) (x : σ) (x' : σ'), N - i = d → i ≤ N → N - i < n → N - i < n' → I i x x' → Sat (loopO b1 n x) (fun r => Sat (loopO b2 n' x') (fun r' => K r r')) := by
    intro d
    induction d with
    | zero =>
      intro i n n' x x' hd hi hn hn' hI
      obtain ⟨n, rfl⟩ : ∃ m, n = m + 1 := ⟨n - 1, by omega⟩
      obtain ⟨n', rfl⟩ : ∃ m, n' = m + 1 := ⟨n' - 1, by omega⟩
      obtain ⟨y, hy, y', hy', hk⟩ := hs i x x' hi hI
      unfold loopO
      rw [hy, hy']
      cases y <;> cases y'
      · exact absurd hk.1 (by omega)
      · exact absurd hk id
      · exact absurd hk id
      · exact si_some (si_some hk)
    | succ d ih =>
      intro i n n' x x' hd hi hn hn' hI
      obtain ⟨n, rfl⟩ : ∃ m, n = m + 1 := ⟨n - 1, by omega⟩
      obtain ⟨n', rfl⟩ : ∃ m, n' = m + 1 := ⟨n' - 1, by omega⟩
      obtain ⟨y, hy, y', hy', hk⟩ := hs i x x' hi hI
      unfold loopO
      rw [hy, hy']
      cases y <;> cases y'
      · exact ih (i + 1) n n' _ _ (by omega) (by omega) (by omega) (by omega) hk.2
      · exact absurd hk id
      · exact absurd hk id
      · exact si_some (si_some hk)
  intro n n' x0 x0' hn hn' h0
  exact key N 0 n n' x0 x0' (by omega) (by omega) (by omega) (by omega) h0
def Same (o p : Option Int) : Prop := Sat o (fun z => Sat p (fun y => y = z))
section
variable {μ ν : Mm} {A : Rv} {β : Type} {f : Int → Option β} {K : β → Prop}
theorem m_sw (hN : NowR μ ν A) {k : Int} (c : 0 ≤ k ∧ k < A 25) (h : Sat (f 1) K) : Sat ((f_X6_isSwan ν k).bind f) K :=
  si_call (m_isSwan hN k) (fun y hy => by rw [if_pos c] at hy; rw [hy]; exact h)
theorem m_swN (hN : NowR μ ν A) {k : Int} (c : ¬ (0 ≤ k ∧ k < A 25)) (h : Sat (f 0) K) : Sat ((f_X6_isSwan ν k).bind f) K :=
  si_call (m_isSwan hN k) (fun y hy => by rw [if_neg c] at hy; rw [hy]; exact h)
theorem m_ln (hN : NowR μ ν A) {k : Int} (c : 0 ≤ k ∧ k < A 24) (h : Sat (f 1) K) : Sat ((f_X6_isLawn ν k).bind f) K :=
  si_call (m_isLawn hN k) (fun y hy => by rw [if_pos c] at hy; rw [hy]; exact h)
theorem m_lnN (hN : NowR μ ν A) {k : Int} (c : ¬ (0 ≤ k ∧ k < A 24)) (h : Sat (f 0) K) : Sat ((f_X6_isLawn ν k).bind f) K :=
  si_call (m_isLawn hN k) (fun y hy => by rw [if_neg c] at hy; rw [hy]; exact h)
theorem m_rv (hN : NowR μ ν A) (c : 0 < A 24) (h : Sat (f 1) K) : Sat ((f_X6_isRiver ν).bind f) K :=
  si_call (m_isRiver hN) (fun y hy => by rw [if_pos c] at hy; rw [hy]; exact h)
theorem m_rvN (hN : NowR μ ν A) (c : ¬ 0 < A 24) (h : Sat (f 0) K) : Sat ((f_X6_isRiver ν).bind f) K :=
  si_call (m_isRiver hN) (fun y hy => by rw [if_neg c] at hy; rw [hy]; exact h)
end
theorem w3_r {x : Int} (h : inR x) : w3 x = x := w3_id h.1 (by have := h.2; omega)
theorem s_status {μ ν : Mm} (h : Rel μ ν) : f_X6_status ν = f_X5_status μ := by
  obtain ⟨A, hA⟩ := h
  exact hA.2.2.2.2.2.2
theorem s_fault {μ ν : Mm} (h : Rel μ ν) : f_X6_fault ν = f_X5_fault μ := by
  obtain ⟨A, hA⟩ := h
  exact hA.2.2.1.2.2.2.2
theorem s_trace {μ ν : Mm} (h : Rel μ ν) (p : Int) : Same (f_X5_trace μ p) (f_X6_trace ν p) := by
  obtain ⟨A, hA⟩ := h
  obtain ⟨t1, t2, t3, t4⟩ := hA.2.2.2.1
  unfold f_X5_trace f_X6_trace
  rw [within_eq, in_eq, t1, w3_id (by omega) (by omega)]
  by_cases c : 0 ≤ p ∧ p ≤ μ 33 0 - 1
  · rw [if_pos c]
    refine si_f (by decide) (si_chk (by omega) (si_some (si_f (by decide) (si_chk (by omega) (si_some ?_)))))
    rw [show 0 + p = p by omega]
    exact t4 p c.1 (by omega)
  · rw [if_neg c]
    exact si_t rfl (si_some (si_t rfl (si_some rfl)))
theorem s_kind {μ ν : Mm} (h : Rel μ ν) (k : Int) : Same (f_X5_kind μ k) (f_X6_kind ν k) := by
  obtain ⟨A, hA⟩ := h
  have hN := hA.1
  obtain ⟨b1, b2, b3, b4, -⟩ := NowR_c hN
  unfold f_X5_kind f_X6_kind
  rw [c_isSwan' hN]
  by_cases c1 : 0 ≤ k ∧ k < A 25
  · rw [if_pos c1]
    refine si_f (by decide) (si_chk (by omega) (si_some (m_sw hN c1 (si_f (by decide) ?_))))
    rw [w3_id (by omega) (by omega)]
    refine si_chk (by omega) (si_some ?_)
    rw [rd0 (by omega), (hN.1.2.2.2.2.2 k c1.1 c1.2).2.2.1, (hN.2.1.2.2.2.2.2 k c1.1 c1.2).2.2.1]
  · rw [if_neg c1]
    exact si_t rfl (si_some (m_swN hN c1 (si_t rfl (si_some rfl))))
theorem s_swan {μ ν : Mm} (h : Rel μ ν) (k w : Int) : Same (f_X5_swan μ k w) (f_X6_swan ν k w) := by
  obtain ⟨A, hA⟩ := h
  have hN := hA.1
  obtain ⟨b1, b2, b3, b4, -⟩ := NowR_c hN
  unfold f_X5_swan f_X6_swan
  rw [c_isSwan' hN]
  by_cases c1 : 0 ≤ k ∧ k < A 25
  · obtain ⟨hV, -⟩ := NowR_V hN (Or.inl (by omega))
    obtain ⟨p1, p2, p3, p4⟩ := hN.1.2.2.2.2.2 k c1.1 c1.2
    obtain ⟨q1, q2, q3, q4⟩ := hN.2.1.2.2.2.2.2 k c1.1 c1.2
    rw [if_pos c1]
    refine si_f (by decide) ?_
    rw [w3_id (x := 11 + k) (by omega) (by omega), w3_id (x := 32 + k) (by omega) (by omega), w3_id (x := 17 + k) (by omega) (by omega)]
    refine si_if (fun c => ?_) (fun c => si_if (fun c' => ?_) (fun c' => si_if (fun c'' => ?_) (fun c'' => si_if (fun c3 => ?_) (fun c3 => ?_))))
    · refine si_chk (by omega) (si_some (m_sw hN c1 (si_f (by decide) (si_t c (si_chk (by omega) (si_some ?_))))))
      rw [rd0 (by omega), p1, q1]
    · refine si_chk (by omega) (si_some (m_sw hN c1 (si_f (by decide) (si_f c (si_t c' (si_chk (by omega) (si_some ?_)))))))
      rw [rd0 (by omega), p4, q4]
    · refine si_chk (by omega) (si_some (m_sw hN c1 (si_f (by decide) (si_f c (si_f c' (si_t c'' (si_chk (by omega) (si_some ?_))))))))
      rw [rd0 (by omega), p2, q2]
    · refine si_call (f_goalOf hV hN.1 c1) (fun z hz => si_some (m_sw hN c1 (si_f (by decide) (si_f c (si_f c' (si_f c'' (si_t c3 (si_call (m_swimsTo (q := 0) (by decide) hV hN.2.1 c1) (fun y hy => si_some ?_)))))))))
      rw [hz, hy]
    · exact si_some (m_sw hN c1 (si_f (by decide) (si_f c (si_f c' (si_f c'' (si_f c3 (si_some rfl)))))))
  · rw [if_neg c1]
    exact si_t rfl (si_some (m_swN hN c1 (si_t rfl (si_some rfl))))
theorem s_lawn {μ ν : Mm} (h : Rel μ ν) (l w : Int) : Same (f_X5_lawn μ l w) (f_X6_lawn ν l w) := by
  obtain ⟨A, hA⟩ := h
  have hN := hA.1
  obtain ⟨b1, b2, b3, b4, -⟩ := NowR_c hN
  unfold f_X5_lawn f_X6_lawn
  rw [c_isLawn' hN]
  by_cases c1 : 0 ≤ l ∧ l < A 24
  · rw [if_pos c1]
    refine si_f (by decide) ?_
    rw [w3_id (x := 1 + l) (by omega) (by omega)]
    refine si_if (fun c => ?_) (fun c => si_if (fun c' => ?_) (fun c' => si_if (fun c'' => ?_) (fun c'' => si_if (fun c3 => ?_) (fun c3 => ?_))))
    · refine si_chk (by omega) (si_some (m_ln hN c1 (si_f (by decide) (si_t c (si_chk (by omega) (si_some ?_))))))
      rw [rd0 (by omega), hN.1.2.2.2.2.1 l c1.1 c1.2, hN.2.1.2.2.2.2.1 l c1.1 c1.2]
    · refine si_some (m_ln hN c1 (si_f (by decide) (si_f c (si_t c' (si_chk (by omega) (si_some ?_))))))
      unfold f_X2_weirBehind
      rw [rd0 (by omega), hN.1.2.2.2.1, hN.2.1.2.2.2.1]
    · refine si_call (f_swansOn b3 b4 hN.1) (fun z hz => si_some (m_ln hN c1 (si_f (by decide) (si_f c (si_f c' (si_t c'' (si_call (m_swansOn (q := 0) (by decide) b3 b4 hN.2.1) (fun y hy => si_some ?_))))))))
      rw [hz, hy]
    · refine si_call (f_plotsOwnedAt b3 b4 hN.1) (fun z hz => si_some (m_ln hN c1 (si_f (by decide) (si_f c (si_f c' (si_f c'' (si_t c3 (si_call (m_plotsOf (q := 0) (by decide) b3 b4 hN.2.1) (fun y hy => si_some ?_)))))))))
      rw [hz, hy]
    · exact si_some (m_ln hN c1 (si_f (by decide) (si_f c (si_f c' (si_f c'' (si_f c3 (si_some rfl)))))))
  · rw [if_neg c1]
    exact si_t rfl (si_some (m_lnN hN c1 (si_t rfl (si_some rfl))))
theorem m_crumbsOfAll {ν : Mm} {A : Rv} (h0 : 0 ≤ A 24) (h9 : A 24 ≤ 9) (hc : ∀ l, 0 ≤ l → l < A 24 → 0 ≤ A (1 + l) ∧ A (1 + l) ≤ 99) (hR : RR A (ν 0)) : Sat (f_X6_crumbsOfAll ν) (fun z => z = crumbsA A) := by
  unfold f_X6_crumbsOfAll
  refine si_bind (si_loop (fun i (x : Int × Int) => x.2 = i ∧ (i : Int) ≤ A 24 ∧ x.1 = sumN (fun l => A (1 + l)) i) (A 24).toNat ?_ 1000 (0, 0) (by omega) ⟨rfl, by omega, rfl⟩)
  rintro i ⟨a, b⟩ hi ⟨hb, hiA, ha⟩
  dsimp only at hb ha ⊢
  subst hb
  have e1 := hR.1
  have hs := sumN_in (f := fun l => A (1 + l)) (n := i) (B := 99) (by decide) (fun k p q => hc k p (by omega))
  rw [rd0 (by decide), e1]
  refine si_chk (by decide) (si_if (fun c => si_some (si_some ?_)) (fun c => ?_))
  · unfold crumbsA
    rw [show (A 24).toNat = i by omega]
    exact ha
  have hp := hR.2.2.2.2.1 i (by omega) (by omega)
  have hci := hc i (by omega) (by omega)
  rw [w3_id (x := 1 + (i : Int)) (by omega) (by omega), rd0 (by omega), hp]
  refine si_chk (by omega) (si_bnd (si_some ⟨by omega, by dsimp only; rw [w3_id (by omega) (by omega)]; omega, by omega, ?_⟩))
  show w3 (a + A (1 + (i : Int))) = sumN (fun l => A (1 + l)) i + A (1 + (i : Int))
  rw [ha, w3_id (by omega) (by omega)]
theorem s_count {μ ν : Mm} (h : Rel μ ν) (w : Int) : Same (f_X5_count μ w) (f_X6_count ν w) := by
  obtain ⟨A, hA⟩ := h
  have hN := hA.1
  obtain ⟨b1, b2, b3, b4, b5, b6, b7, b8⟩ := NowR_c hN
  unfold f_X5_count f_X6_count
  have hcr : ∀ l, 0 ≤ l → l < A 24 → 0 ≤ A (1 + l) ∧ A (1 + l) ≤ 99 := fun l h1 h2 => (NowR_V hN (Or.inr (by omega))).1.2.2.2.2.2.2.1 l h1 h2
  refine si_if (fun c => ?_) (fun c => si_if (fun c1 => si_some (si_f c (si_t c1 (si_chk (by decide) (si_some ?_))))) (fun c1 => si_if (fun c2 => si_some (si_f c (si_f c1 (si_t c2 (si_chk (by decide) (si_some ?_)))))) (fun c2 => si_if (fun c3 => si_some (si_f c (si_f c1 (si_f c2 (si_t c3 (si_chk (by decide) (si_some ?_))))))) (fun c3 => si_if (fun c4 => ?_) (fun c4 => si_if (fun c5 => si_some (si_f c (si_f c1 (si_f c2 (si_f c3 (si_f c4 (si_t c5 (si_chk (by decide) (si_some ?_))))))))) (fun c5 => si_if (fun c6 => si_some (si_f c (si_f c1 (si_f c2 (si_f c3 (si_f c4 (si_f c5 (si_t c6 (si_some ?_))))))))) (fun c6 => si_if (fun c7 => si_some (si_f c (si_f c1 (si_f c2 (si_f c3 (si_f c4 (si_f c5 (si_f c6 (si_t c7 (si_some ?_)))))))))) (fun c7 => si_some (si_f c (si_f c1 (si_f c2 (si_f c3 (si_f c4 (si_f c5 (si_f c6 (si_f c7 (si_some rfl)))))))))))))))))
  · refine si_swap (si_t c (si_swap ?_))
    unfold f_X3_countPresent
    refine si_call (P := fun z => Sat ((loopO (fun (x2 : Int × Int) => if 8 ≤ x2.2 then (some (.inr x2)) else (chk ((0 : Int) ≤ x2.2 ∧ x2.2 < (8 : Int)) (if 0 ≤ (ν 33 (0 + x2.2)) then (some (.inl (w3 (x2.1 + 1), w3 (x2.2 + 1)))) else (some (.inl (w3 (x2.1 + 0), w3 (x2.2 + 1))))))) 1000 (0, 0)).bind fun e6 => some e6.1) (fun y => y = z)) (si_call2 (P := fun x y => x = y) (si_loop2 (fun i (x y : Int × Int) => x = y ∧ x.2 = i ∧ i ≤ 8 ∧ 0 ≤ x.1 ∧ x.1 ≤ i) 8 ?_ 1000 1000 (0, 0) (0, 0) (by decide) (by decide) ⟨rfl, rfl, by decide, by decide, by decide⟩) (fun a b hab => si_some (si_some (by rw [hab])))) (fun z hz => si_some hz)
    rintro i ⟨a, b⟩ ⟨a', b'⟩ hi ⟨hx, hb, hi8, ha0, ha1⟩
    cases hx
    dsimp only at hb ha0 ha1 ⊢
    subst hb
    refine si_if (fun c => si_some (si_t c (si_some rfl))) (fun c => ?_)
    obtain ⟨⟨r1, r2, r3, r4, r5, r6⟩, -⟩ := hA.2.1 i (by omega)
    refine si_call (P := fun y => y = if μ 37 i = -1 then 1 else 0) (by
      unfold f_X3_isMissing
      rw [show 0 + (i : Int) = i by omega]
      refine si_chk (by omega) (si_if (fun c => si_some ?_) (fun c => si_some ?_))
      · rw [if_pos c]
      · rw [if_neg c]) (fun y hy => ?_)
    rw [show 0 + (i : Int) = i by omega, r1]
    by_cases c' : μ 37 i = -1
    · rw [if_pos c'] at hy
      refine si_f (by omega) (si_some (si_f c (si_chk (by omega) (si_f (by omega) (si_some ⟨by omega, ?_, w3s i (by omega), by omega, ha0, by omega⟩)))))
      rw [show a + 0 = a by omega, w3_id (x := a) (by omega) (by omega)]
    · rw [if_neg c'] at hy
      refine si_t (by omega) (si_some (si_f c (si_chk (by omega) (si_t (by omega) (si_some ⟨by omega, rfl, w3s i (by omega), by omega, ?_, ?_⟩)))))
      · show 0 ≤ w3 (a + 1)
        rw [w3_id (by omega) (by omega)]; omega
      · show w3 (a + 1) ≤ _
        rw [w3_id (by omega) (by omega)]; omega
  · rw [rd0 (by decide), b7, b5]
  · rw [rd0 (by decide), b8, b6]
  · rw [rd0 (by decide), hN.1.2.2.1, hN.2.1.2.2.1]
  · refine si_call (f_crumbSum b1 b2 hcr hN.1) (fun z hz => si_some (si_f c (si_f c1 (si_f c2 (si_f c3 (si_t c4 (si_call (m_crumbsOfAll b1 b2 hcr hN.2.1) (fun y hy => si_some ?_))))))))
    rw [hz, hy]
  · rw [rd0 (by decide), hN.1.2.2.2.1, hN.2.1.2.2.2.1]
  · exact hA.2.2.2.2.2.1.1
  · exact hA.2.2.1.1
theorem s_doubles {μ ν : Mm} (h : Rel μ ν) (w : Int) : Same (f_X5_doubles μ w) (f_X6_doubles ν w) := by
  obtain ⟨A, hA⟩ := h
  have hN := hA.1
  obtain ⟨b1, b2, b3, b4, b5, b6, b7, b8⟩ := NowR_c hN
  unfold f_X5_doubles f_X6_doubles
  rw [c_hasRiver' hN, within_eq, in_eq]
  by_cases c1 : 0 < A 24
  · rw [if_pos c1]
    refine si_f (by decide) ?_
    by_cases c2 : 0 ≤ w ∧ w ≤ 1
    · rw [if_pos c2]
      refine si_f (by decide) (si_swap (m_rv hN c1 (si_f (by decide) (si_f (by decide) (si_swap ?_)))))
      refine si_call2 (P := fun x y => x = y) (si_loop2 (fun i (x y : Int × Int × Int) => x = y ∧ x.2.2 = i ∧ (i : Int) ≤ A 25 ∧ inR x.1) (A 25).toNat ?_ 1000 1000 (0, -1000000, 0) (0, -1000000, 0) (by omega) (by omega) ⟨rfl, rfl, by omega, inR_0⟩) (fun a b hab => ?_)
      · rintro i ⟨a, b, j⟩ y' hi ⟨hx, hj, hiA, haR⟩
        cases hx
        dsimp only at hj ⊢
        subst hj
        rw [rd0 (by decide), b8, b6]
        refine si_if (fun c => si_some (si_chk (by decide) (si_t c (si_some rfl)))) (fun c => si_swap (si_chk (by decide) (si_f c (si_swap ?_))))
        refine si_call2 (P := fun (x y : Int × Int × Int) => x = y ∧ inR x.1) (si_loop2 (fun i' (x y : Int × Int × Int) => x = y ∧ x.2.2 = i + 1 + i' ∧ i + 1 + (i' : Int) ≤ A 25 ∧ inR x.1) ((A 25).toNat - i - 1) ?_ 1000 1000 (a, b, w3 ((i : Int) + 1)) (a, b, w3 ((i : Int) + 1)) (by omega) (by omega) ⟨rfl, by dsimp only; rw [w3_id (by omega) (by omega)]; omega, by omega, haR⟩) (fun u v huv => si_some (si_some ⟨by omega, by rw [huv.1], w3s i (by omega), by omega, huv.2⟩))
        rintro e ⟨u, v, k⟩ y' he ⟨hx, hk, hkA, huR⟩
        cases hx
        dsimp only at hk ⊢
        refine si_if (fun c' => si_some (si_chk (by decide) (si_t c' (si_some ⟨rfl, huR⟩)))) (fun c' => si_swap (si_chk (by decide) (si_f c' (si_swap ?_))))
        have hp := (hN.1.2.2.2.2.2 k (by omega) (by omega)).2.2.2
        have hq := (hN.2.1.2.2.2.2.2 k (by omega) (by omega)).2.2.2
        have hpi := (hN.1.2.2.2.2.2 i (by omega) (by omega)).2.2.2
        have hqi := (hN.2.1.2.2.2.2.2 i (by omega) (by omega)).2.2.2
        rw [w3_id (x := 32 + (i : Int)) (by omega) (by omega), w3_id (x := 32 + k) (by omega) (by omega), rd0 (by omega), rd0 (by omega), hp, hq, hpi, hqi]
        have wk : w3 (k + 1) = (i : Int) + 1 + ((e + 1 : Nat) : Int) := by rw [w3_id (by omega) (by omega)]; omega
        refine si_chk (by omega) (si_chk (by omega) (si_swap (si_chk (by omega) (si_chk (by omega) (si_swap ?_)))))
        refine si_if (fun c3 => ?_) (fun c3 => ?_)
        · rw [if_pos c3]
          refine si_if (fun c4 => si_bnd (si_some (si_bnd (si_bnd (si_f (by decide) (si_some ⟨by omega, ?_, wk, by omega, w3_R _⟩)))))) (fun c4 => si_some (si_bnd (si_bnd (si_f (by decide) (si_some ⟨by omega, ?_, wk, by omega, w3_R _⟩)))))
          · rw [if_neg (by decide), if_pos c4]
          · rw [if_neg (by decide), if_neg c4]
        · rw [if_neg c3]
          refine si_some (si_bnd (si_bnd (si_t rfl (si_some ⟨by omega, ?_, wk, by omega, huR⟩))))
          rw [if_pos rfl, show u + 0 = u by omega, w3_r huR]
      · subst hab
        exact si_if (fun c => si_some (si_t c (si_some rfl))) (fun c => si_some (si_f c (si_some rfl)))
    · rw [if_neg c2]
      exact si_t rfl (si_some (m_rv hN c1 (si_f (by decide) (si_t rfl (si_some rfl)))))
  · rw [if_neg c1]
    exact si_t rfl (si_some (m_rvN hN c1 (si_t rfl (si_some rfl))))
