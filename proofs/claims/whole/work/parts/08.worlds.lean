/-! THE TWO WORLDS: the class' cells (rivers 0 now, 1 2 images, 3 trial, 4 dawn, 5.. kept; then the rest), the reference's. -/
/-- the fields of river r, cell 6 r: the places of its ints are the reference's own -/
abbrev FX2 (r : Nat) : List ((Nat × Int) ⊕ Nat) := [.inl (r, 24), .inl (r, 25), .inl (r, 0), .inl (r, 10), .inr (6 * r + 1), .inr (6 * r + 2), .inr (6 * r + 3), .inr (6 * r + 4), .inr (6 * r + 5), .inl (r, 40), .inl (r, 41)]
abbrev FX5 : List ((Nat × Int) ⊕ Nat) := [.inr 175, .inr 176, .inr 177, .inr 178, .inr (6 * 0), .inr (6 * 3), .inr (6 * 4), .inr 179, .inl (30, 0)]
abbrev FX3 : List ((Nat × Int) ⊕ Nat) := [.inr 181, .inr 182, .inr 183]
abbrev FX4 : List ((Nat × Int) ⊕ Nat) := [.inr 184, .inl (34, 0), .inl (34, 1), .inl (34, 2), .inl (34, 3), .inl (34, 4), .inl (34, 5), .inl (34, 6)]
abbrev FX0 : List ((Nat × Int) ⊕ Nat) := [.inr 180, .inl (31, 0), .inl (31, 1)]
abbrev FX1 : List ((Nat × Int) ⊕ Nat) := [.inr 185, .inl (33, 0), .inl (33, 1), .inl (33, 2), .inl (33, 3), .inl (33, 4)]
def arrE (cA : ClassId) (g : Nat) (off : Int) (n : Nat) (μ : Mm) : va_E := .inl (cA, n, .inl (aF μ g off n))
def refE (cA : ClassId) (n : Nat) (ad : Nat → Nat) (f : Nat → Nat) : va_E := .inl (cA, n, .inr (.inr (.inr (.inr (fun j => some (ad (f j)))))))
def rivE (ad : Nat → Nat) (cI : ClassId) (μ : Mm) (r : Nat) (c : Nat) : va_E :=
  if c = 0 then .inr (2, (FX2 r).map (fv ad μ)) else if c = 1 then arrE cI r 1 9 μ else if c = 2 then arrE cI r 26 6 μ else if c = 3 then arrE cI r 32 6 μ else if c = 4 then arrE cI r 11 6 μ else arrE cI r 17 6 μ
def othE (ad : Nat → Nat) (cI cII cR : ClassId) (μ : Mm) (c : Nat) : va_E :=
  if c = 0 then .inr (5, FX5.map (fv ad μ)) else if c = 1 then .inr (3, FX3.map (fv ad μ)) else if c = 2 then .inr (4, FX4.map (fv ad μ)) else if c = 3 then .inr (0, FX0.map (fv ad μ)) else if c = 4 then .inr (1, FX1.map (fv ad μ))
  else if c = 5 then refE cR 2 ad (fun j => 6 * (1 + j)) else if c = 6 then refE cR 24 ad (fun j => 6 * (5 + j)) else if c = 7 then refE cII 8 ad (fun j => 186 + j)
  else if c = 8 then arrE cI 36 0 8 μ else if c = 9 then arrE cI 37 0 8 μ else if c = 10 then arrE cI 35 0 100 μ else if c = 11 then arrE cI 32 0 16 μ else arrE cI (50 + (c - 12)) 0 40 μ
def EC (ad : Nat → Nat) (cI cII cR : ClassId) (μ : Mm) (k : Nat) : va_E := if k < 174 then rivE ad cI μ (k / 6) (k % 6) else othE ad cI cII cR μ (k - 174)
abbrev tyC (cI cII cR : ClassId) : List (ClassId × FieldType) := [(cI, .int), (cII, .array .int), (cR, .object "SwanDeeds$River")]
/-- a cell that doesn't speak of the place (g, o) stays when it is written -/
theorem arrE_ne {cA : ClassId} {g g' : Nat} {off : Int} {n : Nat} {μ : Mm} {o v : Int} (h : ¬ (g = g' ∧ off ≤ o ∧ o < off + n)) : arrE cA g off n (sM μ g' o v) = arrE cA g off n μ := by
  have e : aF (sM μ g' o v) g off n = aF μ g off n := by
    funext j
    unfold aF
    by_cases hj : j < n
    · rw [if_pos hj, if_pos hj, sM_n]
      rintro ⟨h1, h2⟩
      exact h ⟨h1, by omega, by omega⟩
    · rw [if_neg hj, if_neg hj]
  unfold arrE
  rw [e]
theorem fvs_ne {ad : Nat → Nat} {F : List ((Nat × Int) ⊕ Nat)} {μ : Mm} {g : Nat} {o v : Int} (h : Sum.inl (g, o) ∉ F) : F.map (fv ad (sM μ g o v)) = F.map (fv ad μ) := by
  apply List.map_congr_left
  intro q hq
  rcases q with ⟨g', o'⟩ | k
  · show Value.int (I3 (sM μ g o v g' o')) = Value.int (I3 (μ g' o'))
    rw [sM_n]
    rintro ⟨rfl, rfl⟩
    exact h hq
  · rfl
/-- whose place it is, in a river -/
def rivO (o : Int) : Nat := if 1 ≤ o ∧ o < 10 then 1 else if 26 ≤ o ∧ o < 32 then 2 else if 32 ≤ o ∧ o < 38 then 3 else if 11 ≤ o ∧ o < 17 then 4 else if 17 ≤ o ∧ o < 23 then 5 else 0
theorem rivE_o {ad : Nat → Nat} {cI : ClassId} {μ : Mm} {r g c : Nat} {o v : Int} (hc : c < 6) (h : ¬ (r = g ∧ c = rivO o)) : rivE ad cI (sM μ g o v) r c = rivE ad cI μ r c := by
  unfold rivE
  unfold rivO at h
  by_cases h0 : c = 0
  · rw [if_pos h0, if_pos h0]
    congr 2
    apply fvs_ne
    intro hm
    apply h
    simp only [List.mem_cons, Sum.inl.injEq, Prod.mk.injEq, reduceCtorEq, List.not_mem_nil, or_false, false_or] at hm
    subst h0
    refine ⟨by omega, ?_⟩
    have : o = 24 ∨ o = 25 ∨ o = 0 ∨ o = 10 ∨ o = 40 ∨ o = 41 := by omega
    rcases this with rfl | rfl | rfl | rfl | rfl | rfl <;> rfl
  · rw [if_neg h0, if_neg h0]
    by_cases h1 : c = 1
    · rw [if_pos h1, if_pos h1]
      exact arrE_ne (fun q => h ⟨q.1, by rw [if_pos (by omega)]; exact h1⟩)
    · rw [if_neg h1, if_neg h1]
      by_cases h2 : c = 2
      · rw [if_pos h2, if_pos h2]
        exact arrE_ne (fun q => h ⟨q.1, by rw [if_neg (by omega), if_pos (by omega)]; exact h2⟩)
      · rw [if_neg h2, if_neg h2]
        by_cases h3 : c = 3
        · rw [if_pos h3, if_pos h3]
          exact arrE_ne (fun q => h ⟨q.1, by rw [if_neg (by omega), if_neg (by omega), if_pos (by omega)]; exact h3⟩)
        · rw [if_neg h3, if_neg h3]
          by_cases h4 : c = 4
          · rw [if_pos h4, if_pos h4]
            exact arrE_ne (fun q => h ⟨q.1, by rw [if_neg (by omega), if_neg (by omega), if_neg (by omega), if_pos (by omega)]; exact h4⟩)
          · rw [if_neg h4, if_neg h4]
            exact arrE_ne (fun q => h ⟨q.1, by rw [if_neg (by omega), if_neg (by omega), if_neg (by omega), if_neg (by omega), if_pos (by omega)]; omega⟩)
theorem othE_riv {ad : Nat → Nat} {cI cII cR : ClassId} {μ : Mm} {g c : Nat} {o v : Int} (hg : g < 30) : othE ad cI cII cR (sM μ g o v) c = othE ad cI cII cR μ c := by
  unfold othE
  have e5 : FX5.map (fv ad (sM μ g o v)) = FX5.map (fv ad μ) := fvs_ne (by simp; omega)
  have e3 : FX3.map (fv ad (sM μ g o v)) = FX3.map (fv ad μ) := fvs_ne (by simp)
  have e4 : FX4.map (fv ad (sM μ g o v)) = FX4.map (fv ad μ) := fvs_ne (by simp; omega)
  have e0 : FX0.map (fv ad (sM μ g o v)) = FX0.map (fv ad μ) := fvs_ne (by simp; omega)
  have e1 : FX1.map (fv ad (sM μ g o v)) = FX1.map (fv ad μ) := fvs_ne (by simp; omega)
  have ea : ∀ (g' : Nat) (off : Int) (n : Nat), 30 ≤ g' → arrE cI g' off n (sM μ g o v) = arrE cI g' off n μ := fun g' off n h => arrE_ne (fun q => by omega)
  rw [e5, e3, e4, e0, e1, ea 36 0 8 (by omega), ea 37 0 8 (by omega), ea 35 0 100 (by omega), ea 32 0 16 (by omega), ea (50 + (c - 12)) 0 40 (by omega)]
/-- whose place it is, among the others -/
def othO (g : Nat) : Nat := if g = 30 then 0 else if g = 34 then 2 else if g = 31 then 3 else if g = 33 then 4 else if g = 36 then 8 else if g = 37 then 9 else if g = 35 then 10 else if g = 32 then 11 else 12 + (g - 50)
theorem othE_o {ad : Nat → Nat} {cI cII cR : ClassId} {μ : Mm} {g c : Nat} {o v : Int} (hc : c < 20) (hg : (30 ≤ g ∧ g < 38) ∨ (50 ≤ g ∧ g < 58)) (h : c ≠ othO g) : othE ad cI cII cR (sM μ g o v) c = othE ad cI cII cR μ c := by
  unfold othO at h
  have hF : ∀ {F : List ((Nat × Int) ⊕ Nat)}, Sum.inl (g, o) ∉ F → F.map (fv ad (sM μ g o v)) = F.map (fv ad μ) := fun h => fvs_ne h
  have hA : ∀ {g' : Nat} {off : Int} {n : Nat}, g' ≠ g → arrE cI g' off n (sM μ g o v) = arrE cI g' off n μ := fun h => arrE_ne (fun q => h q.1)
  unfold othE
  have hcs : c = 0 ∨ c = 1 ∨ c = 2 ∨ c = 3 ∨ c = 4 ∨ c = 5 ∨ c = 6 ∨ c = 7 ∨ c = 8 ∨ c = 9 ∨ c = 10 ∨ c = 11 ∨ 12 ≤ c := by omega
  rcases hcs with rfl | rfl | rfl | rfl | rfl | rfl | rfl | rfl | rfl | rfl | rfl | rfl | hc2
  · simp only [if_true]; congr 2; apply hF; simp; intro q; subst q; simp at h
  · simp only [if_true, if_neg (show ¬ (1 : Nat) = 0 by decide)]; congr 2
  · exact congrArg (fun l => (Sum.inr (4, l) : va_E)) (hF (by
      intro hm
      have hg : g = 34 := by
        simp at hm
        omega
      subst hg
      simp at h))
  · exact congrArg (fun l => (Sum.inr (0, l) : va_E)) (hF (by
      intro hm
      have hg : g = 31 := by
        simp at hm
        omega
      subst hg
      simp at h))
  · exact congrArg (fun l => (Sum.inr (1, l) : va_E)) (hF (by
      intro hm
      have hg : g = 33 := by
        simp at hm
        omega
      subst hg
      simp at h))
  · rfl
  · rfl
  · rfl
  · simp; apply hA; intro q; subst q; simp at h
  · simp; apply hA; intro q; subst q; simp at h
  · simp; apply hA; intro q; subst q; simp at h
  · simp; apply hA; intro q; subst q; simp at h
  · simp only [if_neg (show ¬ c = 0 by omega), if_neg (show ¬ c = 1 by omega), if_neg (show ¬ c = 2 by omega), if_neg (show ¬ c = 3 by omega), if_neg (show ¬ c = 4 by omega), if_neg (show ¬ c = 5 by omega), if_neg (show ¬ c = 6 by omega), if_neg (show ¬ c = 7 by omega), if_neg (show ¬ c = 8 by omega), if_neg (show ¬ c = 9 by omega), if_neg (show ¬ c = 10 by omega), if_neg (show ¬ c = 11 by omega)]
    apply hA
    intro q
    apply h
    subst q
    simp only [if_neg (show ¬ 50 + (c - 12) = 30 by omega), if_neg (show ¬ 50 + (c - 12) = 34 by omega), if_neg (show ¬ 50 + (c - 12) = 31 by omega), if_neg (show ¬ 50 + (c - 12) = 33 by omega), if_neg (show ¬ 50 + (c - 12) = 36 by omega), if_neg (show ¬ 50 + (c - 12) = 37 by omega), if_neg (show ¬ 50 + (c - 12) = 35 by omega), if_neg (show ¬ 50 + (c - 12) = 32 by omega)]
    omega
theorem EC_r {ad : Nat → Nat} {cI cII cR : ClassId} {μ : Mm} {r c : Nat} (hr : r < 29) (hc : c < 6) : EC ad cI cII cR μ (6 * r + c) = rivE ad cI μ r c := by
  unfold EC
  rw [if_pos (by omega), show (6 * r + c) / 6 = r by omega, show (6 * r + c) % 6 = c by omega]
theorem EC_o {ad : Nat → Nat} {cI cII cR : ClassId} {μ : Mm} (c : Nat) : EC ad cI cII cR μ (174 + c) = othE ad cI cII cR μ c := by
  unfold EC
  rw [if_neg (by omega), show 174 + c - 174 = c by omega]
theorem EC_riv {ad : Nat → Nat} {cI cII cR : ClassId} {μ : Mm} {r : Nat} {o v : Int} (hr : r < 29) {j : Nat} (hj : j ≠ 6 * r + rivO o) : EC ad cI cII cR (sM μ r o v) j = EC ad cI cII cR μ j := by
  unfold EC
  by_cases h : j < 174
  · rw [if_pos h, if_pos h]
    exact rivE_o (by omega) (fun q => hj (by omega))
  · rw [if_neg h, if_neg h]
    exact othE_riv (by omega)
theorem EC_oth {ad : Nat → Nat} {cI cII cR : ClassId} {μ : Mm} {g : Nat} {o v : Int} (hg : (30 ≤ g ∧ g < 38) ∨ (50 ≤ g ∧ g < 58)) {j : Nat} (hj2 : j < 194) (hj : j ≠ 174 + othO g) : EC ad cI cII cR (sM μ g o v) j = EC ad cI cII cR μ j := by
  unfold EC
  by_cases h : j < 174
  · rw [if_pos h, if_pos h]
    exact rivE_o (by omega) (fun q => by omega)
  · rw [if_neg h, if_neg h]
    exact othE_o (by omega) hg (fun q => hj (by omega))
section TC
variable {ad : Nat → Nat} {cI cII cR : ClassId}
theorem tO_X2 {r : Nat} (hr : r < 29) : isO 194 ad (EC ad cI cII cR) (6 * r) 2 (FX2 r) := by
  refine ⟨by omega, fun μ => by rw [show 6 * r = 6 * r + 0 from rfl, EC_r hr (by decide)]; rfl, by simp, fun μ g o v hm j hj hjk => ?_⟩
  simp only [List.mem_cons, Sum.inl.injEq, Prod.mk.injEq, reduceCtorEq, List.not_mem_nil, or_false, false_or] at hm
  have hg : g = r := by omega
  subst hg
  have : o = 24 ∨ o = 25 ∨ o = 0 ∨ o = 10 ∨ o = 40 ∨ o = 41 := by omega
  refine EC_riv hr ?_
  rcases this with rfl | rfl | rfl | rfl | rfl | rfl <;> exact hjk
theorem tA_riv {r c : Nat} (hr : r < 29) (hc : c < 6) {off : Int} {n : Nat} (hE : ∀ μ, rivE ad cI μ r c = arrE cI r off n μ) (ho : ∀ o : Int, off ≤ o → o < off + n → rivO o = c) : isA 194 (EC ad cI cII cR) (6 * r + c) cI r off n :=
  ⟨by omega, fun μ => by rw [EC_r hr hc, hE]; rfl, fun μ o v h1 h2 j hj hjk => EC_riv hr (by rw [ho o h1 h2]; exact hjk)⟩
theorem tA_crumbs {r : Nat} (hr : r < 29) : isA 194 (EC ad cI cII cR) (6 * r + 1) cI r 1 9 := tA_riv hr (by decide) (fun _ => rfl) (fun o h1 h2 => by unfold rivO; rw [if_pos (by omega)])
theorem tA_kinds {r : Nat} (hr : r < 29) : isA 194 (EC ad cI cII cR) (6 * r + 2) cI r 26 6 := tA_riv hr (by decide) (fun _ => rfl) (fun o h1 h2 => by unfold rivO; rw [if_neg (by omega), if_pos (by omega)])
theorem tA_plots {r : Nat} (hr : r < 29) : isA 194 (EC ad cI cII cR) (6 * r + 3) cI r 32 6 := tA_riv hr (by decide) (fun _ => rfl) (fun o h1 h2 => by unfold rivO; rw [if_neg (by omega), if_neg (by omega), if_pos (by omega)])
theorem tA_places {r : Nat} (hr : r < 29) : isA 194 (EC ad cI cII cR) (6 * r + 4) cI r 11 6 := tA_riv hr (by decide) (fun _ => rfl) (fun o h1 h2 => by unfold rivO; rw [if_neg (by omega), if_neg (by omega), if_neg (by omega), if_pos (by omega)])
theorem tA_weights {r : Nat} (hr : r < 29) : isA 194 (EC ad cI cII cR) (6 * r + 5) cI r 17 6 := tA_riv hr (by decide) (fun _ => rfl) (fun o h1 h2 => by unfold rivO; rw [if_neg (by omega), if_neg (by omega), if_neg (by omega), if_neg (by omega), if_pos (by omega)])
theorem tA_oth {c g : Nat} {n : Nat} (hc : c < 20) (hg : (30 ≤ g ∧ g < 38) ∨ (50 ≤ g ∧ g < 58)) (hE : ∀ μ, othE ad cI cII cR μ c = arrE cI g 0 n μ) (ho : othO g = c) : isA 194 (EC ad cI cII cR) (174 + c) cI g 0 n :=
  ⟨by omega, fun μ => by rw [EC_o, hE]; rfl, fun μ o v _ _ j hj hjk => EC_oth hg hj (by rw [ho]; exact hjk)⟩
theorem tA_lanes : isA 194 (EC ad cI cII cR) 182 cI 36 0 8 := tA_oth (c := 8) (by decide) (by decide) (fun _ => rfl) rfl
theorem tA_sizes : isA 194 (EC ad cI cII cR) 183 cI 37 0 8 := tA_oth (c := 9) (by decide) (by decide) (fun _ => rfl) rfl
theorem tA_bytes : isA 194 (EC ad cI cII cR) 184 cI 35 0 100 := tA_oth (c := 10) (by decide) (by decide) (fun _ => rfl) rfl
theorem tA_bodies : isA 194 (EC ad cI cII cR) 185 cI 32 0 16 := tA_oth (c := 11) (by decide) (by decide) (fun _ => rfl) rfl
theorem tA_items {j : Nat} (hj : j < 8) : isA 194 (EC ad cI cII cR) (186 + j) cI (50 + j) 0 40 := by
  have h := tA_oth (ad := ad) (cI := cI) (cII := cII) (cR := cR) (c := 12 + j) (g := 50 + j) (n := 40) (by omega) (by omega) (fun μ => by
    unfold othE
    simp only [if_neg (show ¬ 12 + j = 0 by omega), if_neg (show ¬ 12 + j = 1 by omega), if_neg (show ¬ 12 + j = 2 by omega), if_neg (show ¬ 12 + j = 3 by omega), if_neg (show ¬ 12 + j = 4 by omega), if_neg (show ¬ 12 + j = 5 by omega), if_neg (show ¬ 12 + j = 6 by omega), if_neg (show ¬ 12 + j = 7 by omega), if_neg (show ¬ 12 + j = 8 by omega), if_neg (show ¬ 12 + j = 9 by omega), if_neg (show ¬ 12 + j = 10 by omega), if_neg (show ¬ 12 + j = 11 by omega)]
    rw [show 12 + j - 12 = j by omega]) (by
    unfold othO
    simp only [if_neg (show ¬ 50 + j = 30 by omega), if_neg (show ¬ 50 + j = 34 by omega), if_neg (show ¬ 50 + j = 31 by omega), if_neg (show ¬ 50 + j = 33 by omega), if_neg (show ¬ 50 + j = 36 by omega), if_neg (show ¬ 50 + j = 37 by omega), if_neg (show ¬ 50 + j = 35 by omega), if_neg (show ¬ 50 + j = 32 by omega)]
    omega)
  rw [show 174 + (12 + j) = 186 + j by omega] at h
  exact h
theorem tO_oth {c ci : Nat} {F : List ((Nat × Int) ⊕ Nat)} (hc : c < 20) (hE : ∀ μ, othE ad cI cII cR μ c = .inr (ci, F.map (fv ad μ))) (hF : F.Nodup) (ho : ∀ g o, Sum.inl (g, o) ∈ F → (30 ≤ g ∧ g < 38) ∧ othO g = c) : isO 194 ad (EC ad cI cII cR) (174 + c) ci F :=
  ⟨by omega, fun μ => by rw [EC_o, hE], hF, fun μ g o v hm j hj hjk => EC_oth (Or.inl (ho g o hm).1) hj (by rw [(ho g o hm).2]; exact hjk)⟩
theorem tO_X5 : isO 194 ad (EC ad cI cII cR) 174 5 FX5 := tO_oth (c := 0) (by decide) (fun _ => rfl) (by decide) (fun g o h => by simp at h; obtain ⟨rfl, rfl⟩ := h; decide)
theorem tO_X3 : isO 194 ad (EC ad cI cII cR) 175 3 FX3 := tO_oth (c := 1) (by decide) (fun _ => rfl) (by decide) (fun g o h => by simp at h)
theorem tO_X4 : isO 194 ad (EC ad cI cII cR) 176 4 FX4 := tO_oth (c := 2) (by decide) (fun _ => rfl) (by decide) (fun g o h => by
  simp at h
  have : g = 34 := by omega
  subst this
  decide)
theorem tO_X0 : isO 194 ad (EC ad cI cII cR) 177 0 FX0 := tO_oth (c := 3) (by decide) (fun _ => rfl) (by decide) (fun g o h => by
  simp at h
  have : g = 31 := by omega
  subst this
  decide)
theorem tO_X1 : isO 194 ad (EC ad cI cII cR) 178 1 FX1 := tO_oth (c := 4) (by decide) (fun _ => rfl) (by decide) (fun g o h => by
  simp at h
  have : g = 33 := by omega
  subst this
  decide)
theorem tQ_oth {c n : Nat} {cA : ClassId} {f : Nat → Nat} (hc : c < 20) (hE : ∀ μ, othE ad cI cII cR μ c = refE cA n ad f) : isQ 194 ad (EC ad cI cII cR) (174 + c) cA n f := ⟨by omega, fun μ => by rw [EC_o, hE]; rfl⟩
theorem tQ_images : isQ 194 ad (EC ad cI cII cR) 179 cR 2 (fun j => 6 * (1 + j)) := tQ_oth (c := 5) (by decide) (fun _ => rfl)
theorem tQ_kept : isQ 194 ad (EC ad cI cII cR) 180 cR 24 (fun j => 6 * (5 + j)) := tQ_oth (c := 6) (by decide) (fun _ => rfl)
theorem tQ_items : isQ 194 ad (EC ad cI cII cR) 181 cII 8 (fun j => 186 + j) := tQ_oth (c := 7) (by decide) (fun _ => rfl)
end TC
/-- the reference's own: cell 0 its object, 1 the rivers' array (38 ints each), then the rest -/
abbrev FX6 : List ((Nat × Int) ⊕ Nat) := [.inr 1, .inr 2, .inr 3, .inl (30, 0), .inr 4, .inr 5, .inr 6, .inl (30, 1), .inr 7, .inl (30, 2), .inl (30, 3), .inr 8, .inl (30, 4), .inr 9, .inl (30, 5), .inl (30, 6), .inl (30, 7), .inl (30, 8), .inl (30, 9)]
def rdW (μ : Mm) (i : Int) : Int := μ (i / 38).toNat (i % 38)
def wrW (μ : Mm) (i v : Int) : Mm := sM μ (i / 38).toNat (i % 38) v
def wF (μ : Mm) : Nat → Int32 := fun j => if j < 152 then I3 (rdW μ (j : Int)) else 0
def EM (ad : Nat → Nat) (cI cZ : ClassId) (μ : Mm) (c : Nat) : va_E :=
  if c = 0 then .inr (6, FX6.map (fv ad μ)) else if c = 1 then .inl (cI, 152, .inl (wF μ)) else if c = 2 then arrE cZ 38 0 2 μ else if c = 3 then arrE cI 31 0 552 μ else if c = 4 then arrE cI 32 0 320 μ else if c = 5 then arrE cI 33 0 8 μ else if c = 6 then arrE cI 34 0 8 μ else if c = 7 then arrE cI 35 0 100 μ else if c = 8 then arrE cI 36 0 16 μ else arrE cI 37 0 40 μ
abbrev tyM (cI cZ : ClassId) : List (ClassId × FieldType) := [(cI, .int), (cZ, .boolean)]
def mdlO (g : Nat) : Nat := if g < 4 then 1 else if g = 30 then 0 else if g = 38 then 2 else g - 28
theorem wF_ne {μ : Mm} {g : Nat} {o v : Int} (hg : 4 ≤ g) : wF (sM μ g o v) = wF μ := by
  funext j
  unfold wF rdW
  by_cases hj : j < 152
  · rw [if_pos hj, if_pos hj, sM_n]
    rintro ⟨h1, -⟩
    omega
  · rw [if_neg hj, if_neg hj]
theorem EM_o {ad : Nat → Nat} {cI cZ : ClassId} {μ : Mm} {g c : Nat} {o v : Int} (hg : g < 4 ∨ (30 ≤ g ∧ g < 39)) (hc : c < 10) (h : c ≠ mdlO g) : EM ad cI cZ (sM μ g o v) c = EM ad cI cZ μ c := by
  unfold mdlO at h
  have hF : ∀ {F : List ((Nat × Int) ⊕ Nat)}, Sum.inl (g, o) ∉ F → F.map (fv ad (sM μ g o v)) = F.map (fv ad μ) := fun h => fvs_ne h
  have hA : ∀ {cA : ClassId} {g' : Nat} {off : Int} {n : Nat}, g' ≠ g → arrE cA g' off n (sM μ g o v) = arrE cA g' off n μ := fun h => arrE_ne (fun q => h q.1)
  have hcs : c = 0 ∨ c = 1 ∨ c = 2 ∨ c = 3 ∨ c = 4 ∨ c = 5 ∨ c = 6 ∨ c = 7 ∨ c = 8 ∨ c = 9 := by omega
  have hgs : g < 4 ∨ g = 30 ∨ g = 31 ∨ g = 32 ∨ g = 33 ∨ g = 34 ∨ g = 35 ∨ g = 36 ∨ g = 37 ∨ g = 38 := by omega
  have e : ∀ k, g ≠ k ∨ c ≠ (if k < 4 then 1 else if k = 30 then 0 else if k = 38 then 2 else k - 28) := fun k => by
    by_cases hk : g = k
    · subst hk; exact Or.inr h
    · exact Or.inl hk
  unfold EM
  rcases hcs with rfl | rfl | rfl | rfl | rfl | rfl | rfl | rfl | rfl | rfl
  · exact congrArg (fun l => (Sum.inr (6, l) : va_E)) (hF (by
      intro hm
      have hg : g = 30 := by
        simp at hm
        omega
      subst hg
      simp at h))
  · exact congrArg (fun l => (Sum.inl (cI, 152, .inl l) : va_E)) (wF_ne (by
      rcases hgs with q | q | q | q | q | q | q | q | q | q <;> first | omega | (rw [if_pos q] at h; exact absurd rfl h)))
  · exact hA (by rcases e 38 with q | q; exact fun w => q w.symm; exact absurd rfl q)
  · exact hA (by rcases e 31 with q | q; exact fun w => q w.symm; exact absurd rfl q)
  · exact hA (by rcases e 32 with q | q; exact fun w => q w.symm; exact absurd rfl q)
  · exact hA (by rcases e 33 with q | q; exact fun w => q w.symm; exact absurd rfl q)
  · exact hA (by rcases e 34 with q | q; exact fun w => q w.symm; exact absurd rfl q)
  · exact hA (by rcases e 35 with q | q; exact fun w => q w.symm; exact absurd rfl q)
  · exact hA (by rcases e 36 with q | q; exact fun w => q w.symm; exact absurd rfl q)
  · exact hA (by rcases e 37 with q | q; exact fun w => q w.symm; exact absurd rfl q)
section TM
variable {ad : Nat → Nat} {cI cZ : ClassId}
theorem tO_X6 : isO 10 ad (EM ad cI cZ) 0 6 FX6 := ⟨by decide, fun _ => rfl, by decide, fun μ g o v hm j hj hjk => by
  have hg : g = 30 := by
    simp at hm
    omega
  subst hg
  exact EM_o (by decide) hj hjk⟩
theorem tM_arr {c g n : Nat} {cA : ClassId} (hc : c < 10) (hg : g < 4 ∨ (30 ≤ g ∧ g < 39)) (hE : ∀ μ, EM ad cI cZ μ c = arrE cA g 0 n μ) (ho : mdlO g = c) : isA 10 (EM ad cI cZ) c cA g 0 n :=
  ⟨hc, fun μ => by rw [hE]; rfl, fun μ o v _ _ j hj hjk => EM_o hg hj (by rw [ho]; exact hjk)⟩
theorem tM_isKept : isA 10 (EM ad cI cZ) 2 cZ 38 0 2 := tM_arr (by decide) (by decide) (fun _ => rfl) rfl
theorem tM_acts : isA 10 (EM ad cI cZ) 3 cI 31 0 552 := tM_arr (by decide) (by decide) (fun _ => rfl) rfl
theorem tM_rows : isA 10 (EM ad cI cZ) 4 cI 32 0 320 := tM_arr (by decide) (by decide) (fun _ => rfl) rfl
theorem tM_rowSize : isA 10 (EM ad cI cZ) 5 cI 33 0 8 := tM_arr (by decide) (by decide) (fun _ => rfl) rfl
theorem tM_rowLane : isA 10 (EM ad cI cZ) 6 cI 34 0 8 := tM_arr (by decide) (by decide) (fun _ => rfl) rfl
theorem tM_tape : isA 10 (EM ad cI cZ) 7 cI 35 0 100 := tM_arr (by decide) (by decide) (fun _ => rfl) rfl
theorem tM_trace : isA 10 (EM ad cI cZ) 8 cI 36 0 16 := tM_arr (by decide) (by decide) (fun _ => rfl) rfl
theorem tM_held : isA 10 (EM ad cI cZ) 9 cI 37 0 40 := tM_arr (by decide) (by decide) (fun _ => rfl) rfl
end TM
section RW
variable {l : Launch} {D : va_G} {cl : List vw_C} {ad : Nat → Nat} {cI cZ : ClassId} {Z : State → Prop} {own : String} {Ts : List Cond} {cc : ByteArray} {nL : Nat} {R : Room} {ret : Option FieldType} {z : Int × Mm} {G : Mm → Nat → List (Nat × Vv) → List Vv → Prop} {μ : Mm} {pc : Nat} {L : List (Nat × Vv)} {S : List Vv}
theorem wF_at {i : Int} (hir : inR i) (h0 : 0 ≤ i) (h1 : i < 152) : wF μ (I3 i).toNatClampNeg = I3 (rdW μ i) := by
  have hcl := I3_cl hir h0
  unfold wF
  rw [if_pos (by omega), hcl]
theorem upd_wW {i x : Int} (hir : inR i) (h0 : 0 ≤ i) (h1 : i < 152) : upd (wF μ) (I3 i).toNatClampNeg (I3 x) = wF (wrW μ i x) := by
  have hcl := I3_cl hir h0
  funext j
  unfold upd wF wrW rdW
  by_cases hj : j = (I3 i).toNatClampNeg
  · subst hj
    rw [if_pos rfl, if_pos (by omega), hcl, sM_s]
  · rw [if_neg hj]
    by_cases hn : j < 152
    · rw [if_pos hn, if_pos hn, sM_n]
      rintro ⟨h2, h3⟩
      apply hj
      have : (j : Int) / 38 = i / 38 := by omega
      omega
    · rw [if_neg hn, if_neg hn]
theorem q_wald (C : Cx l D cl (tyM cI cZ) 10 ad (EM ad cI cZ) Z own Ts cc nL R ret z G) {i : Int} (h0 : 0 ≤ i ∧ i < 152) (hd : decode cc pc = .ok (.iaload, 1)) (kk : G μ (pc + 1) L (Vi (rdW μ i) :: S)) : G μ pc L (Vi i :: Vr 1 :: S) := by
  obtain ⟨p, e, s, m, args, below, meth, c, A, hx, hb, hml, hr, hown, hts, hlk, hK, hD, hA, hZ, hA2, rfl⟩ := C
  intro H locs ls hM hS hL hP hSs hl
  have hir : inR i := ok_h hS
  refine va_iald (n := 152) (f := wF μ) hx hb hK hP 1 0 (XX_get (by decide)) rfl (I3_in hir h0.1 h0.2) hd ?_
  rw [wF_at hir h0.1 h0.2]
  exact kk H locs ls hM (ok_c (hM _ _) (ok_t (ok_t hS))) hL hP hSs hl
theorem q_wast (C : Cx l D cl (tyM cI cZ) 10 ad (EM ad cI cZ) Z own Ts cc nL R ret z G) {i x : Int} (h0 : 0 ≤ i ∧ i < 152) {μ' : Mm} (hμ : μ' = wrW μ i x) (hd : decode cc pc = .ok (.iastore, 1)) (kk : G μ' (pc + 1) L S) : G μ pc L (Vi x :: Vi i :: Vr 1 :: S) := by
  obtain ⟨p, e, s, m, args, below, meth, c, A, hx, hb, hml, hr, hown, hts, hlk, hK, hD, hA, hZ, hA2, rfl⟩ := C
  intro H locs ls hM hS hL hP hSs hl
  have hir : inR i := ok_h (ok_t hS)
  subst hμ
  refine va_iast (n := 152) (f := wF μ) hx hb hK hP (hD μ) hSs 1 0 (XX_get (by decide)) rfl (x := I3 x) (I3_in hir h0.1 h0.2) hd (fun H1 locs1 hP1 hD1 hS1 => ?_)
  rw [upd_wW hir h0.1 h0.2, XX_set (E := EM ad cI cZ) (k := 1) (x := .inl (cI, 152, .inl (wF (wrW μ i x)))) (μ' := wrW μ i x) rfl (fun j hj hjk => EM_o (by omega) hj (by unfold mdlO; rw [if_pos (by omega)]; exact hjk))] at hP1
  exact kk H1 locs1 ls (sM_ok hM (ok_h hS)) (ok_t (ok_t (ok_t hS))) hL hP1 hS1 hl
end RW
/-- what the class' methods bear besides: a nest mate's link, the kinds' row -/
def wid : Nat → Value := fun j => match j with
  | 2 => .int 1
  | 3 => .int 1
  | 5 => .int 4
  | _ => .int 0
def ZC (ad : Nat → Nat) (U : State) : Prop := va_Nw (.methodLinkNest RX4 82 yX5_within "SwanDeeds") U ∧ va_Z "SwanDeeds" "WIDER" "[I" (.ref (ad 1000)) (fun q => ∃ k, k < 194 ∧ q = ad k) U U.heap ∧ va_T .int (ad 1000) 6 wid (fun q => ∃ k, k < 194 ∧ q = ad k) U U.heap
theorem ZC_st {ad : Nat → Nat} : stZ 194 ad (ZC ad) := fun s U h hW hsz hk => by
  obtain ⟨h1, h2, h3⟩ := h
  have hk2 : ∀ a : Nat, a < s.heap.size → ¬ (∃ k, k < 194 ∧ a = ad k) → U.heap[a]? = s.heap[a]? := fun a ha hn => hk a ha (fun k hk hq => hn ⟨k, hk, hq⟩)
  exact ⟨va_Nw.warmM hW h1, (h2.kept hk2).moved hW.alike, (h3.kept hk2).moved hW.alike⟩
def widI (i : Int) : Int := if i = 2 ∨ i = 3 then 1 else if i = 5 then 4 else 0
section RZ
variable {l : Launch} {D : va_G} {cl : List vw_C} {tys : List (ClassId × FieldType)} {ad : Nat → Nat} {E : Mm → Nat → va_E} {own : String} {Ts : List Cond} {cc : ByteArray} {nL : Nat} {R : Room} {ret : Option FieldType} {z : Int × Mm} {G : Mm → Nat → List (Nat × Vv) → List Vv → Prop} {μ : Mm} {pc : Nat} {L : List (Nat × Vv)} {S : List Vv}
theorem q_gets (C : Cx l D cl tys 194 ad E (ZC ad) own Ts cc nL R ret z G) {index : Nat} (hw : Cond.fieldLink own index "SwanDeeds" "WIDER" "[I" ∈ Ts) (hd : decode cc pc = .ok (.getstatic index, 3)) (kk : G μ (pc + 3) L (Vr 1000 :: S)) : G μ pc L S := by
  obtain ⟨p, e, s, m, args, below, meth, c, A, hx, hb, hml, hr, hown, hts, hlk, hK, hD, hA, hZ, hA2, rfl⟩ := C
  intro H locs ls hM hS hL hP hSs hl
  obtain ⟨h1, h2, h3⟩ := hZ s s.heap [] va_S.rf rfl (State.WarmedH.refl s)
  have h2' : va_Z "SwanDeeds" "WIDER" "[I" (.ref (ad 1000)) A s s.heap := by
    obtain ⟨cf, kf, fi, f, a, cell, g1, g2, g3, g4, g5, g6, g7, g8⟩ := h2
    exact ⟨cf, kf, fi, f, a, cell, g1, g2, g3, g4, g5, g6, g7, fun q => (hA2 a q).elim (fun w => by have := (Array.getElem?_eq_some_iff.mp g5).1; omega) g8⟩
  refine va_gets hx hb h2' hSs hown (hts _ hw) (fun x h9 => h9) hd ?_
  exact kk H locs ls hM (ok_c trivial hS) hL hP hSs hl
theorem q_tald (C : Cx l D cl tys 194 ad E (ZC ad) own Ts cc nL R ret z G) {i : Int} (h0 : 0 ≤ i ∧ i < 6) (hd : decode cc pc = .ok (.iaload, 1)) (kk : G μ (pc + 1) L (Vi (widI i) :: S)) : G μ pc L (Vi i :: Vr 1000 :: S) := by
  obtain ⟨p, e, s, m, args, below, meth, c, A, hx, hb, hml, hr, hown, hts, hlk, hK, hD, hA, hZ, hA2, rfl⟩ := C
  intro H locs ls hM hS hL hP hSs hl
  obtain ⟨h1, h2, h3⟩ := hZ s s.heap [] va_S.rf rfl (State.WarmedH.refl s)
  have h3' : va_T .int (ad 1000) 6 wid A s s.heap := by
    obtain ⟨cell, g1, g2, g3, g4, g5, g6, g7⟩ := h3
    exact ⟨cell, g1, g2, g3, g4, g5, g6, fun q => (hA2 _ q).elim (fun w => by have := (Array.getElem?_eq_some_iff.mp g1).1; omega) g7⟩
  have hir : inR i := ok_h hS
  have hcl := I3_cl hir h0.1
  refine va_ti hx hb h3' hSs (I3_in hir h0.1 h0.2) (v := .int (I3 (widI i))) (by
    have : (I3 i).toNatClampNeg = 0 ∧ i = 0 ∨ (I3 i).toNatClampNeg = 1 ∧ i = 1 ∨ (I3 i).toNatClampNeg = 2 ∧ i = 2 ∨ (I3 i).toNatClampNeg = 3 ∧ i = 3 ∨ (I3 i).toNatClampNeg = 4 ∧ i = 4 ∨ (I3 i).toNatClampNeg = 5 ∧ i = 5 := by omega
    rcases this with ⟨a, b⟩ | ⟨a, b⟩ | ⟨a, b⟩ | ⟨a, b⟩ | ⟨a, b⟩ | ⟨a, b⟩ <;> rw [a, b] <;> rfl) hd ?_
  exact kk H locs ls hM (ok_c (show inR (widI i) from by unfold widI; split; exact ⟨by decide, by decide⟩; split <;> exact ⟨by decide, by decide⟩) (ok_t (ok_t hS))) hL hP hSs hl
end RZ
