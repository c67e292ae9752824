/-! THE LAW: one turn of its loop, case by case. -/
theorem sat2 {μ ν : Mm} {o p : Option (Int × Mm)} (h : Both o p) : ∃ z y, o = some z ∧ p = some y ∧ y.1 = z.1 ∧ Rel z.2 y.2 := by
  obtain ⟨z, hz, y, hy, h1, h2⟩ := h
  exact ⟨z, y, hz, hy, h1, h2⟩
theorem same2 {o p : Option Int} (h : Same o p) : ∃ z, o = some z ∧ p = some z := by
  obtain ⟨z, hz, y, hy, h1⟩ := h
  exact ⟨z, hz, by rw [hy, h1]⟩
section LC
variable {l : Launch} {D : va_G} {ad am : Nat → Nat} {cI cII cR cZ : ClassId} {L : Nat} {xs : Nat → Int32} {G : Mm → Mm → Nat → Nat → List Value → Prop} {μ ν : Mm} {i : Nat}
set_option maxHeartbeats 4000000 in
theorem l_row (C : Lx l D ad am cI cII cR cZ L xs G) (hL : L ≤ 3584) (hi : i + 7 ≤ L) (h : Rel μ ν) (hμ : okM μ) (hν : okM ν) (kk : ∀ μ2 ν2, Rel μ2 ν2 → okM μ2 → okM ν2 → G μ2 ν2 i 1481 []) : G μ ν i 208 [] := by
  obtain ⟨z, y, hz, hy, h1, h2⟩ := sat2 (μ := μ) (ν := ν) (b_row h (Xi xs (i + (1 + 0))) (Xi xs (i + (1 + 1))) (Xi xs (i + (1 + 2))))
  exact law_casei C hL hi 3 (by decide) fL_row (c_X5_row μ (Xi xs (i + (1 + 0))) (Xi xs (i + (1 + 1))) (Xi xs (i + (1 + 2))) hz) (c_X6_row ν (Xi xs (i + (1 + 0))) (Xi xs (i + (1 + 1))) (Xi xs (i + (1 + 2))) hy) h1 hμ hν gL_X5_row rfl ⟨rfl, rfl⟩ hdX5_row ⟨Nat.le_of_ble_eq_true rfl, Nat.le_of_ble_eq_true rfl⟩ gL_X6_row rfl ⟨rfl, rfl⟩ hdX6_row ⟨Nat.le_of_ble_eq_true rfl, Nat.le_of_ble_eq_true rfl⟩ ⟨15, by decide +kernel, by decide⟩ (fun a b => kk _ _ h2 a b)
set_option maxHeartbeats 4000000 in
theorem l_set (C : Lx l D ad am cI cII cR cZ L xs G) (hL : L ≤ 3584) (hi : i + 7 ≤ L) (h : Rel μ ν) (hμ : okM μ) (hν : okM ν) (kk : ∀ μ2 ν2, Rel μ2 ν2 → okM μ2 → okM ν2 → G μ2 ν2 i 1481 []) : G μ ν i 251 [] := by
  obtain ⟨z, y, hz, hy, h1, h2⟩ := sat2 (μ := μ) (ν := ν) (b_set h (Xi xs (i + (1 + 0))) (Xi xs (i + (1 + 1))) (Xi xs (i + (1 + 2))))
  exact law_casei C hL hi 3 (by decide) fL_set (c_X5_set μ (Xi xs (i + (1 + 0))) (Xi xs (i + (1 + 1))) (Xi xs (i + (1 + 2))) hz) (c_X6_set ν (Xi xs (i + (1 + 0))) (Xi xs (i + (1 + 1))) (Xi xs (i + (1 + 2))) hy) h1 hμ hν gL_X5_set rfl ⟨rfl, rfl⟩ hdX5_set ⟨Nat.le_of_ble_eq_true rfl, Nat.le_of_ble_eq_true rfl⟩ gL_X6_set rfl ⟨rfl, rfl⟩ hdX6_set ⟨Nat.le_of_ble_eq_true rfl, Nat.le_of_ble_eq_true rfl⟩ ⟨15, by decide +kernel, by decide⟩ (fun a b => kk _ _ h2 a b)
set_option maxHeartbeats 4000000 in
theorem l_copy (C : Lx l D ad am cI cII cR cZ L xs G) (hL : L ≤ 3584) (hi : i + 7 ≤ L) (h : Rel μ ν) (hμ : okM μ) (hν : okM ν) (kk : ∀ μ2 ν2, Rel μ2 ν2 → okM μ2 → okM ν2 → G μ2 ν2 i 1481 []) : G μ ν i 294 [] := by
  obtain ⟨z, y, hz, hy, h1, h2⟩ := sat2 (μ := μ) (ν := ν) (b_copy h (a := Xi xs (i + (1 + 0))) (i := Xi xs (i + (1 + 1))) (b := Xi xs (i + (1 + 2))) (j := Xi xs (i + (1 + 3))) (n := Xi xs (i + (1 + 4))) (Xi_R xs _) (Xi_R xs _) (Xi_R xs _))
  exact law_casei C hL hi 5 (by decide) fL_copy (c_X5_copy μ (Xi xs (i + (1 + 0))) (Xi xs (i + (1 + 1))) (Xi xs (i + (1 + 2))) (Xi xs (i + (1 + 3))) (Xi xs (i + (1 + 4))) hz) (c_X6_copy ν (Xi xs (i + (1 + 0))) (Xi xs (i + (1 + 1))) (Xi xs (i + (1 + 2))) (Xi xs (i + (1 + 3))) (Xi xs (i + (1 + 4))) hy) h1 hμ hν gL_X5_copy rfl ⟨rfl, rfl⟩ hdX5_copy ⟨Nat.le_of_ble_eq_true rfl, Nat.le_of_ble_eq_true rfl⟩ gL_X6_copy rfl ⟨rfl, rfl⟩ hdX6_copy ⟨Nat.le_of_ble_eq_true rfl, Nat.le_of_ble_eq_true rfl⟩ ⟨25, by decide +kernel, by decide⟩ (fun a b => kk _ _ h2 a b)
set_option maxHeartbeats 4000000 in
theorem l_drop (C : Lx l D ad am cI cII cR cZ L xs G) (hL : L ≤ 3584) (hi : i + 7 ≤ L) (h : Rel μ ν) (hμ : okM μ) (hν : okM ν) (kk : ∀ μ2 ν2, Rel μ2 ν2 → okM μ2 → okM ν2 → G μ2 ν2 i 1481 []) : G μ ν i 357 [] := by
  obtain ⟨z, y, hz, hy, h1, h2⟩ := sat2 (μ := μ) (ν := ν) (b_drop h (Xi xs (i + (1 + 0))))
  exact law_casei C hL hi 1 (by decide) fL_drop (c_X5_drop μ (Xi xs (i + (1 + 0))) hz) (c_X6_drop ν (Xi xs (i + (1 + 0))) hy) h1 hμ hν gL_X5_drop rfl ⟨rfl, rfl⟩ hdX5_drop ⟨Nat.le_of_ble_eq_true rfl, Nat.le_of_ble_eq_true rfl⟩ gL_X6_drop rfl ⟨rfl, rfl⟩ hdX6_drop ⟨Nat.le_of_ble_eq_true rfl, Nat.le_of_ble_eq_true rfl⟩ ⟨5, by decide +kernel, by decide⟩ (fun a b => kk _ _ h2 a b)
set_option maxHeartbeats 4000000 in
theorem l_feed (C : Lx l D ad am cI cII cR cZ L xs G) (hL : L ≤ 3584) (hi : i + 7 ≤ L) (h : Rel μ ν) (hμ : okM μ) (hν : okM ν) (kk : ∀ μ2 ν2, Rel μ2 ν2 → okM μ2 → okM ν2 → G μ2 ν2 i 1481 []) : G μ ν i 380 [] := by
  obtain ⟨z, y, hz, hy, h1, h2⟩ := sat2 (μ := μ) (ν := ν) (b_feed h (Xi xs (i + (1 + 0))))
  exact law_casei C hL hi 1 (by decide) fL_feed (c_X5_feed μ (Xi xs (i + (1 + 0))) hz) (c_X6_feed ν (Xi xs (i + (1 + 0))) hy) h1 hμ hν gL_X5_feed rfl ⟨rfl, rfl⟩ hdX5_feed ⟨Nat.le_of_ble_eq_true rfl, Nat.le_of_ble_eq_true rfl⟩ gL_X6_feed rfl ⟨rfl, rfl⟩ hdX6_feed ⟨Nat.le_of_ble_eq_true rfl, Nat.le_of_ble_eq_true rfl⟩ ⟨5, by decide +kernel, by decide⟩ (fun a b => kk _ _ h2 a b)
set_option maxHeartbeats 4000000 in
theorem l_river (C : Lx l D ad am cI cII cR cZ L xs G) (hL : L ≤ 3584) (hi : i + 7 ≤ L) (h : Rel μ ν) (hμ : okM μ) (hν : okM ν) (kk : ∀ μ2 ν2, Rel μ2 ν2 → okM μ2 → okM ν2 → G μ2 ν2 i 1481 []) : G μ ν i 403 [] := by
  obtain ⟨z, y, hz, hy, h1, h2⟩ := sat2 (μ := μ) (ν := ν) (b_river h )
  exact law_casei C hL hi 0 (by decide) fL_river (c_X5_river μ  hz) (c_X6_river ν  hy) h1 hμ hν gL_X5_river rfl ⟨rfl, rfl⟩ hdX5_river ⟨Nat.le_of_ble_eq_true rfl, Nat.le_of_ble_eq_true rfl⟩ gL_X6_river rfl ⟨rfl, rfl⟩ hdX6_river ⟨Nat.le_of_ble_eq_true rfl, Nat.le_of_ble_eq_true rfl⟩ ⟨0, by decide +kernel, by decide⟩ (fun a b => kk _ _ h2 a b)
set_option maxHeartbeats 4000000 in
theorem l_fault (C : Lx l D ad am cI cII cR cZ L xs G) (hL : L ≤ 3584) (hi : i + 7 ≤ L) (h : Rel μ ν) (hμ : okM μ) (hν : okM ν) (kk : ∀ μ2 ν2, Rel μ2 ν2 → okM μ2 → okM ν2 → G μ2 ν2 i 1481 []) : G μ ν i 416 [] := by
  exact law_casei C hL hi 0 (by decide) fL_fault (c_X5_fault μ) (c_X6_fault ν) (s_fault h) hμ hν gL_X5_fault rfl ⟨rfl, rfl⟩ hdX5_fault ⟨Nat.le_of_ble_eq_true rfl, Nat.le_of_ble_eq_true rfl⟩ gL_X6_fault rfl ⟨rfl, rfl⟩ hdX6_fault ⟨Nat.le_of_ble_eq_true rfl, Nat.le_of_ble_eq_true rfl⟩ ⟨0, by decide +kernel, by decide⟩ (fun a b => kk _ _ h a b)
set_option maxHeartbeats 4000000 in
theorem l_undo (C : Lx l D ad am cI cII cR cZ L xs G) (hL : L ≤ 3584) (hi : i + 7 ≤ L) (h : Rel μ ν) (hμ : okM μ) (hν : okM ν) (kk : ∀ μ2 ν2, Rel μ2 ν2 → okM μ2 → okM ν2 → G μ2 ν2 i 1481 []) : G μ ν i 429 [] := by
  obtain ⟨z, y, hz, hy, h1, h2⟩ := sat2 (μ := μ) (ν := ν) (b_undo h )
  exact law_casei C hL hi 0 (by decide) fL_undo (c_X5_undo μ  hz) (c_X6_undo ν  hy) h1 hμ hν gL_X5_undo rfl ⟨rfl, rfl⟩ hdX5_undo ⟨Nat.le_of_ble_eq_true rfl, Nat.le_of_ble_eq_true rfl⟩ gL_X6_undo rfl ⟨rfl, rfl⟩ hdX6_undo ⟨Nat.le_of_ble_eq_true rfl, Nat.le_of_ble_eq_true rfl⟩ ⟨0, by decide +kernel, by decide⟩ (fun a b => kk _ _ h2 a b)
set_option maxHeartbeats 4000000 in
theorem l_days (C : Lx l D ad am cI cII cR cZ L xs G) (hL : L ≤ 3584) (hi : i + 7 ≤ L) (h : Rel μ ν) (hμ : okM μ) (hν : okM ν) (kk : ∀ μ2 ν2, Rel μ2 ν2 → okM μ2 → okM ν2 → G μ2 ν2 i 1481 []) : G μ ν i 442 [] := by
  obtain ⟨z, y, hz, hy, h1, h2⟩ := sat2 (μ := μ) (ν := ν) (b_days h (Xi xs (i + (1 + 0))))
  exact law_casei C hL hi 1 (by decide) fL_days (c_X5_days μ (Xi xs (i + (1 + 0))) hz) (c_X6_days ν (Xi xs (i + (1 + 0))) hy) h1 hμ hν gL_X5_days rfl ⟨rfl, rfl⟩ hdX5_days ⟨Nat.le_of_ble_eq_true rfl, Nat.le_of_ble_eq_true rfl⟩ gL_X6_days rfl ⟨rfl, rfl⟩ hdX6_days ⟨Nat.le_of_ble_eq_true rfl, Nat.le_of_ble_eq_true rfl⟩ ⟨5, by decide +kernel, by decide⟩ (fun a b => kk _ _ h2 a b)
set_option maxHeartbeats 4000000 in
theorem l_bread (C : Lx l D ad am cI cII cR cZ L xs G) (hL : L ≤ 3584) (hi : i + 7 ≤ L) (h : Rel μ ν) (hμ : okM μ) (hν : okM ν) (kk : ∀ μ2 ν2, Rel μ2 ν2 → okM μ2 → okM ν2 → G μ2 ν2 i 1481 []) : G μ ν i 465 [] := by
  obtain ⟨z, y, hz, hy, h1, h2⟩ := sat2 (μ := μ) (ν := ν) (b_bread h (Xi xs (i + (1 + 0))) (Xi xs (i + (1 + 1))))
  exact law_casei C hL hi 2 (by decide) fL_bread (c_X5_bread μ (Xi xs (i + (1 + 0))) (Xi xs (i + (1 + 1))) hz) (c_X6_bread ν (Xi xs (i + (1 + 0))) (Xi xs (i + (1 + 1))) hy) h1 hμ hν gL_X5_bread rfl ⟨rfl, rfl⟩ hdX5_bread ⟨Nat.le_of_ble_eq_true rfl, Nat.le_of_ble_eq_true rfl⟩ gL_X6_bread rfl ⟨rfl, rfl⟩ hdX6_bread ⟨Nat.le_of_ble_eq_true rfl, Nat.le_of_ble_eq_true rfl⟩ ⟨10, by decide +kernel, by decide⟩ (fun a b => kk _ _ h2 a b)
set_option maxHeartbeats 4000000 in
theorem l_weir (C : Lx l D ad am cI cII cR cZ L xs G) (hL : L ≤ 3584) (hi : i + 7 ≤ L) (h : Rel μ ν) (hμ : okM μ) (hν : okM ν) (kk : ∀ μ2 ν2, Rel μ2 ν2 → okM μ2 → okM ν2 → G μ2 ν2 i 1481 []) : G μ ν i 498 [] := by
  obtain ⟨z, y, hz, hy, h1, h2⟩ := sat2 (μ := μ) (ν := ν) (b_weir h (Xi xs (i + (1 + 0))) (Xi xs (i + (1 + 1))))
  exact law_casei C hL hi 2 (by decide) fL_weir (c_X5_weir μ (Xi xs (i + (1 + 0))) (Xi xs (i + (1 + 1))) hz) (c_X6_weir ν (Xi xs (i + (1 + 0))) (Xi xs (i + (1 + 1))) hy) h1 hμ hν gL_X5_weir rfl ⟨rfl, rfl⟩ hdX5_weir ⟨Nat.le_of_ble_eq_true rfl, Nat.le_of_ble_eq_true rfl⟩ gL_X6_weir rfl ⟨rfl, rfl⟩ hdX6_weir ⟨Nat.le_of_ble_eq_true rfl, Nat.le_of_ble_eq_true rfl⟩ ⟨10, by decide +kernel, by decide⟩ (fun a b => kk _ _ h2 a b)
set_option maxHeartbeats 4000000 in
theorem l_frighten (C : Lx l D ad am cI cII cR cZ L xs G) (hL : L ≤ 3584) (hi : i + 7 ≤ L) (h : Rel μ ν) (hμ : okM μ) (hν : okM ν) (kk : ∀ μ2 ν2, Rel μ2 ν2 → okM μ2 → okM ν2 → G μ2 ν2 i 1481 []) : G μ ν i 531 [] := by
  obtain ⟨z, y, hz, hy, h1, h2⟩ := sat2 (μ := μ) (ν := ν) (b_frighten h (Xi xs (i + (1 + 0))) (Xi xs (i + (1 + 1))))
  exact law_casei C hL hi 2 (by decide) fL_frighten (c_X5_frighten μ (Xi xs (i + (1 + 0))) (Xi xs (i + (1 + 1))) hz) (c_X6_frighten ν (Xi xs (i + (1 + 0))) (Xi xs (i + (1 + 1))) hy) h1 hμ hν gL_X5_frighten rfl ⟨rfl, rfl⟩ hdX5_frighten ⟨Nat.le_of_ble_eq_true rfl, Nat.le_of_ble_eq_true rfl⟩ gL_X6_frighten rfl ⟨rfl, rfl⟩ hdX6_frighten ⟨Nat.le_of_ble_eq_true rfl, Nat.le_of_ble_eq_true rfl⟩ ⟨10, by decide +kernel, by decide⟩ (fun a b => kk _ _ h2 a b)
set_option maxHeartbeats 4000000 in
theorem l_weight (C : Lx l D ad am cI cII cR cZ L xs G) (hL : L ≤ 3584) (hi : i + 7 ≤ L) (h : Rel μ ν) (hμ : okM μ) (hν : okM ν) (kk : ∀ μ2 ν2, Rel μ2 ν2 → okM μ2 → okM ν2 → G μ2 ν2 i 1481 []) : G μ ν i 564 [] := by
  obtain ⟨z, y, hz, hy, h1, h2⟩ := sat2 (μ := μ) (ν := ν) (b_weight h (Xi xs (i + (1 + 0))) (Xi xs (i + (1 + 1))))
  exact law_casei C hL hi 2 (by decide) fL_weight (c_X5_weight μ (Xi xs (i + (1 + 0))) (Xi xs (i + (1 + 1))) hz) (c_X6_weight ν (Xi xs (i + (1 + 0))) (Xi xs (i + (1 + 1))) hy) h1 hμ hν gL_X5_weight rfl ⟨rfl, rfl⟩ hdX5_weight ⟨Nat.le_of_ble_eq_true rfl, Nat.le_of_ble_eq_true rfl⟩ gL_X6_weight rfl ⟨rfl, rfl⟩ hdX6_weight ⟨Nat.le_of_ble_eq_true rfl, Nat.le_of_ble_eq_true rfl⟩ ⟨10, by decide +kernel, by decide⟩ (fun a b => kk _ _ h2 a b)
set_option maxHeartbeats 4000000 in
theorem l_swan (C : Lx l D ad am cI cII cR cZ L xs G) (hL : L ≤ 3584) (hi : i + 7 ≤ L) (h : Rel μ ν) (hμ : okM μ) (hν : okM ν) (kk : ∀ μ2 ν2, Rel μ2 ν2 → okM μ2 → okM ν2 → G μ2 ν2 i 1481 []) : G μ ν i 597 [] := by
  obtain ⟨z, hz, hy⟩ := same2 (s_swan h (Xi xs (i + (1 + 0))) (Xi xs (i + (1 + 1))))
  exact law_casei C hL hi 2 (by decide) fL_swan (c_X5_swan μ (Xi xs (i + (1 + 0))) (Xi xs (i + (1 + 1))) hz) (c_X6_swan ν (Xi xs (i + (1 + 0))) (Xi xs (i + (1 + 1))) hy) rfl hμ hν gL_X5_swan rfl ⟨rfl, rfl⟩ hdX5_swan ⟨Nat.le_of_ble_eq_true rfl, Nat.le_of_ble_eq_true rfl⟩ gL_X6_swan rfl ⟨rfl, rfl⟩ hdX6_swan ⟨Nat.le_of_ble_eq_true rfl, Nat.le_of_ble_eq_true rfl⟩ ⟨10, by decide +kernel, by decide⟩ (fun a b => kk _ _ h a b)
set_option maxHeartbeats 4000000 in
theorem l_lawn (C : Lx l D ad am cI cII cR cZ L xs G) (hL : L ≤ 3584) (hi : i + 7 ≤ L) (h : Rel μ ν) (hμ : okM μ) (hν : okM ν) (kk : ∀ μ2 ν2, Rel μ2 ν2 → okM μ2 → okM ν2 → G μ2 ν2 i 1481 []) : G μ ν i 630 [] := by
  obtain ⟨z, hz, hy⟩ := same2 (s_lawn h (Xi xs (i + (1 + 0))) (Xi xs (i + (1 + 1))))
  exact law_casei C hL hi 2 (by decide) fL_lawn (c_X5_lawn μ (Xi xs (i + (1 + 0))) (Xi xs (i + (1 + 1))) hz) (c_X6_lawn ν (Xi xs (i + (1 + 0))) (Xi xs (i + (1 + 1))) hy) rfl hμ hν gL_X5_lawn rfl ⟨rfl, rfl⟩ hdX5_lawn ⟨Nat.le_of_ble_eq_true rfl, Nat.le_of_ble_eq_true rfl⟩ gL_X6_lawn rfl ⟨rfl, rfl⟩ hdX6_lawn ⟨Nat.le_of_ble_eq_true rfl, Nat.le_of_ble_eq_true rfl⟩ ⟨10, by decide +kernel, by decide⟩ (fun a b => kk _ _ h a b)
set_option maxHeartbeats 4000000 in
theorem l_ahead (C : Lx l D ad am cI cII cR cZ L xs G) (hL : L ≤ 3584) (hi : i + 7 ≤ L) (h : Rel μ ν) (hμ : okM μ) (hν : okM ν) (kk : ∀ μ2 ν2, Rel μ2 ν2 → okM μ2 → okM ν2 → G μ2 ν2 i 1481 []) : G μ ν i 663 [] := by
  obtain ⟨z, y, hz, hy, h1, h2⟩ := sat2 (μ := μ) (ν := ν) (b_ahead h (Xi xs (i + (1 + 0))) (Xi xs (i + (1 + 1))))
  exact law_casei C hL hi 2 (by decide) fL_ahead (c_X5_ahead μ (Xi xs (i + (1 + 0))) (Xi xs (i + (1 + 1))) hz) (c_X6_ahead ν (Xi xs (i + (1 + 0))) (Xi xs (i + (1 + 1))) hy) h1 hμ hν gL_X5_ahead rfl ⟨rfl, rfl⟩ hdX5_ahead ⟨Nat.le_of_ble_eq_true rfl, Nat.le_of_ble_eq_true rfl⟩ gL_X6_ahead rfl ⟨rfl, rfl⟩ hdX6_ahead ⟨Nat.le_of_ble_eq_true rfl, Nat.le_of_ble_eq_true rfl⟩ ⟨10, by decide +kernel, by decide⟩ (fun a b => kk _ _ h2 a b)
set_option maxHeartbeats 4000000 in
theorem l_owns (C : Lx l D ad am cI cII cR cZ L xs G) (hL : L ≤ 3584) (hi : i + 7 ≤ L) (h : Rel μ ν) (hμ : okM μ) (hν : okM ν) (kk : ∀ μ2 ν2, Rel μ2 ν2 → okM μ2 → okM ν2 → G μ2 ν2 i 1481 []) : G μ ν i 696 [] := by
  obtain ⟨z, y, hz, hy, h1, h2⟩ := sat2 (μ := μ) (ν := ν) (b_owns h (Xi xs (i + (1 + 0))) (Xi xs (i + (1 + 1))))
  exact law_casei C hL hi 2 (by decide) fL_owns (c_X5_owns μ (Xi xs (i + (1 + 0))) (Xi xs (i + (1 + 1))) hz) (c_X6_owns ν (Xi xs (i + (1 + 0))) (Xi xs (i + (1 + 1))) hy) h1 hμ hν gL_X5_owns rfl ⟨rfl, rfl⟩ hdX5_owns ⟨Nat.le_of_ble_eq_true rfl, Nat.le_of_ble_eq_true rfl⟩ gL_X6_owns rfl ⟨rfl, rfl⟩ hdX6_owns ⟨Nat.le_of_ble_eq_true rfl, Nat.le_of_ble_eq_true rfl⟩ ⟨10, by decide +kernel, by decide⟩ (fun a b => kk _ _ h2 a b)
set_option maxHeartbeats 4000000 in
theorem l_nobody (C : Lx l D ad am cI cII cR cZ L xs G) (hL : L ≤ 3584) (hi : i + 7 ≤ L) (h : Rel μ ν) (hμ : okM μ) (hν : okM ν) (kk : ∀ μ2 ν2, Rel μ2 ν2 → okM μ2 → okM ν2 → G μ2 ν2 i 1481 []) : G μ ν i 729 [] := by
  obtain ⟨z, y, hz, hy, h1, h2⟩ := sat2 (μ := μ) (ν := ν) (b_nobody h (Xi xs (i + (1 + 0))))
  exact law_casei C hL hi 1 (by decide) fL_nobody (c_X5_nobody μ (Xi xs (i + (1 + 0))) hz) (c_X6_nobody ν (Xi xs (i + (1 + 0))) hy) h1 hμ hν gL_X5_nobody rfl ⟨rfl, rfl⟩ hdX5_nobody ⟨Nat.le_of_ble_eq_true rfl, Nat.le_of_ble_eq_true rfl⟩ gL_X6_nobody rfl ⟨rfl, rfl⟩ hdX6_nobody ⟨Nat.le_of_ble_eq_true rfl, Nat.le_of_ble_eq_true rfl⟩ ⟨5, by decide +kernel, by decide⟩ (fun a b => kk _ _ h2 a b)
set_option maxHeartbeats 4000000 in
theorem l_moves (C : Lx l D ad am cI cII cR cZ L xs G) (hL : L ≤ 3584) (hi : i + 7 ≤ L) (h : Rel μ ν) (hμ : okM μ) (hν : okM ν) (kk : ∀ μ2 ν2, Rel μ2 ν2 → okM μ2 → okM ν2 → G μ2 ν2 i 1481 []) : G μ ν i 752 [] := by
  obtain ⟨z, y, hz, hy, h1, h2⟩ := sat2 (μ := μ) (ν := ν) (b_moves h (Xi xs (i + (1 + 0))))
  exact law_casei C hL hi 1 (by decide) fL_moves (c_X5_moves μ (Xi xs (i + (1 + 0))) hz) (c_X6_moves ν (Xi xs (i + (1 + 0))) hy) h1 hμ hν gL_X5_moves rfl ⟨rfl, rfl⟩ hdX5_moves ⟨Nat.le_of_ble_eq_true rfl, Nat.le_of_ble_eq_true rfl⟩ gL_X6_moves rfl ⟨rfl, rfl⟩ hdX6_moves ⟨Nat.le_of_ble_eq_true rfl, Nat.le_of_ble_eq_true rfl⟩ ⟨5, by decide +kernel, by decide⟩ (fun a b => kk _ _ h2 a b)
set_option maxHeartbeats 4000000 in
theorem l_evening (C : Lx l D ad am cI cII cR cZ L xs G) (hL : L ≤ 3584) (hi : i + 7 ≤ L) (h : Rel μ ν) (hμ : okM μ) (hν : okM ν) (kk : ∀ μ2 ν2, Rel μ2 ν2 → okM μ2 → okM ν2 → G μ2 ν2 i 1481 []) : G μ ν i 775 [] := by
  obtain ⟨z, y, hz, hy, h1, h2⟩ := sat2 (μ := μ) (ν := ν) (b_evening h )
  exact law_casei C hL hi 0 (by decide) fL_evening (c_X5_evening μ  hz) (c_X6_evening ν  hy) h1 hμ hν gL_X5_evening rfl ⟨rfl, rfl⟩ hdX5_evening ⟨Nat.le_of_ble_eq_true rfl, Nat.le_of_ble_eq_true rfl⟩ gL_X6_evening rfl ⟨rfl, rfl⟩ hdX6_evening ⟨Nat.le_of_ble_eq_true rfl, Nat.le_of_ble_eq_true rfl⟩ ⟨0, by decide +kernel, by decide⟩ (fun a b => kk _ _ h2 a b)
set_option maxHeartbeats 4000000 in
theorem l_stays (C : Lx l D ad am cI cII cR cZ L xs G) (hL : L ≤ 3584) (hi : i + 7 ≤ L) (h : Rel μ ν) (hμ : okM μ) (hν : okM ν) (kk : ∀ μ2 ν2, Rel μ2 ν2 → okM μ2 → okM ν2 → G μ2 ν2 i 1481 []) : G μ ν i 788 [] := by
  obtain ⟨z, y, hz, hy, h1, h2⟩ := sat2 (μ := μ) (ν := ν) (b_stays h (Xi xs (i + (1 + 0))) (Xi xs (i + (1 + 1))) (Xi xs (i + (1 + 2))))
  exact law_casei C hL hi 3 (by decide) fL_stays (c_X5_stays μ (Xi xs (i + (1 + 0))) (Xi xs (i + (1 + 1))) (Xi xs (i + (1 + 2))) hz) (c_X6_stays ν (Xi xs (i + (1 + 0))) (Xi xs (i + (1 + 1))) (Xi xs (i + (1 + 2))) hy) h1 hμ hν gL_X5_stays rfl ⟨rfl, rfl⟩ hdX5_stays ⟨Nat.le_of_ble_eq_true rfl, Nat.le_of_ble_eq_true rfl⟩ gL_X6_stays rfl ⟨rfl, rfl⟩ hdX6_stays ⟨Nat.le_of_ble_eq_true rfl, Nat.le_of_ble_eq_true rfl⟩ ⟨15, by decide +kernel, by decide⟩ (fun a b => kk _ _ h2 a b)
set_option maxHeartbeats 4000000 in
theorem l_crusts (C : Lx l D ad am cI cII cR cZ L xs G) (hL : L ≤ 3584) (hi : i + 7 ≤ L) (h : Rel μ ν) (hμ : okM μ) (hν : okM ν) (kk : ∀ μ2 ν2, Rel μ2 ν2 → okM μ2 → okM ν2 → G μ2 ν2 i 1481 []) : G μ ν i 831 [] := by
  obtain ⟨z, y, hz, hy, h1, h2⟩ := sat2 (μ := μ) (ν := ν) (b_crusts h (Xi xs (i + (1 + 0))) (Xi xs (i + (1 + 1))) (Xi xs (i + (1 + 2))) (Xi xs (i + (1 + 3))))
  exact law_casei C hL hi 4 (by decide) fL_crusts (c_X5_crusts μ (Xi xs (i + (1 + 0))) (Xi xs (i + (1 + 1))) (Xi xs (i + (1 + 2))) (Xi xs (i + (1 + 3))) hz) (c_X6_crusts ν (Xi xs (i + (1 + 0))) (Xi xs (i + (1 + 1))) (Xi xs (i + (1 + 2))) (Xi xs (i + (1 + 3))) hy) h1 hμ hν gL_X5_crusts rfl ⟨rfl, rfl⟩ hdX5_crusts ⟨Nat.le_of_ble_eq_true rfl, Nat.le_of_ble_eq_true rfl⟩ gL_X6_crusts rfl ⟨rfl, rfl⟩ hdX6_crusts ⟨Nat.le_of_ble_eq_true rfl, Nat.le_of_ble_eq_true rfl⟩ ⟨20, by decide +kernel, by decide⟩ (fun a b => kk _ _ h2 a b)
set_option maxHeartbeats 4000000 in
theorem l_weirs (C : Lx l D ad am cI cII cR cZ L xs G) (hL : L ≤ 3584) (hi : i + 7 ≤ L) (h : Rel μ ν) (hμ : okM μ) (hν : okM ν) (kk : ∀ μ2 ν2, Rel μ2 ν2 → okM μ2 → okM ν2 → G μ2 ν2 i 1481 []) : G μ ν i 884 [] := by
  obtain ⟨z, y, hz, hy, h1, h2⟩ := sat2 (μ := μ) (ν := ν) (b_weirs h (Xi xs (i + (1 + 0))) (Xi xs (i + (1 + 1))) (Xi xs (i + (1 + 2))) (Xi xs (i + (1 + 3))))
  exact law_casei C hL hi 4 (by decide) fL_weirs (c_X5_weirs μ (Xi xs (i + (1 + 0))) (Xi xs (i + (1 + 1))) (Xi xs (i + (1 + 2))) (Xi xs (i + (1 + 3))) hz) (c_X6_weirs ν (Xi xs (i + (1 + 0))) (Xi xs (i + (1 + 1))) (Xi xs (i + (1 + 2))) (Xi xs (i + (1 + 3))) hy) h1 hμ hν gL_X5_weirs rfl ⟨rfl, rfl⟩ hdX5_weirs ⟨Nat.le_of_ble_eq_true rfl, Nat.le_of_ble_eq_true rfl⟩ gL_X6_weirs rfl ⟨rfl, rfl⟩ hdX6_weirs ⟨Nat.le_of_ble_eq_true rfl, Nat.le_of_ble_eq_true rfl⟩ ⟨20, by decide +kernel, by decide⟩ (fun a b => kk _ _ h2 a b)
set_option maxHeartbeats 4000000 in
theorem l_hold (C : Lx l D ad am cI cII cR cZ L xs G) (hL : L ≤ 3584) (hi : i + 7 ≤ L) (h : Rel μ ν) (hμ : okM μ) (hν : okM ν) (kk : ∀ μ2 ν2, Rel μ2 ν2 → okM μ2 → okM ν2 → G μ2 ν2 i 1481 []) : G μ ν i 937 [] := by
  obtain ⟨z, y, hz, hy, h1, h2⟩ := sat2 (μ := μ) (ν := ν) (b_hold h (Xi xs (i + (1 + 0))) (Xi xs (i + (1 + 1))))
  exact law_casei C hL hi 2 (by decide) fL_hold (c_X5_hold μ (Xi xs (i + (1 + 0))) (Xi xs (i + (1 + 1))) hz) (c_X6_hold ν (Xi xs (i + (1 + 0))) (Xi xs (i + (1 + 1))) hy) h1 hμ hν gL_X5_hold rfl ⟨rfl, rfl⟩ hdX5_hold ⟨Nat.le_of_ble_eq_true rfl, Nat.le_of_ble_eq_true rfl⟩ gL_X6_hold rfl ⟨rfl, rfl⟩ hdX6_hold ⟨Nat.le_of_ble_eq_true rfl, Nat.le_of_ble_eq_true rfl⟩ ⟨10, by decide +kernel, by decide⟩ (fun a b => kk _ _ h2 a b)
set_option maxHeartbeats 4000000 in
theorem l_meet (C : Lx l D ad am cI cII cR cZ L xs G) (hL : L ≤ 3584) (hi : i + 7 ≤ L) (h : Rel μ ν) (hμ : okM μ) (hν : okM ν) (kk : ∀ μ2 ν2, Rel μ2 ν2 → okM μ2 → okM ν2 → G μ2 ν2 i 1481 []) : G μ ν i 970 [] := by
  obtain ⟨z, y, hz, hy, h1, h2⟩ := sat2 (μ := μ) (ν := ν) (b_meet h (Xi xs (i + (1 + 0))) (Xi xs (i + (1 + 1))))
  exact law_casei C hL hi 2 (by decide) fL_meet (c_X5_meet μ (Xi xs (i + (1 + 0))) (Xi xs (i + (1 + 1))) hz) (c_X6_meet ν (Xi xs (i + (1 + 0))) (Xi xs (i + (1 + 1))) hy) h1 hμ hν gL_X5_meet rfl ⟨rfl, rfl⟩ hdX5_meet ⟨Nat.le_of_ble_eq_true rfl, Nat.le_of_ble_eq_true rfl⟩ gL_X6_meet rfl ⟨rfl, rfl⟩ hdX6_meet ⟨Nat.le_of_ble_eq_true rfl, Nat.le_of_ble_eq_true rfl⟩ ⟨10, by decide +kernel, by decide⟩ (fun a b => kk _ _ h2 a b)
set_option maxHeartbeats 4000000 in
theorem l_fights (C : Lx l D ad am cI cII cR cZ L xs G) (hL : L ≤ 3584) (hi : i + 7 ≤ L) (h : Rel μ ν) (hμ : okM μ) (hν : okM ν) (kk : ∀ μ2 ν2, Rel μ2 ν2 → okM μ2 → okM ν2 → G μ2 ν2 i 1481 []) : G μ ν i 1003 [] := by
  obtain ⟨z, y, hz, hy, h1, h2⟩ := sat2 (μ := μ) (ν := ν) (b_fights h (Xi xs (i + (1 + 0))))
  exact law_casei C hL hi 1 (by decide) fL_fights (c_X5_fights μ (Xi xs (i + (1 + 0))) hz) (c_X6_fights ν (Xi xs (i + (1 + 0))) hy) h1 hμ hν gL_X5_fights rfl ⟨rfl, rfl⟩ hdX5_fights ⟨Nat.le_of_ble_eq_true rfl, Nat.le_of_ble_eq_true rfl⟩ gL_X6_fights rfl ⟨rfl, rfl⟩ hdX6_fights ⟨Nat.le_of_ble_eq_true rfl, Nat.le_of_ble_eq_true rfl⟩ ⟨5, by decide +kernel, by decide⟩ (fun a b => kk _ _ h2 a b)
set_option maxHeartbeats 4000000 in
theorem l_doubles (C : Lx l D ad am cI cII cR cZ L xs G) (hL : L ≤ 3584) (hi : i + 7 ≤ L) (h : Rel μ ν) (hμ : okM μ) (hν : okM ν) (kk : ∀ μ2 ν2, Rel μ2 ν2 → okM μ2 → okM ν2 → G μ2 ν2 i 1481 []) : G μ ν i 1026 [] := by
  obtain ⟨z, hz, hy⟩ := same2 (s_doubles h (Xi xs (i + (1 + 0))))
  exact law_casei C hL hi 1 (by decide) fL_doubles (c_X5_doubles μ (Xi xs (i + (1 + 0))) hz) (c_X6_doubles ν (Xi xs (i + (1 + 0))) hy) rfl hμ hν gL_X5_doubles rfl ⟨rfl, rfl⟩ hdX5_doubles ⟨Nat.le_of_ble_eq_true rfl, Nat.le_of_ble_eq_true rfl⟩ gL_X6_doubles rfl ⟨rfl, rfl⟩ hdX6_doubles ⟨Nat.le_of_ble_eq_true rfl, Nat.le_of_ble_eq_true rfl⟩ ⟨5, by decide +kernel, by decide⟩ (fun a b => kk _ _ h a b)
set_option maxHeartbeats 4000000 in
theorem l_who (C : Lx l D ad am cI cII cR cZ L xs G) (hL : L ≤ 3584) (hi : i + 7 ≤ L) (h : Rel μ ν) (hμ : okM μ) (hν : okM ν) (kk : ∀ μ2 ν2, Rel μ2 ν2 → okM μ2 → okM ν2 → G μ2 ν2 i 1481 []) : G μ ν i 1049 [] := by
  obtain ⟨z, y, hz, hy, h1, h2⟩ := sat2 (μ := μ) (ν := ν) (b_who h (k := Xi xs (i + (1 + 0))) (w := Xi xs (i + (1 + 1))) (o := Xi xs (i + (1 + 2))) (r := Xi xs (i + (1 + 3))) (i := Xi xs (i + (1 + 4))) (n := Xi xs (i + (1 + 5))) (Xi_R xs _))
  exact law_casei C hL hi 6 (by decide) fL_who (c_X5_who μ (Xi xs (i + (1 + 0))) (Xi xs (i + (1 + 1))) (Xi xs (i + (1 + 2))) (Xi xs (i + (1 + 3))) (Xi xs (i + (1 + 4))) (Xi xs (i + (1 + 5))) hz) (c_X6_who ν (Xi xs (i + (1 + 0))) (Xi xs (i + (1 + 1))) (Xi xs (i + (1 + 2))) (Xi xs (i + (1 + 3))) (Xi xs (i + (1 + 4))) (Xi xs (i + (1 + 5))) hy) h1 hμ hν gL_X5_who rfl ⟨rfl, rfl⟩ hdX5_who ⟨Nat.le_of_ble_eq_true rfl, Nat.le_of_ble_eq_true rfl⟩ gL_X6_who rfl ⟨rfl, rfl⟩ hdX6_who ⟨Nat.le_of_ble_eq_true rfl, Nat.le_of_ble_eq_true rfl⟩ ⟨31, by decide +kernel, by decide⟩ (fun a b => kk _ _ h2 a b)
set_option maxHeartbeats 4000000 in
theorem l_which (C : Lx l D ad am cI cII cR cZ L xs G) (hL : L ≤ 3584) (hi : i + 7 ≤ L) (h : Rel μ ν) (hμ : okM μ) (hν : okM ν) (kk : ∀ μ2 ν2, Rel μ2 ν2 → okM μ2 → okM ν2 → G μ2 ν2 i 1481 []) : G μ ν i 1124 [] := by
  obtain ⟨z, y, hz, hy, h1, h2⟩ := sat2 (μ := μ) (ν := ν) (b_which h (r := Xi xs (i + (1 + 0))) (i := Xi xs (i + (1 + 1))) (n := Xi xs (i + (1 + 2))) (Xi_R xs _))
  exact law_casei C hL hi 3 (by decide) fL_which (c_X5_which μ (Xi xs (i + (1 + 0))) (Xi xs (i + (1 + 1))) (Xi xs (i + (1 + 2))) hz) (c_X6_which ν (Xi xs (i + (1 + 0))) (Xi xs (i + (1 + 1))) (Xi xs (i + (1 + 2))) hy) h1 hμ hν gL_X5_which rfl ⟨rfl, rfl⟩ hdX5_which ⟨Nat.le_of_ble_eq_true rfl, Nat.le_of_ble_eq_true rfl⟩ gL_X6_which rfl ⟨rfl, rfl⟩ hdX6_which ⟨Nat.le_of_ble_eq_true rfl, Nat.le_of_ble_eq_true rfl⟩ ⟨15, by decide +kernel, by decide⟩ (fun a b => kk _ _ h2 a b)
set_option maxHeartbeats 4000000 in
theorem l_hungry (C : Lx l D ad am cI cII cR cZ L xs G) (hL : L ≤ 3584) (hi : i + 7 ≤ L) (h : Rel μ ν) (hμ : okM μ) (hν : okM ν) (kk : ∀ μ2 ν2, Rel μ2 ν2 → okM μ2 → okM ν2 → G μ2 ν2 i 1481 []) : G μ ν i 1167 [] := by
  obtain ⟨z, y, hz, hy, h1, h2⟩ := sat2 (μ := μ) (ν := ν) (b_hungry h (Xi xs (i + (1 + 0))))
  exact law_casei C hL hi 1 (by decide) fL_hungry (c_X5_hungry μ (Xi xs (i + (1 + 0))) hz) (c_X6_hungry ν (Xi xs (i + (1 + 0))) hy) h1 hμ hν gL_X5_hungry rfl ⟨rfl, rfl⟩ hdX5_hungry ⟨Nat.le_of_ble_eq_true rfl, Nat.le_of_ble_eq_true rfl⟩ gL_X6_hungry rfl ⟨rfl, rfl⟩ hdX6_hungry ⟨Nat.le_of_ble_eq_true rfl, Nat.le_of_ble_eq_true rfl⟩ ⟨5, by decide +kernel, by decide⟩ (fun a b => kk _ _ h2 a b)
set_option maxHeartbeats 4000000 in
theorem l_sink (C : Lx l D ad am cI cII cR cZ L xs G) (hL : L ≤ 3584) (hi : i + 7 ≤ L) (h : Rel μ ν) (hμ : okM μ) (hν : okM ν) (kk : ∀ μ2 ν2, Rel μ2 ν2 → okM μ2 → okM ν2 → G μ2 ν2 i 1481 []) : G μ ν i 1190 [] := by
  obtain ⟨z, y, hz, hy, h1, h2⟩ := sat2 (μ := μ) (ν := ν) (b_sink h (Xi xs (i + (1 + 0))) (Xi xs (i + (1 + 1))) (Xi xs (i + (1 + 2))) (Xi xs (i + (1 + 3))))
  exact law_casel C hL hi 4 (by decide) fL_sink (c_X5_sink μ (Xi xs (i + (1 + 0))) (Xi xs (i + (1 + 1))) (Xi xs (i + (1 + 2))) (Xi xs (i + (1 + 3))) hz) (c_X6_sink ν (Xi xs (i + (1 + 0))) (Xi xs (i + (1 + 1))) (Xi xs (i + (1 + 2))) (Xi xs (i + (1 + 3))) hy) h1 hμ hν gL_X5_sink rfl ⟨rfl, rfl⟩ hdX5_sink ⟨Nat.le_of_ble_eq_true rfl, Nat.le_of_ble_eq_true rfl⟩ gL_X6_sink rfl ⟨rfl, rfl⟩ hdX6_sink ⟨Nat.le_of_ble_eq_true rfl, Nat.le_of_ble_eq_true rfl⟩ ⟨20, by decide +kernel, by decide⟩ (fun a b => kk _ _ h2 a b)
set_option maxHeartbeats 4000000 in
theorem l_drawn (C : Lx l D ad am cI cII cR cZ L xs G) (hL : L ≤ 3584) (hi : i + 7 ≤ L) (h : Rel μ ν) (hμ : okM μ) (hν : okM ν) (kk : ∀ μ2 ν2, Rel μ2 ν2 → okM μ2 → okM ν2 → G μ2 ν2 i 1481 []) : G μ ν i 1244 [] := by
  obtain ⟨z, y, hz, hy, h1, h2⟩ := sat2 (μ := μ) (ν := ν) (b_drawn h (Xi xs (i + (1 + 0))) (Xi xs (i + (1 + 1))) (Xi xs (i + (1 + 2))))
  exact law_casei C hL hi 3 (by decide) fL_drawn (c_X5_drawn μ (Xi xs (i + (1 + 0))) (Xi xs (i + (1 + 1))) (Xi xs (i + (1 + 2))) hz) (c_X6_drawn ν (Xi xs (i + (1 + 0))) (Xi xs (i + (1 + 1))) (Xi xs (i + (1 + 2))) hy) h1 hμ hν gL_X5_drawn rfl ⟨rfl, rfl⟩ hdX5_drawn ⟨Nat.le_of_ble_eq_true rfl, Nat.le_of_ble_eq_true rfl⟩ gL_X6_drawn rfl ⟨rfl, rfl⟩ hdX6_drawn ⟨Nat.le_of_ble_eq_true rfl, Nat.le_of_ble_eq_true rfl⟩ ⟨15, by decide +kernel, by decide⟩ (fun a b => kk _ _ h2 a b)
set_option maxHeartbeats 4000000 in
theorem l_image (C : Lx l D ad am cI cII cR cZ L xs G) (hL : L ≤ 3584) (hi : i + 7 ≤ L) (h : Rel μ ν) (hμ : okM μ) (hν : okM ν) (kk : ∀ μ2 ν2, Rel μ2 ν2 → okM μ2 → okM ν2 → G μ2 ν2 i 1481 []) : G μ ν i 1287 [] := by
  obtain ⟨z, y, hz, hy, h1, h2⟩ := sat2 (μ := μ) (ν := ν) (b_image h (Xi xs (i + (1 + 0))))
  exact law_casei C hL hi 1 (by decide) fL_image (c_X5_image μ (Xi xs (i + (1 + 0))) hz) (c_X6_image ν (Xi xs (i + (1 + 0))) hy) h1 hμ hν gL_X5_image rfl ⟨rfl, rfl⟩ hdX5_image ⟨Nat.le_of_ble_eq_true rfl, Nat.le_of_ble_eq_true rfl⟩ gL_X6_image rfl ⟨rfl, rfl⟩ hdX6_image ⟨Nat.le_of_ble_eq_true rfl, Nat.le_of_ble_eq_true rfl⟩ ⟨5, by decide +kernel, by decide⟩ (fun a b => kk _ _ h2 a b)
set_option maxHeartbeats 4000000 in
theorem l_restore (C : Lx l D ad am cI cII cR cZ L xs G) (hL : L ≤ 3584) (hi : i + 7 ≤ L) (h : Rel μ ν) (hμ : okM μ) (hν : okM ν) (kk : ∀ μ2 ν2, Rel μ2 ν2 → okM μ2 → okM ν2 → G μ2 ν2 i 1481 []) : G μ ν i 1310 [] := by
  obtain ⟨z, y, hz, hy, h1, h2⟩ := sat2 (μ := μ) (ν := ν) (b_restore h (Xi xs (i + (1 + 0))))
  exact law_casei C hL hi 1 (by decide) fL_restore (c_X5_restore μ (Xi xs (i + (1 + 0))) hz) (c_X6_restore ν (Xi xs (i + (1 + 0))) hy) h1 hμ hν gL_X5_restore rfl ⟨rfl, rfl⟩ hdX5_restore ⟨Nat.le_of_ble_eq_true rfl, Nat.le_of_ble_eq_true rfl⟩ gL_X6_restore rfl ⟨rfl, rfl⟩ hdX6_restore ⟨Nat.le_of_ble_eq_true rfl, Nat.le_of_ble_eq_true rfl⟩ ⟨5, by decide +kernel, by decide⟩ (fun a b => kk _ _ h2 a b)
set_option maxHeartbeats 4000000 in
theorem l_kind (C : Lx l D ad am cI cII cR cZ L xs G) (hL : L ≤ 3584) (hi : i + 7 ≤ L) (h : Rel μ ν) (hμ : okM μ) (hν : okM ν) (kk : ∀ μ2 ν2, Rel μ2 ν2 → okM μ2 → okM ν2 → G μ2 ν2 i 1481 []) : G μ ν i 1333 [] := by
  obtain ⟨z, hz, hy⟩ := same2 (s_kind h (Xi xs (i + (1 + 0))))
  exact law_casei C hL hi 1 (by decide) fL_kind (c_X5_kind μ (Xi xs (i + (1 + 0))) hz) (c_X6_kind ν (Xi xs (i + (1 + 0))) hy) rfl hμ hν gL_X5_kind rfl ⟨rfl, rfl⟩ hdX5_kind ⟨Nat.le_of_ble_eq_true rfl, Nat.le_of_ble_eq_true rfl⟩ gL_X6_kind rfl ⟨rfl, rfl⟩ hdX6_kind ⟨Nat.le_of_ble_eq_true rfl, Nat.le_of_ble_eq_true rfl⟩ ⟨5, by decide +kernel, by decide⟩ (fun a b => kk _ _ h a b)
set_option maxHeartbeats 4000000 in
theorem l_as (C : Lx l D ad am cI cII cR cZ L xs G) (hL : L ≤ 3584) (hi : i + 7 ≤ L) (h : Rel μ ν) (hμ : okM μ) (hν : okM ν) (kk : ∀ μ2 ν2, Rel μ2 ν2 → okM μ2 → okM ν2 → G μ2 ν2 i 1481 []) : G μ ν i 1356 [] := by
  obtain ⟨z, y, hz, hy, h1, h2⟩ := sat2 (μ := μ) (ν := ν) (b_as h (Xi xs (i + (1 + 0))) (Xi xs (i + (1 + 1))))
  exact law_casei C hL hi 2 (by decide) fL_as (c_X5_as μ (Xi xs (i + (1 + 0))) (Xi xs (i + (1 + 1))) hz) (c_X6_as ν (Xi xs (i + (1 + 0))) (Xi xs (i + (1 + 1))) hy) h1 hμ hν gL_X5_as rfl ⟨rfl, rfl⟩ hdX5_as ⟨Nat.le_of_ble_eq_true rfl, Nat.le_of_ble_eq_true rfl⟩ gL_X6_as rfl ⟨rfl, rfl⟩ hdX6_as ⟨Nat.le_of_ble_eq_true rfl, Nat.le_of_ble_eq_true rfl⟩ ⟨10, by decide +kernel, by decide⟩ (fun a b => kk _ _ h2 a b)
set_option maxHeartbeats 4000000 in
theorem l_ask (C : Lx l D ad am cI cII cR cZ L xs G) (hL : L ≤ 3584) (hi : i + 7 ≤ L) (h : Rel μ ν) (hμ : okM μ) (hν : okM ν) (kk : ∀ μ2 ν2, Rel μ2 ν2 → okM μ2 → okM ν2 → G μ2 ν2 i 1481 []) : G μ ν i 1389 [] := by
  obtain ⟨z, y, hz, hy, h1, h2⟩ := sat2 (μ := μ) (ν := ν) (b_ask h (Xi xs (i + (1 + 0))) (Xi xs (i + (1 + 1))))
  exact law_casei C hL hi 2 (by decide) fL_ask (c_X5_ask μ (Xi xs (i + (1 + 0))) (Xi xs (i + (1 + 1))) hz) (c_X6_ask ν (Xi xs (i + (1 + 0))) (Xi xs (i + (1 + 1))) hy) h1 hμ hν gL_X5_ask rfl ⟨rfl, rfl⟩ hdX5_ask ⟨Nat.le_of_ble_eq_true rfl, Nat.le_of_ble_eq_true rfl⟩ gL_X6_ask rfl ⟨rfl, rfl⟩ hdX6_ask ⟨Nat.le_of_ble_eq_true rfl, Nat.le_of_ble_eq_true rfl⟩ ⟨10, by decide +kernel, by decide⟩ (fun a b => kk _ _ h2 a b)
set_option maxHeartbeats 4000000 in
theorem l_trace (C : Lx l D ad am cI cII cR cZ L xs G) (hL : L ≤ 3584) (hi : i + 7 ≤ L) (h : Rel μ ν) (hμ : okM μ) (hν : okM ν) (kk : ∀ μ2 ν2, Rel μ2 ν2 → okM μ2 → okM ν2 → G μ2 ν2 i 1481 []) : G μ ν i 1422 [] := by
  obtain ⟨z, hz, hy⟩ := same2 (s_trace h (Xi xs (i + (1 + 0))))
  exact law_casei C hL hi 1 (by decide) fL_trace (c_X5_trace μ (Xi xs (i + (1 + 0))) hz) (c_X6_trace ν (Xi xs (i + (1 + 0))) hy) rfl hμ hν gL_X5_trace rfl ⟨rfl, rfl⟩ hdX5_trace ⟨Nat.le_of_ble_eq_true rfl, Nat.le_of_ble_eq_true rfl⟩ gL_X6_trace rfl ⟨rfl, rfl⟩ hdX6_trace ⟨Nat.le_of_ble_eq_true rfl, Nat.le_of_ble_eq_true rfl⟩ ⟨5, by decide +kernel, by decide⟩ (fun a b => kk _ _ h a b)
set_option maxHeartbeats 4000000 in
theorem l_count (C : Lx l D ad am cI cII cR cZ L xs G) (hL : L ≤ 3584) (hi : i + 7 ≤ L) (h : Rel μ ν) (hμ : okM μ) (hν : okM ν) (kk : ∀ μ2 ν2, Rel μ2 ν2 → okM μ2 → okM ν2 → G μ2 ν2 i 1481 []) : G μ ν i 1445 [] := by
  obtain ⟨z, hz, hy⟩ := same2 (s_count h (Xi xs (i + (1 + 0))))
  exact law_casei C hL hi 1 (by decide) fL_count (c_X5_count μ (Xi xs (i + (1 + 0))) hz) (c_X6_count ν (Xi xs (i + (1 + 0))) hy) rfl hμ hν gL_X5_count rfl ⟨rfl, rfl⟩ hdX5_count ⟨Nat.le_of_ble_eq_true rfl, Nat.le_of_ble_eq_true rfl⟩ gL_X6_count rfl ⟨rfl, rfl⟩ hdX6_count ⟨Nat.le_of_ble_eq_true rfl, Nat.le_of_ble_eq_true rfl⟩ ⟨5, by decide +kernel, by decide⟩ (fun a b => kk _ _ h a b)
set_option maxHeartbeats 4000000 in
theorem l_status (C : Lx l D ad am cI cII cR cZ L xs G) (hL : L ≤ 3584) (hi : i + 7 ≤ L) (h : Rel μ ν) (hμ : okM μ) (hν : okM ν) (kk : ∀ μ2 ν2, Rel μ2 ν2 → okM μ2 → okM ν2 → G μ2 ν2 i 1481 []) : G μ ν i 1468 [] := by
  exact law_casei C hL hi 0 (by decide) fL_status (c_X5_status μ) (c_X6_status ν) (s_status h) hμ hν gL_X5_status rfl ⟨rfl, rfl⟩ hdX5_status ⟨Nat.le_of_ble_eq_true rfl, Nat.le_of_ble_eq_true rfl⟩ gL_X6_status rfl ⟨rfl, rfl⟩ hdX6_status ⟨Nat.le_of_ble_eq_true rfl, Nat.le_of_ble_eq_true rfl⟩ ⟨0, by decide +kernel, by decide⟩ (fun a b => kk _ _ h a b)
end LC
