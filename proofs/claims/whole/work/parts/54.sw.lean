/-! THE CONSTRUCTOR of the class itself. -/
def μ0 : Mm := fun g _ => if g = 37 then -1 else 0
theorem μ0_z {g : Nat} (h : g ≠ 37) (o : Int) : μ0 g o = 0 := if_neg h
theorem arrE_z {cA : ClassId} {g : Nat} {off : Int} {n : Nat} (h : g ≠ 37) : arrE cA g off n μ0 = .inl (cA, n, .inl zA) := by unfold arrE; rw [aF_0 (μ0_z h)]
def adW (h0 img wd : Nat) (w t kk s r0 r1 r2 r3 r4 : Nat → Nat) : Nat → Nat := fun k =>
  if k < 6 then r0 k else if k < 12 then r1 (k - 6) else if k < 18 then r2 (k - 12) else if k < 24 then r3 (k - 18) else if k < 30 then r4 (k - 24) else if k < 174 then kk (2 + (k - 30)) else
  if k = 174 then h0 else if k = 175 then w 0 else if k = 176 then t 0 else if k = 177 then kk 0 else if k = 178 then s 0 else if k = 179 then img else if k = 180 then kk 1 else if k = 181 then w 1 else if k = 182 then w 2 else if k = 183 then w 3 else if k = 184 then t 1 else if k = 185 then s 1 else if k < 194 then w (4 + (k - 186)) else wd
/-- where cell k was made -/
def posW (k : Nat) : Nat :=
  if k < 6 then 163 + k else if k < 12 then 182 + (k - 6) else if k < 18 then 188 + (k - 12) else if k < 24 then 169 + (k - 18) else if k < 30 then 175 + (k - 24) else if k < 174 then 17 + (k - 30) else
  if k = 174 then 0 else if k = 175 then 1 else if k = 176 then 13 else if k = 177 then 15 else if k = 178 then 161 else if k = 179 then 181 else if k = 180 then 16 else if k = 181 then 2 else if k = 182 then 11 else if k = 183 then 12 else if k = 184 then 14 else if k = 185 then 162 else 3 + (k - 186)
theorem posW_inj : ∀ k, k < 194 → ∀ j, j < 194 → posW k = posW j → k = j := by decide +kernel
section WW
variable {h0 img wd : Nat} {w t kk s r0 r1 r2 r3 r4 : Nat → Nat} {cI cII cR : ClassId}
abbrev obW (w t kk s r0 r3 r4 : Nat → Nat) (img : Nat) : List Value := [.ref (w 0), .ref (t 0), .ref (kk 0), .ref (s 0), .ref (r0 0), .ref (r3 0), .ref (r4 0), .ref img, .int 0]
abbrev imW (r1 r2 : Nat → Nat) : Nat → Option Nat := fun j => if j = 1 then some (r2 0) else if j = 0 then some (r1 0) else none
def WfC (cI cII cR : ClassId) (h0 img : Nat) (w t kk s r0 r1 r2 r3 r4 : Nat → Nat) : va_W := (((((((((([(h0, .inr (5, obW w t kk s r0 r3 r4 img))] ++ wfW cI cII w) ++ wfT cI t) ++ wfK cI cR 24 kk) ++ wfA cI s) ++ wfR cI r0) ++ wfR cI r3) ++ wfR cI r4) ++ [(img, .inl (cR, 2, .inr (.inr (.inr (.inr (imW r1 r2))))))]) ++ wfR cI r1) ++ wfR cI r2)
theorem at_l {X Y : va_W} {i : Nat} {x : Nat × va_E} (h : X[i]? = some x) : (X ++ Y)[i]? = some x := by
  rw [List.getElem?_append_left (List.getElem?_eq_some_iff.mp h).1]
  exact h
theorem at_r {X Y : va_W} {n i j : Nat} {x : Nat × va_E} (hn : X.length = n) (hj : j = n + i) (h : Y[i]? = some x) : (X ++ Y)[j]? = some x := by
  rw [hj, ← hn, app_get]
  exact h
theorem wfR_len {a : Nat → Nat} : (wfR cI a).length = 6 := rfl
theorem wfR_at {a : Nat → Nat} {c : Nat} (hc : c < 6) : (wfR cI a)[c]? = some (a c, rv cI a c) := by
  unfold wfR
  rw [List.getElem?_map, List.getElem?_range hc]
  rfl
theorem wfW_len {a : Nat → Nat} : (wfW cI cII a).length = 12 := rfl
theorem len_1 (x : Nat × va_E) : ([x] ++ wfW cI cII w).length = 13 := by rw [List.length_append, wfW_len]; rfl
theorem len_2 (x : Nat × va_E) : (([x] ++ wfW cI cII w) ++ wfT cI t).length = 15 := by rw [List.length_append, len_1]; rfl
theorem len_3 (x : Nat × va_E) : ((([x] ++ wfW cI cII w) ++ wfT cI t) ++ wfK cI cR 24 kk).length = 161 := by rw [List.length_append, len_2, wfK_len]
theorem len_4 (x : Nat × va_E) : (((([x] ++ wfW cI cII w) ++ wfT cI t) ++ wfK cI cR 24 kk) ++ wfA cI s).length = 163 := by rw [List.length_append, len_3]; rfl
theorem len_5 (x : Nat × va_E) : ((((([x] ++ wfW cI cII w) ++ wfT cI t) ++ wfK cI cR 24 kk) ++ wfA cI s) ++ wfR cI r0).length = 169 := by rw [List.length_append, len_4, wfR_len]
theorem len_6 (x : Nat × va_E) : (((((([x] ++ wfW cI cII w) ++ wfT cI t) ++ wfK cI cR 24 kk) ++ wfA cI s) ++ wfR cI r0) ++ wfR cI r3).length = 175 := by rw [List.length_append, len_5, wfR_len]
theorem len_7 (x : Nat × va_E) : ((((((([x] ++ wfW cI cII w) ++ wfT cI t) ++ wfK cI cR 24 kk) ++ wfA cI s) ++ wfR cI r0) ++ wfR cI r3) ++ wfR cI r4).length = 181 := by rw [List.length_append, len_6, wfR_len]
theorem len_8 (x y : Nat × va_E) : (((((((([x] ++ wfW cI cII w) ++ wfT cI t) ++ wfK cI cR 24 kk) ++ wfA cI s) ++ wfR cI r0) ++ wfR cI r3) ++ wfR cI r4) ++ [y]).length = 182 := by rw [List.length_append, len_7]; rfl
theorem len_9 (x y : Nat × va_E) : ((((((((([x] ++ wfW cI cII w) ++ wfT cI t) ++ wfK cI cR 24 kk) ++ wfA cI s) ++ wfR cI r0) ++ wfR cI r3) ++ wfR cI r4) ++ [y]) ++ wfR cI r1).length = 188 := by rw [List.length_append, len_8, wfR_len]
theorem riv_at {ad a : Nat → Nat} {r c : Nat} (hr : r < 29) (hc : c < 6) (h : ∀ d, d < 6 → ad (6 * r + d) = a d) : rv cI a c = EC ad cI cII cR μ0 (6 * r + c) := by
  rw [EC_r hr hc]
  unfold rv rivE
  by_cases h0 : c = 0
  · rw [if_pos h0, if_pos h0]
    show _ = (Sum.inr (2, [Value.int (I3 (μ0 r 24)), Value.int (I3 (μ0 r 25)), Value.int (I3 (μ0 r 0)), Value.int (I3 (μ0 r 10)), Value.ref (ad (6 * r + 1)), Value.ref (ad (6 * r + 2)), Value.ref (ad (6 * r + 3)), Value.ref (ad (6 * r + 4)), Value.ref (ad (6 * r + 5)), Value.int (I3 (μ0 r 40)), Value.int (I3 (μ0 r 41))]) : va_E)
    rw [h 1 (by decide), h 2 (by decide), h 3 (by decide), h 4 (by decide), h 5 (by decide)]
    simp only [μ0_z (show r ≠ 37 by omega)]
    rfl
  · rw [if_neg h0, if_neg h0]
    simp only [arrE_z (show r ≠ 37 by omega)]
    by_cases h1 : c = 1
    · rw [if_pos h1, if_pos h1]
    · rw [if_neg h1, if_neg h1]
      simp only [ite_self]
theorem adW_r0 {d : Nat} (h : d < 6) : adW h0 img wd w t kk s r0 r1 r2 r3 r4 (6 * 0 + d) = r0 d := by unfold adW; rw [if_pos (by omega), show 6 * 0 + d = d by omega]
theorem adW_r1 {d : Nat} (h : d < 6) : adW h0 img wd w t kk s r0 r1 r2 r3 r4 (6 * 1 + d) = r1 d := by unfold adW; rw [if_neg (by omega), if_pos (by omega), show 6 * 1 + d - 6 = d by omega]
theorem adW_r2 {d : Nat} (h : d < 6) : adW h0 img wd w t kk s r0 r1 r2 r3 r4 (6 * 2 + d) = r2 d := by unfold adW; rw [if_neg (by omega), if_neg (by omega), if_pos (by omega), show 6 * 2 + d - 12 = d by omega]
theorem adW_r3 {d : Nat} (h : d < 6) : adW h0 img wd w t kk s r0 r1 r2 r3 r4 (6 * 3 + d) = r3 d := by unfold adW; rw [if_neg (by omega), if_neg (by omega), if_neg (by omega), if_pos (by omega), show 6 * 3 + d - 18 = d by omega]
theorem adW_r4 {d : Nat} (h : d < 6) : adW h0 img wd w t kk s r0 r1 r2 r3 r4 (6 * 4 + d) = r4 d := by unfold adW; rw [if_neg (by omega), if_neg (by omega), if_neg (by omega), if_neg (by omega), if_pos (by omega), show 6 * 4 + d - 24 = d by omega]
theorem adW_k {j d : Nat} (hj : j < 24) (h : d < 6) : adW h0 img wd w t kk s r0 r1 r2 r3 r4 (6 * (5 + j) + d) = kk (2 + 6 * j + d) := by unfold adW; rw [if_neg (by omega), if_neg (by omega), if_neg (by omega), if_neg (by omega), if_neg (by omega), if_pos (by omega), show 2 + (6 * (5 + j) + d - 30) = 2 + 6 * j + d by omega]
theorem adW_w {i : Nat} (h : i < 8) : adW h0 img wd w t kk s r0 r1 r2 r3 r4 (186 + i) = w (4 + i) := by unfold adW; rw [if_neg (by omega), if_neg (by omega), if_neg (by omega), if_neg (by omega), if_neg (by omega), if_neg (by omega), if_neg (by omega), if_neg (by omega), if_neg (by omega), if_neg (by omega), if_neg (by omega), if_neg (by omega), if_neg (by omega), if_neg (by omega), if_neg (by omega), if_neg (by omega), if_neg (by omega), if_neg (by omega), if_pos (by omega), show 4 + (186 + i - 186) = 4 + i by omega]
set_option maxHeartbeats 8000000 in
set_option maxRecDepth 100000 in
theorem WfC_at (k : Nat) (hk : k < 194) (hne : k ≠ 179 ∧ k ≠ 180 ∧ k ≠ 181) : (WfC cI cII cR h0 img w t kk s r0 r1 r2 r3 r4)[posW k]? = some (adW h0 img wd w t kk s r0 r1 r2 r3 r4 k, EC (adW h0 img wd w t kk s r0 r1 r2 r3 r4) cI cII cR μ0 k) := by
  unfold WfC
  by_cases hr : k < 174
  · obtain ⟨r, c, hc, hr2, rfl⟩ : ∃ r c, c < 6 ∧ r < 29 ∧ k = 6 * r + c := ⟨k / 6, k % 6, by omega, by omega, by omega⟩
    by_cases q0 : r = 0
    · subst q0
      rw [adW_r0 hc, ← riv_at (r := 0) (by decide) hc (fun d hd => adW_r0 hd)]
      rw [show posW (6 * 0 + c) = 163 + c from by unfold posW; rw [if_pos (by omega)]; omega]
      exact at_l (at_l (at_l (at_l (at_l (at_r (len_4 _) rfl (wfR_at hc))))))
    by_cases q1 : r = 1
    · subst q1
      rw [adW_r1 hc, ← riv_at (r := 1) (by decide) hc (fun d hd => adW_r1 hd)]
      rw [show posW (6 * 1 + c) = 182 + c from by unfold posW; rw [if_neg (by omega), if_pos (by omega)]; omega]
      exact at_l (at_r (len_8 _ _) rfl (wfR_at hc))
    by_cases q2 : r = 2
    · subst q2
      rw [adW_r2 hc, ← riv_at (r := 2) (by decide) hc (fun d hd => adW_r2 hd)]
      rw [show posW (6 * 2 + c) = 188 + c from by unfold posW; rw [if_neg (by omega), if_neg (by omega), if_pos (by omega)]; omega]
      exact at_r (len_9 _ _) rfl (wfR_at hc)
    by_cases q3 : r = 3
    · subst q3
      rw [adW_r3 hc, ← riv_at (r := 3) (by decide) hc (fun d hd => adW_r3 hd)]
      rw [show posW (6 * 3 + c) = 169 + c from by unfold posW; rw [if_neg (by omega), if_neg (by omega), if_neg (by omega), if_pos (by omega)]; omega]
      exact at_l (at_l (at_l (at_l (at_r (len_5 _) rfl (wfR_at hc)))))
    by_cases q4 : r = 4
    · subst q4
      rw [adW_r4 hc, ← riv_at (r := 4) (by decide) hc (fun d hd => adW_r4 hd)]
      rw [show posW (6 * 4 + c) = 175 + c from by unfold posW; rw [if_neg (by omega), if_neg (by omega), if_neg (by omega), if_neg (by omega), if_pos (by omega)]; omega]
      exact at_l (at_l (at_l (at_r (len_6 _) rfl (wfR_at hc))))
    obtain ⟨j, hj, rfl⟩ : ∃ j, j < 24 ∧ r = 5 + j := ⟨r - 5, by omega, by omega⟩
    rw [adW_k hj hc, ← riv_at (r := 5 + j) (by omega) hc (fun d hd => adW_k hj hd)]
    rw [show posW (6 * (5 + j) + c) = 15 + (2 + (6 * j + c)) from by unfold posW; rw [if_neg (by omega), if_neg (by omega), if_neg (by omega), if_neg (by omega), if_neg (by omega), if_pos (by omega)]; omega]
    refine at_l (at_l (at_l (at_l (at_l (at_l (at_l (at_r (len_2 _) rfl ?_)))))))
    show (_ :: _ :: kL cI 24 kk)[2 + (6 * j + c)]? = _
    rw [show 2 + (6 * j + c) = (6 * j + c) + 1 + 1 by omega, List.getElem?_cons_succ, List.getElem?_cons_succ]
    unfold kL
    rw [List.getElem?_map, List.getElem?_range (by omega)]
    show some (kk (2 + (6 * j + c)), rv cI (fun d => kk (2 + 6 * ((6 * j + c) / 6) + d)) ((6 * j + c) % 6)) = _
    rw [show 2 + (6 * j + c) = 2 + 6 * j + c by omega, show (6 * j + c) / 6 = j by omega, show (6 * j + c) % 6 = c by omega]
  · obtain ⟨c, hc, rfl⟩ : ∃ c, c < 20 ∧ k = 174 + c := ⟨k - 174, by omega, by omega⟩
    rw [EC_o]
    have hcs : c = 0 ∨ c = 1 ∨ c = 2 ∨ c = 3 ∨ c = 4 ∨ c = 5 ∨ c = 6 ∨ c = 7 ∨ c = 8 ∨ c = 9 ∨ c = 10 ∨ c = 11 ∨ 12 ≤ c := by omega
    rcases hcs with rfl | rfl | rfl | rfl | rfl | rfl | rfl | rfl | rfl | rfl | rfl | rfl | hc2
    · exact at_l (at_l (at_l (at_l (at_l (at_l (at_l (at_l (at_l (at_l (rfl))))))))))
    · exact at_l (at_l (at_l (at_l (at_l (at_l (at_l (at_l (at_l (at_r (n := 1) (i := 0) rfl rfl rfl)))))))))
    · exact at_l (at_l (at_l (at_l (at_l (at_l (at_l (at_l (at_r (i := 0) (len_1 _) rfl rfl))))))))
    · exact at_l (at_l (at_l (at_l (at_l (at_l (at_l (at_r (i := 0) (len_2 _) rfl rfl)))))))
    · exact at_l (at_l (at_l (at_l (at_l (at_l (at_r (i := 0) (len_3 _) rfl rfl))))))
    · exact absurd rfl hne.1
    · exact absurd rfl hne.2.1
    · exact absurd rfl hne.2.2
    · rw [show othE (adW h0 img wd w t kk s r0 r1 r2 r3 r4) cI cII cR μ0 8 = .inl (cI, 8, .inl zA) from arrE_z (by decide)]
      exact at_l (at_l (at_l (at_l (at_l (at_l (at_l (at_l (at_l (at_r (n := 1) (i := 10) rfl rfl rfl)))))))))
    · rw [show othE (adW h0 img wd w t kk s r0 r1 r2 r3 r4) cI cII cR μ0 9 = .inl (cI, 8, .inl (m1 8)) from rfl]
      exact at_l (at_l (at_l (at_l (at_l (at_l (at_l (at_l (at_l (at_r (n := 1) (i := 11) rfl rfl rfl)))))))))
    · rw [show othE (adW h0 img wd w t kk s r0 r1 r2 r3 r4) cI cII cR μ0 10 = .inl (cI, 100, .inl zA) from arrE_z (by decide)]
      exact at_l (at_l (at_l (at_l (at_l (at_l (at_l (at_l (at_r (i := 1) (len_1 _) rfl rfl))))))))
    · rw [show othE (adW h0 img wd w t kk s r0 r1 r2 r3 r4) cI cII cR μ0 11 = .inl (cI, 16, .inl zA) from arrE_z (by decide)]
      exact at_l (at_l (at_l (at_l (at_l (at_l (at_r (i := 1) (len_3 _) rfl rfl))))))
    · obtain ⟨i, hi, rfl⟩ : ∃ i, i < 8 ∧ c = 12 + i := ⟨c - 12, by omega, by omega⟩
      rw [show 174 + (12 + i) = 186 + i by omega, adW_w hi]
      have e : othE (adW h0 img wd w t kk s r0 r1 r2 r3 r4) cI cII cR μ0 (12 + i) = .inl (cI, 40, .inl zA) := by
        unfold othE
        simp only [if_neg (show ¬ 12 + i = 0 by omega), if_neg (show ¬ 12 + i = 1 by omega), if_neg (show ¬ 12 + i = 2 by omega), if_neg (show ¬ 12 + i = 3 by omega), if_neg (show ¬ 12 + i = 4 by omega), if_neg (show ¬ 12 + i = 5 by omega), if_neg (show ¬ 12 + i = 6 by omega), if_neg (show ¬ 12 + i = 7 by omega), if_neg (show ¬ 12 + i = 8 by omega), if_neg (show ¬ 12 + i = 9 by omega), if_neg (show ¬ 12 + i = 10 by omega), if_neg (show ¬ 12 + i = 11 by omega)]
        exact arrE_z (by omega)
      rw [e]
      rw [show posW (186 + i) = 1 + (2 + i) from by unfold posW; rw [if_neg (by omega), if_neg (by omega), if_neg (by omega), if_neg (by omega), if_neg (by omega), if_neg (by omega), if_neg (by omega), if_neg (by omega), if_neg (by omega), if_neg (by omega), if_neg (by omega), if_neg (by omega), if_neg (by omega), if_neg (by omega), if_neg (by omega), if_neg (by omega), if_neg (by omega), if_neg (by omega)]; omega]
      refine at_l (at_l (at_l (at_l (at_l (at_l (at_l (at_l (at_l (at_r (n := 1) rfl rfl ?_)))))))))
      unfold wfW
      refine at_l (at_r (n := 2) rfl rfl ?_)
      rw [List.getElem?_map, List.getElem?_range hi]
      rfl
theorem arrV_congr {c : ClassId} {n : Nat} {f g : Nat → Value} (h : ∀ j, j < n → f j = g j) : arrV c n f = arrV c n g := by
  unfold arrV
  congr 1
  congr 1
  funext i
  exact h i.1 i.2
theorem ref_at {D : va_G} {cl : List vw_C} {H : Heap} {a n : Nat} {cA : ClassId} {f g : Nat → Option Nat} (h : ∀ j, j < n → f j = g j) (h1 : va_at D cl (a, .inl (cA, n, .inr (.inr (.inr (.inr f))))) H) : va_at D cl (a, .inl (cA, n, .inr (.inr (.inr (.inr g))))) H := by
  have h2 : H[a]? = some (vp_cell cA (n, .inr (.inr (.inr (.inr f))))) := h1
  show H[a]? = some (vp_cell cA (n, .inr (.inr (.inr (.inr g)))))
  rw [h2, vp_cell_q, vp_cell_q, arrV_congr (fun j hj => congrArg va_rf (h j hj))]
set_option maxHeartbeats 8000000 in
set_option maxRecDepth 100000 in
theorem WfC_ex (k : Nat) (hk : k < 194) : ∃ x, (WfC cI cII cR h0 img w t kk s r0 r1 r2 r3 r4)[posW k]? = some (adW h0 img wd w t kk s r0 r1 r2 r3 r4 k, x) ∧ ∀ (D : va_G) (cl : List vw_C) (H : Heap), va_at D cl (adW h0 img wd w t kk s r0 r1 r2 r3 r4 k, x) H → va_at D cl (adW h0 img wd w t kk s r0 r1 r2 r3 r4 k, EC (adW h0 img wd w t kk s r0 r1 r2 r3 r4) cI cII cR μ0 k) H := by
  by_cases h1 : k = 179
  · subst h1
    refine ⟨.inl (cR, 2, .inr (.inr (.inr (.inr (imW r1 r2))))), at_l (at_l (at_r (i := 0) (len_7 _) rfl rfl)), fun D cl H h => ?_⟩
    refine ref_at (g := fun j => some (adW h0 img wd w t kk s r0 r1 r2 r3 r4 (6 * (1 + j)))) (fun j hj => ?_) h
    have hj2 : j = 0 ∨ j = 1 := by omega
    rcases hj2 with rfl | rfl <;> rfl
  · by_cases h2 : k = 180
    · subst h2
      refine ⟨.inl (cR, 24, .inr (.inr (.inr (.inr (kR 24 kk))))), at_l (at_l (at_l (at_l (at_l (at_l (at_l (at_r (i := 1) (len_2 _) rfl rfl))))))), fun D cl H h => ?_⟩
      refine ref_at (g := fun j => some (adW h0 img wd w t kk s r0 r1 r2 r3 r4 (6 * (5 + j)))) (fun j hj => ?_) h
      unfold kR
      rw [if_pos hj, show 6 * (5 + j) = 6 * (5 + j) + 0 from rfl, adW_k hj (by decide)]
      rfl
    · by_cases h3 : k = 181
      · subst h3
        refine ⟨.inl (cII, 8, .inr (.inr (.inr (.inr (fun i => if i < 8 then some (w (4 + i)) else none))))), at_l (at_l (at_l (at_l (at_l (at_l (at_l (at_l (at_l (at_r (n := 1) (i := 1) rfl rfl rfl))))))))), fun D cl H h => ?_⟩
        refine ref_at (g := fun j => some (adW h0 img wd w t kk s r0 r1 r2 r3 r4 (186 + j))) (fun j hj => ?_) h
        rw [if_pos hj, adW_w hj]
      · exact ⟨_, WfC_at k hk ⟨h1, h2, h3⟩, fun D cl H h => h⟩
theorem WfC_XX {D : va_G} {cl : List vw_C} {H : Heap} {A : Nat → Prop} (hP : va_P D cl (WfC cI cII cR h0 img w t kk s r0 r1 r2 r3 r4) H) (hD : va_D A (WfC cI cII cR h0 img w t kk s r0 r1 r2 r3 r4)) : va_P D cl (XX 194 (adW h0 img wd w t kk s r0 r1 r2 r3 r4) (EC (adW h0 img wd w t kk s r0 r1 r2 r3 r4) cI cII cR) μ0) H ∧ va_D A (XX 194 (adW h0 img wd w t kk s r0 r1 r2 r3 r4) (EC (adW h0 img wd w t kk s r0 r1 r2 r3 r4) cI cII cR) μ0) := by
  refine ⟨fun k q hq => ?_, fun i j p q hi hj hpq => ?_, fun k q hq => ?_⟩
  · obtain ⟨h1, h2⟩ := XX_some hq
    subst h2
    obtain ⟨x, h3, h4⟩ := WfC_ex (wd := wd) (cI := cI) (cII := cII) (cR := cR) (h0 := h0) (img := img) (w := w) (t := t) (kk := kk) (s := s) (r0 := r0) (r1 := r1) (r2 := r2) (r3 := r3) (r4 := r4) k h1
    exact h4 D cl H (hP _ _ h3)
  · obtain ⟨h1, h2⟩ := XX_some hi
    obtain ⟨h3, h4⟩ := XX_some hj
    subst h2 h4
    obtain ⟨x, h5, -⟩ := WfC_ex (wd := wd) (cI := cI) (cII := cII) (cR := cR) (h0 := h0) (img := img) (w := w) (t := t) (kk := kk) (s := s) (r0 := r0) (r1 := r1) (r2 := r2) (r3 := r3) (r4 := r4) i h1
    obtain ⟨y, h6, -⟩ := WfC_ex (wd := wd) (cI := cI) (cII := cII) (cR := cR) (h0 := h0) (img := img) (w := w) (t := t) (kk := kk) (s := s) (r0 := r0) (r1 := r1) (r2 := r2) (r3 := r3) (r4 := r4) j h3
    exact posW_inj i h1 j h3 (hD.1 _ _ _ _ h5 h6 hpq)
  · obtain ⟨h1, h2⟩ := XX_some hq
    subst h2
    obtain ⟨x, h5, -⟩ := WfC_ex (wd := wd) (cI := cI) (cII := cII) (cR := cR) (h0 := h0) (img := img) (w := w) (t := t) (kk := kk) (s := s) (r0 := r0) (r1 := r1) (r2 := r2) (r3 := r3) (r4 := r4) k h1
    exact hD.2 _ (_, x) h5
end WW
