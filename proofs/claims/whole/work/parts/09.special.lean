/-! THE COPY OF A ROW'S ITEMS (System.arraycopy), by hand. -/
def cpM (μ : Mm) (ga : Nat) (i : Int) (gb : Nat) (j n : Int) : Mm := fun g o => if g = gb ∧ j ≤ o ∧ o < j + n then μ ga (i + (o - j)) else μ g o
theorem cpM_ok {μ : Mm} {ga gb : Nat} {i j n : Int} (h : okM μ) : okM (cpM μ ga i gb j n) := fun g o => by
  unfold cpM
  split
  · exact h _ _
  · exact h _ _
theorem cpM_succ (μ : Mm) (ga : Nat) (i : Int) (gb : Nat) (j : Int) (n : Nat) : cpM μ ga i gb j ((n + 1 : Nat) : Int) = sM (cpM μ ga i gb j n) gb (j + n) (μ ga (i + n)) := by
  funext g o
  unfold sM cpM
  by_cases hg : g = gb ∧ o = j + n
  · rw [if_pos hg, if_pos ⟨hg.1, by omega, by omega⟩, show i + (o - j) = i + n by omega]
  · rw [if_neg hg]
    by_cases h2 : g = gb ∧ j ≤ o ∧ o < j + n
    · rw [if_pos h2, if_pos ⟨h2.1, h2.2.1, by omega⟩]
    · rw [if_neg h2, if_neg (fun q => by
        apply h2
        refine ⟨q.1, q.2.1, ?_⟩
        have := q.2.2
        by_cases h3 : o = j + n
        · exact absurd ⟨q.1, h3⟩ hg
        · omega)]
theorem cpM_0 (μ : Mm) (ga : Nat) (i : Int) (gb : Nat) (j : Int) : cpM μ ga i gb j 0 = μ := by
  funext g o
  unfold cpM
  rw [if_neg (by omega)]
theorem EC_cpM {ad : Nat → Nat} {cI cII cR : ClassId} {μ : Mm} {ga gb : Nat} {i j : Int} (hg : 50 ≤ gb ∧ gb < 58) (n : Nat) {k : Nat} (hk : k < 194) (hne : k ≠ 186 + (gb - 50)) : EC ad cI cII cR (cpM μ ga i gb j n) k = EC ad cI cII cR μ k := by
  induction n with
  | zero => rw [show ((0 : Nat) : Int) = 0 from rfl, cpM_0]
  | succ n ih =>
    rw [cpM_succ, EC_oth (Or.inr hg) hk, ih]
    unfold othO
    rw [if_neg (by omega), if_neg (by omega), if_neg (by omega), if_neg (by omega), if_neg (by omega), if_neg (by omega), if_neg (by omega), if_neg (by omega)]
    omega
theorem osw {x a o d : Int} {r : List (Int × Int)} (h : ¬ x = a) : Op.lookupswitch.offset ((a, o) :: r) d x = Op.lookupswitch.offset r d x := by
  rw [Op.lookupswitch.offset_cons, if_neg]
  intro q
  exact h q.symm
section RA
variable {l : Launch} {D : va_G} {cl : List vw_C} {ad : Nat → Nat} {cI cII cR : ClassId} {Z : State → Prop} {own : String} {Ts : List Cond} {cc : ByteArray} {nL : Nat} {R : Room} {ret : Option FieldType} {z : Int × Mm} {G : Mm → Nat → List (Nat × Vv) → List Vv → Prop} {μ : Mm} {pc : Nat} {L : List (Nat × Vv)} {S : List Vv}
theorem q_callNz (hst : stZ 194 ad (ZC ad)) (C : Cx l D cl (tyC cI cII cR) 194 ad (EC ad cI cII cR) (ZC ad) RX4 Ts cc nL R ret z G) {ws ws' : List Cond} {rm : Room} {bytes : ByteArray} {maxL n : Nat} (As S : List Vv) {x2 : Int} {μ2 : Mm} (hM : CT l D cl (tyC cI cII cR) 194 ad (EC ad cI cII cR) (ZC ad) yX5_within ws rm (some .boolean) As μ (x2, μ2)) (hG : GoodIn Ts ws) (hw : ws = Cond.code yX5_within bytes maxL (some .boolean) :: ws') (hrm : rm.cells = 0 ∧ rm.slots = 0) (hw1 : Cond.static yX5_within ∈ Ts) (hw2 : Cond.initialized yX5_within.cls ∈ Ts) (hd : yX5_within.cls ≠ "java/lang/invoke/MethodHandle" ∧ yX5_within.cls ≠ "java/lang/invoke/VarHandle" ∧ (parseMethodDescriptor yX5_within.desc).map (fun d => d.parameters.length) = some n) (hR : rm.frames + 1 ≤ R.frames ∧ 8 + (maxL + 11) + rm.locals ≤ R.locals) (hn : As.length = n) (hroom : ((S.map (tv ad)).map fun v => v.category).sum ≤ 8) (hdg : decode cc pc = .ok (.invokestatic 82, 3)) {S0 : List Vv} (hS0 : As.reverse ++ S = S0) (kk : (x2 = 0 ∨ x2 = 1) → okM μ2 → G μ2 (pc + 3) L (Vi x2 :: S)) : G μ pc L S0 := by
  subst hS0
  obtain ⟨p, e, s, m, args, below, meth, c, A, hx, hb, hml, hr, hown, hts, hlk, hK, hD, hA, hZ, hA2, rfl⟩ := C
  intro H locs ls hMm hS hL hP hSs hl
  have hSr : ∀ v ∈ S, okV v := fun v hv => hS v (List.mem_append_right _ hv)
  have hSa : ∀ v ∈ As, okV v := fun v hv => hS v (List.mem_append_left _ (List.mem_reverse.mpr hv))
  have hF := XX_free (hD μ) hSs hA
  have hNw : va_Nw (.methodLinkNest RX4 82 yX5_within "SwanDeeds") s := (hZ s s.heap [] va_S.rf rfl (State.WarmedH.refl s)).1
  rw [show (As.reverse ++ S).map (tv ad) = (As.map (tv ad)).reverse ++ S.map (tv ad) from by rw [List.map_append, List.map_reverse]]
  have hrun := va_runSN (As := As.map (tv ad)) (rest := S.map (tv ad)) (p := p) (l := l) (e := e) (R := R) (meth := meth) (below := below) (cells := 0) (slots := 0) (H := H) (locs := locs) (g := F0 m pc ls ((As.map (tv ad)).reverse ++ S.map (tv ad))) ⟨hx, hb, hml, hown, hts⟩ (hM hMm hSa H.size) ⟨va_cnB n hts hG hw hrm.1 hrm.2 hNw (hts _ hw2) hd hR, hts _ hw1, trivial⟩ ⟨Pz_blind hst, fun U hU hW => ⟨rfl, by rw [hU], by rw [hU]; exact hP, va_K.moved hW.alike hK, (hD μ).weaken (fun _ _ _ _ => trivial), hZ U H locs hSs hU hW⟩⟩ rfl (by rw [List.length_map]; exact hn) hl.1 rfl (lv_room hroom) hdg ⟨Nat.zero_le _, Nat.zero_le _⟩
  refine va_calli (a := (As.map (tv ad)).toArray) hrun hSs (fun q _ h => hF q h) hF (fun r u t H1 locs1 ht hvm hw hB hz1 hk1 hS1 => ?_)
  rw [hw.1]
  have hP1 : va_P D cl (XX 194 ad (EC ad cI cII cR) μ2) H1 := by rw [← ht]; exact hB
  exact kk hw.2.1 hw.2.2 H1 locs1 ls hw.2.2 (ok_c (in01 hw.2.1) hSr) hL hP1 hS1 hl
theorem q_acopy (C : Cx l D cl (tyC cI cII cR) 194 ad (EC ad cI cII cR) Z own Ts cc nL R ret z G) {index : Nat} {a b : Nat} (ha : a < 8) (hb8 : b < 8) {i j n : Int} (hi : 0 ≤ i) (hj : 0 ≤ j) (hn : 0 ≤ n) (hin : i + n ≤ 40) (hjn : j + n ≤ 40) (hw1 : Cond.methodLink own index arraycopyName ∈ Ts) (hw2 : Cond.native arraycopyName ∈ Ts) (hw3 : Cond.static arraycopyName ∈ Ts) (hw4 : Cond.initialized "java/lang/System" ∈ Ts) (hR : 1 ≤ R.frames ∧ ((S.map (tv ad)).map fun v => v.category).sum + 18 ≤ R.locals) {μ' : Mm} (hμ : μ' = cpM μ (50 + a) i (50 + b) j n) (hd : decode cc pc = .ok (.invokestatic index, 3)) (kk : G μ' (pc + 3) L S) : G μ pc L (Vi n :: Vi j :: Vr (186 + b) :: Vi i :: Vr (186 + a) :: S) := by
  obtain ⟨p, e, s, m, args, below, meth, c, A, hx, hb, hml, hr, hown, hts, hlk, hK, hD, hA, hZ, hA2, rfl⟩ := C
  intro H locs ls hM hS hL hP hSs hl
  subst hμ
  have h1 := ok_t hS
  have h2 := ok_t h1
  have h3 := ok_t h2
  have h4 := ok_t h3
  have hnr : inR n := ok_h hS
  have hjr : inR j := ok_h h1
  have hir : inR i := ok_h h3
  have cn := I3_cl hnr hn
  have cj := I3_cl hjr hj
  have ci := I3_cl hir hi
  have hA0 := tA_items (ad := ad) (cI := cI) (cII := cII) (cR := cR) ha
  have hB0 := tA_items (ad := ad) (cI := cI) (cII := cII) (cR := cR) hb8
  have nn : ∀ {x : Int}, inR x → 0 ≤ x → ¬ I3 x < 0 := fun hx h0 => by
    rw [Int32.lt_iff_toInt_lt, I3_t hx]
    exact Int.not_lt.mpr h0
  refine va_copyi (ty := .int) (n0 := 40) (n1 := 40) hx hb (by rw [hml]; exact hl.1.symm) hown (hts _ hw1) (hts _ hw2) (hts _ hw3) (hts _ hw4) hK hP (hD μ) hSs (186 + a) (186 + b) 0 0 (XX_get hA0.1 |>.trans (congrArg (fun x => some (ad (186 + a), x)) (hA0.2.1 μ))) (XX_get hB0.1 |>.trans (congrArg (fun x => some (ad (186 + b), x)) (hB0.2.1 μ))) rfl rfl rfl (nn hir hi) (nn hjr hj) (nn hnr hn) (by omega) (by omega) (fun _ _ => rfl) hR.1 hR.2 hd (fun H1 locs1 hP1 hD1 hS1 => ?_)
  have e : va_cpy (aF μ (50 + a) 0 40) (aF μ (50 + b) 0 40) (I3 i).toNatClampNeg (I3 j).toNatClampNeg (I3 n).toNatClampNeg = aF (cpM μ (50 + a) i (50 + b) j n) (50 + b) 0 40 := by
    funext q
    unfold va_cpy aF cpM
    by_cases hq : (I3 j).toNatClampNeg ≤ q ∧ q < (I3 j).toNatClampNeg + (I3 n).toNatClampNeg
    · rw [if_pos hq, if_pos (by omega), if_pos (by omega), if_pos ⟨rfl, by omega, by omega⟩]
      congr 2
      omega
    · rw [if_neg hq]
      by_cases h40 : q < 40
      · rw [if_pos h40, if_pos h40, if_neg (fun w => hq (by omega))]
      · rw [if_neg h40, if_neg h40]
  have hnn : n = ((n.toNat : Nat) : Int) := by omega
  rw [e, XX_set (μ' := cpM μ (50 + a) i (50 + b) j n) (hB0.2.1 _).symm (fun k hk hne => by
    rw [hnn]
    exact EC_cpM (by omega) _ hk (by omega))] at hP1
  exact kk H1 locs1 ls (cpM_ok hM) (ok_t h4) hL hP1 hS1 hl
end RA
def f_X3_carry (μ : Mm) (p1 p2 p3 p4 p5 : Int) : Option Mm := chk (0 ≤ p1 ∧ p1 < 8) (chk (0 ≤ p3 ∧ p3 < 8) (chk (0 ≤ p2 ∧ 0 ≤ p4 ∧ 0 ≤ p5 ∧ p2 + p5 ≤ 40 ∧ p4 + p5 ≤ 40) (some (cpM μ (50 + p1.toNat) p2 (50 + p3.toNat) p4 p5))))
theorem hdX3_carry : yX3_carry.cls = RX3 ∧ yX3_carry.cls ≠ "java/lang/invoke/MethodHandle" ∧ yX3_carry.cls ≠ "java/lang/invoke/VarHandle" ∧ (parseMethodDescriptor yX3_carry.desc).map (fun d => d.parameters.length) = some 5 := by decide +kernel
set_option maxHeartbeats 4000000 in
set_option maxRecDepth 100000 in
theorem c_X3_carry {l : Launch} {D : va_G} {ad : Nat → Nat} {cI cII cR : ClassId} (μ : Mm) (p1 p2 p3 p4 p5 : Int) {v : Mm} (hz : f_X3_carry μ p1 p2 p3 p4 p5 = some v) : CT l D vwCl (tyC cI cII cR) 194 ad (EC ad cI cII cR) (ZC ad) yX3_carry wsX3_carry ({ frames := 1, cells := 0, slots := 0, locals := 60 } : Room) none [Vr 175, Vi p1, Vi p2, Vi p3, Vi p4, Vi p5] μ ((0 : Int), v) := by
  refine CT_of [(0, Vr 175), (1, Vi p1), (2, Vi p2), (3, Vi p3), (4, Vi p4), (5, Vi p5)] ZC_st (by decide) rfl rfl (Nat.le_of_ble_eq_true rfl) rfl (fun G C => ?_)
  have i_X3 : ∀ w ∈ u_ws RX3 TX3 3, w ∈ wsX3_carry := by decide +kernel
  have f_11 : Cond.fieldLink (yX3_carry).cls 11 "SwanDeeds$Rows" "items" "[[I" ∈ wsX3_carry := by decide +kernel
  have hz := sat_of hz
  unfold f_X3_carry at hz
  obtain ⟨c1, hz⟩ := sat_chk hz
  obtain ⟨c2, hz⟩ := sat_chk hz
  obtain ⟨c3, hz⟩ := sat_chk hz
  refine q_aload_n C 0 rfl dX3_carry_0 rfl ?_
  refine q_getR tO_X3 C (i := 0) i_X3 rfl rfl (by decide) rfl f_11 dX3_carry_1 ?_
  refine q_iload_n C 1 rfl dX3_carry_4 rfl ?_
  refine q_aald tQ_items C 1 rfl rfl c1 (k' := 186 + p1.toNat) rfl dX3_carry_5 ?_
  refine q_iload_n C 2 rfl dX3_carry_6 rfl ?_
  refine q_aload_n C 0 rfl dX3_carry_7 rfl ?_
  refine q_getR tO_X3 C (i := 0) i_X3 rfl rfl (by decide) rfl f_11 dX3_carry_8 ?_
  refine q_iload_n C 3 rfl dX3_carry_11 rfl ?_
  refine q_aald tQ_items C 1 rfl rfl c2 (k' := 186 + p3.toNat) rfl dX3_carry_12 ?_
  refine q_iload C 4 rfl dX3_carry_13 ?_
  refine q_iload C 5 rfl dX3_carry_15 ?_
  refine q_acopy C (by omega) (by omega) c3.1 c3.2.1 c3.2.2.1 c3.2.2.2.1 c3.2.2.2.2 (by decide +kernel) (by decide +kernel) (by decide +kernel) (by decide +kernel) ⟨by decide, Nat.le_of_ble_eq_true rfl⟩ rfl dX3_carry_17 ?_
  exact q_vret C dX3_carry_20 (congrArg (fun q => ((0 : Int), q)) (sat_eq hz))
