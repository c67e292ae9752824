/-! THE LAW'S WALK: both worlds side by side, the class' first. -/
theorem P_l {D : va_G} {cl : List vw_C} {X Y : va_W} {H : Heap} (h : va_P D cl (X ++ Y) H) : va_P D cl X H := fun k q hk => h k q (at_l hk)
theorem P_r {D : va_G} {cl : List vw_C} {X Y : va_W} {H : Heap} (h : va_P D cl (X ++ Y) H) : va_P D cl Y H := fun k q hk => h (X.length + k) q (by rw [app_get]; exact hk)
theorem D_l {A : Nat → Prop} {X Y : va_W} (h : va_D A (X ++ Y)) : va_D A X := ⟨fun i j p q hi hj e => h.1 i j p q (at_l hi) (at_l hj) e, fun k q hk => h.2 k q (at_l hk)⟩
theorem D_r {A : Nat → Prop} {X Y : va_W} (h : va_D A (X ++ Y)) : va_D A Y := ⟨fun i j p q hi hj e => by
  have := h.1 (X.length + i) (X.length + j) p q (by rw [app_get]; exact hi) (by rw [app_get]; exact hj) e
  omega, fun k q hk => h.2 (X.length + k) q (by rw [app_get]; exact hk)⟩
theorem D_x {A : Nat → Prop} {X Y : va_W} (h : va_D A (X ++ Y)) {i j : Nat} {p q : Nat × va_E} (hi : X[i]? = some p) (hj : Y[j]? = some q) : p.1 ≠ q.1 := fun e => by
  have h1 := h.1 i (X.length + j) p q (at_l hi) (by rw [app_get]; exact hj) e
  have h2 := (List.getElem?_eq_some_iff.mp hi).1
  omega
theorem join_l {A : Nat → Prop} {D : va_G} {cl : List vw_C} {N : Nat} {ad : Nat → Nat} {E : Mm → Nat → va_E} {μ μ2 : Mm} {Y : va_W} {H H1 : Heap} (hP : va_P D cl (XX N ad E μ ++ Y) H) (hD : va_D A (XX N ad E μ ++ Y)) (hk : ∀ q : Nat, q < H.size → ¬ va_A (XX N ad E μ) H.size q → H1[q]? = H[q]?) (hP1 : va_P D cl (XX N ad E μ2) H1) : va_P D cl (XX N ad E μ2 ++ Y) H1 ∧ va_D A (XX N ad E μ2 ++ Y) := by
  refine ⟨va_P.app hP1 ((P_r hP).kept (fun k q hq => hk q.1 (((P_r hP) k q hq).lt) (fun h => ?_))), va_D.app (XX_D (D_l hD)) (D_r hD) (fun i j p q hi hj => ?_)⟩
  · rcases h with ⟨k2, e, h⟩ | h
    · exact D_x hD h hq rfl
    · have := ((P_r hP) k q hq).lt
      omega
  · obtain ⟨h1, h2⟩ := XX_some hi
    subst h2
    exact D_x hD (p := (ad i, E μ i)) (XX_get h1) hj
theorem join_r {A : Nat → Prop} {D : va_G} {cl : List vw_C} {N : Nat} {ad : Nat → Nat} {E : Mm → Nat → va_E} {μ μ2 : Mm} {Y : va_W} {H H1 : Heap} (hP : va_P D cl (Y ++ XX N ad E μ) H) (hD : va_D A (Y ++ XX N ad E μ)) (hk : ∀ q : Nat, q < H.size → ¬ va_A (XX N ad E μ) H.size q → H1[q]? = H[q]?) (hP1 : va_P D cl (XX N ad E μ2) H1) : va_P D cl (Y ++ XX N ad E μ2) H1 ∧ va_D A (Y ++ XX N ad E μ2) := by
  refine ⟨va_P.app ((P_l hP).kept (fun k q hq => hk q.1 (((P_l hP) k q hq).lt) (fun h => ?_))) hP1, va_D.app (D_l hD) (XX_D (D_r hD)) (fun i j p q hi hj => ?_)⟩
  · rcases h with ⟨k2, e, h⟩ | h
    · exact D_x hD hq h rfl
    · have := ((P_l hP) k q hq).lt
      omega
  · obtain ⟨h1, h2⟩ := XX_some hj
    subst h2
    exact D_x hD hi (q := (ad j, E μ j)) (XX_get h1)
def lwZ (below : List Frame) (a : Array Value) (s : State) : State → Prop := fun t => ∃ o, t.status = .running ∧ Ended t below o ∧ (o = .returned (some (.int 1)) ∧ Framed s o t [] 600000 7302250)
def Lx (l : Launch) (D : va_G) (ad am : Nat → Nat) (cI cII cR cZ : ClassId) (L : Nat) (xs : Nat → Int32) (G : Mm → Mm → Nat → Nat → List Value → Prop) : Prop :=
  ∃ (p : Program) (e : Env) (s : State) (m : MethodId) (below : List Frame) (meth : Method) (c : Code) (b k n : Nat),
    p.tables.exec = Jvm.exec ∧ c.code = code ∧ c.maxLocals = 4 ∧ meth.sig.returnType = ret ∧ s.vm.findClass RL = some m.cls ∧ (∀ w ∈ lw_tbl, w.before #[Value.ref b] s = true) ∧ meth.locks = false ∧ va_X b L xs s s.heap ∧ b < s.heap.size ∧ va_K D vwCl (tyC cI cII cR) s ∧ va_K D vwCl (tyM cI cZ) s ∧ ZC ad s ∧ k ≤ 600000 ∧ n ≤ 7302250 ∧
    G = fun (μ ν : Mm) (i pc : Nat) (S : List Value) => ∀ (H : Heap) (locs : List Loc) (ls : Array Slot), va_P D vwCl (XX 194 ad (EC ad cI cII cR) μ ++ XX 10 am (EM am cI cZ) ν) H → va_D (fun q => s.heap.size ≤ q) (XX 194 ad (EC ad cI cII cR) μ ++ XX 10 am (EM am cI cZ) ν) → va_S (fun q => s.heap.size ≤ q) s.heap H locs → lv_has ls 4 [(3, .int (I3 (i : Int))), (2, .ref (am 0)), (1, .ref (ad 174)), (0, .ref b)] → W p l e room_1 s m #[Value.ref b] below meth c H locs k n (lwZ below #[Value.ref b] s) (F0 m pc ls S)
theorem I3_of (x : Int32) : I3 x.toInt = x := Int32.ofInt_toInt x
abbrev Xi (xs : Nat → Int32) (k : Nat) : Int := (xs k).toInt
theorem Xi_R (xs : Nat → Int32) (k : Nat) : inR (Xi xs k) := ⟨by have := Int32.le_toInt (xs k); simpa using this, by have := Int32.toInt_lt (xs k); simpa using this⟩
def ags (xs : Nat → Int32) (i n : Nat) : List Vv := (List.range n).map (fun k => Vi (Xi xs (i + (1 + k))))
def pushJ (j : Nat) : Instr × Nat := if j < 6 then (.iconst (j : Int), 1) else (.bipush (j : Int), 2)
def argL : Nat → Nat → List (Instr × Nat)
  | _, 0 => []
  | j, n + 1 => (.aload_n 0, 1) :: (.iload_n 3, 1) :: pushJ j :: (.iadd, 1) :: (.iaload, 1) :: argL (j + 1) n
def caseL (n iC iM : Nat) (tail : List (Instr × Nat)) : List (Instr × Nat) := (.aload_n 1, 1) :: (argL 1 n ++ ((.invokevirtual iC, 3) :: (.aload_n 2, 1) :: (argL 1 n ++ ((.invokevirtual iM, 3) :: tail))))
abbrev lenL (l : List (Instr × Nat)) : Nat := (l.map (fun q => q.2)).sum
theorem Facts_app {cc : ByteArray} : ∀ (a b : List (Instr × Nat)) (pc : Nat), DS.Facts cc pc (a ++ b) → DS.Facts cc pc a ∧ DS.Facts cc (pc + lenL a) b
  | [], b, pc, h => ⟨trivial, h⟩
  | (o, w) :: a, b, pc, h => by
    obtain ⟨h1, h2⟩ := h
    obtain ⟨h3, h4⟩ := Facts_app a b (pc + w) h2
    refine ⟨⟨h1, h3⟩, ?_⟩
    have e : pc + lenL ((o, w) :: a) = pc + w + lenL a := by
      show pc + (w + lenL a) = _
      omega
    rw [e]
    exact h4
section LW
variable {l : Launch} {D : va_G} {ad am : Nat → Nat} {cI cII cR cZ : ClassId} {L : Nat} {xs : Nat → Int32} {G : Mm → Mm → Nat → Nat → List Value → Prop} {μ ν : Mm} {i pc : Nat} {S : List Value}
theorem y_a1 (C : Lx l D ad am cI cII cR cZ L xs G) (hd : decode code pc = .ok (.aload_n 1, 1)) (kk : G μ ν i (pc + 1) (.ref (ad 174) :: S)) : G μ ν i pc S := by
  obtain ⟨p, e, s, m, below, meth, c, b, k, n, hx, hb, hml, hr, hown, hts, hlk, hX, hbl, hKC, hKM, hZ, hk, hn, rfl⟩ := C
  intro H locs ls hP hD hS hl
  exact lv_aload_n hx hb hd rfl (lv_at hl 2 rfl) (kk H locs ls hP hD hS hl)
theorem y_a2 (C : Lx l D ad am cI cII cR cZ L xs G) (hd : decode code pc = .ok (.aload_n 2, 1)) (kk : G μ ν i (pc + 1) (.ref (am 0) :: S)) : G μ ν i pc S := by
  obtain ⟨p, e, s, m, below, meth, c, b, k, n, hx, hb, hml, hr, hown, hts, hlk, hX, hbl, hKC, hKM, hZ, hk, hn, rfl⟩ := C
  intro H locs ls hP hD hS hl
  exact lv_aload_n hx hb hd rfl (lv_at hl 1 rfl) (kk H locs ls hP hD hS hl)
theorem y_arg (C : Lx l D ad am cI cII cR cZ L xs G) (hL : L ≤ 3584) {j : Nat} (hj : 1 ≤ j ∧ j ≤ 6) (hi : i + 7 ≤ L) {o : Instr} {w : Nat} (ho : (o = .iconst (j : Int) ∧ w = 1) ∨ (o = .bipush (j : Int) ∧ w = 2)) (h0 : decode code pc = .ok (.aload_n 0, 1)) (h1 : decode code (pc + 1) = .ok (.iload_n 3, 1)) (h2 : decode code (pc + 1 + 1) = .ok (o, w)) (h3 : decode code (pc + 1 + 1 + w) = .ok (.iadd, 1)) (h4 : decode code (pc + 1 + 1 + w + 1) = .ok (.iaload, 1)) (kk : G μ ν i (pc + 1 + 1 + w + 1 + 1) (.int (xs (i + j)) :: S)) : G μ ν i pc S := by
  obtain ⟨p, e, s, m, below, meth, c, b, k, n, hx, hb, hml, hr, hown, hts, hlk, hX, hbl, hKC, hKM, hZ, hk, hn, rfl⟩ := C
  intro H locs ls hP hD hS hl
  refine lv_aload_n hx hb h0 rfl (lv_at hl 3 rfl) ?_
  refine lv_iload_n hx hb h1 rfl (lv_at hl 0 rfl) ?_
  have fin : W p l e room_1 s m #[Value.ref b] below meth c H locs k n (lwZ below #[Value.ref b] s) (F0 m (pc + 1 + 1 + w) ls (.int (I3 (j : Int)) :: .int (I3 (i : Int)) :: .ref b :: S)) := by
    refine lv_iadd hx hb h3 ?_
    have hir : inR ((i + j : Nat) : Int) := ⟨by omega, by omega⟩
    have hcl := I3_cl hir (Int.natCast_nonneg _)
    have e1 : I3 (i : Int) + I3 (j : Int) = I3 ((i + j : Nat) : Int) := by
      show Int32.ofInt (i : Int) + Int32.ofInt (j : Int) = Int32.ofInt ((i + j : Nat) : Int)
      rw [← Int32.ofInt_add]
      rfl
    have e2 : (I3 ((i + j : Nat) : Int)).toNatClampNeg = i + j := by omega
    rw [e1]
    refine va_sld hx hb hX hbl (fun q => by omega) hS (I3_in hir (by omega) (by omega)) h4 ?_
    rw [e2]
    exact kk H locs ls hP hD hS hl
  rcases ho with ⟨rfl, rfl⟩ | ⟨rfl, rfl⟩
  · exact lv_iconst (v := I3 (j : Int)) hx hb h2 rfl fin
  · refine lv_bipush (v := I3 (j : Int)) hx hb h2 ?_ fin
    have hj2 : j = 1 ∨ j = 2 ∨ j = 3 ∨ j = 4 ∨ j = 5 ∨ j = 6 := by omega
    rcases hj2 with rfl | rfl | rfl | rfl | rfl | rfl <;> decide +kernel
theorem y_args (C : Lx l D ad am cI cII cR cZ L xs G) (hL : L ≤ 3584) (hi : i + 7 ≤ L) : ∀ (n j pc : Nat) (S : List Value), 1 ≤ j → j + n ≤ 7 → DS.Facts code pc (argL j n) → G μ ν i (pc + lenL (argL j n)) (((List.range n).map (fun k => Value.int (xs (i + (j + k))))).reverse ++ S) → G μ ν i pc S
  | 0, j, pc, S, _, _, _, kk => kk
  | n + 1, j, pc, S, h1, h2, hF, kk => by
    obtain ⟨f0, f1, f2, f3, f4, f5⟩ := hF
    refine y_arg C hL (j := j) (o := (pushJ j).1) (w := (pushJ j).2) ⟨h1, by omega⟩ hi ?_ f0 f1 f2 f3 f4 ?_
    · unfold pushJ
      by_cases hj : j < 6
      · rw [if_pos hj]; exact Or.inl ⟨rfl, rfl⟩
      · rw [if_neg hj]; exact Or.inr ⟨rfl, rfl⟩
    · refine y_args C hL hi n (j + 1) _ _ (by omega) (by omega) f5 ?_
      have e1 : pc + lenL (argL j (n + 1)) = pc + 1 + 1 + (pushJ j).2 + 1 + 1 + lenL (argL (j + 1) n) := by
        show pc + (1 + (1 + ((pushJ j).2 + (1 + (1 + lenL (argL (j + 1) n)))))) = _
        omega
      have e2 : ((List.range (n + 1)).map (fun k => Value.int (xs (i + (j + k))))).reverse ++ S = ((List.range n).map (fun k => Value.int (xs (i + (j + 1 + k))))).reverse ++ (Value.int (xs (i + j)) :: S) := by
        rw [List.range_succ_eq_map, List.map_cons, List.map_map, List.reverse_cons, List.append_assoc]
        have e3 : (fun k => Value.int (xs (i + (j + k)))) ∘ Nat.succ = fun k => Value.int (xs (i + (j + 1 + k))) := by
          funext k
          show Value.int (xs (i + (j + (k + 1)))) = _
          rw [show i + (j + (k + 1)) = i + (j + 1 + k) by omega]
        rw [e3]
        rfl
      rw [e1, e2] at kk
      exact kk
theorem ags_tv (n : Nat) (a : Nat → Nat) : (ags xs i n).map (tv a) = (List.range n).map (fun k => Value.int (xs (i + (1 + k)))) := by
  unfold ags
  rw [List.map_map]
  apply List.map_congr_left
  intro k _
  show Value.int (I3 (xs (i + (1 + k))).toInt) = _
  rw [I3_of]
theorem ags_ok (n : Nat) : ∀ v ∈ ags xs i n, okV v := by
  intro v hv
  obtain ⟨k, -, rfl⟩ := List.mem_map.mp hv
  exact Xi_R xs _
theorem ags_len (n : Nat) : (ags xs i n).length = n := by unfold ags; rw [List.length_map, List.length_range]
theorem y_callCi (C : Lx l D ad am cI cII cR cZ L xs G) {y : MethodName} {wsc ws' : List Cond} {rm : Room} {bytes : ByteArray} {maxL n index : Nat} (As : List Vv) {z : Int × Mm} (hM : CT l D vwCl (tyC cI cII cR) 194 ad (EC ad cI cII cR) (ZC ad) y wsc rm (some .int) (Vr 174 :: As) μ z) (hA : ∀ v ∈ As, okV v) (hm : okM μ) (hG : GoodIn lw_tbl (wsV RL index RX5 y wsc)) (hw : wsc = Cond.code y bytes maxL (some .int) :: ws') (hrm : rm.cells = 0 ∧ rm.slots = 0) (hd : y.cls = RX5 ∧ y.cls ≠ "java/lang/invoke/MethodHandle" ∧ y.cls ≠ "java/lang/invoke/VarHandle" ∧ (parseMethodDescriptor y.desc).map (fun d => d.parameters.length) = some n) (hR : rm.frames + 1 ≤ 10 ∧ 8 + (maxL + 11) + rm.locals ≤ 408) (hn : As.length = n) (hroom : (S.map fun v => v.category).sum ≤ 8) (hdg : decode code pc = .ok (.invokevirtual index, 3)) (kk : inR z.1 → okM z.2 → G z.2 ν i (pc + 3) (.int (I3 z.1) :: S)) : G μ ν i pc ((As.map (tv ad)).reverse ++ .ref (ad 174) :: S) := by
  obtain ⟨p, e, s, m, below, meth, c, b, k, n', hx, hb, hml, hr, hown, hts, hlk, hX, hbl, hKC, hKM, hZ, hk, hn', rfl⟩ := C
  intro H locs ls hP hD hS hl
  have hSa : ∀ v ∈ (Vr 174 :: As), okV v := fun v hv => by
    rcases List.mem_cons.mp hv with h | h
    · rw [h]; trivial
    · exact hA v h
  have hPc := P_l hP
  have hDc := D_l hD
  have hF := XX_free hDc hS (fun q h => h)
  obtain ⟨h1, h2, h3, h4⟩ := tO_X5 (ad := ad) (cI := cI) (cII := cII) (cR := cR)
  have hcell : (XX 194 ad (EC ad cI cII cR) μ)[174]? = some (ad 174, .inr (5, FX5.map (fv ad μ))) := (XX_get h1).trans (congrArg (fun x => some (ad 174, x)) (h2 μ))
  have hrun := va_runV (As := As.map (tv ad)) (rest := S) (p := p) (l := l) (e := e) (R := room_1) (meth := meth) (below := below) (cells := k) (slots := n') (H := H) (locs := locs) (g := F0 m pc ls ((As.map (tv ad)).reverse ++ Value.ref (ad 174) :: S)) ⟨hx, hb, hml, hown, hts⟩ (hM hm hSa H.size) (cwV n hts hG hw hrm.1 hrm.2 hd hR) ⟨Pz_blind ZC_st, va_recv hKC hPc (ci := 5) (q0 := 174) (q := (RX5, TX5, 9)) rfl hcell, fun U hU hW => ⟨rfl, by rw [hU], by rw [hU]; exact hPc, va_K.moved hW.alike hKC, hDc.weaken (fun _ _ _ _ => trivial), ZC_st s U hZ hW (by rw [hU]; exact hS.1) (fun q a1 a2 => by rw [hU]; exact hS.2.1 q a1 (by omega))⟩⟩ rfl (by rw [List.length_map]; exact hn) hl.1 rfl (lv_room hroom) hdg ⟨by show k + 0 ≤ 600000; omega, by show n' + 0 ≤ 7302250; omega⟩
  refine va_calli (a := (Value.ref (ad 174) :: As.map (tv ad)).toArray) hrun hS (fun q _ h => hF q h) hF (fun r u t H1 locs1 ht hvm hw hB hz1 hk1 hS1 => ?_)
  rw [hw.1]
  have hP1 : va_P D vwCl (XX 194 ad (EC ad cI cII cR) z.2) H1 := by rw [← ht]; exact hB
  obtain ⟨hP2, hD2⟩ := join_l hP hD hk1 hP1
  exact kk hw.2.1 hw.2.2 H1 locs1 ls hP2 hD2 hS1 hl
theorem y_callCl (C : Lx l D ad am cI cII cR cZ L xs G) {y : MethodName} {wsc ws' : List Cond} {rm : Room} {bytes : ByteArray} {maxL n index : Nat} (As : List Vv) {z : Int × Mm} (hM : CT l D vwCl (tyC cI cII cR) 194 ad (EC ad cI cII cR) (ZC ad) y wsc rm (some .long) (Vr 174 :: As) μ z) (hA : ∀ v ∈ As, okV v) (hm : okM μ) (hG : GoodIn lw_tbl (wsV RL index RX5 y wsc)) (hw : wsc = Cond.code y bytes maxL (some .long) :: ws') (hrm : rm.cells = 0 ∧ rm.slots = 0) (hd : y.cls = RX5 ∧ y.cls ≠ "java/lang/invoke/MethodHandle" ∧ y.cls ≠ "java/lang/invoke/VarHandle" ∧ (parseMethodDescriptor y.desc).map (fun d => d.parameters.length) = some n) (hR : rm.frames + 1 ≤ 10 ∧ 8 + (maxL + 11) + rm.locals ≤ 408) (hn : As.length = n) (hroom : (S.map fun v => v.category).sum ≤ 8) (hdg : decode code pc = .ok (.invokevirtual index, 3)) (kk : inL z.1 → okM z.2 → G z.2 ν i (pc + 3) (.long (J6 z.1) :: S)) : G μ ν i pc ((As.map (tv ad)).reverse ++ .ref (ad 174) :: S) := by
  obtain ⟨p, e, s, m, below, meth, c, b, k, n', hx, hb, hml, hr, hown, hts, hlk, hX, hbl, hKC, hKM, hZ, hk, hn', rfl⟩ := C
  intro H locs ls hP hD hS hl
  have hSa : ∀ v ∈ (Vr 174 :: As), okV v := fun v hv => by
    rcases List.mem_cons.mp hv with h | h
    · rw [h]; trivial
    · exact hA v h
  have hPc := P_l hP
  have hDc := D_l hD
  have hF := XX_free hDc hS (fun q h => h)
  obtain ⟨h1, h2, h3, h4⟩ := tO_X5 (ad := ad) (cI := cI) (cII := cII) (cR := cR)
  have hcell : (XX 194 ad (EC ad cI cII cR) μ)[174]? = some (ad 174, .inr (5, FX5.map (fv ad μ))) := (XX_get h1).trans (congrArg (fun x => some (ad 174, x)) (h2 μ))
  have hrun := va_runV (As := As.map (tv ad)) (rest := S) (p := p) (l := l) (e := e) (R := room_1) (meth := meth) (below := below) (cells := k) (slots := n') (H := H) (locs := locs) (g := F0 m pc ls ((As.map (tv ad)).reverse ++ Value.ref (ad 174) :: S)) ⟨hx, hb, hml, hown, hts⟩ (hM hm hSa H.size) (cwV n hts hG hw hrm.1 hrm.2 hd hR) ⟨Pz_blind ZC_st, va_recv hKC hPc (ci := 5) (q0 := 174) (q := (RX5, TX5, 9)) rfl hcell, fun U hU hW => ⟨rfl, by rw [hU], by rw [hU]; exact hPc, va_K.moved hW.alike hKC, hDc.weaken (fun _ _ _ _ => trivial), ZC_st s U hZ hW (by rw [hU]; exact hS.1) (fun q a1 a2 => by rw [hU]; exact hS.2.1 q a1 (by omega))⟩⟩ rfl (by rw [List.length_map]; exact hn) hl.1 rfl (lv_room hroom) hdg ⟨by show k + 0 ≤ 600000; omega, by show n' + 0 ≤ 7302250; omega⟩
  refine va_calll (a := (Value.ref (ad 174) :: As.map (tv ad)).toArray) hrun hS (fun q _ h => hF q h) hF (fun r u t H1 locs1 ht hvm hw hB hz1 hk1 hS1 => ?_)
  rw [hw.1]
  have hP1 : va_P D vwCl (XX 194 ad (EC ad cI cII cR) z.2) H1 := by rw [← ht]; exact hB
  obtain ⟨hP2, hD2⟩ := join_l hP hD hk1 hP1
  exact kk hw.2.1 hw.2.2 H1 locs1 ls hP2 hD2 hS1 hl
theorem y_callMi (C : Lx l D ad am cI cII cR cZ L xs G) {y : MethodName} {wsc ws' : List Cond} {rm : Room} {bytes : ByteArray} {maxL n index : Nat} (As : List Vv) {z : Int × Mm} (hM : CT l D vwCl (tyM cI cZ) 10 am (EM am cI cZ) (fun _ => True) y wsc rm (some .int) (Vr 0 :: As) ν z) (hA : ∀ v ∈ As, okV v) (hm : okM ν) (hG : GoodIn lw_tbl (wsV RL index RX6 y wsc)) (hw : wsc = Cond.code y bytes maxL (some .int) :: ws') (hrm : rm.cells = 0 ∧ rm.slots = 0) (hd : y.cls = RX6 ∧ y.cls ≠ "java/lang/invoke/MethodHandle" ∧ y.cls ≠ "java/lang/invoke/VarHandle" ∧ (parseMethodDescriptor y.desc).map (fun d => d.parameters.length) = some n) (hR : rm.frames + 1 ≤ 10 ∧ 8 + (maxL + 11) + rm.locals ≤ 408) (hn : As.length = n) (hroom : (S.map fun v => v.category).sum ≤ 8) (hdg : decode code pc = .ok (.invokevirtual index, 3)) (kk : inR z.1 → okM z.2 → G μ z.2 i (pc + 3) (.int (I3 z.1) :: S)) : G μ ν i pc ((As.map (tv am)).reverse ++ .ref (am 0) :: S) := by
  obtain ⟨p, e, s, m, below, meth, c, b, k, n', hx, hb, hml, hr, hown, hts, hlk, hX, hbl, hKC, hKM, hZ, hk, hn', rfl⟩ := C
  intro H locs ls hP hD hS hl
  have hSa : ∀ v ∈ (Vr 0 :: As), okV v := fun v hv => by
    rcases List.mem_cons.mp hv with h | h
    · rw [h]; trivial
    · exact hA v h
  have hPc := P_r hP
  have hDc := D_r hD
  have hF := XX_free hDc hS (fun q h => h)
  obtain ⟨h1, h2, h3, h4⟩ := tO_X6 (ad := am) (cI := cI) (cZ := cZ)
  have hcell : (XX 10 am (EM am cI cZ) ν)[0]? = some (am 0, .inr (6, FX6.map (fv am ν))) := (XX_get h1).trans (congrArg (fun x => some (am 0, x)) (h2 ν))
  have hrun := va_runV (As := As.map (tv am)) (rest := S) (p := p) (l := l) (e := e) (R := room_1) (meth := meth) (below := below) (cells := k) (slots := n') (H := H) (locs := locs) (g := F0 m pc ls ((As.map (tv am)).reverse ++ Value.ref (am 0) :: S)) ⟨hx, hb, hml, hown, hts⟩ (hM hm hSa H.size) (cwV n hts hG hw hrm.1 hrm.2 hd hR) ⟨Pz_blind stZ_t, va_recv hKM hPc (ci := 6) (q0 := 0) (q := (RX6, TX6, 19)) rfl hcell, fun U hU hW => ⟨rfl, by rw [hU], by rw [hU]; exact hPc, va_K.moved hW.alike hKM, hDc.weaken (fun _ _ _ _ => trivial), trivial⟩⟩ rfl (by rw [List.length_map]; exact hn) hl.1 rfl (lv_room hroom) hdg ⟨by show k + 0 ≤ 600000; omega, by show n' + 0 ≤ 7302250; omega⟩
  refine va_calli (a := (Value.ref (am 0) :: As.map (tv am)).toArray) hrun hS (fun q _ h => hF q h) hF (fun r u t H1 locs1 ht hvm hw hB hz1 hk1 hS1 => ?_)
  rw [hw.1]
  have hP1 : va_P D vwCl (XX 10 am (EM am cI cZ) z.2) H1 := by rw [← ht]; exact hB
  obtain ⟨hP2, hD2⟩ := join_r hP hD hk1 hP1
  exact kk hw.2.1 hw.2.2 H1 locs1 ls hP2 hD2 hS1 hl
theorem y_callMl (C : Lx l D ad am cI cII cR cZ L xs G) {y : MethodName} {wsc ws' : List Cond} {rm : Room} {bytes : ByteArray} {maxL n index : Nat} (As : List Vv) {z : Int × Mm} (hM : CT l D vwCl (tyM cI cZ) 10 am (EM am cI cZ) (fun _ => True) y wsc rm (some .long) (Vr 0 :: As) ν z) (hA : ∀ v ∈ As, okV v) (hm : okM ν) (hG : GoodIn lw_tbl (wsV RL index RX6 y wsc)) (hw : wsc = Cond.code y bytes maxL (some .long) :: ws') (hrm : rm.cells = 0 ∧ rm.slots = 0) (hd : y.cls = RX6 ∧ y.cls ≠ "java/lang/invoke/MethodHandle" ∧ y.cls ≠ "java/lang/invoke/VarHandle" ∧ (parseMethodDescriptor y.desc).map (fun d => d.parameters.length) = some n) (hR : rm.frames + 1 ≤ 10 ∧ 8 + (maxL + 11) + rm.locals ≤ 408) (hn : As.length = n) (hroom : (S.map fun v => v.category).sum ≤ 8) (hdg : decode code pc = .ok (.invokevirtual index, 3)) (kk : inL z.1 → okM z.2 → G μ z.2 i (pc + 3) (.long (J6 z.1) :: S)) : G μ ν i pc ((As.map (tv am)).reverse ++ .ref (am 0) :: S) := by
  obtain ⟨p, e, s, m, below, meth, c, b, k, n', hx, hb, hml, hr, hown, hts, hlk, hX, hbl, hKC, hKM, hZ, hk, hn', rfl⟩ := C
  intro H locs ls hP hD hS hl
  have hSa : ∀ v ∈ (Vr 0 :: As), okV v := fun v hv => by
    rcases List.mem_cons.mp hv with h | h
    · rw [h]; trivial
    · exact hA v h
  have hPc := P_r hP
  have hDc := D_r hD
  have hF := XX_free hDc hS (fun q h => h)
  obtain ⟨h1, h2, h3, h4⟩ := tO_X6 (ad := am) (cI := cI) (cZ := cZ)
  have hcell : (XX 10 am (EM am cI cZ) ν)[0]? = some (am 0, .inr (6, FX6.map (fv am ν))) := (XX_get h1).trans (congrArg (fun x => some (am 0, x)) (h2 ν))
  have hrun := va_runV (As := As.map (tv am)) (rest := S) (p := p) (l := l) (e := e) (R := room_1) (meth := meth) (below := below) (cells := k) (slots := n') (H := H) (locs := locs) (g := F0 m pc ls ((As.map (tv am)).reverse ++ Value.ref (am 0) :: S)) ⟨hx, hb, hml, hown, hts⟩ (hM hm hSa H.size) (cwV n hts hG hw hrm.1 hrm.2 hd hR) ⟨Pz_blind stZ_t, va_recv hKM hPc (ci := 6) (q0 := 0) (q := (RX6, TX6, 19)) rfl hcell, fun U hU hW => ⟨rfl, by rw [hU], by rw [hU]; exact hPc, va_K.moved hW.alike hKM, hDc.weaken (fun _ _ _ _ => trivial), trivial⟩⟩ rfl (by rw [List.length_map]; exact hn) hl.1 rfl (lv_room hroom) hdg ⟨by show k + 0 ≤ 600000; omega, by show n' + 0 ≤ 7302250; omega⟩
  refine va_calll (a := (Value.ref (am 0) :: As.map (tv am)).toArray) hrun hS (fun q _ h => hF q h) hF (fun r u t H1 locs1 ht hvm hw hB hz1 hk1 hS1 => ?_)
  rw [hw.1]
  have hP1 : va_P D vwCl (XX 10 am (EM am cI cZ) z.2) H1 := by rw [← ht]; exact hB
  obtain ⟨hP2, hD2⟩ := join_r hP hD hk1 hP1
  exact kk hw.2.1 hw.2.2 H1 locs1 ls hP2 hD2 hS1 hl
theorem y_eq (C : Lx l D ad am cI cII cR cZ L xs G) {x y : Int} (hxy : y = x) {off : Int} {tgt : Nat} (hd : decode code pc = .ok (.if_icmp .eq off, 3)) (ht : (pc : Int) + off = (tgt : Int)) (kk : G μ ν i tgt S) : G μ ν i pc (.int (I3 y) :: .int (I3 x) :: S) := by
  obtain ⟨p, e, s, m, below, meth, c, b, k, n', hx, hb, hml, hr, hown, hts, hlk, hX, hbl, hKC, hKM, hZ, hk, hn', rfl⟩ := C
  intro H locs ls hP hD hS hl
  subst hxy
  exact lv_icmp_eq hx hb hd ht (fun _ => kk H locs ls hP hD hS hl) (fun h => absurd rfl h)
theorem y_leq (C : Lx l D ad am cI cII cR cZ L xs G) {x y : Int} (hxy : y = x) {off : Int} {tgt : Nat} (hd0 : decode code pc = .ok (.lcmp, 1)) (hd : decode code (pc + 1) = .ok (.ifCond .eq off, 3)) (ht : ((pc + 1 : Nat) : Int) + off = (tgt : Int)) (kk : G μ ν i tgt S) : G μ ν i pc (.long (J6 y) :: .long (J6 x) :: S) := by
  obtain ⟨p, e, s, m, below, meth, c, b, k, n', hx, hb, hml, hr, hown, hts, hlk, hX, hbl, hKC, hKM, hZ, hk, hn', rfl⟩ := C
  intro H locs ls hP hD hS hl
  subst hxy
  refine W.lcmp hx hb hd0 ?_
  have e0 : lg_cmp (J6 y) (J6 y) = 0 := by
    unfold lg_cmp
    simp
  rw [e0]
  exact lv_if_eq hx hb hd ht (fun _ => kk H locs ls hP hD hS hl) (fun h => absurd rfl h)

theorem law_casei (C : Lx l D ad am cI cII cR cZ L xs G) (hL : L ≤ 3584) (hi : i + 7 ≤ L) (n : Nat) (hn6 : n ≤ 6) {iC iM : Nat} {off : Int} {yC yM : MethodName} {wsC wsC' wsM wsM' : List Cond} {rmC rmM : Room} {bC bM : ByteArray} {mlC mlM : Nat} {z y : Int × Mm}
    (hF : DS.Facts code pc (caseL n iC iM [(.if_icmp .eq off, 3)])) (hM : CT l D vwCl (tyC cI cII cR) 194 ad (EC ad cI cII cR) (ZC ad) yC wsC rmC (some .int) (Vr 174 :: ags xs i n) μ z) (hN : CT l D vwCl (tyM cI cZ) 10 am (EM am cI cZ) (fun _ => True) yM wsM rmM (some .int) (Vr 0 :: ags xs i n) ν y) (hzy : y.1 = z.1) (hμ : okM μ) (hν : okM ν)
    (hGC : GoodIn lw_tbl (wsV RL iC RX5 yC wsC)) (hwC : wsC = Cond.code yC bC mlC (some .int) :: wsC') (hrC : rmC.cells = 0 ∧ rmC.slots = 0) (hdC : yC.cls = RX5 ∧ yC.cls ≠ "java/lang/invoke/MethodHandle" ∧ yC.cls ≠ "java/lang/invoke/VarHandle" ∧ (parseMethodDescriptor yC.desc).map (fun d => d.parameters.length) = some n) (hRC : rmC.frames + 1 ≤ 10 ∧ 8 + (mlC + 11) + rmC.locals ≤ 408)
    (hGM : GoodIn lw_tbl (wsV RL iM RX6 yM wsM)) (hwM : wsM = Cond.code yM bM mlM (some .int) :: wsM') (hrM : rmM.cells = 0 ∧ rmM.slots = 0) (hdM : yM.cls = RX6 ∧ yM.cls ≠ "java/lang/invoke/MethodHandle" ∧ yM.cls ≠ "java/lang/invoke/VarHandle" ∧ (parseMethodDescriptor yM.desc).map (fun d => d.parameters.length) = some n) (hRM : rmM.frames + 1 ≤ 10 ∧ 8 + (mlM + 11) + rmM.locals ≤ 408)
    (hoff : ∃ s, lenL (argL 1 n) = s ∧ ((pc + s + s + 8 : Nat) : Int) + off = ((1481 : Nat) : Int)) (kk : okM z.2 → okM y.2 → G z.2 y.2 i 1481 []) : G μ ν i pc [] := by
  obtain ⟨f0, hF⟩ := hF
  obtain ⟨f1, f2, f3, hF⟩ := Facts_app _ _ _ hF
  obtain ⟨f4, f5, hF⟩ := Facts_app _ _ _ hF
  obtain ⟨sl, hs, hoff⟩ := hoff
  refine y_a1 C f0 ?_
  refine y_args C hL hi n 1 _ _ (by decide) (by omega) f1 ?_
  rw [← ags_tv n ad]
  refine y_callCi C (S := []) (ags xs i n) hM (ags_ok n) hμ hGC hwC hrC hdC hRC (ags_len n) (Nat.zero_le _) f2 (fun hz1 hz2 => ?_)
  refine y_a2 C f3 ?_
  refine y_args C hL hi n 1 _ _ (by decide) (by omega) f4 ?_
  rw [← ags_tv n am]
  refine y_callMi C (S := [.int (I3 z.1)]) (ags xs i n) hN (ags_ok n) hν hGM hwM hrM hdM hRM (ags_len n) (Nat.le_of_ble_eq_true rfl) f5 (fun hy1 hy2 => ?_)

  obtain ⟨f6, -⟩ := hF
  exact y_eq C hzy f6 (by rw [hs] at *; omega) (kk hz2 hy2)
theorem law_casel (C : Lx l D ad am cI cII cR cZ L xs G) (hL : L ≤ 3584) (hi : i + 7 ≤ L) (n : Nat) (hn6 : n ≤ 6) {iC iM : Nat} {off : Int} {yC yM : MethodName} {wsC wsC' wsM wsM' : List Cond} {rmC rmM : Room} {bC bM : ByteArray} {mlC mlM : Nat} {z y : Int × Mm}
    (hF : DS.Facts code pc (caseL n iC iM [(.lcmp, 1), (.ifCond .eq off, 3)])) (hM : CT l D vwCl (tyC cI cII cR) 194 ad (EC ad cI cII cR) (ZC ad) yC wsC rmC (some .long) (Vr 174 :: ags xs i n) μ z) (hN : CT l D vwCl (tyM cI cZ) 10 am (EM am cI cZ) (fun _ => True) yM wsM rmM (some .long) (Vr 0 :: ags xs i n) ν y) (hzy : y.1 = z.1) (hμ : okM μ) (hν : okM ν)
    (hGC : GoodIn lw_tbl (wsV RL iC RX5 yC wsC)) (hwC : wsC = Cond.code yC bC mlC (some .long) :: wsC') (hrC : rmC.cells = 0 ∧ rmC.slots = 0) (hdC : yC.cls = RX5 ∧ yC.cls ≠ "java/lang/invoke/MethodHandle" ∧ yC.cls ≠ "java/lang/invoke/VarHandle" ∧ (parseMethodDescriptor yC.desc).map (fun d => d.parameters.length) = some n) (hRC : rmC.frames + 1 ≤ 10 ∧ 8 + (mlC + 11) + rmC.locals ≤ 408)
    (hGM : GoodIn lw_tbl (wsV RL iM RX6 yM wsM)) (hwM : wsM = Cond.code yM bM mlM (some .long) :: wsM') (hrM : rmM.cells = 0 ∧ rmM.slots = 0) (hdM : yM.cls = RX6 ∧ yM.cls ≠ "java/lang/invoke/MethodHandle" ∧ yM.cls ≠ "java/lang/invoke/VarHandle" ∧ (parseMethodDescriptor yM.desc).map (fun d => d.parameters.length) = some n) (hRM : rmM.frames + 1 ≤ 10 ∧ 8 + (mlM + 11) + rmM.locals ≤ 408)
    (hoff : ∃ s, lenL (argL 1 n) = s ∧ ((pc + s + s + 9 : Nat) : Int) + off = ((1481 : Nat) : Int)) (kk : okM z.2 → okM y.2 → G z.2 y.2 i 1481 []) : G μ ν i pc [] := by
  obtain ⟨f0, hF⟩ := hF
  obtain ⟨f1, f2, f3, hF⟩ := Facts_app _ _ _ hF
  obtain ⟨f4, f5, hF⟩ := Facts_app _ _ _ hF
  obtain ⟨sl, hs, hoff⟩ := hoff
  refine y_a1 C f0 ?_
  refine y_args C hL hi n 1 _ _ (by decide) (by omega) f1 ?_
  rw [← ags_tv n ad]
  refine y_callCl C (S := []) (ags xs i n) hM (ags_ok n) hμ hGC hwC hrC hdC hRC (ags_len n) (Nat.zero_le _) f2 (fun hz1 hz2 => ?_)
  refine y_a2 C f3 ?_
  refine y_args C hL hi n 1 _ _ (by decide) (by omega) f4 ?_
  rw [← ags_tv n am]
  refine y_callMl C (S := [.long (J6 z.1)]) (ags xs i n) hN (ags_ok n) hν hGM hwM hrM hdM hRM (ags_len n) (Nat.le_of_ble_eq_true rfl) f5 (fun hy1 hy2 => ?_)

  obtain ⟨f6, f7, -⟩ := hF
  exact y_leq C hzy f6 f7 (by rw [hs] at *; omega) (kk hz2 hy2)
theorem y_next (C : Lx l D ad am cI cII cR cZ L xs G) (hL : L ≤ 3584) (hi : i + 7 ≤ L) (h1 : decode code 1481 = .ok (.iinc 3 7, 3)) (h2 : decode code 1484 = .ok (.goto (-1466), 3)) (kk : G μ ν (i + 7) 18 []) : G μ ν i 1481 [] := by
  obtain ⟨p, e, s, m, below, meth, c, b, k, n', hx, hb, hml, hr, hown, hts, hlk, hX, hbl, hKC, hKM, hZ, hk, hn', rfl⟩ := C
  intro H locs ls hP hD hS hl
  have e1 : I3 (i : Int) + Int32.ofInt 7 = I3 ((i + 7 : Nat) : Int) := by
    show Int32.ofInt (i : Int) + Int32.ofInt 7 = Int32.ofInt ((i + 7 : Nat) : Int)
    rw [← Int32.ofInt_add]
    rfl
  refine lv_iinc hx hb h1 hl (k := 0) rfl e1 (by decide) rfl (fun ls' hl' => ?_)
  refine lv_goto hx hb h2 (tgt := 18) (by decide) ?_
  exact kk H locs ls' hP hD hS hl'
end LW
