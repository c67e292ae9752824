/-! THE CONSTRUCTORS: the kit's own worlds, growing. -/
def Cn (l : Launch) (D : va_G) (cl : List vw_C) (tys : List (ClassId × FieldType)) (own : String) (Ts : List Cond) (cc : ByteArray) (nL : Nat) (R : Room) (ZZ : State → Prop) (post : (Nat → Nat) → Prop) (wf : (Nat → Nat) → va_W) (mc ms : Nat) (G : va_W → Nat → Nat → Nat → List (Nat × Value) → List Value → Prop) : Prop :=
  ∃ (p : Program) (e : Env) (s : State) (m : MethodId) (args : Array Value) (below : List Frame) (meth : Method) (c : Code) (A : Nat → Prop),
    p.tables.exec = Jvm.exec ∧ c.code = cc ∧ c.maxLocals = nL ∧ meth.sig.returnType = none ∧ s.vm.findClass own = some m.cls ∧ (∀ w ∈ Ts, w.before args s = true) ∧ meth.locks = false ∧ meth.name = "<init>" ∧ va_K D cl tys s ∧ (∀ q, s.heap.size ≤ q → A q) ∧ ZZ s ∧
    G = fun ws k n pc L S => ∀ (H : Heap) (locs : List Loc) (ls : Array Slot), va_P D cl ws H → va_D A ws → va_S A s.heap H locs → lv_has ls nL L → W p l e R s m args below meth c H locs k n (MQ below (va_Qv post (fun u U => va_P D cl (wf u) U.heap ∧ va_D A (wf u)) A) args s mc ms A) (F0 m pc ls S)
def KI (l : Launch) (D : va_G) (cl : List vw_C) (tys : List (ClassId × FieldType)) (ZZ : State → Prop) (y : MethodName) (ws : List Cond) (rm : Room) (ci : Nat) (fs0 : List Value) (post : (Nat → Nat) → Prop) (wf : (Nat → Nat) → va_W) (mc ms : Nat) (h0 : Nat) : Prop :=
  ∀ sz : Nat, Met l y ws rm (va_Pc [.ref h0] (fun U => U.heap.size = sz ∧ va_P D cl [(h0, .inr (ci, fs0))] U.heap ∧ va_K D cl tys U ∧ va_D (fun _ => True) [(h0, .inr (ci, fs0))] ∧ ZZ U)) (va_Qv post (fun u U => va_P D cl (wf u) U.heap ∧ va_D (va_A [(h0, .inr (ci, fs0))] sz) (wf u)) (va_A [(h0, .inr (ci, fs0))] sz)) mc ms (va_A [(h0, .inr (ci, fs0))] sz)
set_option maxHeartbeats 4000000 in
theorem KI_of {l : Launch} {D : va_G} {cl : List vw_C} {tys : List (ClassId × FieldType)} {ZZ : State → Prop} {y : MethodName} {ws ws' : List Cond} {rm : Room} {ci : Nat} {fs0 : List Value} {post : (Nat → Nat) → Prop} {wf : (Nat → Nat) → va_W} {mc ms h0 : Nat} {cc : ByteArray} {maxL : Nat}
    (hy : plainName y.cls = true) (hw : ws = Cond.code y cc maxL none :: ws') (hyn : y.name = "<init>") (hn : (lg_sl [Value.ref h0]).length ≤ maxL)
    (K : ∀ G, Cn l D cl tys y.cls ws cc maxL rm ZZ post wf mc ms G → G [(h0, .inr (ci, fs0))] 0 0 0 (lv_args 0 [Value.ref h0]) []) : KI l D cl tys ZZ y ws rm ci fs0 post wf mc ms h0 := by
  intro sz
  refine Met.ofW (cc := cc) (maxL := maxL) (ret := none) hy hw ?_
  intro p e s m args below meth c s₁ B hml hv
  obtain ⟨rfl, hsz, hP, hK, hD0, hZ0⟩ := hv
  have hts := atoms_spec (ws := ws) B.pre
  have hown : s.vm.findClass y.cls = some m.cls := findClass_of_methodNamed B.named
  have hin : meth.name = y.name := (name_of_methodNamed B.named B.method).1
  subst hsz
  have hD := hD0.self (sz := s.heap.size)
  generalize hAe : va_A [(h0, .inr (ci, fs0))] s.heap.size = A at hD ⊢
  have hA : ∀ q : Nat, s.heap.size ≤ q → A q := fun q h => by rw [← hAe]; exact Or.inr h
  have hS : va_S A s.heap s.heap [] := va_S.rf
  have hl := lv_entry [Value.ref h0] (n := maxL) hn
  rw [lg_entry_eq]
  generalize (lg_sl [Value.ref h0] ++ List.replicate (maxL - (lg_sl [Value.ref h0]).length) Slot.unset).toArray = ls at hl ⊢
  exact K _ ⟨p, e, s, m, _, below, meth, c, A, B.exec, B.bytes, hml, B.returns, hown, hts, B.notSynchronized, hin.trans hyn, hK, hA, hZ0, rfl⟩ s.heap [] ls hP hD hS hl
theorem va_RA_inj {U : State} {c c' : ClassId} {ty : FieldType} (h : va_RA U c ty) (h' : va_RA U c' ty) : c = c' := by
  cases ty with
  | object C =>
    obtain ⟨_, _, _, _, _, h4⟩ := h
    obtain ⟨_, _, _, _, _, h5⟩ := h'
    exact Option.some.inj (h4.symm.trans h5)
  | _ =>
    have h1 := h
    have h2 := h'
    unfold va_RA at h1 h2
    exact Option.some.inj (h1.symm.trans h2)
theorem nd_of : ∀ {l : List Nat}, l.Nodup → va_nd l = true
  | [], _ => rfl
  | a :: l, h => by
    have h1 := List.nodup_cons.mp h
    simp only [va_nd, Bool.and_eq_true, decide_eq_true_eq]
    exact ⟨h1.1, nd_of h1.2⟩
theorem last_get (ws : va_W) (x : Nat × va_E) : (ws ++ [x])[ws.length]? = some x := by simp
theorem last_map (ws : va_W) (x : Nat × va_E) : [ws.length].map (fun i => (ws ++ [x])[i]?) = [x].map some := by simp
theorem front_map (ws w2 : va_W) : (List.range ws.length).map (fun i => (ws ++ w2)[i]?) = ws.map some := by
  apply List.ext_getElem?
  intro j
  rw [List.getElem?_map, List.getElem?_map]
  by_cases hj : j < ws.length
  · rw [List.getElem?_range hj]
    show some ((ws ++ w2)[j]?) = _
    rw [List.getElem?_append_left hj, List.getElem?_eq_getElem hj]
    rfl
  · rw [List.getElem?_eq_none (by rw [List.length_range]; omega), List.getElem?_eq_none (by omega)]
    rfl
section RN
variable {l : Launch} {D : va_G} {cl : List vw_C} {tys : List (ClassId × FieldType)} {own : String} {Ts : List Cond} {cc : ByteArray} {nL : Nat} {R : Room} {ZZ : State → Prop} {post : (Nat → Nat) → Prop} {wf : (Nat → Nat) → va_W} {mc ms : Nat} {G : va_W → Nat → Nat → Nat → List (Nat × Value) → List Value → Prop} {ws : va_W} {k n pc : Nat} {L : List (Nat × Value)} {S : List Value}
theorem n_iconst (C : Cn l D cl tys own Ts cc nL R ZZ post wf mc ms G) {x : Int} (hd : decode cc pc = .ok (.iconst x, 1)) (kk : G ws k n (pc + 1) L (.int (I3 x) :: S)) : G ws k n pc L S := by
  obtain ⟨p, e, s, m, args, below, meth, c, A, hx, hb, hml, hr, hown, hts, hlk, hnm, hK, hA, hZ, rfl⟩ := C
  intro H locs ls hP hD hS hl
  exact lv_iconst (v := I3 x) hx hb hd rfl (kk H locs ls hP hD hS hl)
theorem n_bipush (C : Cn l D cl tys own Ts cc nL R ZZ post wf mc ms G) {x : Int} (hd : decode cc pc = .ok (.bipush x, 2)) (hn : (Int8.ofInt x).toInt32 = I3 x) (kk : G ws k n (pc + 2) L (.int (I3 x) :: S)) : G ws k n pc L S := by
  obtain ⟨p, e, s, m, args, below, meth, c, A, hx, hb, hml, hr, hown, hts, hlk, hnm, hK, hA, hZ, rfl⟩ := C
  intro H locs ls hP hD hS hl
  exact lv_bipush (v := I3 x) hx hb hd hn (kk H locs ls hP hD hS hl)
theorem n_sipush (C : Cn l D cl tys own Ts cc nL R ZZ post wf mc ms G) {x : Int} (hd : decode cc pc = .ok (.sipush x, 3)) (hn : (Int16.ofInt x).toInt32 = I3 x) (kk : G ws k n (pc + 3) L (.int (I3 x) :: S)) : G ws k n pc L S := by
  obtain ⟨p, e, s, m, args, below, meth, c, A, hx, hb, hml, hr, hown, hts, hlk, hnm, hK, hA, hZ, rfl⟩ := C
  intro H locs ls hP hD hS hl
  exact lv_sipush (v := I3 x) hx hb hd hn (kk H locs ls hP hD hS hl)
theorem n_aload (C : Cn l D cl tys own Ts cc nL R ZZ post wf mc ms G) {f : Fin 4} {i a : Nat} (q : Nat) (hk : L[q]? = some (i, .ref a)) (hd : decode cc pc = .ok (.aload_n f, 1)) (hn : (f : Nat) = i) (kk : G ws k n (pc + 1) L (.ref a :: S)) : G ws k n pc L S := by
  obtain ⟨p, e, s, m, args, below, meth, c, A, hx, hb, hml, hr, hown, hts, hlk, hnm, hK, hA, hZ, rfl⟩ := C
  intro H locs ls hP hD hS hl
  exact lv_aload_n hx hb hd hn (lv_at hl q hk) (kk H locs ls hP hD hS hl)
theorem n_iload (C : Cn l D cl tys own Ts cc nL R ZZ post wf mc ms G) {f : Fin 4} {i : Nat} {x : Int32} (q : Nat) (hk : L[q]? = some (i, .int x)) (hd : decode cc pc = .ok (.iload_n f, 1)) (hn : (f : Nat) = i) (kk : G ws k n (pc + 1) L (.int x :: S)) : G ws k n pc L S := by
  obtain ⟨p, e, s, m, args, below, meth, c, A, hx, hb, hml, hr, hown, hts, hlk, hnm, hK, hA, hZ, rfl⟩ := C
  intro H locs ls hP hD hS hl
  exact lv_iload_n hx hb hd hn (lv_at hl q hk) (kk H locs ls hP hD hS hl)
theorem n_istore (C : Cn l D cl tys own Ts cc nL R ZZ post wf mc ms G) {f : Fin 4} {i : Nat} {x : Int32} (L' : List (Nat × Value)) (hd : decode cc pc = .ok (.istore_n f, 1)) (hn : (f : Nat) = i) (hlt : i < nL) (hL' : (i, Value.int x) :: L.filter (fun q => !(q.1 == i) && !(q.1 + 1 == i && q.2.category == 2)) = L') (kk : G ws k n (pc + 1) L' S) : G ws k n pc L (.int x :: S) := by
  obtain ⟨p, e, s, m, args, below, meth, c, A, hx, hb, hml, hr, hown, hts, hlk, hnm, hK, hA, hZ, rfl⟩ := C
  intro H locs ls hP hD hS hl
  exact lv_istore_n hx hb hd hn hl hlt hL' (fun ls' hl' => kk H locs ls' hP hD hS hl')
theorem n_iinc (C : Cn l D cl tys own Ts cc nL R ZZ post wf mc ms G) {i q : Nat} {d : Int} {x v : Int32} (L' : List (Nat × Value)) (hd : decode cc pc = .ok (.iinc i d, 3)) (hk : L[q]? = some (i, .int x)) (hv : x + Int32.ofInt d = v) (hlt : i < nL) (hL' : (i, Value.int v) :: L.filter (fun q => !(q.1 == i) && !(q.1 + 1 == i && q.2.category == 2)) = L') (kk : G ws k n (pc + 3) L' S) : G ws k n pc L S := by
  obtain ⟨p, e, s, m, args, below, meth, c, A, hx, hb, hml, hr, hown, hts, hlk, hnm, hK, hA, hZ, rfl⟩ := C
  intro H locs ls hP hD hS hl
  exact lv_iinc hx hb hd hl hk hv hlt hL' (fun ls' hl' => kk H locs ls' hP hD hS hl')
theorem n_goto (C : Cn l D cl tys own Ts cc nL R ZZ post wf mc ms G) {off : Int} {tgt : Nat} (hd : decode cc pc = .ok (.goto off, 3)) (ht : (pc : Int) + off = (tgt : Int)) (kk : G ws k n tgt L S) : G ws k n pc L S := by
  obtain ⟨p, e, s, m, args, below, meth, c, A, hx, hb, hml, hr, hown, hts, hlk, hnm, hK, hA, hZ, rfl⟩ := C
  intro H locs ls hP hD hS hl
  exact lv_goto hx hb hd ht (kk H locs ls hP hD hS hl)
theorem n_icmp_ge (C : Cn l D cl tys own Ts cc nL R ZZ post wf mc ms G) {x y : Int} {off : Int} {tgt : Nat} (hxr : inR x) (hyr : inR y) (hd : decode cc pc = .ok (.if_icmp .ge off, 3)) (ht : (pc : Int) + off = (tgt : Int)) (k1 : y ≤ x → G ws k n tgt L S) (k2 : ¬ y ≤ x → G ws k n (pc + 3) L S) : G ws k n pc L (.int (I3 y) :: .int (I3 x) :: S) := by
  obtain ⟨p, e, s, m, args, below, meth, c, A, hx, hb, hml, hr, hown, hts, hlk, hnm, hK, hA, hZ, rfl⟩ := C
  intro H locs ls hP hD hS hl
  exact lv_icmp_ge hx hb hd ht (fun q => k1 ((I3_le hyr hxr).mp q) H locs ls hP hD hS hl) (fun q => k2 (fun r => q ((I3_le hyr hxr).mpr r)) H locs ls hP hD hS hl)
theorem n_dup (C : Cn l D cl tys own Ts cc nL R ZZ post wf mc ms G) {a : Nat} (hd : decode cc pc = .ok (.dup, 1)) (kk : G ws k n (pc + 1) L (.ref a :: .ref a :: S)) : G ws k n pc L (.ref a :: S) := by
  obtain ⟨p, e, s, m, args, below, meth, c, A, hx, hb, hml, hr, hown, hts, hlk, hnm, hK, hA, hZ, rfl⟩ := C
  intro H locs ls hP hD hS hl
  exact lv_dup hx hb hd rfl (kk H locs ls hP hD hS hl)
theorem n_obj (C : Cn l D cl tys own Ts cc nL R ZZ post wf mc ms G) {index a : Nat} (hw1 : Cond.methodLink own index Lib.objectInit ∈ Ts) (hw2 : Cond.instanceMethod Lib.objectInit ∈ Ts) (hw3 : Cond.code Lib.objectInit ⟨#[0xb1]⟩ 1 none ∈ Ts) (hR : 1 ≤ R.frames ∧ 12 ≤ R.locals) (hd : decode cc pc = .ok (.invokespecial index, 3)) (kk : G ws k n (pc + 3) L []) : G ws k n pc L [.ref a] := by
  obtain ⟨p, e, s, m, args, below, meth, c, A, hx, hb, hml, hr, hown, hts, hlk, hnm, hK, hA, hZ, rfl⟩ := C
  intro H locs ls hP hD hS hl
  refine W.objInit hx hb hown (hts _ hw1) (hts _ hw2) (hts _ hw3) rfl (by rw [hml]; exact hl.1) rfl hd hR.1 hR.2 ?_
  exact W.eq (g2 := F0 m (pc + 3) ls []) rfl (kk H locs ls hP hD hS hl)
theorem n_newa (C : Cn l D cl tys own Ts cc nL R ZZ post wf mc ms G) {atype : ArrayType} {ty : FieldType} (hty : newarray.typeOf atype = ty) (harr : Cond.arrayClass ty ∈ Ts) {cA : ClassId} {t0 : Nat} (ht : tys[t0]? = some (cA, ty)) {x : Int} {N' : Nat} {a0 : vp_A} (ha : ∀ c : ClassId, vp_cell c a0 = arrV c N' (fun _ => defaultValue ty)) (hx0 : ¬ I3 x < 0) (hN : (I3 x).toNatClampNeg = N') (hbytes : N' * componentBytes ty ≤ 536870912) (hcells : k + 1 ≤ R.cells) (hslots : n + N' ≤ R.slots) (hd : decode cc pc = .ok (.newarray atype, 2)) (kk : ∀ q : Nat, G (ws ++ [(q, .inl (cA, a0))]) (k + 1) (n + N') (pc + 2) L (.ref q :: S)) : G ws k n pc L (.int (I3 x) :: S) := by
  obtain ⟨p, e, s, m, args, below, meth, c, A, hx, hb, hml, hr, hown, hts, hlk, hnm, hK, hA, hZ, rfl⟩ := C
  intro H locs ls hP hD hS hl
  subst hty
  refine va_newa hx hb (hts _ harr) rfl hK hP hD hS hA ha hx0 hN hbytes hcells hslots hd (fun q cB H1 hK1 hP1 hD1 hS1 => ?_)
  have e1 : cB = cA := va_RA_inj (hK1.2 tys.length (cB, newarray.typeOf atype) (by simp)).2 (hK.2 t0 _ ht).2
  subst e1
  exact kk q H1 locs ls hP1 hD1 hS1 hl
theorem n_newq (C : Cn l D cl tys own Ts cc nL R ZZ post wf mc ms G) {index : Nat} {Cn' : String} (hcl : Cond.classLink own index Cn' ∈ Ts) (hover : ∀ s, ZZ s → va_AO Cn' s) {cA : ClassId} {t0 : Nat} (ht : tys[t0]? = some (cA, .object Cn')) {x : Int} {N' : Nat} (hx0 : ¬ I3 x < 0) (hN : (I3 x).toNatClampNeg = N') (hbytes : N' * 4 ≤ 536870912) (hcells : k + 1 ≤ R.cells) (hslots : n + N' ≤ R.slots) (hd : decode cc pc = .ok (.anewarray index, 3)) (kk : ∀ q : Nat, G (ws ++ [(q, .inl (cA, N', .inr (.inr (.inr (.inr (fun _ => none))))))]) (k + 1) (n + N') (pc + 3) L (.ref q :: S)) : G ws k n pc L (.int (I3 x) :: S) := by
  obtain ⟨p, e, s, m, args, below, meth, c, A, hx, hb, hml, hr, hown, hts, hlk, hnm, hK, hA, hZ, rfl⟩ := C
  intro H locs ls hP hD hS hl
  refine va_newq hx hb hown (hts _ hcl) (hover _ hZ) hK hP hD hS hA hx0 hN hbytes hcells hslots hd (fun q cB H1 hK1 hP1 hD1 hS1 => ?_)
  have e1 : cB = cA := va_RA_inj (hK1.2 tys.length (cB, .object Cn') (by simp)).2 (hK.2 t0 _ ht).2
  subst e1
  exact kk q H1 locs ls hP1 hD1 hS1 hl
theorem n_putF (C : Cn l D cl tys own Ts cc nL R ZZ post wf mc ms G) {index q0 ci j Nf a v : Nat} {Cn' ref nm ds : String} {T : u_T} {ty0 : Nat → FieldType} {ty : FieldType} {fs : List Value} (hin : ∀ w ∈ u_ws Cn' T Nf, w ∈ Ts) (hty : ∀ k, k < Nf → parseFieldDescriptor (T k).2.2.1 = some (ty0 k)) (hnm' : ∀ a, a < Nf → ∀ b, b < Nf → a ≠ b → (T a).2.1 ≠ (T b).2.1) (he : ws[q0]? = some (a, .inr (ci, fs))) (hc : cl[ci]? = some (Cn', T, Nf)) (hN : j < Nf) (hT : T j = (ref, nm, ds, true)) (hdecl : ref = own) (hw : Cond.fieldLink own index ref nm ds ∈ Ts) (hd2 : parseFieldDescriptor ds = some ty) (hna : narrow ty (.ref v) = .ref v) (hfit : fits ty (.ref v) = true) (hl0 : j < fs.length) (W' : va_W) (hW' : ws.set q0 (a, .inr (ci, fs.set j (.ref v))) = W') (hd : decode cc pc = .ok (.putfield index, 3)) (kk : G W' k n (pc + 3) L S) : G ws k n pc L (.ref v :: .ref a :: S) := by
  obtain ⟨p, e, s, m, args, below, meth, c, A, hx, hb, hml, hr, hown, hts, hlk, hnm, hK, hA, hZ, rfl⟩ := C
  intro H locs ls hP hD hS hl
  subst hW'
  refine va_putF (D := D) (ci := ci) (v := .ref v) (ty := ty) (C := Cn') (T := T) (N := Nf) hx hb hts hin ty0 hty hnm' hown hK hP hD hS q0 he hc j hN (by rw [hT]; exact hts _ hw) (fun x h9 => by rw [hT] at h9 ⊢; exact h9) (by rw [hT]) hnm (by rw [hT]; exact hdecl) (by rw [hT]; exact hd2) hna hfit hl0 hd (fun H1 locs1 hP1 hD1 hS1 => ?_)
  exact kk H1 locs1 ls hP1 hD1 hS1 hl
theorem n_getF (C : Cn l D cl tys own Ts cc nL R ZZ post wf mc ms G) {index q0 ci j Nf a : Nat} {Cn' ref nm ds : String} {b : Bool} {T : u_T} {fs : List Value} {v : Value} (hin : ∀ w ∈ u_ws Cn' T Nf, w ∈ Ts) (he : ws[q0]? = some (a, .inr (ci, fs))) (hc : cl[ci]? = some (Cn', T, Nf)) (hN : j < Nf) (hT : T j = (ref, nm, ds, b)) (hw : Cond.fieldLink own index ref nm ds ∈ Ts) (hv : fs[j]? = some v) (hd : decode cc pc = .ok (.getfield index, 3)) (kk : G ws k n (pc + 3) L (v :: S)) : G ws k n pc L (.ref a :: S) := by
  obtain ⟨p, e, s, m, args, below, meth, c, A, hx, hb, hml, hr, hown, hts, hlk, hnm, hK, hA, hZ, rfl⟩ := C
  intro H locs ls hP hD hS hl
  refine va_get (D := D) (ci := ci) (v := v) (C := Cn') (T := T) (N := Nf) hx hb hts hin hown hK hP q0 he hc j hN (by rw [hT]; exact hts _ hw) (fun x h9 => by rw [hT] at h9 ⊢; exact h9) hv hd ?_
  exact kk H locs ls hP hD hS hl
theorem n_iast (C : Cn l D cl tys own Ts cc nL R ZZ post wf mc ms G) {q0 t0 N' a : Nat} {cA : ClassId} {f : Nat → Int32} {i x : Int32} (ha : ws[q0]? = some (a, .inl (cA, N', .inl f))) (ht : tys[t0]? = some (cA, .int)) (hi : vp_in i N') (W' : va_W) (hW' : ws.set q0 (a, .inl (cA, N', .inl (upd f i.toNatClampNeg x))) = W') (hd : decode cc pc = .ok (.iastore, 1)) (kk : G W' k n (pc + 1) L S) : G ws k n pc L (.int x :: .int i :: .ref a :: S) := by
  obtain ⟨p, e, s, m, args, below, meth, c, A, hx, hb, hml, hr, hown, hts, hlk, hnm, hK, hA, hZ, rfl⟩ := C
  intro H locs ls hP hD hS hl
  subst hW'
  exact va_iast hx hb hK hP hD hS q0 t0 ha ht hi hd (fun H1 locs1 hP1 hD1 hS1 => kk H1 locs1 ls hP1 hD1 hS1 hl)
theorem n_astq (C : Cn l D cl tys own Ts cc nL R ZZ post wf mc ms G) {q0 t0 qk ci N' a v : Nat} {cA : ClassId} {Cn' : String} {T : u_T} {Nf : Nat} {vs : List Value} {f : Nat → Option Nat} {i : Int32} (ha : ws[q0]? = some (a, .inl (cA, N', .inr (.inr (.inr (.inr f)))))) (ht : tys[t0]? = some (cA, .object Cn')) (hv : ws[qk]? = some (v, .inr (ci, vs))) (hc : cl[ci]? = some (Cn', T, Nf)) (hi : vp_in i N') (W' : va_W) (hW' : ws.set q0 (a, .inl (cA, N', .inr (.inr (.inr (.inr (va_up f i.toNatClampNeg (some v))))))) = W') (hd : decode cc pc = .ok (.aastore, 1)) (kk : G W' k n (pc + 1) L S) : G ws k n pc L (.ref v :: .int i :: .ref a :: S) := by
  obtain ⟨p, e, s, m, args, below, meth, c, A, hx, hb, hml, hr, hown, hts, hlk, hnm, hK, hA, hZ, rfl⟩ := C
  intro H locs ls hP hD hS hl
  subst hW'
  exact va_astq (r := (Cn', T, Nf)) hx hb hK hP hD hS q0 t0 qk ci ha ht hv hc hi hd (fun H1 locs1 hP1 hD1 hS1 => kk H1 locs1 ls hP1 hD1 hS1 hl)
theorem n_new (C : Cn l D cl tys own Ts cc nL R ZZ post wf mc ms G) {Cn' : String} {T : u_T} {Nf ci index : Nat} (hin : ∀ w ∈ u_ws Cn' T Nf, w ∈ Ts) (ty : Nat → FieldType) (hty : ∀ k, k < Nf → parseFieldDescriptor (T k).2.2.1 = some (ty k)) (hcl : Cond.classLink own index Cn' ∈ Ts) (hinst : Cond.instantiable Cn' Nf ∈ Ts) (hini : Cond.initialized Cn' ∈ Ts) (hc : cl[ci]? = some (Cn', T, Nf)) (fs : List Value) (hfs : ∀ j, j < Nf → defaultValue (ty j) = vp_V fs j) (hcells : k + 1 ≤ R.cells) (hslots : n + Nf ≤ R.slots) (hd : decode cc pc = .ok (.new index, 3)) (kk : ∀ q : Nat, G (ws ++ [(q, .inr (ci, fs))]) (k + 1) (n + Nf) (pc + 3) L (.ref q :: S)) : G ws k n pc L S := by
  obtain ⟨p, e, s, m, args, below, meth, c, A, hx, hb, hml, hr, hown, hts, hlk, hnm, hK, hA, hZ, rfl⟩ := C
  intro H locs ls hP hD hS hl
  exact va_new hx hb hts hin ty hty hown (hts _ hcl) (hts _ hinst) (hts _ hini) hK hP hD hS hA hc hfs hcells hslots hd (fun q H1 hP1 hD1 hS1 => kk q H1 locs ls hP1 hD1 hS1 hl)
theorem n_mna (C : Cn l D cl tys own Ts cc nL R ZZ post wf mc ms G) {index : Nat} (hcl : Cond.classLink own index "[[I" ∈ Ts) (harr : Cond.arrayClass .int ∈ Ts) (hover : ∀ s, ZZ s → va_AOA .int s) {cI cII : ClassId} {t0 t1 : Nat} (ht0 : tys[t0]? = some (cI, .int)) (ht1 : tys[t1]? = some (cII, .array .int)) {x y : Int} {N' K' : Nat} (hx0 : ¬ I3 x < 0) (hy0 : ¬ I3 y < 0) (hN : (I3 x).toNatClampNeg = N') (hM : (I3 y).toNatClampNeg = K') (hb1 : N' * 4 ≤ 536870912) (hb2 : K' * 4 ≤ 536870912) (hb3 : K' ≤ 536870912) (hcells : k + (1 + N') ≤ R.cells) (hslots : n + (N' + N' * K') ≤ R.slots) (hd : decode cc pc = .ok (.multianewarray index 2, 4))
    (kk : ∀ (q : Nat) (r : Nat → Nat), G ((ws ++ [(q, .inl (cII, N', .inr (.inr (.inr (.inr (fun i => if i < N' then some (r i) else none))))))]) ++ (List.range N').map (fun i => (r i, .inl (cI, K', .inl (fun _ => 0))))) (k + 1 + N') (n + N' + N' * K') (pc + 4) L (.ref q :: S)) : G ws k n pc L (.int (I3 y) :: .int (I3 x) :: S) := by
  obtain ⟨p, e, s, m, args, below, meth, c, A, hx, hb, hml, hr, hown, hts, hlk, hnm, hK, hA, hZ, rfl⟩ := C
  intro H locs ls hP hD hS hl
  have es : "[" ++ (FieldType.array FieldType.int).toString = "[[I" := by decide +kernel
  have hP0 : va_P D cl (ws ++ va_pl [] (fun _ => .inl (cI, 0, .inl (fun _ => 0)))) H := by
    rw [show va_pl [] (fun _ => (.inl (cI, 0, .inl (fun _ => 0)) : va_E)) = [] from rfl, List.append_nil]
    exact hP
  have hD0 : va_D A (ws ++ va_pl [] (fun _ => .inl (cI, 0, .inl (fun _ => 0)))) := by
    rw [show va_pl [] (fun _ => (.inl (cI, 0, .inl (fun _ => 0)) : va_E)) = [] from rfl, List.append_nil]
    exact hD
  refine va_mna (ty := .int) (z := (K', .inl (fun _ => 0))) hx hb hown (by rw [es]; exact hts _ hcl) (hover _ hZ) (hts _ harr) (cy := cI) (hK.2 t0 _ ht0).2 hK hP0 hD0 hS hA hx0 hy0 hN hM hb1 hb2 hb3 rfl rfl hcells hslots (fun c => by
    rw [vp_cell_i]
    exact (arrV_new c K' (.int 0)).symm ▸ rfl) hd (fun q r cB H1 hinj _ hK1 hP1 hD1 hS1 => ?_)
  have e1 : cB = cII := va_RA_inj (hK1.2 tys.length (cB, .array .int) (by simp)).2 (hK.2 t1 _ ht1).2
  subst e1
  have ep : va_pl ([] ++ (List.range N').map r) (vr_up (fun _ => (.inl (cI, 0, .inl (fun _ => 0)) : va_E)) ((List.range N').map r) (.inl (cI, (K', .inl (fun _ => 0))))) = (List.range N').map (fun i => (r i, .inl (cI, K', .inl (fun _ => 0)))) := by
    unfold va_pl
    rw [List.nil_append, List.map_map]
    apply List.map_congr_left
    intro i hi
    show (r i, vr_up _ _ _ (r i)) = _
    rw [vr_up_in (List.mem_map_of_mem hi)]
  rw [ep] at hP1 hD1
  exact kk q r H1 locs ls hP1 hD1 hS1 hl
theorem n_to (C : Cn l D cl tys own Ts cc nL R ZZ post wf mc ms G) (W' : va_W) (hW' : ws = W') (kk : G W' k n pc L S) : G ws k n pc L S := by rw [hW']; exact kk
theorem n_at (k' n' : Nat) (hk : k = k') (hn : n = n') (kk : G ws k' n' pc L S) : G ws k n pc L S := by rw [hk, hn]; exact kk
theorem KI_blind {ci : Nat} {fs0 : List Value} {h sz : Nat} (hst : ∀ s U : State, ZZ s → s.WarmedH U.vm → ZZ U) : FrameBlind (va_Pc [.ref h] (fun U => U.heap.size = sz ∧ va_P D cl [(h, .inr (ci, fs0))] U.heap ∧ va_K D cl tys U ∧ va_D (fun _ => True) [(h, .inr (ci, fs0))] ∧ ZZ U)) := fun a U g mk q => by
  obtain ⟨q0, q1, qP, qK, qD, qZ⟩ := q
  exact ⟨q0, q1, qP, va_K.moved (u := U) (U := U.calling g mk a) (Vm.Alike.refl U.vm) qK, qD, hst U (U.calling g mk a) qZ (State.WarmedH.refl U)⟩
theorem n_callI (hst : ∀ s U : State, ZZ s → s.WarmedH U.vm → ZZ U) (C : Cn l D cl tys own Ts cc nL R ZZ post wf mc ms G) {y : MethodName} {wsc ws' : List Cond} {rmc : Room} {bytes : ByteArray} {maxL ci index mcc msc h : Nat} {fs0 : List Value} {postc : (Nat → Nat) → Prop} {wfc : (Nat → Nat) → va_W} (hM : KI l D cl tys ZZ y wsc rmc ci fs0 postc wfc mcc msc h) (hG : GoodIn Ts wsc) (hw : wsc = Cond.code y bytes maxL none :: ws') (hrm : rmc.cells = mcc ∧ rmc.slots = msc) (hini : Cond.initialized y.cls ∈ Ts) (hlink : Cond.methodLink own index y ∈ Ts) (hinst : Cond.instanceMethod y ∈ Ts) (hy1 : y.name = "<init>") (hd : y.cls ≠ "java/lang/invoke/MethodHandle" ∧ y.cls ≠ "java/lang/invoke/VarHandle" ∧ (parseMethodDescriptor y.desc).map (fun d => d.parameters.length) = some 0) (hR : rmc.frames + 1 ≤ R.frames ∧ 8 + (maxL + 11) + rmc.locals ≤ R.locals) (hroom : (S.map fun v => v.category).sum ≤ 8) (hcells : k + mcc ≤ R.cells ∧ n + msc ≤ R.slots) (hdg : decode cc pc = .ok (.invokespecial index, 3)) (kk : ∀ u, postc u → G (ws ++ wfc u) (k + mcc) (n + msc) (pc + 3) L S) : G (ws ++ [(h, .inr (ci, fs0))]) k n pc L (.ref h :: S) := by
  obtain ⟨p, e, s, m, args, below, meth, c, A, hx, hb, hml, hr, hown, hts, hlk, hnm, hK, hA, hZ, rfl⟩ := C
  intro H locs ls hP hD hS hl
  have hPc : va_P D cl [(h, .inr (ci, fs0))] H := hP.sub [ws.length] (by simp)
  have hDc : va_D A [(h, .inr (ci, fs0))] := hD.sub [ws.length] (nd_of (by simp)) (last_map ws _)
  have hFc := va_free (wc := [(h, .inr (ci, fs0))]) hD hS hA [ws.length] (last_map ws _)
  refine va_callv (va_runI (As := []) (rest := S) (p := p) (l := l) (e := e) (R := R) (meth := meth) (below := below) (cells := k) (slots := n) (H := H) (locs := locs) (g := F0 m pc ls (.ref h :: S)) ⟨hx, hb, hml, hown, hts⟩ (hM H.size) (cwI 0 hts hG hw hrm.1 hrm.2 (hts _ hini) (hts _ hlink) (hts _ hinst) hy1 hd hR) ⟨KI_blind hst, fun U hU hW => ⟨rfl, by rw [hU], by rw [hU]; exact hPc, va_K.moved hW.alike hK, hDc.weaken (fun _ _ _ _ => trivial), hst s U hZ hW⟩⟩ rfl rfl hl.1 rfl (lv_room hroom) hdg hcells) hS (fun q _ h => hFc q h) hFc (fun u t H1 locs1 ht hvm hw hB hz1 hk1 hS1 => ?_)
  obtain ⟨hP1, hD1⟩ := hB
  rw [ht] at hP1
  obtain ⟨hP2, hD2⟩ := va_join (wr := ws) (wc := [(h, .inr (ci, fs0))]) (w1 := wfc u) hP hD [ws.length] (List.range ws.length) (last_map ws _) (front_map ws _) (nd_of List.nodup_range) (fun i hi h9 => by
    have h1 := List.mem_range.mp hi
    have h2 := List.mem_singleton.mp h9
    omega) hk1 hFc hP1 hD1
  exact kk u hw H1 locs1 ls hP2 hD2 hS1 hl
theorem n_callN (hst : ∀ s U : State, ZZ s → s.WarmedH U.vm → ZZ U) (C : Cn l D cl tys own Ts cc nL R ZZ post wf mc ms G) {y : MethodName} {wsc ws' : List Cond} {rmc : Room} {bytes : ByteArray} {maxL ci index mcc msc h : Nat} {host : String} {fs0 : List Value} {postc : (Nat → Nat) → Prop} {wfc : (Nat → Nat) → va_W} (hM : KI l D cl tys ZZ y wsc rmc ci fs0 postc wfc mcc msc h) (hG : GoodIn Ts wsc) (hw : wsc = Cond.code y bytes maxL none :: ws') (hrm : rmc.cells = mcc ∧ rmc.slots = msc) (hini : Cond.initialized y.cls ∈ Ts) (hlink : ∀ s, ZZ s → va_Nw (.methodLinkNest own index y host) s) (hinst : Cond.instanceMethod y ∈ Ts) (hy1 : y.name = "<init>") (hd : y.cls ≠ "java/lang/invoke/MethodHandle" ∧ y.cls ≠ "java/lang/invoke/VarHandle" ∧ (parseMethodDescriptor y.desc).map (fun d => d.parameters.length) = some 0) (hR : rmc.frames + 1 ≤ R.frames ∧ 8 + (maxL + 11) + rmc.locals ≤ R.locals) (hroom : (S.map fun v => v.category).sum ≤ 8) (hcells : k + mcc ≤ R.cells ∧ n + msc ≤ R.slots) (hdg : decode cc pc = .ok (.invokespecial index, 3)) (kk : ∀ u, postc u → G (ws ++ wfc u) (k + mcc) (n + msc) (pc + 3) L S) : G (ws ++ [(h, .inr (ci, fs0))]) k n pc L (.ref h :: S) := by
  obtain ⟨p, e, s, m, args, below, meth, c, A, hx, hb, hml, hr, hown, hts, hlk, hnm, hK, hA, hZ, rfl⟩ := C
  intro H locs ls hP hD hS hl
  have hPc : va_P D cl [(h, .inr (ci, fs0))] H := hP.sub [ws.length] (by simp)
  have hDc : va_D A [(h, .inr (ci, fs0))] := hD.sub [ws.length] (nd_of (by simp)) (last_map ws _)
  have hFc := va_free (wc := [(h, .inr (ci, fs0))]) hD hS hA [ws.length] (last_map ws _)
  refine va_callv (va_runIN (As := []) (rest := S) (p := p) (l := l) (e := e) (R := R) (meth := meth) (below := below) (cells := k) (slots := n) (H := H) (locs := locs) (g := F0 m pc ls (.ref h :: S)) ⟨hx, hb, hml, hown, hts⟩ (hM H.size) ⟨va_cnB 0 hts hG hw hrm.1 hrm.2 (hlink _ hZ) (hts _ hini) hd hR, hy1, hts _ hinst⟩ ⟨KI_blind hst, fun U hU hW => ⟨rfl, by rw [hU], by rw [hU]; exact hPc, va_K.moved hW.alike hK, hDc.weaken (fun _ _ _ _ => trivial), hst s U hZ hW⟩⟩ rfl rfl hl.1 rfl (lv_room hroom) hdg hcells) hS (fun q _ h => hFc q h) hFc (fun u t H1 locs1 ht hvm hw hB hz1 hk1 hS1 => ?_)
  obtain ⟨hP1, hD1⟩ := hB
  rw [ht] at hP1
  obtain ⟨hP2, hD2⟩ := va_join (wr := ws) (wc := [(h, .inr (ci, fs0))]) (w1 := wfc u) hP hD [ws.length] (List.range ws.length) (last_map ws _) (front_map ws _) (nd_of List.nodup_range) (fun i hi h9 => by
    have h1 := List.mem_range.mp hi
    have h2 := List.mem_singleton.mp h9
    omega) hk1 hFc hP1 hD1
  exact kk u hw H1 locs1 ls hP2 hD2 hS1 hl
theorem n_ret (C : Cn l D cl tys own Ts cc nL R ZZ post wf mc ms G) (hd : decode cc pc = .ok (.return_, 1)) (hk : k = mc) (hn : n = ms) (u : Nat → Nat) (hp : post u) (hq : ∀ (H : Heap) (A : Nat → Prop), va_P D cl ws H → va_D A ws → va_P D cl (wf u) H ∧ va_D A (wf u)) : G ws k n pc L [] := by
  obtain ⟨p, e, s, m, args, below, meth, c, A, hx, hb, hml, hr, hown, hts, hlk, hnm, hK, hA, hZ, rfl⟩ := C
  intro H locs ls hP hD hS hl
  subst hk hn
  obtain ⟨h1, h2⟩ := hq H A hP hD
  exact W.vret hx hb hr (fun t ht hW => ⟨⟨u, rfl, hp, by rw [ht]; exact h1, h2⟩, hS.F ht⟩) hS.2.2 hd hlk
end RN
