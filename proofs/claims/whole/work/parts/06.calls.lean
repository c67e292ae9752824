/-! CALLS over the pure level. -/
theorem in01 {x : Int} (h : x = 0 ∨ x = 1) : inR x := by
  rcases h with h | h
  · rw [h]; exact ⟨by decide, by decide⟩
  · rw [h]; exact ⟨by decide, by decide⟩
theorem Pz_blind {D : va_G} {cl : List vw_C} {tys : List (ClassId × FieldType)} {N : Nat} {ad : Nat → Nat} {E : Mm → Nat → va_E} {Z : State → Prop} {μ : Mm} {sz : Nat} {av : List Value} (hst : stZ N ad Z) : FrameBlind (va_Pc av (Pz D cl tys N ad E Z μ sz)) := fun a U g mk q => by
  obtain ⟨q0, q1, qP, qK, qD, qZ⟩ := q
  exact ⟨q0, q1, qP, va_K.moved (u := U) (U := U.calling g mk a) (Vm.Alike.refl U.vm) qK, qD, hst U (U.calling g mk a) qZ (State.WarmedH.refl U) (Nat.le_refl _) (fun _ _ _ => rfl)⟩
theorem XX_free {N : Nat} {ad : Nat → Nat} {E : Mm → Nat → va_E} {μ : Mm} {A : Nat → Prop} {H0 H : Heap} {locs : List Loc} (hD : va_D A (XX N ad E μ)) (hS : va_S A H0 H locs) (hA : ∀ q, H0.size ≤ q → A q) : ∀ q, va_A (XX N ad E μ) H.size q → A q := fun q h => by
  rcases h with ⟨k, e, h⟩ | h
  · exact hD.2 k (q, e) h
  · exact hA q (Nat.le_trans hS.1 h)
section RC
variable {l : Launch} {D : va_G} {cl : List vw_C} {tys : List (ClassId × FieldType)} {N : Nat} {ad : Nat → Nat} {E : Mm → Nat → va_E} {Z : State → Prop} {own : String} {Ts : List Cond} {cc : ByteArray} {nL : Nat} {R : Room} {ret : Option FieldType} {z : Int × Mm} {G : Mm → Nat → List (Nat × Vv) → List Vv → Prop} {μ : Mm} {pc : Nat} {L : List (Nat × Vv)}
theorem q_callVi (hst : stZ N ad Z) (C : Cx l D cl tys N ad E Z own Ts cc nL R ret z G) {y : MethodName} {ws ws' : List Cond} {rm : Room} {bytes : ByteArray} {maxL n index k ci : Nat} {Cn : String} {T : u_T} {Nf : Nat} {F : List ((Nat × Int) ⊕ Nat)} (As S : List Vv) {x2 : Int} {μ2 : Mm} (hM : CT l D cl tys N ad E Z y ws rm (some .int) (Vr k :: As) μ (x2, μ2)) (hO : isO N ad E k ci F) (hc : cl[ci]? = some (Cn, T, Nf)) (hG : GoodIn Ts (wsV own index Cn y ws)) (hw : ws = Cond.code y bytes maxL (some .int) :: ws') (hrm : rm.cells = 0 ∧ rm.slots = 0) (hd : y.cls = Cn ∧ y.cls ≠ "java/lang/invoke/MethodHandle" ∧ y.cls ≠ "java/lang/invoke/VarHandle" ∧ (parseMethodDescriptor y.desc).map (fun d => d.parameters.length) = some n) (hR : rm.frames + 1 ≤ R.frames ∧ 8 + (maxL + 11) + rm.locals ≤ R.locals) (hn : As.length = n) (hroom : ((S.map (tv ad)).map fun v => v.category).sum ≤ 8) (hdg : decode cc pc = .ok (.invokevirtual index, 3)) {S0 : List Vv} (hS0 : As.reverse ++ Vr k :: S = S0) (kk : inR x2 → okM μ2 → G μ2 (pc + 3) L (Vi x2 :: S)) : G μ pc L S0 := by
  subst hS0
  obtain ⟨p, e, s, m, args, below, meth, c, A, hx, hb, hml, hr, hown, hts, hlk, hK, hD, hA, hZ, hA2, rfl⟩ := C
  intro H locs ls hMm hS hL hP hSs hl
  have hSr : ∀ v ∈ S, okV v := fun v hv => hS v (List.mem_append_right _ (List.mem_cons_of_mem _ hv))
  have hSa : ∀ v ∈ (Vr k :: As), okV v := fun v hv => by
    rcases List.mem_cons.mp hv with h | h
    · rw [h]; trivial
    · exact hS v (List.mem_append_left _ (List.mem_reverse.mpr h))
  have hF := XX_free (hD μ) hSs hA
  obtain ⟨h1, h2, h3, h4⟩ := hO
  have hcell : (XX N ad E μ)[k]? = some (ad k, .inr (ci, F.map (fv ad μ))) := (XX_get h1).trans (congrArg (fun x => some (ad k, x)) (h2 μ))
  rw [show (As.reverse ++ Vr k :: S).map (tv ad) = (As.map (tv ad)).reverse ++ Value.ref (ad k) :: S.map (tv ad) from by rw [List.map_append, List.map_reverse]; rfl]
  have hrun := va_runV (As := As.map (tv ad)) (rest := S.map (tv ad)) (p := p) (l := l) (e := e) (R := R) (meth := meth) (below := below) (cells := 0) (slots := 0) (H := H) (locs := locs) (g := F0 m pc ls ((As.map (tv ad)).reverse ++ Value.ref (ad k) :: S.map (tv ad))) ⟨hx, hb, hml, hown, hts⟩ (hM hMm hSa H.size) (cwV n hts hG hw hrm.1 hrm.2 hd hR) ⟨Pz_blind hst, va_recv hK hP (ci := ci) (q0 := k) hc hcell, fun U hU hW => ⟨rfl, by rw [hU], by rw [hU]; exact hP, va_K.moved hW.alike hK, (hD μ).weaken (fun _ _ _ _ => trivial), hZ U H locs hSs hU hW⟩⟩ rfl (by rw [List.length_map]; exact hn) hl.1 rfl (lv_room hroom) hdg ⟨Nat.zero_le _, Nat.zero_le _⟩
  refine va_calli (a := (Value.ref (ad k) :: As.map (tv ad)).toArray) hrun hSs (fun q _ h => hF q h) hF (fun r u t H1 locs1 ht hvm hw hB hz1 hk1 hS1 => ?_)
  rw [hw.1]
  have hP1 : va_P D cl (XX N ad E μ2) H1 := by rw [← ht]; exact hB
  exact kk hw.2.1 hw.2.2 H1 locs1 ls hw.2.2 (ok_c hw.2.1 hSr) hL hP1 hS1 hl
theorem q_callSi (hst : stZ N ad Z) (C : Cx l D cl tys N ad E Z own Ts cc nL R ret z G) {y : MethodName} {ws ws' : List Cond} {rm : Room} {bytes : ByteArray} {maxL n index : Nat} (As S : List Vv) {x2 : Int} {μ2 : Mm} (hM : CT l D cl tys N ad E Z y ws rm (some .int) As μ (x2, μ2)) (hG : GoodIn Ts (va_wsS own index y ws)) (hw : ws = Cond.code y bytes maxL (some .int) :: ws') (hrm : rm.cells = 0 ∧ rm.slots = 0) (hd : y.cls ≠ "java/lang/invoke/MethodHandle" ∧ y.cls ≠ "java/lang/invoke/VarHandle" ∧ (parseMethodDescriptor y.desc).map (fun d => d.parameters.length) = some n) (hR : rm.frames + 1 ≤ R.frames ∧ 8 + (maxL + 11) + rm.locals ≤ R.locals) (hn : As.length = n) (hroom : ((S.map (tv ad)).map fun v => v.category).sum ≤ 8) (hdg : decode cc pc = .ok (.invokestatic index, 3)) {S0 : List Vv} (hS0 : As.reverse ++ S = S0) (kk : inR x2 → okM μ2 → G μ2 (pc + 3) L (Vi x2 :: S)) : G μ pc L S0 := by
  subst hS0
  obtain ⟨p, e, s, m, args, below, meth, c, A, hx, hb, hml, hr, hown, hts, hlk, hK, hD, hA, hZ, hA2, rfl⟩ := C
  intro H locs ls hMm hS hL hP hSs hl
  have hSr : ∀ v ∈ S, okV v := fun v hv => hS v (List.mem_append_right _ hv)
  have hSa : ∀ v ∈ As, okV v := fun v hv => hS v (List.mem_append_left _ (List.mem_reverse.mpr hv))
  have hF := XX_free (hD μ) hSs hA
  rw [show (As.reverse ++ S).map (tv ad) = (As.map (tv ad)).reverse ++ S.map (tv ad) from by rw [List.map_append, List.map_reverse]]
  have hrun := va_runS (As := As.map (tv ad)) (rest := S.map (tv ad)) (p := p) (l := l) (e := e) (R := R) (meth := meth) (below := below) (cells := 0) (slots := 0) (H := H) (locs := locs) (g := F0 m pc ls ((As.map (tv ad)).reverse ++ S.map (tv ad))) ⟨hx, hb, hml, hown, hts⟩ (hM hMm hSa H.size) (va_cwS n hts hG hw hrm.1 hrm.2 hd hR) ⟨Pz_blind hst, fun U hU hW => ⟨rfl, by rw [hU], by rw [hU]; exact hP, va_K.moved hW.alike hK, (hD μ).weaken (fun _ _ _ _ => trivial), hZ U H locs hSs hU hW⟩⟩ rfl (by rw [List.length_map]; exact hn) hl.1 rfl (lv_room hroom) hdg ⟨Nat.zero_le _, Nat.zero_le _⟩
  refine va_calli (a := (As.map (tv ad)).toArray) hrun hSs (fun q _ h => hF q h) hF (fun r u t H1 locs1 ht hvm hw hB hz1 hk1 hS1 => ?_)
  rw [hw.1]
  have hP1 : va_P D cl (XX N ad E μ2) H1 := by rw [← ht]; exact hB
  exact kk hw.2.1 hw.2.2 H1 locs1 ls hw.2.2 (ok_c hw.2.1 hSr) hL hP1 hS1 hl
theorem q_callVz (hst : stZ N ad Z) (C : Cx l D cl tys N ad E Z own Ts cc nL R ret z G) {y : MethodName} {ws ws' : List Cond} {rm : Room} {bytes : ByteArray} {maxL n index k ci : Nat} {Cn : String} {T : u_T} {Nf : Nat} {F : List ((Nat × Int) ⊕ Nat)} (As S : List Vv) {x2 : Int} {μ2 : Mm} (hM : CT l D cl tys N ad E Z y ws rm (some .boolean) (Vr k :: As) μ (x2, μ2)) (hO : isO N ad E k ci F) (hc : cl[ci]? = some (Cn, T, Nf)) (hG : GoodIn Ts (wsV own index Cn y ws)) (hw : ws = Cond.code y bytes maxL (some .boolean) :: ws') (hrm : rm.cells = 0 ∧ rm.slots = 0) (hd : y.cls = Cn ∧ y.cls ≠ "java/lang/invoke/MethodHandle" ∧ y.cls ≠ "java/lang/invoke/VarHandle" ∧ (parseMethodDescriptor y.desc).map (fun d => d.parameters.length) = some n) (hR : rm.frames + 1 ≤ R.frames ∧ 8 + (maxL + 11) + rm.locals ≤ R.locals) (hn : As.length = n) (hroom : ((S.map (tv ad)).map fun v => v.category).sum ≤ 8) (hdg : decode cc pc = .ok (.invokevirtual index, 3)) {S0 : List Vv} (hS0 : As.reverse ++ Vr k :: S = S0) (kk : (x2 = 0 ∨ x2 = 1) → okM μ2 → G μ2 (pc + 3) L (Vi x2 :: S)) : G μ pc L S0 := by
  subst hS0
  obtain ⟨p, e, s, m, args, below, meth, c, A, hx, hb, hml, hr, hown, hts, hlk, hK, hD, hA, hZ, hA2, rfl⟩ := C
  intro H locs ls hMm hS hL hP hSs hl
  have hSr : ∀ v ∈ S, okV v := fun v hv => hS v (List.mem_append_right _ (List.mem_cons_of_mem _ hv))
  have hSa : ∀ v ∈ (Vr k :: As), okV v := fun v hv => by
    rcases List.mem_cons.mp hv with h | h
    · rw [h]; trivial
    · exact hS v (List.mem_append_left _ (List.mem_reverse.mpr h))
  have hF := XX_free (hD μ) hSs hA
  obtain ⟨h1, h2, h3, h4⟩ := hO
  have hcell : (XX N ad E μ)[k]? = some (ad k, .inr (ci, F.map (fv ad μ))) := (XX_get h1).trans (congrArg (fun x => some (ad k, x)) (h2 μ))
  rw [show (As.reverse ++ Vr k :: S).map (tv ad) = (As.map (tv ad)).reverse ++ Value.ref (ad k) :: S.map (tv ad) from by rw [List.map_append, List.map_reverse]; rfl]
  have hrun := va_runV (As := As.map (tv ad)) (rest := S.map (tv ad)) (p := p) (l := l) (e := e) (R := R) (meth := meth) (below := below) (cells := 0) (slots := 0) (H := H) (locs := locs) (g := F0 m pc ls ((As.map (tv ad)).reverse ++ Value.ref (ad k) :: S.map (tv ad))) ⟨hx, hb, hml, hown, hts⟩ (hM hMm hSa H.size) (cwV n hts hG hw hrm.1 hrm.2 hd hR) ⟨Pz_blind hst, va_recv hK hP (ci := ci) (q0 := k) hc hcell, fun U hU hW => ⟨rfl, by rw [hU], by rw [hU]; exact hP, va_K.moved hW.alike hK, (hD μ).weaken (fun _ _ _ _ => trivial), hZ U H locs hSs hU hW⟩⟩ rfl (by rw [List.length_map]; exact hn) hl.1 rfl (lv_room hroom) hdg ⟨Nat.zero_le _, Nat.zero_le _⟩
  refine va_calli (a := (Value.ref (ad k) :: As.map (tv ad)).toArray) hrun hSs (fun q _ h => hF q h) hF (fun r u t H1 locs1 ht hvm hw hB hz1 hk1 hS1 => ?_)
  rw [hw.1]
  have hP1 : va_P D cl (XX N ad E μ2) H1 := by rw [← ht]; exact hB
  exact kk hw.2.1 hw.2.2 H1 locs1 ls hw.2.2 (ok_c (in01 hw.2.1) hSr) hL hP1 hS1 hl
theorem q_callSz (hst : stZ N ad Z) (C : Cx l D cl tys N ad E Z own Ts cc nL R ret z G) {y : MethodName} {ws ws' : List Cond} {rm : Room} {bytes : ByteArray} {maxL n index : Nat} (As S : List Vv) {x2 : Int} {μ2 : Mm} (hM : CT l D cl tys N ad E Z y ws rm (some .boolean) As μ (x2, μ2)) (hG : GoodIn Ts (va_wsS own index y ws)) (hw : ws = Cond.code y bytes maxL (some .boolean) :: ws') (hrm : rm.cells = 0 ∧ rm.slots = 0) (hd : y.cls ≠ "java/lang/invoke/MethodHandle" ∧ y.cls ≠ "java/lang/invoke/VarHandle" ∧ (parseMethodDescriptor y.desc).map (fun d => d.parameters.length) = some n) (hR : rm.frames + 1 ≤ R.frames ∧ 8 + (maxL + 11) + rm.locals ≤ R.locals) (hn : As.length = n) (hroom : ((S.map (tv ad)).map fun v => v.category).sum ≤ 8) (hdg : decode cc pc = .ok (.invokestatic index, 3)) {S0 : List Vv} (hS0 : As.reverse ++ S = S0) (kk : (x2 = 0 ∨ x2 = 1) → okM μ2 → G μ2 (pc + 3) L (Vi x2 :: S)) : G μ pc L S0 := by
  subst hS0
  obtain ⟨p, e, s, m, args, below, meth, c, A, hx, hb, hml, hr, hown, hts, hlk, hK, hD, hA, hZ, hA2, rfl⟩ := C
  intro H locs ls hMm hS hL hP hSs hl
  have hSr : ∀ v ∈ S, okV v := fun v hv => hS v (List.mem_append_right _ hv)
  have hSa : ∀ v ∈ As, okV v := fun v hv => hS v (List.mem_append_left _ (List.mem_reverse.mpr hv))
  have hF := XX_free (hD μ) hSs hA
  rw [show (As.reverse ++ S).map (tv ad) = (As.map (tv ad)).reverse ++ S.map (tv ad) from by rw [List.map_append, List.map_reverse]]
  have hrun := va_runS (As := As.map (tv ad)) (rest := S.map (tv ad)) (p := p) (l := l) (e := e) (R := R) (meth := meth) (below := below) (cells := 0) (slots := 0) (H := H) (locs := locs) (g := F0 m pc ls ((As.map (tv ad)).reverse ++ S.map (tv ad))) ⟨hx, hb, hml, hown, hts⟩ (hM hMm hSa H.size) (va_cwS n hts hG hw hrm.1 hrm.2 hd hR) ⟨Pz_blind hst, fun U hU hW => ⟨rfl, by rw [hU], by rw [hU]; exact hP, va_K.moved hW.alike hK, (hD μ).weaken (fun _ _ _ _ => trivial), hZ U H locs hSs hU hW⟩⟩ rfl (by rw [List.length_map]; exact hn) hl.1 rfl (lv_room hroom) hdg ⟨Nat.zero_le _, Nat.zero_le _⟩
  refine va_calli (a := (As.map (tv ad)).toArray) hrun hSs (fun q _ h => hF q h) hF (fun r u t H1 locs1 ht hvm hw hB hz1 hk1 hS1 => ?_)
  rw [hw.1]
  have hP1 : va_P D cl (XX N ad E μ2) H1 := by rw [← ht]; exact hB
  exact kk hw.2.1 hw.2.2 H1 locs1 ls hw.2.2 (ok_c (in01 hw.2.1) hSr) hL hP1 hS1 hl
theorem q_callVl (hst : stZ N ad Z) (C : Cx l D cl tys N ad E Z own Ts cc nL R ret z G) {y : MethodName} {ws ws' : List Cond} {rm : Room} {bytes : ByteArray} {maxL n index k ci : Nat} {Cn : String} {T : u_T} {Nf : Nat} {F : List ((Nat × Int) ⊕ Nat)} (As S : List Vv) {x2 : Int} {μ2 : Mm} (hM : CT l D cl tys N ad E Z y ws rm (some .long) (Vr k :: As) μ (x2, μ2)) (hO : isO N ad E k ci F) (hc : cl[ci]? = some (Cn, T, Nf)) (hG : GoodIn Ts (wsV own index Cn y ws)) (hw : ws = Cond.code y bytes maxL (some .long) :: ws') (hrm : rm.cells = 0 ∧ rm.slots = 0) (hd : y.cls = Cn ∧ y.cls ≠ "java/lang/invoke/MethodHandle" ∧ y.cls ≠ "java/lang/invoke/VarHandle" ∧ (parseMethodDescriptor y.desc).map (fun d => d.parameters.length) = some n) (hR : rm.frames + 1 ≤ R.frames ∧ 8 + (maxL + 11) + rm.locals ≤ R.locals) (hn : As.length = n) (hroom : ((S.map (tv ad)).map fun v => v.category).sum ≤ 8) (hdg : decode cc pc = .ok (.invokevirtual index, 3)) {S0 : List Vv} (hS0 : As.reverse ++ Vr k :: S = S0) (kk : inL x2 → okM μ2 → G μ2 (pc + 3) L (Vl x2 :: S)) : G μ pc L S0 := by
  subst hS0
  obtain ⟨p, e, s, m, args, below, meth, c, A, hx, hb, hml, hr, hown, hts, hlk, hK, hD, hA, hZ, hA2, rfl⟩ := C
  intro H locs ls hMm hS hL hP hSs hl
  have hSr : ∀ v ∈ S, okV v := fun v hv => hS v (List.mem_append_right _ (List.mem_cons_of_mem _ hv))
  have hSa : ∀ v ∈ (Vr k :: As), okV v := fun v hv => by
    rcases List.mem_cons.mp hv with h | h
    · rw [h]; trivial
    · exact hS v (List.mem_append_left _ (List.mem_reverse.mpr h))
  have hF := XX_free (hD μ) hSs hA
  obtain ⟨h1, h2, h3, h4⟩ := hO
  have hcell : (XX N ad E μ)[k]? = some (ad k, .inr (ci, F.map (fv ad μ))) := (XX_get h1).trans (congrArg (fun x => some (ad k, x)) (h2 μ))
  rw [show (As.reverse ++ Vr k :: S).map (tv ad) = (As.map (tv ad)).reverse ++ Value.ref (ad k) :: S.map (tv ad) from by rw [List.map_append, List.map_reverse]; rfl]
  have hrun := va_runV (As := As.map (tv ad)) (rest := S.map (tv ad)) (p := p) (l := l) (e := e) (R := R) (meth := meth) (below := below) (cells := 0) (slots := 0) (H := H) (locs := locs) (g := F0 m pc ls ((As.map (tv ad)).reverse ++ Value.ref (ad k) :: S.map (tv ad))) ⟨hx, hb, hml, hown, hts⟩ (hM hMm hSa H.size) (cwV n hts hG hw hrm.1 hrm.2 hd hR) ⟨Pz_blind hst, va_recv hK hP (ci := ci) (q0 := k) hc hcell, fun U hU hW => ⟨rfl, by rw [hU], by rw [hU]; exact hP, va_K.moved hW.alike hK, (hD μ).weaken (fun _ _ _ _ => trivial), hZ U H locs hSs hU hW⟩⟩ rfl (by rw [List.length_map]; exact hn) hl.1 rfl (lv_room hroom) hdg ⟨Nat.zero_le _, Nat.zero_le _⟩
  refine va_calll (a := (Value.ref (ad k) :: As.map (tv ad)).toArray) hrun hSs (fun q _ h => hF q h) hF (fun r u t H1 locs1 ht hvm hw hB hz1 hk1 hS1 => ?_)
  rw [hw.1]
  have hP1 : va_P D cl (XX N ad E μ2) H1 := by rw [← ht]; exact hB
  exact kk hw.2.1 hw.2.2 H1 locs1 ls hw.2.2 (ok_c hw.2.1 hSr) hL hP1 hS1 hl
theorem q_callSl (hst : stZ N ad Z) (C : Cx l D cl tys N ad E Z own Ts cc nL R ret z G) {y : MethodName} {ws ws' : List Cond} {rm : Room} {bytes : ByteArray} {maxL n index : Nat} (As S : List Vv) {x2 : Int} {μ2 : Mm} (hM : CT l D cl tys N ad E Z y ws rm (some .long) As μ (x2, μ2)) (hG : GoodIn Ts (va_wsS own index y ws)) (hw : ws = Cond.code y bytes maxL (some .long) :: ws') (hrm : rm.cells = 0 ∧ rm.slots = 0) (hd : y.cls ≠ "java/lang/invoke/MethodHandle" ∧ y.cls ≠ "java/lang/invoke/VarHandle" ∧ (parseMethodDescriptor y.desc).map (fun d => d.parameters.length) = some n) (hR : rm.frames + 1 ≤ R.frames ∧ 8 + (maxL + 11) + rm.locals ≤ R.locals) (hn : As.length = n) (hroom : ((S.map (tv ad)).map fun v => v.category).sum ≤ 8) (hdg : decode cc pc = .ok (.invokestatic index, 3)) {S0 : List Vv} (hS0 : As.reverse ++ S = S0) (kk : inL x2 → okM μ2 → G μ2 (pc + 3) L (Vl x2 :: S)) : G μ pc L S0 := by
  subst hS0
  obtain ⟨p, e, s, m, args, below, meth, c, A, hx, hb, hml, hr, hown, hts, hlk, hK, hD, hA, hZ, hA2, rfl⟩ := C
  intro H locs ls hMm hS hL hP hSs hl
  have hSr : ∀ v ∈ S, okV v := fun v hv => hS v (List.mem_append_right _ hv)
  have hSa : ∀ v ∈ As, okV v := fun v hv => hS v (List.mem_append_left _ (List.mem_reverse.mpr hv))
  have hF := XX_free (hD μ) hSs hA
  rw [show (As.reverse ++ S).map (tv ad) = (As.map (tv ad)).reverse ++ S.map (tv ad) from by rw [List.map_append, List.map_reverse]]
  have hrun := va_runS (As := As.map (tv ad)) (rest := S.map (tv ad)) (p := p) (l := l) (e := e) (R := R) (meth := meth) (below := below) (cells := 0) (slots := 0) (H := H) (locs := locs) (g := F0 m pc ls ((As.map (tv ad)).reverse ++ S.map (tv ad))) ⟨hx, hb, hml, hown, hts⟩ (hM hMm hSa H.size) (va_cwS n hts hG hw hrm.1 hrm.2 hd hR) ⟨Pz_blind hst, fun U hU hW => ⟨rfl, by rw [hU], by rw [hU]; exact hP, va_K.moved hW.alike hK, (hD μ).weaken (fun _ _ _ _ => trivial), hZ U H locs hSs hU hW⟩⟩ rfl (by rw [List.length_map]; exact hn) hl.1 rfl (lv_room hroom) hdg ⟨Nat.zero_le _, Nat.zero_le _⟩
  refine va_calll (a := (As.map (tv ad)).toArray) hrun hSs (fun q _ h => hF q h) hF (fun r u t H1 locs1 ht hvm hw hB hz1 hk1 hS1 => ?_)
  rw [hw.1]
  have hP1 : va_P D cl (XX N ad E μ2) H1 := by rw [← ht]; exact hB
  exact kk hw.2.1 hw.2.2 H1 locs1 ls hw.2.2 (ok_c hw.2.1 hSr) hL hP1 hS1 hl
theorem q_callVv (hst : stZ N ad Z) (C : Cx l D cl tys N ad E Z own Ts cc nL R ret z G) {y : MethodName} {ws ws' : List Cond} {rm : Room} {bytes : ByteArray} {maxL n index k ci : Nat} {Cn : String} {T : u_T} {Nf : Nat} {F : List ((Nat × Int) ⊕ Nat)} (As S : List Vv) {x2 : Int} {μ2 : Mm} (hM : CT l D cl tys N ad E Z y ws rm none (Vr k :: As) μ (x2, μ2)) (hO : isO N ad E k ci F) (hc : cl[ci]? = some (Cn, T, Nf)) (hG : GoodIn Ts (wsV own index Cn y ws)) (hw : ws = Cond.code y bytes maxL none :: ws') (hrm : rm.cells = 0 ∧ rm.slots = 0) (hd : y.cls = Cn ∧ y.cls ≠ "java/lang/invoke/MethodHandle" ∧ y.cls ≠ "java/lang/invoke/VarHandle" ∧ (parseMethodDescriptor y.desc).map (fun d => d.parameters.length) = some n) (hR : rm.frames + 1 ≤ R.frames ∧ 8 + (maxL + 11) + rm.locals ≤ R.locals) (hn : As.length = n) (hroom : ((S.map (tv ad)).map fun v => v.category).sum ≤ 8) (hdg : decode cc pc = .ok (.invokevirtual index, 3)) {S0 : List Vv} (hS0 : As.reverse ++ Vr k :: S = S0) (kk : okM μ2 → G μ2 (pc + 3) L (S)) : G μ pc L S0 := by
  subst hS0
  obtain ⟨p, e, s, m, args, below, meth, c, A, hx, hb, hml, hr, hown, hts, hlk, hK, hD, hA, hZ, hA2, rfl⟩ := C
  intro H locs ls hMm hS hL hP hSs hl
  have hSr : ∀ v ∈ S, okV v := fun v hv => hS v (List.mem_append_right _ (List.mem_cons_of_mem _ hv))
  have hSa : ∀ v ∈ (Vr k :: As), okV v := fun v hv => by
    rcases List.mem_cons.mp hv with h | h
    · rw [h]; trivial
    · exact hS v (List.mem_append_left _ (List.mem_reverse.mpr h))
  have hF := XX_free (hD μ) hSs hA
  obtain ⟨h1, h2, h3, h4⟩ := hO
  have hcell : (XX N ad E μ)[k]? = some (ad k, .inr (ci, F.map (fv ad μ))) := (XX_get h1).trans (congrArg (fun x => some (ad k, x)) (h2 μ))
  rw [show (As.reverse ++ Vr k :: S).map (tv ad) = (As.map (tv ad)).reverse ++ Value.ref (ad k) :: S.map (tv ad) from by rw [List.map_append, List.map_reverse]; rfl]
  have hrun := va_runV (As := As.map (tv ad)) (rest := S.map (tv ad)) (p := p) (l := l) (e := e) (R := R) (meth := meth) (below := below) (cells := 0) (slots := 0) (H := H) (locs := locs) (g := F0 m pc ls ((As.map (tv ad)).reverse ++ Value.ref (ad k) :: S.map (tv ad))) ⟨hx, hb, hml, hown, hts⟩ (hM hMm hSa H.size) (cwV n hts hG hw hrm.1 hrm.2 hd hR) ⟨Pz_blind hst, va_recv hK hP (ci := ci) (q0 := k) hc hcell, fun U hU hW => ⟨rfl, by rw [hU], by rw [hU]; exact hP, va_K.moved hW.alike hK, (hD μ).weaken (fun _ _ _ _ => trivial), hZ U H locs hSs hU hW⟩⟩ rfl (by rw [List.length_map]; exact hn) hl.1 rfl (lv_room hroom) hdg ⟨Nat.zero_le _, Nat.zero_le _⟩
  refine va_callv (a := (Value.ref (ad k) :: As.map (tv ad)).toArray) hrun hSs (fun q _ h => hF q h) hF (fun u t H1 locs1 ht hvm hw hB hz1 hk1 hS1 => ?_)
  have hP1 : va_P D cl (XX N ad E μ2) H1 := by rw [← ht]; exact hB
  exact kk hw H1 locs1 ls hw (hSr) hL hP1 hS1 hl
theorem q_callSv (hst : stZ N ad Z) (C : Cx l D cl tys N ad E Z own Ts cc nL R ret z G) {y : MethodName} {ws ws' : List Cond} {rm : Room} {bytes : ByteArray} {maxL n index : Nat} (As S : List Vv) {x2 : Int} {μ2 : Mm} (hM : CT l D cl tys N ad E Z y ws rm none As μ (x2, μ2)) (hG : GoodIn Ts (va_wsS own index y ws)) (hw : ws = Cond.code y bytes maxL none :: ws') (hrm : rm.cells = 0 ∧ rm.slots = 0) (hd : y.cls ≠ "java/lang/invoke/MethodHandle" ∧ y.cls ≠ "java/lang/invoke/VarHandle" ∧ (parseMethodDescriptor y.desc).map (fun d => d.parameters.length) = some n) (hR : rm.frames + 1 ≤ R.frames ∧ 8 + (maxL + 11) + rm.locals ≤ R.locals) (hn : As.length = n) (hroom : ((S.map (tv ad)).map fun v => v.category).sum ≤ 8) (hdg : decode cc pc = .ok (.invokestatic index, 3)) {S0 : List Vv} (hS0 : As.reverse ++ S = S0) (kk : okM μ2 → G μ2 (pc + 3) L (S)) : G μ pc L S0 := by
  subst hS0
  obtain ⟨p, e, s, m, args, below, meth, c, A, hx, hb, hml, hr, hown, hts, hlk, hK, hD, hA, hZ, hA2, rfl⟩ := C
  intro H locs ls hMm hS hL hP hSs hl
  have hSr : ∀ v ∈ S, okV v := fun v hv => hS v (List.mem_append_right _ hv)
  have hSa : ∀ v ∈ As, okV v := fun v hv => hS v (List.mem_append_left _ (List.mem_reverse.mpr hv))
  have hF := XX_free (hD μ) hSs hA
  rw [show (As.reverse ++ S).map (tv ad) = (As.map (tv ad)).reverse ++ S.map (tv ad) from by rw [List.map_append, List.map_reverse]]
  have hrun := va_runS (As := As.map (tv ad)) (rest := S.map (tv ad)) (p := p) (l := l) (e := e) (R := R) (meth := meth) (below := below) (cells := 0) (slots := 0) (H := H) (locs := locs) (g := F0 m pc ls ((As.map (tv ad)).reverse ++ S.map (tv ad))) ⟨hx, hb, hml, hown, hts⟩ (hM hMm hSa H.size) (va_cwS n hts hG hw hrm.1 hrm.2 hd hR) ⟨Pz_blind hst, fun U hU hW => ⟨rfl, by rw [hU], by rw [hU]; exact hP, va_K.moved hW.alike hK, (hD μ).weaken (fun _ _ _ _ => trivial), hZ U H locs hSs hU hW⟩⟩ rfl (by rw [List.length_map]; exact hn) hl.1 rfl (lv_room hroom) hdg ⟨Nat.zero_le _, Nat.zero_le _⟩
  refine va_callv (a := (As.map (tv ad)).toArray) hrun hSs (fun q _ h => hF q h) hF (fun u t H1 locs1 ht hvm hw hB hz1 hk1 hS1 => ?_)
  have hP1 : va_P D cl (XX N ad E μ2) H1 := by rw [← ht]; exact hB
  exact kk hw H1 locs1 ls hw (hSr) hL hP1 hS1 hl
theorem q_mmin (C : Cx l D cl tys N ad E Z own Ts cc nL R ret z G) {index : Nat} {S : List Vv} {x y v : Int} (hv : (if y < x then y else x) = v) (hw1 : Cond.methodLink own index Lib.Math.min.name ∈ Ts) (hw2 : Cond.static Lib.Math.min.name ∈ Ts) (hw3 : Cond.initialized "java/lang/Math" ∈ Ts) (hw4 : Cond.code Lib.Math.min.name Lib.Math.min.code 2 (some .int) ∈ Ts) (hR : 1 ≤ R.frames ∧ ((S.map (tv ad)).map fun v => v.category).sum + 13 ≤ R.locals) (hd : decode cc pc = .ok (.invokestatic index, 3)) (kk : G μ (pc + 3) L (Vi v :: S)) : G μ pc L (Vi y :: Vi x :: S) := by
  subst hv
  obtain ⟨p, e, s, m, args, below, meth, c, A, hx, hb, hml, hr, hown, hts, hlk, hK, hD, hA, hZ, hA2, rfl⟩ := C
  intro H locs ls hM hS hL hP hSs hl
  have hyr : inR y := ok_h hS
  have hxr : inR x := ok_h (ok_t hS)
  refine va_mmin hx hb (by rw [hml]; exact hl.1.symm) hown (hts _ hw1) (hts _ hw2) (hts _ hw3) (hts _ hw4) hR.1 hR.2 (Nat.zero_le _) (Nat.zero_le _) hd ?_
  rw [show (if I3 y < I3 x then I3 y else I3 x) = I3 (if y < x then y else x) from by
    by_cases h : y < x
    · rw [if_pos h, if_pos ((I3_lt hyr hxr).mpr h)]
    · rw [if_neg h, if_neg (fun q => h ((I3_lt hyr hxr).mp q))]]
  exact kk H locs ls hM (ok_c (show inR (if y < x then y else x) from by split; exact hyr; exact hxr) (ok_t (ok_t hS))) hL hP hSs hl
theorem q_mmaxl (C : Cx l D cl tys N ad E Z own Ts cc nL R ret z G) {index : Nat} {S : List Vv} {x y v : Int} (hv : (if y < x then x else y) = v) (hw1 : Cond.methodLink own index Lib.MathLoose.max_long.x ∈ Ts) (hw2 : Cond.static Lib.MathLoose.max_long.x ∈ Ts) (hw3 : Cond.initialized "java/lang/Math" ∈ Ts) (hw4 : Cond.code Lib.MathLoose.max_long.x Lib.MathLoose.max_long.code 4 (some .long) ∈ Ts) (hR : 1 ≤ R.frames ∧ ((S.map (tv ad)).map fun v => v.category).sum + 15 ≤ R.locals) (hd : decode cc pc = .ok (.invokestatic index, 3)) (kk : G μ (pc + 3) L (Vl v :: S)) : G μ pc L (Vl y :: Vl x :: S) := by
  subst hv
  obtain ⟨p, e, s, m, args, below, meth, c, A, hx, hb, hml, hr, hown, hts, hlk, hK, hD, hA, hZ, hA2, rfl⟩ := C
  intro H locs ls hM hS hL hP hSs hl
  have hyr : inL y := ok_h hS
  have hxr : inL x := ok_h (ok_t hS)
  refine va_mmax_long hx hb (by rw [hml]; exact hl.1.symm) hown (hts _ hw1) (hts _ hw2) (hts _ hw3) (hts _ hw4) hR.1 hR.2 (Nat.zero_le _) (Nat.zero_le _) hd ?_
  have hlt : J6 y < J6 x ↔ y < x := by rw [Int64.lt_iff_toInt_lt, J6_t hyr, J6_t hxr]
  rw [show (if J6 y < J6 x then J6 x else J6 y) = J6 (if y < x then x else y) from by
    by_cases h : y < x
    · rw [if_pos h, if_pos (hlt.mpr h)]
    · rw [if_neg h, if_neg (fun q => h (hlt.mp q))]]
  exact kk H locs ls hM (ok_c (show inL (if y < x then x else y) from by split; exact hxr; exact hyr) (ok_t (ok_t hS))) hL hP hSs hl
end RC
