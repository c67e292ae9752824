/-! THE LAW: its loop. -/
theorem dL_law_0 : decode cL_law 0 = .ok (.new 7, 3) := by decide +kernel
theorem dL_law_3 : decode cL_law 3 = .ok (.dup, 1) := by decide +kernel
theorem dL_law_4 : decode cL_law 4 = .ok (.invokespecial 9, 3) := by decide +kernel
theorem dL_law_7 : decode cL_law 7 = .ok (.astore_n 1, 1) := by decide +kernel
theorem dL_law_8 : decode cL_law 8 = .ok (.new 10, 3) := by decide +kernel
theorem dL_law_11 : decode cL_law 11 = .ok (.dup, 1) := by decide +kernel
theorem dL_law_12 : decode cL_law 12 = .ok (.invokespecial 12, 3) := by decide +kernel
theorem dL_law_15 : decode cL_law 15 = .ok (.astore_n 2, 1) := by decide +kernel
theorem dL_law_16 : decode cL_law 16 = .ok (.iconst 0, 1) := by decide +kernel
theorem dL_law_17 : decode cL_law 17 = .ok (.istore_n 3, 1) := by decide +kernel
theorem dL_law_18 : decode cL_law 18 = .ok (.iload_n 3, 1) := by decide +kernel
theorem dL_law_19 : decode cL_law 19 = .ok (.aload_n 0, 1) := by decide +kernel
theorem dL_law_20 : decode cL_law 20 = .ok (.arraylength, 1) := by decide +kernel
theorem dL_law_21 : decode cL_law 21 = .ok (.bipush 7, 2) := by decide +kernel
theorem dL_law_23 : decode cL_law 23 = .ok (.isub, 1) := by decide +kernel
theorem dL_law_24 : decode cL_law 24 = .ok (.if_icmp .gt 1463, 3) := by decide +kernel
theorem dL_law_27 : decode cL_law 27 = .ok (.aload_n 0, 1) := by decide +kernel
theorem dL_law_28 : decode cL_law 28 = .ok (.iload_n 3, 1) := by decide +kernel
theorem dL_law_29 : decode cL_law 29 = .ok (.iaload, 1) := by decide +kernel
theorem dL_law_30 : decode cL_law 30 = .ok (.bipush 63, 2) := by decide +kernel
theorem dL_law_32 : decode cL_law 32 = .ok (.iand, 1) := by decide +kernel
theorem dL_law_33 : decode cL_law 33 = .ok (.tableswitch 1448 0 39 #[175, 218, 261, 324, 347, 370, 383, 396, 409, 432, 465, 498, 531, 564, 597, 630, 663, 696, 719, 742, 755, 798, 851, 904, 937, 970, 993, 1016, 1091, 1134, 1157, 1211, 1254, 1277, 1300, 1323, 1356, 1389, 1412, 1435], 175) := by decide +kernel
theorem dL_law_1481 : decode cL_law 1481 = .ok (.iinc 3 7, 3) := by decide +kernel
theorem dL_law_1484 : decode cL_law 1484 = .ok (.goto (-1466), 3) := by decide +kernel
theorem dL_law_1487 : decode cL_law 1487 = .ok (.iconst 1, 1) := by decide +kernel
theorem dL_law_1488 : decode cL_law 1488 = .ok (.ireturn, 1) := by decide +kernel
def xis (xs : Nat → Int32) (i : Nat) : Int := (xs i &&& I3 63).toInt
section LE
variable {l : Launch} {D : va_G} {ad am : Nat → Nat} {cI cII cR cZ : ClassId} {L : Nat} {xs : Nat → Int32} {G : Mm → Mm → Nat → Nat → List Value → Prop} {μ ν : Mm} {i : Nat}
theorem I3_ofN (n : Nat) : Int32.ofNat n = I3 (n : Int) := by
  apply Int32.toBitVec_inj.mp
  show BitVec.ofNat 32 n = BitVec.ofInt 32 (n : Int)
  rw [BitVec.ofInt_natCast]
theorem y_head (C : Lx l D ad am cI cII cR cZ L xs G) (hL : L ≤ 3584) (hi : i ≤ L) (k1 : G μ ν i 1487 []) (k2 : i + 7 ≤ L → G μ ν i 27 []) : G μ ν i 18 [] := by
  obtain ⟨p, e, s, m, below, meth, c, b, k, n', hx, hb, hml, hr, hown, hts, hlk, hX, hbl, hKC, hKM, hZ, hk, hn', rfl⟩ := C
  intro H locs ls hP hD hS hl
  refine lv_iload_n hx hb dL_law_18 rfl (lv_at hl 0 rfl) ?_
  refine lv_aload_n hx hb dL_law_19 rfl (lv_at hl 3 rfl) ?_
  refine va_slen hx hb hX hbl (fun q => by omega) hS dL_law_20 ?_
  refine lv_bipush (v := I3 7) hx hb dL_law_21 (by decide +kernel) ?_
  refine lv_isub hx hb dL_law_23 ?_
  have hir : inR (i : Int) := ⟨by omega, by omega⟩
  have hLr : inR ((L : Int) - 7) := ⟨by omega, by omega⟩
  rw [I3_ofN, I3_sub, w3_id (by omega) (by omega)]
  refine lv_icmp_gt hx hb dL_law_24 (tgt := 1487) (by decide) (fun _ => k1 H locs ls hP hD hS hl) (fun q => k2 ?_ H locs ls hP hD hS hl)
  have h9 : ¬ (L : Int) - 7 < (i : Int) := fun r => q ((I3_lt hLr hir).mpr r)
  omega
set_option maxHeartbeats 4000000 in
theorem y_sel (C : Lx l D ad am cI cII cR cZ L xs G) (hL : L ≤ 3584) (hi : i + 7 ≤ L) (h0 : G μ ν i 208 []) (h1 : G μ ν i 251 []) (h2 : G μ ν i 294 []) (h3 : G μ ν i 357 []) (h4 : G μ ν i 380 []) (h5 : G μ ν i 403 []) (h6 : G μ ν i 416 []) (h7 : G μ ν i 429 []) (h8 : G μ ν i 442 []) (h9 : G μ ν i 465 []) (h10 : G μ ν i 498 []) (h11 : G μ ν i 531 []) (h12 : G μ ν i 564 []) (h13 : G μ ν i 597 []) (h14 : G μ ν i 630 []) (h15 : G μ ν i 663 []) (h16 : G μ ν i 696 []) (h17 : G μ ν i 729 []) (h18 : G μ ν i 752 []) (h19 : G μ ν i 775 []) (h20 : G μ ν i 788 []) (h21 : G μ ν i 831 []) (h22 : G μ ν i 884 []) (h23 : G μ ν i 937 []) (h24 : G μ ν i 970 []) (h25 : G μ ν i 1003 []) (h26 : G μ ν i 1026 []) (h27 : G μ ν i 1049 []) (h28 : G μ ν i 1124 []) (h29 : G μ ν i 1167 []) (h30 : G μ ν i 1190 []) (h31 : G μ ν i 1244 []) (h32 : G μ ν i 1287 []) (h33 : G μ ν i 1310 []) (h34 : G μ ν i 1333 []) (h35 : G μ ν i 1356 []) (h36 : G μ ν i 1389 []) (h37 : G μ ν i 1422 []) (h38 : G μ ν i 1445 []) (h39 : G μ ν i 1468 []) (hz : G μ ν i 1481 []) : G μ ν i 27 [] := by
  obtain ⟨p, e, s, m, below, meth, c, b, k, n', hx, hb, hml, hr, hown, hts, hlk, hX, hbl, hKC, hKM, hZ, hk, hn', rfl⟩ := C
  intro H locs ls hP hD hS hl
  refine lv_aload_n hx hb dL_law_27 rfl (lv_at hl 3 rfl) ?_
  refine lv_iload_n hx hb dL_law_28 rfl (lv_at hl 0 rfl) ?_
  have hir : inR (i : Int) := ⟨by omega, by omega⟩
  have hcl := I3_cl hir (Int.natCast_nonneg _)
  have e2 : (I3 (i : Int)).toNatClampNeg = i := by omega
  refine va_sld hx hb hX hbl (fun q => by omega) hS (I3_in hir (by omega) (by omega)) dL_law_29 ?_
  rw [e2]
  refine lv_bipush (v := I3 63) hx hb dL_law_30 (by decide +kernel) ?_
  refine lv_iand hx hb dL_law_32 ?_
  generalize hv : xs i &&& I3 63 = v
  by_cases hlo : v.toInt < 0
  · exact lv_tableOut hx hb dL_law_33 (Or.inl hlo) (tgt := 1481) (by decide) (hz H locs ls hP hD hS hl)
  · by_cases hhi : 39 < v.toInt
    · exact lv_tableOut hx hb dL_law_33 (Or.inr hhi) (tgt := 1481) (by decide) (hz H locs ls hP hD hS hl)
    · have hkk : v.toInt = 0 ∨ v.toInt = 1 ∨ v.toInt = 2 ∨ v.toInt = 3 ∨ v.toInt = 4 ∨ v.toInt = 5 ∨ v.toInt = 6 ∨ v.toInt = 7 ∨ v.toInt = 8 ∨ v.toInt = 9 ∨ v.toInt = 10 ∨ v.toInt = 11 ∨ v.toInt = 12 ∨ v.toInt = 13 ∨ v.toInt = 14 ∨ v.toInt = 15 ∨ v.toInt = 16 ∨ v.toInt = 17 ∨ v.toInt = 18 ∨ v.toInt = 19 ∨ v.toInt = 20 ∨ v.toInt = 21 ∨ v.toInt = 22 ∨ v.toInt = 23 ∨ v.toInt = 24 ∨ v.toInt = 25 ∨ v.toInt = 26 ∨ v.toInt = 27 ∨ v.toInt = 28 ∨ v.toInt = 29 ∨ v.toInt = 30 ∨ v.toInt = 31 ∨ v.toInt = 32 ∨ v.toInt = 33 ∨ v.toInt = 34 ∨ v.toInt = 35 ∨ v.toInt = 36 ∨ v.toInt = 37 ∨ v.toInt = 38 ∨ v.toInt = 39 := by omega
      rcases hkk with q | q | q | q | q | q | q | q | q | q | q | q | q | q | q | q | q | q | q | q | q | q | q | q | q | q | q | q | q | q | q | q | q | q | q | q | q | q | q | q
      · exact lv_tableIn (off := 175) hx hb dL_law_33 hlo hhi (by rw [q]; rfl) (tgt := 208) (by decide) (h0 H locs ls hP hD hS hl)
      · exact lv_tableIn (off := 218) hx hb dL_law_33 hlo hhi (by rw [q]; rfl) (tgt := 251) (by decide) (h1 H locs ls hP hD hS hl)
      · exact lv_tableIn (off := 261) hx hb dL_law_33 hlo hhi (by rw [q]; rfl) (tgt := 294) (by decide) (h2 H locs ls hP hD hS hl)
      · exact lv_tableIn (off := 324) hx hb dL_law_33 hlo hhi (by rw [q]; rfl) (tgt := 357) (by decide) (h3 H locs ls hP hD hS hl)
      · exact lv_tableIn (off := 347) hx hb dL_law_33 hlo hhi (by rw [q]; rfl) (tgt := 380) (by decide) (h4 H locs ls hP hD hS hl)
      · exact lv_tableIn (off := 370) hx hb dL_law_33 hlo hhi (by rw [q]; rfl) (tgt := 403) (by decide) (h5 H locs ls hP hD hS hl)
      · exact lv_tableIn (off := 383) hx hb dL_law_33 hlo hhi (by rw [q]; rfl) (tgt := 416) (by decide) (h6 H locs ls hP hD hS hl)
      · exact lv_tableIn (off := 396) hx hb dL_law_33 hlo hhi (by rw [q]; rfl) (tgt := 429) (by decide) (h7 H locs ls hP hD hS hl)
      · exact lv_tableIn (off := 409) hx hb dL_law_33 hlo hhi (by rw [q]; rfl) (tgt := 442) (by decide) (h8 H locs ls hP hD hS hl)
      · exact lv_tableIn (off := 432) hx hb dL_law_33 hlo hhi (by rw [q]; rfl) (tgt := 465) (by decide) (h9 H locs ls hP hD hS hl)
      · exact lv_tableIn (off := 465) hx hb dL_law_33 hlo hhi (by rw [q]; rfl) (tgt := 498) (by decide) (h10 H locs ls hP hD hS hl)
      · exact lv_tableIn (off := 498) hx hb dL_law_33 hlo hhi (by rw [q]; rfl) (tgt := 531) (by decide) (h11 H locs ls hP hD hS hl)
      · exact lv_tableIn (off := 531) hx hb dL_law_33 hlo hhi (by rw [q]; rfl) (tgt := 564) (by decide) (h12 H locs ls hP hD hS hl)
      · exact lv_tableIn (off := 564) hx hb dL_law_33 hlo hhi (by rw [q]; rfl) (tgt := 597) (by decide) (h13 H locs ls hP hD hS hl)
      · exact lv_tableIn (off := 597) hx hb dL_law_33 hlo hhi (by rw [q]; rfl) (tgt := 630) (by decide) (h14 H locs ls hP hD hS hl)
      · exact lv_tableIn (off := 630) hx hb dL_law_33 hlo hhi (by rw [q]; rfl) (tgt := 663) (by decide) (h15 H locs ls hP hD hS hl)
      · exact lv_tableIn (off := 663) hx hb dL_law_33 hlo hhi (by rw [q]; rfl) (tgt := 696) (by decide) (h16 H locs ls hP hD hS hl)
      · exact lv_tableIn (off := 696) hx hb dL_law_33 hlo hhi (by rw [q]; rfl) (tgt := 729) (by decide) (h17 H locs ls hP hD hS hl)
      · exact lv_tableIn (off := 719) hx hb dL_law_33 hlo hhi (by rw [q]; rfl) (tgt := 752) (by decide) (h18 H locs ls hP hD hS hl)
      · exact lv_tableIn (off := 742) hx hb dL_law_33 hlo hhi (by rw [q]; rfl) (tgt := 775) (by decide) (h19 H locs ls hP hD hS hl)
      · exact lv_tableIn (off := 755) hx hb dL_law_33 hlo hhi (by rw [q]; rfl) (tgt := 788) (by decide) (h20 H locs ls hP hD hS hl)
      · exact lv_tableIn (off := 798) hx hb dL_law_33 hlo hhi (by rw [q]; rfl) (tgt := 831) (by decide) (h21 H locs ls hP hD hS hl)
      · exact lv_tableIn (off := 851) hx hb dL_law_33 hlo hhi (by rw [q]; rfl) (tgt := 884) (by decide) (h22 H locs ls hP hD hS hl)
      · exact lv_tableIn (off := 904) hx hb dL_law_33 hlo hhi (by rw [q]; rfl) (tgt := 937) (by decide) (h23 H locs ls hP hD hS hl)
      · exact lv_tableIn (off := 937) hx hb dL_law_33 hlo hhi (by rw [q]; rfl) (tgt := 970) (by decide) (h24 H locs ls hP hD hS hl)
      · exact lv_tableIn (off := 970) hx hb dL_law_33 hlo hhi (by rw [q]; rfl) (tgt := 1003) (by decide) (h25 H locs ls hP hD hS hl)
      · exact lv_tableIn (off := 993) hx hb dL_law_33 hlo hhi (by rw [q]; rfl) (tgt := 1026) (by decide) (h26 H locs ls hP hD hS hl)
      · exact lv_tableIn (off := 1016) hx hb dL_law_33 hlo hhi (by rw [q]; rfl) (tgt := 1049) (by decide) (h27 H locs ls hP hD hS hl)
      · exact lv_tableIn (off := 1091) hx hb dL_law_33 hlo hhi (by rw [q]; rfl) (tgt := 1124) (by decide) (h28 H locs ls hP hD hS hl)
      · exact lv_tableIn (off := 1134) hx hb dL_law_33 hlo hhi (by rw [q]; rfl) (tgt := 1167) (by decide) (h29 H locs ls hP hD hS hl)
      · exact lv_tableIn (off := 1157) hx hb dL_law_33 hlo hhi (by rw [q]; rfl) (tgt := 1190) (by decide) (h30 H locs ls hP hD hS hl)
      · exact lv_tableIn (off := 1211) hx hb dL_law_33 hlo hhi (by rw [q]; rfl) (tgt := 1244) (by decide) (h31 H locs ls hP hD hS hl)
      · exact lv_tableIn (off := 1254) hx hb dL_law_33 hlo hhi (by rw [q]; rfl) (tgt := 1287) (by decide) (h32 H locs ls hP hD hS hl)
      · exact lv_tableIn (off := 1277) hx hb dL_law_33 hlo hhi (by rw [q]; rfl) (tgt := 1310) (by decide) (h33 H locs ls hP hD hS hl)
      · exact lv_tableIn (off := 1300) hx hb dL_law_33 hlo hhi (by rw [q]; rfl) (tgt := 1333) (by decide) (h34 H locs ls hP hD hS hl)
      · exact lv_tableIn (off := 1323) hx hb dL_law_33 hlo hhi (by rw [q]; rfl) (tgt := 1356) (by decide) (h35 H locs ls hP hD hS hl)
      · exact lv_tableIn (off := 1356) hx hb dL_law_33 hlo hhi (by rw [q]; rfl) (tgt := 1389) (by decide) (h36 H locs ls hP hD hS hl)
      · exact lv_tableIn (off := 1389) hx hb dL_law_33 hlo hhi (by rw [q]; rfl) (tgt := 1422) (by decide) (h37 H locs ls hP hD hS hl)
      · exact lv_tableIn (off := 1412) hx hb dL_law_33 hlo hhi (by rw [q]; rfl) (tgt := 1445) (by decide) (h38 H locs ls hP hD hS hl)
      · exact lv_tableIn (off := 1435) hx hb dL_law_33 hlo hhi (by rw [q]; rfl) (tgt := 1468) (by decide) (h39 H locs ls hP hD hS hl)
end LE
/-! THE CLAIM OUT OF ONE WALK OF THE LAW'S BODY. Your part is whole_start (and what it stands on); all else here is the same for every law, but numbers. -/
def R_law : String := "SwanDeedsLaw"
def lw_P (b : Addr) (xs : List Int32) (args : Array Value) (s : State) : Prop := args = #[.ref b] ∧ s.IntsAt b xs ∧ xs.length ≤ 3584 ∧ (Jvm.Cond.and given_1 narrow_1).before args s = true
def lw_Q (_ : Array Value) (s : State) (o : Outcome) (t : State) : Prop := o = .returned (some (.int 1)) ∧ Framed s o t [] 600000 7302250
def lw_Z (below : List Frame) (a : Array Value) (s : State) : State → Prop := fun t => ∃ o, t.status = .running ∧ Ended t below o ∧ lw_Q a s o t
/-- the law's own end, with 1 on the stack, nothing written that was there before, its room as the claim has it -/
theorem lw_ret {p : Program} {l : Launch} {e : Env} {s : State} {m : MethodId} {below : List Frame} {meth : Method} {c : Code} {b : Nat} (hx : p.tables.exec = Jvm.exec) (hb : c.code = code) (hr : meth.sig.returnType = ret) (hlocks : meth.locks = false) {pc : Nat} {H : Heap} {ls : Array Slot} (hdg : decode code pc = .ok (.ireturn, 1)) : W p l e room_1 s m #[Value.ref b] below meth c H [] 600000 7302250 (lw_Z below #[Value.ref b] s) (F0 m pc ls [.int 1]) := by
  intro T hT X
  obtain ⟨fs, hret, hrun, hended, hW, hframe⟩ := X.leave (v := some (.int 1)) (hlocks := hlocks) (fun h => by rw [hr] at h; cases h)
  have hmeth' : T.vm.method? m = some meth := X.method'
  refine ⟨T.setFrames fs, ?_, .returned (some (.int 1)), hrun, hended, rfl, ⟨_, rfl⟩, hW, hframe⟩
  jvm_step X.here [X.here.top, hx, hb, hdg, hmeth', hr, ret, narrow_b1]
  (try refine ⟨rfl, ?_⟩); (try refine ⟨rfl, ?_⟩)
  first | (intro acts; rw [hret _ acts rfl rfl rfl]) | rw [hret _ _ rfl rfl rfl]
  exact Steps.refl _
/-- what holds at the law's entry: the machine, the code, the tables' words (any of lw_tbl by 'hts w (by decide +kernel)'), the script of L ints xs at the cell b, what the Statement gives of the start (any of its parts by flat_of_before) -/
def lw_At (p : Program) (s : State) (m : MethodId) (meth : Method) (c : Code) (b L : Nat) (xs : Nat → Int32) : Prop :=
  p.tables.exec = Jvm.exec ∧ c.code = code ∧ meth.sig.returnType = ret ∧ c.maxLocals = 4 ∧ s.vm.findClass R_law = some m.cls ∧ (∀ w ∈ lw_tbl, w.before #[Value.ref b] s = true) ∧ va_X b L xs s s.heap ∧ b < s.heap.size ∧ meth.locks = false ∧ (Jvm.Cond.and given_1 narrow_1).before #[Value.ref b] s = true

section LF
variable {l : Launch} {D : va_G} {ad am : Nat → Nat} {cI cII cR cZ : ClassId} {L : Nat} {xs : Nat → Int32} {G : Mm → Mm → Nat → Nat → List Value → Prop} {μ ν : Mm} {i : Nat}
theorem y_exit (C : Lx l D ad am cI cII cR cZ L xs G) : G μ ν i 1487 [] := by
  obtain ⟨p, e, s, m, below, meth, c, b, k, n', hx, hb, hml, hr, hown, hts, hlk, hX, hbl, hKC, hKM, hZ, hk, hn', rfl⟩ := C
  intro H locs ls hP hD hS hl
  refine lv_iconst (v := 1) hx hb dL_law_1487 rfl ?_
  refine va_forget hS.2.2 ?_
  refine W.widen hk hn' ?_
  exact lw_ret hx hb hr hlk dL_law_1488
theorem l_loop (C : Lx l D ad am cI cII cR cZ L xs G) (hL : L ≤ 3584) : ∀ (d i : Nat) (μ ν : Mm), L ≤ i + d → i ≤ L → Rel μ ν → okM μ → okM ν → G μ ν i 18 [] := by
  intro d
  induction d with
  | zero =>
    intro i μ ν h1 h2 h hμ hν
    exact y_head C hL h2 (y_exit C) (fun h7 => by omega)
  | succ d ih =>
    intro i μ ν h1 h2 h hμ hν
    refine y_head C hL h2 (y_exit C) (fun h7 => ?_)
    have nx : ∀ μ2 ν2, Rel μ2 ν2 → okM μ2 → okM ν2 → G μ2 ν2 i 1481 [] := fun μ2 ν2 g a b => y_next C hL h7 dL_law_1481 dL_law_1484 (ih (i + 7) μ2 ν2 (by omega) (by omega) g a b)
    exact y_sel C hL h7 (l_row C hL h7 h hμ hν nx) (l_set C hL h7 h hμ hν nx) (l_copy C hL h7 h hμ hν nx) (l_drop C hL h7 h hμ hν nx) (l_feed C hL h7 h hμ hν nx) (l_river C hL h7 h hμ hν nx) (l_fault C hL h7 h hμ hν nx) (l_undo C hL h7 h hμ hν nx) (l_days C hL h7 h hμ hν nx) (l_bread C hL h7 h hμ hν nx) (l_weir C hL h7 h hμ hν nx) (l_frighten C hL h7 h hμ hν nx) (l_weight C hL h7 h hμ hν nx) (l_swan C hL h7 h hμ hν nx) (l_lawn C hL h7 h hμ hν nx) (l_ahead C hL h7 h hμ hν nx) (l_owns C hL h7 h hμ hν nx) (l_nobody C hL h7 h hμ hν nx) (l_moves C hL h7 h hμ hν nx) (l_evening C hL h7 h hμ hν nx) (l_stays C hL h7 h hμ hν nx) (l_crusts C hL h7 h hμ hν nx) (l_weirs C hL h7 h hμ hν nx) (l_hold C hL h7 h hμ hν nx) (l_meet C hL h7 h hμ hν nx) (l_fights C hL h7 h hμ hν nx) (l_doubles C hL h7 h hμ hν nx) (l_who C hL h7 h hμ hν nx) (l_which C hL h7 h hμ hν nx) (l_hungry C hL h7 h hμ hν nx) (l_sink C hL h7 h hμ hν nx) (l_drawn C hL h7 h hμ hν nx) (l_image C hL h7 h hμ hν nx) (l_restore C hL h7 h hμ hν nx) (l_kind C hL h7 h hμ hν nx) (l_as C hL h7 h hμ hν nx) (l_ask C hL h7 h hμ hν nx) (l_trace C hL h7 h hμ hν nx) (l_count C hL h7 h hμ hν nx) (l_status C hL h7 h hμ hν nx) (nx μ ν h hμ hν)
end LF
theorem ok_μ0 : okM μ0 := fun g o => by
  unfold μ0
  split <;> exact ⟨by decide, by decide⟩
theorem ok_ν0 : okM ν0 := fun g o => by
  unfold ν0
  split <;> exact ⟨by decide, by decide⟩
theorem rel_0 : Rel μ0 ν0 := by
  have z : ∀ {g : Nat} (h : g ≠ 37) (o : Int), μ0 g o = 0 := fun h o => μ0_z h o
  have y : ∀ {g : Nat} (h : g ≠ 33) (o : Int), ν0 g o = 0 := fun h o => ν0_z h o
  refine ⟨fun _ => 0, ⟨?_, ?_, Or.inr ⟨rfl, rfl, rfl, rfl, y (by decide) _⟩⟩, fun r hr => ⟨⟨rfl, ?_, ?_, ?_, ?_, ?_⟩, fun i h1 h2 => ?_⟩, ⟨rfl, by decide, by decide, fun i h1 h2 => absurd h2 (by show ¬ i < 0; omega), rfl⟩, ⟨rfl, by decide, by decide, fun i h1 h2 => absurd h2 (by show ¬ i < 0; omega)⟩, fun k hk => Or.inl ⟨z (by omega) _, y (by decide) _⟩, ⟨rfl, by decide, by decide, by decide, by decide, fun j hj => absurd hj (by show ¬ (j : Int) < 0; omega)⟩, rfl⟩
  · exact ⟨rfl, rfl, rfl, rfl, fun l h1 h2 => rfl, fun k h1 h2 => absurd h2 (by show ¬ k < 0; omega)⟩
  · exact ⟨rfl, rfl, rfl, rfl, fun l h1 h2 => rfl, fun k h1 h2 => absurd h2 (by show ¬ k < 0; omega)⟩
  · rw [y (by decide), z (by decide)]
  · show (-1 : Int) ≤ -1; omega
  · show (-1 : Int) ≤ 40; omega
  · rw [z (by decide)]; decide
  · rw [z (by decide)]; decide
  · rw [y (by decide), z (by omega)]
