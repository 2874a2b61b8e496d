/-! constructors over the real machine: what one makes -/
def dfl (ci : Nat) : List Value := (List.range (FKL ci).length).map (fun k => defaultValue (clT ci k))
theorem dfl_at {ci j : Nat} (hj : j < (FKL ci).length) : defaultValue (clT ci j) = vp_V (dfl ci) j := by
  unfold vp_V dfl
  rw [List.getD_eq_getElem?_getD, List.getElem?_map, List.getElem?_range hj]
  rfl
def CW (D : va_G) (A : Nat → Prop) (H0 H : Heap) (locs : List Jvm.Loc) (ws : va_W) : Prop := va_P D vwCl ws H ∧ va_D A ws ∧ va_S A H0 H locs
def CF (n : Nat) (cc : ByteArray) (nL : Nat) (p : Program) (s : State) (m : MethodId) (args : Array Value) (c : Code) (D : va_G) (A : Nat → Prop) (H0 : Heap) (cA : ClassId) : Prop := p.tables.exec = Jvm.exec ∧ c.code = cc ∧ c.maxLocals = nL ∧ s.vm.findClass (clN n) = some m.cls ∧ (∀ w ∈ gtb, w.before args s = true) ∧ (∀ w ∈ ntb, va_Nw w s) ∧ va_K D vwCl [(cA, .int)] s ∧ ∀ x : Nat, H0.size ≤ x → A x
theorem oi_i : Cond.instanceMethod objectInit ∈ gtb := gtb_in (i := 109) (by decide +kernel) rfl
theorem oi_c : Cond.code objectInit ⟨#[0xb1]⟩ 1 none ∈ gtb := gtb_in (i := 110) (by decide +kernel) rfl
theorem fRd {ci k n idx pl : Nat} {C : String} {T : u_T} {N : Nat} (hc : vwCl[ci]? = some (C, T, N)) (hf : FR n idx = some (ci, k, false, pl)) : k < N ∧ Cond.fieldLink (clN n) idx (T k).1 (T k).2.1 (T k).2.2.1 ∈ gtb := by
  have h := fOK_at hf
  unfold fOK at h
  dsimp only at h
  rw [hc] at h
  simp only [Bool.and_eq_true, decide_eq_true_eq, Bool.false_eq_true, if_false] at h
  exact ⟨h.1, gtb_in h.2 rfl⟩
theorem va_joinE {A0 : Nat → Prop} {D : va_G} {cl : List vw_C} {wr w1 : va_W} {x : Nat × va_E} {H H1 : Heap} (hP : va_P D cl (wr ++ [x]) H) (hD : va_D A0 (wr ++ [x]))
    (hk : ∀ q : Nat, q < H.size → ¬ va_A [x] H.size q → H1[q]? = H[q]?) (hF : ∀ q, va_A [x] H.size q → A0 q) (hP1 : va_P D cl w1 H1) (hD1 : va_D (va_A [x] H.size) w1) : va_P D cl (wr ++ w1) H1 ∧ va_D A0 (wr ++ w1) := by
  have up : ∀ (k : Nat) (q : Nat × va_E), wr[k]? = some q → (wr ++ [x])[k]? = some q := fun k q hq => by
    rw [List.getElem?_append_left (List.getElem?_eq_some_iff.mp hq).1]
    exact hq
  have ux : (wr ++ [x])[wr.length]? = some x := by simp
  have apart : ∀ (k : Nat) (q : Nat × va_E), wr[k]? = some q → q.1 < H.size ∧ ¬ va_A [x] H.size q.1 := by
    intro k q hq
    have hl := (hP k q (up k q hq)).lt
    refine ⟨hl, fun h => ?_⟩
    rcases h with ⟨k2, e, h⟩ | h
    · have hk2 : k2 = 0 := by
        have := (List.getElem?_eq_some_iff.mp h).1
        simp at this
        exact this
      subst hk2
      simp only [List.getElem?_cons_zero, Option.some.injEq] at h
      have := hD.1 k wr.length q x (up k q hq) ux (by rw [h])
      have h2 := (List.getElem?_eq_some_iff.mp hq).1
      omega
    · omega
  have hDr : va_D A0 wr := ⟨fun i j a b hi hj hab => hD.1 i j a b (up i a hi) (up j b hj) hab, fun k q hq => hD.2 k q (up k q hq)⟩
  refine ⟨va_P.app (fun k q hq => ?_) hP1, va_D.app hDr (hD1.weaken (fun k q _ h => hF q.1 h)) (fun i j a b hi hj hab => ?_)⟩
  · obtain ⟨g1, g2⟩ := apart k q hq
    exact (hP k q (up k q hq)).kept (hk q.1 g1 g2)
  · exact (apart i a hi).2 (by rw [hab]; exact hD1.2 j b hj)
section CON
variable {p : Program} {l : Launch} {e : Env} {R : Room} {s : State} {m : MethodId} {args : Array Value} {below : List Frame} {meth : Method} {c : Code} {cells slots : Nat} {Q : State → Prop}
variable {cc : ByteArray} {nL n : Nat} {cA : ClassId} {D : va_G} {A : Nat → Prop} {H H0 : Heap} {locs : List Jvm.Loc} {pc : Nat} {ls : Array Slot} {rest : List Value} {ws : va_W}
theorem o_newa (F : CF n cc nL p s m args c D A H0 cA) (C : CW D A H0 H locs ws) {z : Int32} {N : Nat} (hn : ¬ z < 0) (hN : z.toNatClampNeg = N) (hb8 : N * 4 ≤ 536870912) (hcells : cells + 1 ≤ R.cells) (hslots : slots + N ≤ R.slots) (hdg : decode cc pc = .ok (.newarray .int, 2))
    (kk : ∀ (x : Nat) (H1 : Heap), CW D A H0 H1 locs (ws ++ [(x, .inl (cA, N, .inl (fun _ => Int32.ofInt 0)))]) → W p l e R s m args below meth c H1 locs (cells + 1) (slots + N) Q (F0 m (pc + 2) ls (.ref x :: rest))) : W p l e R s m args below meth c H locs cells slots Q (F0 m pc ls (.int z :: rest)) := by
  obtain ⟨hx, hb, hml, hown, hts, hns, hK, hA⟩ := F
  obtain ⟨hP, hD, hS⟩ := C
  refine va_newa hx hb (atype := .int) (hts _ sp_arr) rfl hK hP hD hS hA (a0 := (N, .inl (fun _ => Int32.ofInt 0))) (fun _ => rfl) hn hN hb8 hcells hslots hdg (fun x cA2 H1 hK2 hP2 hD2 hS2 => ?_)
  have e1 : s.vm.findClass ("[" ++ FieldType.int.toString) = some cA := (hK.2 0 _ rfl).2
  have e2 : s.vm.findClass ("[" ++ FieldType.int.toString) = some cA2 := (hK2.2 1 _ rfl).2
  cases (Option.some.inj (e1.symm.trans e2))
  exact kk x H1 ⟨hP2, hD2, hS2⟩
theorem o_putR (F : CF n cc nL p s m args c D A H0 cA) (hin : meth.name = "<init>") {a ci : Nat} {fs : List Value} {rs : va_W} (C : CW D A H0 H locs ((a, .inr (ci, fs)) :: rs)) {Cn : String} {T : u_T} {N : Nat} (hc : vwCl[ci]? = some (Cn, T, N)) (k : Nat) {idx pl : Nat} (hf : FR n idx = some (ci, k, false, pl)) (hff : FF ci k = true) (hdecl : (T k).1 = clN n) {x : Nat} (ty : FieldType) (hty : clT ci k = ty) (hn : narrow ty (.ref x) = .ref x) (hfit : fits ty (.ref x) = true) (hl : k < fs.length) (hdg : decode cc pc = .ok (.putfield idx, 3))
    (kk : ∀ (H1 : Heap) (locs1 : List Jvm.Loc), CW D A H0 H1 locs1 ((a, .inr (ci, fs.set k (.ref x))) :: rs) → W p l e R s m args below meth c H1 locs1 cells slots Q (F0 m (pc + 3) ls rest)) : W p l e R s m args below meth c H locs cells slots Q (F0 m pc ls (.ref x :: .ref a :: rest)) := by
  obtain ⟨hx, hb, hml, hown, hts, hns, hK, hA⟩ := F
  obtain ⟨hP, hD, hS⟩ := C
  obtain ⟨hk, hw⟩ := fRd hc hf
  exact va_putF (ty := ty) hx hb hts (cl_words hc) (clT ci) (fun j hj => ((cl_at hc).2 j hj).2.1) (cl_names hc) hown hK hP hD hS 0 rfl hc k hk (hts _ hw) (fun _ h9 => h9) (by rw [((cl_at hc).2 k hk).1]; exact hff) hin hdecl (by rw [((cl_at hc).2 k hk).2.1, hty]) hn hfit hl hdg (fun H1 locs1 hP hD hS => kk H1 locs1 ⟨hP, hD, hS⟩)
theorem o_putI (F : CF n cc nL p s m args c D A H0 cA) {a ci : Nat} {fs : List Value} {rs : va_W} (C : CW D A H0 H locs ((a, .inr (ci, fs)) :: rs)) {Cn : String} {T : u_T} {N : Nat} (hc : vwCl[ci]? = some (Cn, T, N)) (k : Nat) {idx pl : Nat} (hf : FR n idx = some (ci, k, false, pl)) (hff : FF ci k = false) {v : Int32} (ty : FieldType) (hty : clT ci k = ty) (hn : narrow ty (.int v) = .int v) (hfit : fits ty (.int v) = true) (hl : k < fs.length) (hdg : decode cc pc = .ok (.putfield idx, 3))
    (kk : ∀ (H1 : Heap) (locs1 : List Jvm.Loc), CW D A H0 H1 locs1 ((a, .inr (ci, fs.set k (.int v))) :: rs) → W p l e R s m args below meth c H1 locs1 cells slots Q (F0 m (pc + 3) ls rest)) : W p l e R s m args below meth c H locs cells slots Q (F0 m pc ls (.int v :: .ref a :: rest)) := by
  obtain ⟨hx, hb, hml, hown, hts, hns, hK, hA⟩ := F
  obtain ⟨hP, hD, hS⟩ := C
  obtain ⟨hk, hw⟩ := fRd hc hf
  exact va_put (ty := ty) hx hb hts (cl_words hc) (clT ci) (fun j hj => ((cl_at hc).2 j hj).2.1) (cl_names hc) hown hK hP hD hS 0 rfl hc k hk (hts _ hw) (fun _ h9 => h9) (by rw [((cl_at hc).2 k hk).1]; exact hff) (by rw [((cl_at hc).2 k hk).2.1, hty]) hn hfit hl hdg (fun H1 locs1 hP hD hS => kk H1 locs1 ⟨hP, hD, hS⟩)
/-- this.f = new int[N] -/
theorem o_arr (F : CF n cc nL p s m args c D A H0 cA) (hin : meth.name = "<init>") {a ci : Nat} {fs : List Value} {rs : va_W} (hl0 : lv_has ls nL [(0, .ref a)]) (C : CW D A H0 H locs ((a, .inr (ci, fs)) :: rs)) {Cn : String} {T : u_T} {N : Nat} (hc : vwCl[ci]? = some (Cn, T, N)) (k w N2 : Nat) {z : Int32} {idx pl : Nat} (hf : FR n idx = some (ci, k, false, pl)) (hff : FF ci k = true) (hdecl : (T k).1 = clN n) (hty : clT ci k = .array .int) (hl : k < fs.length)
    (hn : ¬ z < 0) (hN : z.toNatClampNeg = N2) (hb8 : N2 * 4 ≤ 536870912) (hcells : cells + 1 ≤ R.cells) (hslots : slots + N2 ≤ R.slots)
    (push : ∀ (H : Heap) (locs : List Jvm.Loc) (cells slots : Nat) (rest : List Value), W p l e R s m args below meth c H locs cells slots Q (F0 m (pc + 1 + w) ls (.int z :: rest)) → W p l e R s m args below meth c H locs cells slots Q (F0 m (pc + 1) ls rest))
    (d0 : decode cc pc = .ok (.aload_n 0, 1)) (d1 : decode cc (pc + 1 + w) = .ok (.newarray .int, 2)) (d2 : decode cc (pc + 1 + w + 2) = .ok (.putfield idx, 3))
    (kk : ∀ (x : Nat) (H1 : Heap) (locs1 : List Jvm.Loc), CW D A H0 H1 locs1 ((a, .inr (ci, fs.set k (.ref x))) :: (rs ++ [(x, .inl (cA, N2, .inl (fun _ => Int32.ofInt 0)))])) → W p l e R s m args below meth c H1 locs1 (cells + 1) (slots + N2) Q (F0 m (pc + 1 + w + 2 + 3) ls rest)) : W p l e R s m args below meth c H locs cells slots Q (F0 m pc ls rest) := by
  refine lv_aload_n F.1 F.2.1 d0 rfl (lv_at hl0 0 rfl) ?_
  refine push _ _ _ _ _ ?_
  refine o_newa F C hn hN hb8 hcells hslots d1 (fun x H1 C1 => ?_)
  exact o_putR F hin (rs := rs ++ [(x, .inl (cA, N2, .inl (fun _ => Int32.ofInt 0)))]) C1 hc k hf hff hdecl (.array .int) hty rfl rfl hl d2 (fun H2 locs2 C2 => kk x H2 locs2 C2)
end CON
def PC (h0 ci sz : Nat) (D : va_G) (cA : ClassId) : Array Value → State → Prop := va_Pc [.ref h0] (fun U => U.heap.size = sz ∧ va_P D vwCl [(h0, .inr (ci, dfl ci))] U.heap ∧ va_K D vwCl [(cA, .int)] U ∧ va_D (fun _ => True) [(h0, .inr (ci, dfl ci))] ∧ ∀ w ∈ ntb, va_Nw w U)
def QC (h0 ci sz : Nat) (D : va_G) (cA : ClassId) (K : KK) (h : HH) : Array Value → State → Outcome → State → Prop := va_Qv (fun ad : Nat → Nat => ad 0 = h0) (fun ad t => va_P D vwCl (wld K ad cA h) t.heap ∧ va_D (va_A [(h0, .inr (ci, dfl ci))] sz) (wld K ad cA h)) (va_A [(h0, .inr (ci, dfl ci))] sz)
def rmC (d mc ms : Nat) : Room := { frames := d, cells := mc, slots := ms, locals := 64 * d }
def MetC (l : Launch) (q : ME) (K : KK) (h : HH) (d mc ms : Nat) : Prop := ∀ (D : va_G) (cA : ClassId) (h0 sz : Nat), Met l q.y (wsM q) (rmC d mc ms) (PC h0 q.ci sz D cA) (QC h0 q.ci sz D cA K h) mc ms (va_A [(h0, .inr (q.ci, dfl q.ci))] sz)
theorem PC_blind {h0 ci sz : Nat} {D : va_G} {cA : ClassId} : FrameBlind (PC h0 ci sz D cA) := by
  intro a U g mk hp
  obtain ⟨h1, h2, h3, h4, h5, h6⟩ := hp
  exact ⟨h1, h2, h3, va_K.moved (u := U) (U := U.calling g mk a) (Vm.Alike.refl U.vm) h4, h5, fun w hw => va_Nw.same (u := U) (U := U.calling g mk a) (ntb_onT (List.mem_filter.mp hw).2) rfl (h6 w hw)⟩
section COM
variable {p : Program} {l : Launch} {e : Env} {R : Room} {s : State} {m : MethodId} {args : Array Value} {below : List Frame} {meth : Method} {c : Code} {cells slots : Nat} {Q : State → Prop}
variable {cc : ByteArray} {nL n : Nat} {cA : ClassId} {D : va_G} {A : Nat → Prop} {H H0 : Heap} {locs : List Jvm.Loc} {pc : Nat} {ls : Array Slot} {rest : List Value} {ws : va_W}
/-- new C() -/
theorem o_nw (F : CF n cc nL p s m args c D A H0 cA) (C : CW D A H0 H locs ws) {mi2 : Nat} {q2 : ME} {K : KK} {h : HH} {d2 mc ms : Nat} (M : MetC l q2 K h d2 mc ms) (hq2 : PT[mi2]? = some q2) (hq2n : mi2 ≠ lawI) (hin2 : q2.y.name = "<init>") (hret : q2.ret = none) (hna : q2.na = 0) (hst : q2.st = false) {C2 : String} {T2 : u_T} {N2 : Nat} (hc2 : vwCl[q2.ci]? = some (C2, T2, N2)) {ix i2 p1 p2 pl : Nat} (w1 : lw_tbl[p1]? = some (.classLink (clN n) ix C2)) (w2 : lw_tbl[p2]? = some (.instantiable C2 N2)) (hm : MR n i2 = some (mi2, false, pl))
    (d0 : decode cc pc = .ok (.new ix, 3)) (d3 : decode cc (pc + 3) = .ok (.dup, 1)) (d4 : decode cc (pc + 3 + 1) = .ok (.invokespecial i2, 3)) (hsz : ls.size = nL) (hcat : (rest.map fun v => v.category).sum ≤ 7) (hfr : d2 + 1 ≤ R.frames) (hlo : 8 + (q2.ml + 11) + 64 * d2 ≤ R.locals) (hcells : cells + 1 + mc ≤ R.cells) (hslots : slots + N2 + ms ≤ R.slots)
    (kk : ∀ (ad : Nat → Nat) (H1 : Heap) (locs1 : List Jvm.Loc), CW D A H0 H1 locs1 (ws ++ wld K ad cA h) → W p l e R s m args below meth c H1 locs1 (cells + 1 + mc) (slots + N2 + ms) Q (F0 m (pc + 3 + 1 + 3) ls (.ref (ad 0) :: rest))) : W p l e R s m args below meth c H locs cells slots Q (F0 m pc ls rest) := by
  obtain ⟨hx, hb, hml, hown, hts, hns, hK, hA⟩ := F
  obtain ⟨hP, hD, hS⟩ := C
  obtain ⟨pls, hmo, hcd⟩ := mOK_at hq2 hq2n
  unfold mOK at hmo
  simp only [Bool.and_eq_true, decide_eq_true_eq] at hmo
  obtain ⟨m1, m2, m3, m4, m5, m6, m7, m8, m9⟩ := hmo
  rw [hst] at m2 m9
  rw [hc2] at m9
  simp only [Bool.false_eq_true, if_false, Bool.and_eq_true, Bool.false_or, decide_eq_true_eq] at m2 m9
  subst m9
  have hrk := rOK_at hm
  unfold rOK at hrk
  dsimp only at hrk
  have hlt : mi2 < 1000 := by
    have h1 := (List.getElem?_eq_some_iff.mp hq2).1
    have h2 : PT.length = 244 := by decide +kernel
    omega
  rw [if_neg (by omega), hq2] at hrk
  simp only [Bool.and_eq_true, decide_eq_true_eq, Bool.false_eq_true, if_false] at hrk
  refine va_new (ci := q2.ci) (fs := dfl q2.ci) hx hb hts (cl_words hc2) (clT q2.ci) (fun k hk => ((cl_at hc2).2 k hk).2.1) hown (hts _ (gtb_in w1 rfl)) (hts _ (gtb_in w2 rfl)) (hts _ (gtb_in m1 rfl)) hK hP hD hS hA hc2 (fun j hj => dfl_at (by rw [← (cl_at hc2).1]; exact hj)) (by omega) (by omega) d0 (fun x H1 hP hD hS => ?_)
  refine lv_dup hx hb d3 rfl ?_
  have ux : (ws ++ [((x, .inr (q2.ci, dfl q2.ci)) : Nat × va_E)])[ws.length]? = some (x, .inr (q2.ci, dfl q2.ci)) := by simp
  have hF : ∀ y, va_A [(x, .inr (q2.ci, dfl q2.ci))] H1.size y → A y := by
    intro y hy
    rcases hy with ⟨k2, e2, hy⟩ | hy
    · have hk2 : k2 = 0 := by
        have := (List.getElem?_eq_some_iff.mp hy).1
        simp at this
        exact this
      subst hk2
      simp only [List.getElem?_cons_zero, Option.some.injEq, Prod.mk.injEq] at hy
      have := hD.2 _ _ ux
      rw [← hy.1]
      exact this
    · exact hA y (Nat.le_trans hS.1 hy)
  have hPc : va_P D vwCl [(x, .inr (q2.ci, dfl q2.ci))] H1 := by
    intro k y hy
    have hk2 : k = 0 := by
      have := (List.getElem?_eq_some_iff.mp hy).1
      simp at this
      exact this
    subst hk2
    simp only [List.getElem?_cons_zero, Option.some.injEq] at hy
    rw [← hy]
    exact hP _ _ ux
  have hDc : va_D (fun _ => True) [((x, .inr (q2.ci, dfl q2.ci)) : Nat × va_E)] := by
    refine ⟨fun i j a b hi hj _ => ?_, fun _ _ _ => trivial⟩
    have h1 := (List.getElem?_eq_some_iff.mp hi).1
    have h2 := (List.getElem?_eq_some_iff.mp hj).1
    simp at h1 h2
    omega
  refine va_callv (va_runI (As := []) (rest := .ref x :: rest) (nL := nL) ⟨hx, hb, hml, hown, hts⟩ (M D cA x H1.size) (cwI 0 hts (gi (wsM_in hcd)) (by unfold wsM; rw [hret]) rfl rfl (hts _ (gtb_in m1 rfl)) (hts _ (gtb_in hrk.2 rfl)) (hts _ (gtb_in m2.1 rfl)) hin2 ⟨m3, m4, by rw [m5, hna]⟩ ⟨hfr, hlo⟩) ⟨PC_blind, fun U hU hW => ⟨rfl, by rw [hU], by rw [hU]; exact hPc, va_K.moved hW.alike hK, hDc, ntb_moved hW hns⟩⟩ rfl rfl hsz rfl (lv_room (by rw [List.map_cons, List.sum_cons]; show 1 + _ ≤ 8; omega)) d4 ⟨by omega, by omega⟩) hS (fun y _ hy => hF y hy) hF (fun ad t H2 locs2 ht hvm had hB hz1 hk1 hS2 => ?_)
  obtain ⟨hP1, hD1⟩ := hB
  rw [ht] at hP1
  obtain ⟨hP, hD⟩ := va_joinE hP hD hk1 hF hP1 hD1
  have := kk ad H2 locs2 ⟨hP, hD, hS2⟩
  rw [had] at this
  exact this
end COM
section COS
variable {cA : ClassId} {D : va_G} {pc : Nat}
/-- a constructor's contract, out of a walk from behind Object's -/
theorem metC_of {l : Launch} {mi : Nat} {q : ME} (hq : PT[mi]? = some q) (hn : mi ≠ lawI) (hret : q.ret = none) (hml : q.ml = 1) (hin : q.y.name = "<init>") {K : KK} {h : HH} {d mc ms : Nat} (hd : 1 ≤ d) {o0 oix : Nat} (wo : lw_tbl[o0]? = some (.methodLink (clN q.c) oix objectInit)) (d0 : decode q.b 0 = .ok (.aload_n 0, 1)) (d1 : decode q.b 1 = .ok (.invokespecial oix, 3))
    (body : ∀ (p : Program) (e : Env) (s : State) (m : MethodId) (args : Array Value) (below : List Frame) (meth : Method) (c : Code) (Q : State → Prop) (D : va_G) (cA : ClassId) (A : Nat → Prop) (h0 : Nat) (ls : Array Slot), CF q.c q.b 1 p s m args c D A s.heap cA → meth.name = "<init>" → lv_has ls 1 [(0, .ref h0)] → CW D A s.heap s.heap [] [(h0, .inr (q.ci, dfl q.ci))] →
      (∀ (ad : Nat → Nat) (H : Heap) (locs : List Jvm.Loc) (ls : Array Slot) (pc : Nat), decode q.b pc = .ok (.return_, 1) → ad 0 = h0 → CW D A s.heap H locs (wld K ad cA h) → W p l e (rmC d mc ms) s m args below meth c H locs mc ms Q (F0 m pc ls [])) → W p l e (rmC d mc ms) s m args below meth c s.heap [] 0 0 Q (F0 m 4 ls [])) : MetC l q K h d mc ms := by
  obtain ⟨pls, hmo, hcd⟩ := mOK_at hq hn
  unfold mOK at hmo
  simp only [Bool.and_eq_true, decide_eq_true_eq] at hmo
  obtain ⟨m1, m2, m3, m4, m5, m6, m7, m8, m9⟩ := hmo
  intro D cA h0 sz
  refine Met.ofW (cc := q.b) (maxL := q.ml) (ret := q.ret) m6 rfl ?_
  intro p e s m args below meth c s₁ B hmx hv
  obtain ⟨rfl, hsz, hP, hK, hD0, hNw⟩ := hv
  have hx := B.exec
  have hb := B.bytes
  have hr := B.returns
  have hts := atoms_spec (ws := wsM q) B.pre
  have hown : s.vm.findClass q.y.cls = some m.cls := findClass_of_methodNamed B.named
  have hlocks := B.notSynchronized
  have hinm : meth.name = "<init>" := (name_of_methodNamed B.named B.method).1.trans hin
  subst hsz
  have hD := hD0.self (sz := s.heap.size)
  generalize hAe : va_A [(h0, .inr (q.ci, dfl q.ci))] s.heap.size = A at hD ⊢
  have hA : ∀ x : Nat, s.heap.size ≤ x → A x := fun x z => by rw [← hAe]; exact Or.inr z
  rw [hret] at hr
  rw [m7] at hown
  rw [hml] at hmx
  have ht2 : ∀ w ∈ gtb, w.before [Value.ref h0].toArray s = true := fun w hw => hts w (List.mem_cons_of_mem _ hw)
  rw [hml]
  have hl := lv_entry ([.ref h0]) (n := 1) (Nat.le_of_ble_eq_true rfl)
  rw [lg_entry_eq]
  generalize (lg_sl ([.ref h0]) ++ List.replicate (1 - (lg_sl ([.ref h0])).length) Slot.unset).toArray = ls at hl ⊢
  have hl : lv_has ls 1 [(0, .ref h0)] := hl
  show W p l e (rmC d mc ms) s m [Value.ref h0].toArray below meth c s.heap [] 0 0 _ _
  refine lv_aload_n hx hb d0 rfl (lv_at hl 0 rfl) ?_
  refine W.objInit hx hb hown (ht2 _ (gtb_in wo rfl)) (ht2 _ oi_i) (ht2 _ oi_c) rfl (by rw [hmx]; exact hl.1) rfl d1 (by unfold rmC; exact hd) (by unfold rmC; show 0 + 0 + 12 ≤ 64 * d; omega) ?_
  refine W.eq (g2 := F0 m 4 ls []) rfl ?_
  refine body p e s m _ below meth c _ D cA A h0 ls ⟨hx, hb, hmx, hown, ht2, hNw, hK, hA⟩ hinm hl ⟨hP, hD, va_S.rf⟩ (fun ad H locs ls2 pc2 hdg had C => ?_)
  obtain ⟨hP2, hD2, hS2⟩ := C
  refine W.vret hx hb hr (fun t ht hW => ⟨⟨ad, rfl, had, by rw [ht]; exact hP2, by rw [hAe]; exact hD2⟩, by rw [hAe]; exact hS2.F ht⟩) hS2.2.2 hdg
end COS
section COB
variable {p : Program} {l : Launch} {e : Env} {R : Room} {s : State} {m : MethodId} {args : Array Value} {below : List Frame} {meth : Method} {c : Code} {cells slots : Nat} {Q : State → Prop}
variable {cc : ByteArray} {nL n : Nat} {cA : ClassId} {D : va_G} {A : Nat → Prop} {H H0 : Heap} {locs : List Jvm.Loc} {pc : Nat} {ls : Array Slot} {rest : List Value}
/-- this.f = z -/
theorem o_int (F : CF n cc nL p s m args c D A H0 cA) {a ci : Nat} {fs : List Value} {rs : va_W} (hl0 : lv_has ls nL [(0, .ref a)]) (C : CW D A H0 H locs ((a, .inr (ci, fs)) :: rs)) {Cn : String} {T : u_T} {N : Nat} (hc : vwCl[ci]? = some (Cn, T, N)) (k w : Nat) {z : Int32} {idx pl : Nat} (hf : FR n idx = some (ci, k, false, pl)) (hff : FF ci k = false) (ty : FieldType) (hty : clT ci k = ty) (hn : narrow ty (.int z) = .int z) (hfit : fits ty (.int z) = true) (hl : k < fs.length)
    (push : ∀ (H : Heap) (locs : List Jvm.Loc) (cells slots : Nat) (rest : List Value), W p l e R s m args below meth c H locs cells slots Q (F0 m (pc + 1 + w) ls (.int z :: rest)) → W p l e R s m args below meth c H locs cells slots Q (F0 m (pc + 1) ls rest))
    (d0 : decode cc pc = .ok (.aload_n 0, 1)) (d2 : decode cc (pc + 1 + w) = .ok (.putfield idx, 3))
    (kk : ∀ (H1 : Heap) (locs1 : List Jvm.Loc), CW D A H0 H1 locs1 ((a, .inr (ci, fs.set k (.int z))) :: rs) → W p l e R s m args below meth c H1 locs1 cells slots Q (F0 m (pc + 1 + w + 3) ls rest)) : W p l e R s m args below meth c H locs cells slots Q (F0 m pc ls rest) := by
  refine lv_aload_n F.1 F.2.1 d0 rfl (lv_at hl0 0 rfl) ?_
  refine push _ _ _ _ _ ?_
  exact o_putI F C hc k hf hff ty hty hn hfit hl d2 (fun H2 locs2 C2 => kk H2 locs2 C2)
/-- this.f = new C() -/
theorem o_obj (F : CF n cc nL p s m args c D A H0 cA) (hin : meth.name = "<init>") {a ci : Nat} {fs : List Value} {rs : va_W} (hl0 : lv_has ls nL [(0, .ref a)]) (C : CW D A H0 H locs ((a, .inr (ci, fs)) :: rs)) {Cn : String} {T : u_T} {N : Nat} (hc : vwCl[ci]? = some (Cn, T, N)) (k : Nat) {idx pl : Nat} (hf : FR n idx = some (ci, k, false, pl)) (hff : FF ci k = true) (hdecl : (T k).1 = clN n) (ty : FieldType) (hty : clT ci k = ty) (hn : ∀ x, narrow ty (.ref x) = .ref x) (hfit : ∀ x, fits ty (.ref x) = true) (hl : k < fs.length)
    {mi2 : Nat} {q2 : ME} {K : KK} {h : HH} {d2 mc ms : Nat} (M : MetC l q2 K h d2 mc ms) (hq2 : PT[mi2]? = some q2) (hq2n : mi2 ≠ lawI) (hin2 : q2.y.name = "<init>") (hret : q2.ret = none) (hna : q2.na = 0) (hst : q2.st = false) {C2 : String} {T2 : u_T} {N2 : Nat} (hc2 : vwCl[q2.ci]? = some (C2, T2, N2)) {ix i2 p1 p2 pm : Nat} (w1 : lw_tbl[p1]? = some (.classLink (clN n) ix C2)) (w2 : lw_tbl[p2]? = some (.instantiable C2 N2)) (hm : MR n i2 = some (mi2, false, pm))
    (d0 : decode cc pc = .ok (.aload_n 0, 1)) (d1 : decode cc (pc + 1) = .ok (.new ix, 3)) (d3 : decode cc (pc + 1 + 3) = .ok (.dup, 1)) (d4 : decode cc (pc + 1 + 3 + 1) = .ok (.invokespecial i2, 3)) (d5 : decode cc (pc + 1 + 3 + 1 + 3) = .ok (.putfield idx, 3)) (hcat : (rest.map fun v => v.category).sum ≤ 6) (hfr : d2 + 1 ≤ R.frames) (hlo : 8 + (q2.ml + 11) + 64 * d2 ≤ R.locals) (hcells : cells + 1 + mc ≤ R.cells) (hslots : slots + N2 + ms ≤ R.slots)
    (kk : ∀ (ad : Nat → Nat) (H1 : Heap) (locs1 : List Jvm.Loc), CW D A H0 H1 locs1 ((a, .inr (ci, fs.set k (.ref (ad 0)))) :: (rs ++ wld K ad cA h)) → W p l e R s m args below meth c H1 locs1 (cells + 1 + mc) (slots + N2 + ms) Q (F0 m (pc + 1 + 3 + 1 + 3 + 3) ls rest)) : W p l e R s m args below meth c H locs cells slots Q (F0 m pc ls rest) := by
  refine lv_aload_n F.1 F.2.1 d0 rfl (lv_at hl0 0 rfl) ?_
  refine o_nw F C M hq2 hq2n hin2 hret hna hst hc2 w1 w2 hm d1 d3 d4 hl0.1 (by rw [List.map_cons, List.sum_cons]; show 1 + _ ≤ 7; omega) hfr hlo hcells hslots (fun ad H1 locs1 C1 => ?_)
  exact o_putR F hin (rs := rs ++ wld K ad cA h) C1 hc k hf hff hdecl ty hty (hn _) (hfit _) hl d5 (fun H2 locs2 C2 => kk ad H2 locs2 C2)
end COB
def adL (L : List Nat) : Nat → Nat := fun i => L.getD i 0
