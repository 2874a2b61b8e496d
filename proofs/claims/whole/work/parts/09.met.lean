theorem Sx.moved {ad : Nat → Nat} {A B : Nat → Prop} {s U : State} {H0 H : Heap} {SL : Nat} {xs : Nat → Int32} {h : HH} (hs : Sx ad A s H0 SL xs h) (hvm : s.vm.Alike U.vm) (hk : ∀ x : Nat, x < H0.size → ¬ A x → H[x]? = H0[x]?) (hz : H0.size ≤ H.size) (hB : ∀ x : Nat, x < H0.size → B x → A x) : Sx ad B U H SL xs h := by
  refine ⟨fun z => ?_, hs.2⟩
  obtain ⟨hX, hb, hA⟩ := hs.1 z
  exact ⟨(hX.kept (hk _ hb hA)).moved hvm, Nat.lt_of_lt_of_le hb hz, fun y => hA (hB _ hb y)⟩
theorem Sx.state {ad : Nat → Nat} {A : Nat → Prop} {s U : State} {H0 H : Heap} {SL : Nat} {xs : Nat → Int32} {h : HH} (hs : Sx ad A s H0 SL xs h) (hvm : s.vm.Alike U.vm) (hH : H = H0) : Sx ad A U H SL xs h := by
  subst hH
  exact hs.moved hvm (fun _ _ _ => rfl) (Nat.le_refl _) (fun _ _ z => z)
theorem ntb_moved {s U : State} (hW : s.WarmedH U.vm) (hn : ∀ w ∈ ntb, va_Nw w s) : ∀ w ∈ ntb, va_Nw w U := by
  intro w hw
  have h1 := hn w hw
  have h2 : isNest w = true := (List.mem_filter.mp hw).2
  cases w <;> first | exact va_Nw.warmF hW h1 | exact va_Nw.warmM hW h1 | (exact absurd h2 (by simp [isNest]))
theorem ntb_onT {w : Cond} (h : isNest w = true) : w.onTables = true := by
  cases w <;> first | rfl | (exact absurd h (by simp [isNest]))
theorem PM_blind {av : List AV} {h : HH} {K : KK} {ad : Nat → Nat} {cA : ClassId} {D : va_G} {SL : Nat} {xs : Nat → Int32} {sz : Nat} : FrameBlind (PM av h K ad cA D SL xs sz) := by
  intro a U g mk hp
  obtain ⟨h1, h2, h3, h4, h5, h6, h7⟩ := hp
  exact ⟨h1, h2, va_K.moved (u := U) (U := U.calling g mk a) (Vm.Alike.refl U.vm) h3, h4, h5, fun w hw => va_Nw.same (u := U) (U := U.calling g mk a) (ntb_onT (List.mem_filter.mp hw).2) rfl (h6 w hw), h7.state (U := U.calling g mk a) (Vm.Alike.refl U.vm) rfl⟩
theorem stepS_at {K : KK} {mi pc : Nat} {q : ME} {L st : List AV} {h : HH} {R : RES} (hq : PT[mi]? = some q) (hs : stepS K mi pc L st h = some R) : ∃ i n, decode q.b pc = .ok (i, n) ∧ stepI K q pc n L st h i = some R := by
  unfold stepS at hs
  rw [hq] at hs
  dsimp only at hs
  split at hs
  · next i n hd => exact ⟨i, n, hd, hs⟩
  · cases hs
set_option maxHeartbeats 4000000 in
theorem met_of {K : KK} {n d mi : Nat} {q : ME} {av : List AV} {h : HH} {r : Option AV × HH} (l : Launch) (ad : Nat → Nat) (cA : ClassId) (D : va_G) (SL : Nat) (xs : Nat → Int32) (sz : Nat) (IH : SNDn K n) (hq : PT[mi]? = some q) (hn : mi ≠ lawI) (hrun : run K d n mi 0 (padL q.ml (lay av)) [] h = some r) (hl : (lay av).length ≤ q.ml) (hg : q.lg = true ∨ noL av = true) (hav : ∀ v ∈ av, wfV v) (hwf : wfH h) :
    Met l q.y (wsM q) (rmM d) (PM av h K ad cA D SL xs sz) (QM r.1 r.2 K ad cA D SL xs (va_A (wld K ad cA h) sz)) 0 0 (va_A (wld K ad cA h) sz) := by
  obtain ⟨pls, hm, hcd⟩ := mOK_at hq hn
  unfold mOK at hm
  simp only [Bool.and_eq_true, decide_eq_true_eq] at hm
  obtain ⟨m1, m2, m3, m4, m5, m6, m7, m8, m9⟩ := hm
  refine Met.ofW (cc := q.b) (maxL := q.ml) (ret := q.ret) m6 rfl ?_
  intro p e s m args below meth c s₁ B hml hv
  obtain ⟨rfl, hsz, hKa, hP, hD0, hNw, hSx⟩ := hv
  subst hsz
  have hx := B.exec
  have hb := B.bytes
  have hr := B.returns
  have hts := atoms_spec (ws := wsM q) B.pre
  have hown : s.vm.findClass q.y.cls = some m.cls := findClass_of_methodNamed B.named
  have hlocks := B.notSynchronized
  have hD := hD0.self (sz := s.heap.size)
  have hA : ∀ x : Nat, s.heap.size ≤ x → va_A (wld K ad cA h) s.heap.size x := fun x z => Or.inr z
  have hF : Fr q p (rmM d) s m (List.map (cv ad) av).toArray c d 0 0 := ⟨hx, hb, hml, by rw [← m7]; exact hown, fun w hw => hts w (List.mem_cons_of_mem _ hw), hNw, Nat.le_refl _, Nat.le_refl _, Nat.zero_le _, Nat.zero_le _⟩
  show W p l e (rmM d) s m (List.map (cv ad) av).toArray below meth c s.heap [] 0 0 _ _
  rw [lg_entry_eq]
  refine IH d mi q 0 _ [] h r hq hrun p l e (rmM d) s m _ below meth c 0 0 _ ad cA D (va_A (wld K ad cA h) s.heap.size) s.heap SL xs hF hA ?_ _ _ _ (LH_entry hl hg) (wf_pad (wf_lay hav)) (fun v hv => by cases hv) ⟨hKa, hP, hD, va_S.rf, hwf⟩ hSx
  intro pc' L' st' h' hs0
  obtain ⟨i, n', hdg, hs⟩ := stepS_at hq hs0
  clear hs0
  intro ls H locs hL wl ws hW hS
  obtain ⟨hK1, hP1, hD1, hS1, hwf1⟩ := hW
  have fin : ∀ (v : Option Value) (t : State), t.heap = H → r.2 = h' → v = r.1.map (cv ad) → (∀ v ∈ r.1.toList, wfV v) → QM r.1 r.2 K ad cA D SL xs (va_A (wld K ad cA h) s.heap.size) (List.map (cv ad) av).toArray s (.returned v) t := by
    intro v t ht hr2 hv hw
    refine ⟨by rw [hv], by rw [ht, hr2]; exact hP1, hS1.F ht, by rw [hr2]; exact hwf1, hw, by rw [hr2]; exact hS.2.1, by rw [hr2]; exact hS.2.2.2⟩
  have hfree : ∀ x ∈ locs, va_A (wld K ad cA h) s.heap.size x.base := hS1.2.2
  rcases stepI_cls hs with ⟨σ, z⟩ | ⟨rfl, rfl, hz⟩ | ⟨rfl, rfl, hz⟩ | ⟨rfl, rfl, rfl, hz, hz2⟩ | ⟨j, rfl, rfl, hz⟩ | ⟨j, rfl, rfl, hz⟩
  · cases z
  · unfold rets at hz
    split at hz
    · next x =>
      obtain ⟨hret, hz⟩ := gd_some hz
      simp only [Option.some.injEq, Sum.inr.injEq, Sum.inl.injEq] at hz
      have e1 : r.1 = some (vI x) := by rw [← hz]
      have e2 : r.2 = h' := by rw [← hz]
      have hwx : ∀ v ∈ r.1.toList, wfV v := by
        rw [e1]
        intro v hv
        exact ws v hv
      rcases hret with hret | ⟨hret, hx01⟩
      · exact W.iret hx hb (by rw [hr]; exact hret) (fun t ht _ => fin _ t ht e2 (by rw [e1]; rfl) hwx) hfree hdg
      · refine W.zret (ty := .boolean) hx hb (by rw [hr]; exact hret) ?_ (fun t ht _ => fin _ t ht e2 (by rw [e1]; rfl) hwx) hfree hdg
        rcases hx01 with y | y <;> subst y
        · exact (by decide +kernel : narrow .boolean (.int (Int32.ofInt 0)) = .int (Int32.ofInt 0))
        · exact (by decide +kernel : narrow .boolean (.int (Int32.ofInt 1)) = .int (Int32.ofInt 1))
    · cases hz
  · unfold retL at hz
    split at hz
    · next x =>
      obtain ⟨hret, hz⟩ := gd_some hz
      simp only [Option.some.injEq, Sum.inr.injEq, Sum.inl.injEq] at hz
      have e1 : r.1 = some (vL x) := by rw [← hz]
      have e2 : r.2 = h' := by rw [← hz]
      have hwx : ∀ v ∈ r.1.toList, wfV v := by
        rw [e1]
        intro v hv
        exact ws v hv
      exact W.lret hx hb (by rw [hr]; exact hret) (fun t ht _ => fin _ t ht e2 (by rw [e1]; rfl) hwx) hfree hdg
    · cases hz
  · simp only [Sum.inr.injEq, Sum.inl.injEq] at hz2
    have e1 : r.1 = none := by rw [hz2]
    have e2 : r.2 = h' := by rw [hz2]
    exact W.vret hx hb (by rw [hr]; exact hz) (fun t ht _ => fin _ t ht e2 (by rw [e1]; rfl) (by rw [e1]; intro v hv; cases hv)) hfree hdg
  · exfalso
    unfold kcS at hz
    split at hz
    · split at hz <;> cases hz
    · split at hz <;> cases hz
    · split at hz <;> cases hz
    · split at hz
      · obtain ⟨-, hz⟩ := gd_some hz
        cases hz
      · cases hz
    · cases hz
  · exfalso
    unfold kcV at hz
    split at hz
    · split at hz
      · split at hz
        · obtain ⟨-, hz⟩ := gd_some hz
          cases hz
        · cases hz
      · cases hz
    · cases hz
section SNG
variable {p : Program} {l : Launch} {e : Env} {R : Room} {s : State} {m : MethodId} {args : Array Value} {below : List Frame} {meth : Method} {c : Code} {cells slots : Nat} {Q : State → Prop}
variable {q : ME} {K : KK} {ad : Nat → Nat} {cA : ClassId} {D : va_G} {A : Nat → Prop} {H0 : Heap} {SL : Nat} {xs : Nat → Int32} {d : Nat} {pc n : Nat} {L st : List AV} {h : HH}
theorem va_callG {ls : Array Slot} {rest st0 : List Value} {A1 : Nat → Prop} {H : Heap} {locs : List Loc} {r : Option Value} {B : State → Prop} {free : Addr → Prop} {Qa : State → Outcome → State → Prop} (hQa : ∀ st oc t, Qa st oc t → oc = .returned r ∧ B t ∧ va_F A1 st t) (hr : va_Run p l e R s m args below meth c H locs cells slots 0 0 (F0 m pc ls st0) rest Qa free) (hS : va_S A H0 H locs) (hA : ∀ x, x < H.size → A1 x → A x) (hf : ∀ x, free x → A x)
    (kk : ∀ (t : State) (H1 : Heap) (locs1 : List Loc), t.heap = H1 → B t → va_S A H0 H1 locs1 → W p l e R s m args below meth c H1 locs1 cells slots Q (F0 m (pc + 3) ls (r.toList ++ rest))) : W p l e R s m args below meth c H locs cells slots Q (F0 m (pc) ls st0) := by
  intro T hT X
  obtain ⟨v, st₀, t, T', L, h0, X', hL, e1, e2, hqa, stp⟩ := hr T hT X
  obtain ⟨hv, hb, hz, hk⟩ := hQa _ _ _ hqa
  cases hv
  rw [h0] at hz hk
  obtain ⟨t2, a1, b1⟩ := kk t T'.heap (locs ++ L) e1.symm hb
    ⟨Nat.le_trans hS.1 (by rw [e1]; exact hz), fun x h1 h2 => by rw [e1, hk x (Nat.lt_of_lt_of_le h1 hS.1) (fun z => h2 (hA x (Nat.lt_of_lt_of_le h1 hS.1) z))]; exact hS.2.1 x h1 h2, fun x hx => by
      rcases List.mem_append.mp hx with h | h
      · exact hS.2.2 x h
      · exact hf _ (hL x h)⟩ T' rfl X'
  exact ⟨t2, stp t2 a1, b1⟩
end SNG
