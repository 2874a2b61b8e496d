/-! the law's walk -/
theorem cl_inst {ci : Nat} {C : String} {T : u_T} {N : Nat} (h : vwCl[ci]? = some (C, T, N)) : Cond.instantiable C N ∈ gtb := by
  match ci, h with
  | 0, h => cases h; exact gtb_in (i := 112) (by decide +kernel) rfl
  | 1, h => cases h; exact gtb_in (i := 198) (by decide +kernel) rfl
  | 2, h => cases h; exact gtb_in (i := 298) (by decide +kernel) rfl
  | 3, h => cases h; exact gtb_in (i := 285) (by decide +kernel) rfl
  | 4, h => cases h; exact gtb_in (i := 248) (by decide +kernel) rfl
  | 5, h => cases h; exact gtb_in (i := 179) (by decide +kernel) rfl
  | 6, h => cases h; exact gtb_in (i := 314) (by decide +kernel) rfl
  | 7, h => cases h; exact gtb_in (i := 220) (by decide +kernel) rfl
  | 8, h => cases h; exact gtb_in (i := 104) (by decide +kernel) rfl
  | 9, h => cases h; exact gtb_in (i := 941) (by decide +kernel) rfl
  | n + 10, h => simp [vwCl] at h
theorem kn_of {s : State} {args : Array Value} (hts : ∀ w ∈ gtb, w.before args s = true) : ∃ (D : va_G) (cA : ClassId), va_K D vwCl [(cA, .int)] s := by
  have h0 : vwCl[0]? = some (RX0, TX0, 12) := rfl
  obtain ⟨c0, i0, -⟩ := u_known hts (cl_words h0) (hts _ (cl_inst h0))
  have h : ∀ c : Nat, ∃ (cC : ClassId) (iS : Nat → Nat), ∀ q, vwCl[c]? = some q → u_Kn s q.1 q.2.1 q.2.2 cC iS := by
    intro c
    cases hc : vwCl[c]? with
    | none => exact ⟨c0, i0, fun q hq => by cases hq⟩
    | some q =>
      obtain ⟨C, T, N⟩ := q
      obtain ⟨cC, iS, hk⟩ := u_known hts (cl_words hc) (hts _ (cl_inst hc))
      exact ⟨cC, iS, fun q hq => by cases hq; exact hk⟩
  obtain ⟨cA, kA, comp, h1, h2, h3⟩ := Cond.arrayClass_spec (hts _ sp_arr)
  refine ⟨(fun c => Classical.choose (h c), fun c => Classical.choose (Classical.choose_spec (h c))), cA, fun c q hq => Classical.choose_spec (Classical.choose_spec (h c)) q hq, fun k q hk => ?_⟩
  have hk0 : k = 0 := by
    have := (List.getElem?_eq_some_iff.mp hk).1
    simp at this
    exact this
  subst hk0
  simp only [List.getElem?_cons_zero, Option.some.injEq] at hk
  subst hk
  exact ⟨fun n z => ⟨fun k h => (by cases h), kA, h2, comp, h3⟩, h1⟩
set_option maxHeartbeats 4000000 in
set_option maxRecDepth 100000 in
theorem law_start {p : Program} {l : Launch} {e : Env} {s : State} {m : MethodId} {below : List Frame} {meth : Method} {c : Code} {Q : State → Prop} {b L : Nat} {xs : Nat → Int32} (hL : L ≤ 2048) (hx : p.tables.exec = Jvm.exec) (hb : c.code = code) (hml : c.maxLocals = 4) (hown : s.vm.findClass RL = some m.cls) (htb : ∀ w ∈ lw_tbl, w.before #[Value.ref b] s = true) (hX : va_X b L xs s s.heap) (hbl : b < s.heap.size)
    (fin : ∀ (H : Heap) (ls : Array Slot) (pc : Nat), decode code pc = .ok (.ireturn, 1) → W p l e room_1 s m #[Value.ref b] below meth c H [] 600000 7302250 Q (F0 m pc ls [.int 1])) : W p l e room_1 s m #[Value.ref b] below meth c s.heap [] 0 0 Q (entryFrame m ([Value.ref b] : List Value).toArray 4) := by
  have hts : ∀ w ∈ gtb, w.before #[Value.ref b] s = true := fun w hw => htb w (List.mem_filter.mp hw).1
  have hns : ∀ w ∈ ntb, va_Nw w s := fun w hw => va_Nw.of (ntb_onT (List.mem_filter.mp hw).2) (htb w (List.mem_filter.mp hw).1)
  obtain ⟨D, cA, hK⟩ := kn_of hts
  have F : CF 12 code 4 p s m #[Value.ref b] c D (fun x => s.heap.size ≤ x) s.heap cA := ⟨hx, hb, hml, hown, hts, hns, hK, fun x h => h⟩
  have C0 : CW D (fun x => s.heap.size ≤ x) s.heap s.heap [] ([] : va_W) := ⟨fun k q hq => by simp at hq, ⟨fun i j p q hi _ _ => by simp at hi, fun k q hq => by simp at hq⟩, va_S.rf⟩
  have hl := lv_entry ([.ref b]) (n := 4) (Nat.le_of_ble_eq_true rfl)
  rw [lg_entry_eq]
  generalize (lg_sl ([.ref b]) ++ List.replicate (4 - (lg_sl ([.ref b])).length) Slot.unset).toArray = ls at hl ⊢
  have hl : lv_has ls 4 [(0, .ref b)] := hl
  refine o_nw F C0 (m100 l) pt100 (by decide +kernel) rfl rfl rfl rfl (C2 := RX9) (T2 := TX9) (N2 := 13) rfl (ix := 7) (p1 := 103) (p2 := 104) (by decide +kernel) (by decide +kernel) (by decide +kernel : MR 12 9 = some (100, false, 105)) (by decide +kernel) (by decide +kernel) (by decide +kernel) hl.1 (by decide) (Nat.le_of_ble_eq_true rfl) (Nat.le_of_ble_eq_true rfl) (Nat.le_of_ble_eq_true rfl) (Nat.le_of_ble_eq_true rfl) (fun a1 H1 l1 C1 => ?_)
  refine W.eq (g2 := F0 m 7 ls [.ref (a1 0)]) rfl ?_
  refine lv_astore_n (k := 1) F.1 F.2.1 (by decide +kernel) rfl hl (by decide) rfl (fun ls1 hl1 => ?_)
  have hl1 : lv_has ls1 4 [(1, .ref (a1 0)), (0, .ref b)] := hl1
  refine o_nw F C1 (m143 l) pt143 (by decide +kernel) rfl rfl rfl rfl (C2 := RX10) (T2 := TX10) (N2 := 49) rfl (ix := 10) (p1 := 940) (p2 := 941) (by decide +kernel) (by decide +kernel) (by decide +kernel : MR 12 12 = some (143, false, 942)) (by decide +kernel) (by decide +kernel) (by decide +kernel) hl1.1 (by decide) (Nat.le_of_ble_eq_true rfl) (Nat.le_of_ble_eq_true rfl) (Nat.le_of_ble_eq_true rfl) (Nat.le_of_ble_eq_true rfl) (fun a2 H2 l2 C2 => ?_)
  refine W.eq (g2 := F0 m 15 ls1 [.ref (a2 0)]) rfl ?_
  refine lv_astore_n (k := 2) F.1 F.2.1 (by decide +kernel) rfl hl1 (by decide) rfl (fun ls2 hl2 => ?_)
  have hl2 : lv_has ls2 4 [(2, .ref (a2 0)), (1, .ref (a1 0)), (0, .ref b)] := hl2
  refine lv_iconst (n := 0) (v := Int32.ofInt 0) F.1 F.2.1 (by decide +kernel) rfl ?_
  refine lv_istore_n (k := 3) F.1 F.2.1 (by decide +kernel) rfl hl2 (by decide) rfl (fun ls3 hl3 => ?_)
  have hl3 : lv_has ls3 4 [(3, .int (Int32.ofInt 0)), (2, .ref (a2 0)), (1, .ref (a1 0)), (0, .ref b)] := hl3
  refine W.eq (g2 := F0 m 18 ls3 []) rfl ?_
  refine W.widen (k := 600000) (n := 7302250) (Nat.le_of_ble_eq_true rfl) (Nat.le_of_ble_eq_true rfl) ?_
  simp only [List.nil_append, ← wld2_eq] at C2
  have ysd : ∃ ys : Nat → Int32, ys 4096 = 1 ∧ ∀ j, j < 4096 → ys j = xs j := ⟨fun j => if j = 4096 then 1 else xs j, if_pos rfl, fun j hj => if_neg (by omega)⟩
  obtain ⟨ys, ys1, ys2⟩ := ysd
  rw [cvI cA a1 a2 b ys L] at C2
  have C3 := CW2 C2
  obtain ⟨hP, hD, hS⟩ := C3
  have hrun := law_loop (d := 0) hL (L + 1) 0 (hI ys L) (by omega) (by omega) (RE_I ys L) (LI_I ys L) (MI_I ys L) rfl (by show (ys 4096).toInt = 1; rw [ys1]; rfl)
  obtain ⟨fu, r, hrun, hr⟩ := hrun
  have hX2 : va_X b L ys s s.heap := by
    obtain ⟨scr, q1, q2, q3, q4, q5⟩ := hX
    exact ⟨scr, q1, q2, q3, q4, fun j hj => by rw [ys2 j (by omega)]; exact q5 j hj⟩
  have hlv : ∀ (i : Nat) (v : AV), [vR 10000, vR 0, vR 54, vI ((0 : Nat) : Int)][i]? = some v → v ≠ vU → ls3[i]? = some (.val (cv (adW9 a1 a2 b) v)) := by
    intro i v hi _
    match i, hi with
    | 0, hi => cases hi; exact lv_at hl3 3 rfl
    | 1, hi => cases hi; exact lv_at hl3 2 rfl
    | 2, hi => cases hi; exact lv_at hl3 1 rfl
    | 3, hi => cases hi; exact lv_at hl3 0 rfl
    | n + 4, hi => simp at hi
  refine snd (K := K0) (by decide) (kLen_ok (by decide +kernel)) fu 11 243 e243 18 [vR 10000, vR 0, vR 54, vI ((0 : Nat) : Int)] [] (hI ys L) r pt243 hrun p l e room_1 s m #[Value.ref b] below meth c 600000 7302250 Q (adW9 a1 a2 b) cA D (fun x => s.heap.size ≤ x) s.heap L ys ⟨hx, hb, hml, hown, hts, hns, Nat.le_of_ble_eq_true rfl, Nat.le_of_ble_eq_true rfl, Nat.le_refl _, Nat.le_refl _⟩ (fun x h => h) ?_ ls3 H2 l2 ⟨hl3.1, rfl, hl3.2.1, fun _ => rfl, hlv⟩ ?_ (fun v hv => by cases hv) ⟨hK, hP, hD, hS, wf_I hL⟩ ⟨fun _ => ⟨hX2, hbl, fun z => absurd hbl (Nat.not_lt.mpr z)⟩, rfl, by omega, fun _ => rfl⟩
  · intro pc' L' st' h' hs0
    obtain ⟨i, n', hdg, hs⟩ := stepS_at pt243 hs0
    clear hs0
    intro ls H locs hL2 wl ws hW hS2
    obtain ⟨hK1, hP1, hD1, hS1, hwf1⟩ := hW
    rcases stepI_cls hs with ⟨σ, z⟩ | ⟨rfl, rfl, hz⟩ | ⟨rfl, rfl, hz⟩ | ⟨rfl, rfl, rfl, hz, hz2⟩ | ⟨j, rfl, rfl, hz⟩ | ⟨j, rfl, rfl, hz⟩
    · cases z
    · unfold rets at hz
      split at hz
      · next x =>
        obtain ⟨hret, hz⟩ := gd_some hz
        simp only [Option.some.injEq, Sum.inr.injEq, Sum.inl.injEq] at hz
        have e1 : r.1 = some (vI x) := by rw [← hz]
        rw [hr] at e1
        simp only [Option.some.injEq, Sum.inl.injEq] at e1
        subst e1
        exact va_forget (hS1.2.2) (fin H ls pc' hdg)
      · cases hz
    · unfold retL at hz
      split at hz
      · next x =>
        obtain ⟨hret, hz⟩ := gd_some hz
        simp only [Option.some.injEq, Sum.inr.injEq, Sum.inl.injEq] at hz
        have e1 : r.1 = some (vL x) := by rw [← hz]
        rw [hr] at e1
        simp at e1
      · cases hz
    · simp only [Sum.inr.injEq, Sum.inl.injEq] at hz2
      have e1 : r.1 = none := by rw [hz2]
      rw [hr] at e1
      cases e1
    · exfalso
      unfold kcS at hz
      split at hz
      · split at hz <;> cases hz
      · split at hz <;> cases hz
      · split at hz <;> cases hz
      · split at hz
        · obtain ⟨-, hz⟩ := gd_some hz
          cases hz
        · cases hz
      · cases hz
    · exfalso
      unfold kcV at hz
      split at hz
      · split at hz
        · split at hz
          · obtain ⟨-, hz⟩ := gd_some hz
            cases hz
          · cases hz
        · cases hz
      · cases hz
  · intro v hv
    simp only [List.mem_cons, List.not_mem_nil, or_false] at hv
    rcases hv with rfl | rfl | rfl | rfl
    · trivial
    · trivial
    · trivial
    · exact sm _
