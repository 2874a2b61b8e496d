theorem gi {l : List Cond} (hl : ∀ w ∈ l, w ∈ gtb) : GoodIn gtb l := fun w hw => ⟨hl w hw, gtb_good (hl w hw)⟩
theorem wsM_in {q : ME} {i : Nat} (h : lw_tbl[i]? = some (.code q.y q.b q.ml q.ret)) : ∀ w ∈ wsM q, w ∈ gtb := by
  intro w hw
  rcases List.mem_cons.mp hw with rfl | hw
  · exact gtb_in h rfl
  · exact hw
theorem cat_sum {ad : Nat → Nat} : ∀ r : List AV, ((r.map (cv ad)).map fun v => v.category).sum ≤ 2 * r.length
  | [] => Nat.le_refl _
  | v :: r => by
    have ih := cat_sum (ad := ad) r
    have := cat_le (cv ad v)
    simp only [List.map_cons, List.sum_cons, List.length_cons] at ih ⊢
    omega
section SNH
variable {p : Program} {l : Launch} {e : Env} {R : Room} {s : State} {m : MethodId} {args : Array Value} {below : List Frame} {meth : Method} {c : Code} {cells slots : Nat} {Q : State → Prop}
variable {q : ME} {K : KK} {ad : Nat → Nat} {cA : ClassId} {D : va_G} {A : Nat → Prop} {H0 : Heap} {SL : Nat} {xs : Nat → Int32} {d : Nat} {pc n : Nat} {L st : List AV} {h : HH}
set_option maxHeartbeats 4000000 in
/-- behind a call -/
theorem snd_ret {H : Heap} {locs : List Loc} {ls : Array Slot} {av rest : List AV} {r1 : Option AV} {h1 : HH} (hA : ∀ x : Nat, H0.size ≤ x → A x) (hl : LH ad ls q L) (wl : ∀ v ∈ L, wfV v) (ws : ∀ v ∈ rest, wfV v) (hW : Wd K ad cA D A s H0 H locs h) (hS : Sx ad A s H0 SL xs h)
    (k : WQ p l e R s m args below meth c cells slots Q q K ad cA D A H0 SL xs (pc + 3) L (r1.toList ++ rest) h1) (hr : va_Run p l e R s m args below meth c H locs cells slots 0 0 (F0 m pc ls (st.map (cv ad))) (rest.map (cv ad)) (QM r1 h1 K ad cA D SL xs (va_A (wld K ad cA h) H.size) (av.map (cv ad)).toArray) (va_A (wld K ad cA h) H.size)) : W p l e R s m args below meth c H locs cells slots Q (F0 m (pc) ls (st.map (cv ad))) := by
  obtain ⟨hKa, hP, hD, hSa, hwf⟩ := hW
  have hf : ∀ x, va_A (wld K ad cA h) H.size x → A x := by
    intro x hx
    rcases hx with ⟨k, e', hk⟩ | hx
    · exact hD.2 k _ hk
    · exact hA x (Nat.le_trans hSa.1 hx)
  refine va_callG (B := fun t => va_P D vwCl (wld K ad cA h1) t.heap ∧ wfH h1 ∧ (∀ v ∈ r1.toList, wfV v) ∧ h1 10001 0 = SL ∧ ∀ j, h1 10000 j = (xs j).toInt) (r := r1.map (cv ad)) (A1 := va_A (wld K ad cA h) H.size) ?_ hr hSa (fun x _ hx => hf x hx) hf (fun t H1 locs1 ht hB hS1 => ?_)
  · intro st' oc t hq
    obtain ⟨a1, a2, a3, a4, a5, a6, a7⟩ := hq
    exact ⟨a1, ⟨a2, a4, a5, a6, a7⟩, a3⟩
  · obtain ⟨b1, b2, b3, b4, b5⟩ := hB
    rw [ht] at b1
    have kk := k ls H1 locs1 hl wl (fun v hv => (List.mem_append.mp hv).elim (b3 v) (ws v)) ⟨hKa, b1, wld_D hD, hS1, b2⟩ ⟨hS.1, b4, hS.2.2.1, b5⟩
    rw [List.map_append] at kk
    cases r1 with
    | none => exact kk
    | some v => exact kk
theorem snd_pre {H : Heap} {locs : List Loc} {av : List AV} (F : Fr q p R s m args c d cells slots) (hA : ∀ x : Nat, H0.size ≤ x → A x) (hW : Wd K ad cA D A s H0 H locs h) (hS : Sx ad A s H0 SL xs h) : ∀ U : State, U.heap = H → s.WarmedH U.vm → PM av h K ad cA D SL xs H.size (av.map (cv ad)).toArray U := by
  intro U hU hWm
  obtain ⟨hKa, hP, hD, hSa, hwf⟩ := hW
  refine ⟨rfl, by rw [hU], va_K.moved hWm.alike hKa, by rw [hU]; exact hP, hD.weaken (fun _ _ _ _ => trivial), ntb_moved hWm F.ns, ?_⟩
  refine hS.moved hWm.alike (fun x h1 h2 => by rw [hU]; exact hSa.2.1 x h1 h2) (by rw [hU]; exact hSa.1) (fun x _ hx => ?_)
  rcases hx with ⟨k, e', hk⟩ | hx
  · exact hD.2 k _ hk
  · exact hA x (Nat.le_trans hSa.1 hx)
end SNH
set_option maxHeartbeats 8000000 in
theorem snd {K : KK} (hK : K.length ≤ 10000) (hKs : ∀ (a n : Nat), K[a]? = some (.inl n) → n < 2147483648) : ∀ n, SNDn K n := by
  intro n
  induction n with
  | zero =>
    intro d mi q pc L st h r hq hrun
    cases hrun
  | succ n ih =>
    intro d mi q pc L st h r hq hrun p l e R s m args below meth c cells slots Q ad cA D A H0 SL xs F hA RC
    unfold run at hrun
    cases hS0 : stepS K mi pc L st h with
    | none => rw [hS0] at hrun; cases hrun
    | some R0 =>
      rw [hS0] at hrun
      obtain ⟨i, n', hdg, hs⟩ := stepS_at hq hS0
      match R0, hS0, hrun, hs with
      | .inl (pc', L', st', h'), hS0, hrun, hs =>
        exact snd_I hK hKs F hdg hs (ih d mi q pc' L' st' h' r hq hrun p l e R s m args below meth c cells slots Q ad cA D A H0 SL xs F hA RC)
      | .inr (.inl r0), hS0, hrun, hs =>
        refine RC pc L st h ?_
        rw [hS0]
        cases hrun
        rfl
      | .inr (.inr (m2, L2, rest)), hS0, hrun, hs =>
        match d, hrun, F, RC with
        | 0, hrun, F, RC => cases hrun
        | d' + 1, hrun, F, RC =>
          dsimp only at hrun
          cases hc : run K d' n m2 0 L2 [] h with
          | none => rw [hc] at hrun; cases hrun
          | some rc =>
            obtain ⟨r1, h1⟩ := rc
            rw [hc] at hrun
            dsimp only at hrun
            have k := ih (d' + 1) mi q (pc + 3) L (r1.toList ++ rest) h1 r hq hrun p l e R s m args below meth c cells slots Q ad cA D A H0 SL xs F hA RC
            have hfr := F.2.2.2.2.2.2.1
            have hlo := F.2.2.2.2.2.2.2.1
            have hce := F.2.2.2.2.2.2.2.2.1
            have hsl := F.2.2.2.2.2.2.2.2.2
            rcases stepI_cls hs with ⟨σ, z⟩ | ⟨rfl, rfl, hz⟩ | ⟨rfl, rfl, hz⟩ | ⟨rfl, rfl, rfl, hz, hz2⟩ | ⟨j, rfl, rfl, hz⟩ | ⟨j, rfl, rfl, hz⟩
            · cases z
            · exfalso
              unfold rets at hz
              split at hz
              · obtain ⟨-, hz⟩ := gd_some hz
                cases hz
              · cases hz
            · exfalso
              unfold retL at hz
              split at hz
              · obtain ⟨-, hz⟩ := gd_some hz
                cases hz
              · cases hz
            · cases hz2
            · unfold kcS at hz
              split at hz
              · split at hz <;> cases hz
              · split at hz <;> cases hz
              · split at hz <;> cases hz
              · next mi2 nest pl x1 x2 x3 hmr =>
                split at hz
                · next q2 hq2 =>
                  obtain ⟨⟨c1, c2, c3, c4, c5⟩, hz⟩ := gd_some hz
                  simp only [Option.some.injEq, Sum.inr.injEq, Prod.mk.injEq] at hz
                  obtain ⟨rfl, rfl, rfl⟩ := hz
                  have hrk := rOK_at hmr
                  unfold rOK at hrk
                  dsimp only at hrk
                  have hlt : mi2 < 1000 := by
                    have h1 := (List.getElem?_eq_some_iff.mp hq2).1
                    have h2 : PT.length = 244 := by decide +kernel
                    omega
                  rw [if_neg (by omega), hq2] at hrk
                  simp only [Bool.and_eq_true, decide_eq_true_eq] at hrk
                  obtain ⟨hnl, hrk⟩ := hrk
                  obtain ⟨pls, hm, hcd⟩ := mOK_at hq2 hnl
                  unfold mOK at hm
                  simp only [Bool.and_eq_true, decide_eq_true_eq] at hm
                  obtain ⟨m1, m2, m3, m4, m5, m6, m7, m8, m9⟩ := hm
                  rw [c1] at m2
                  simp only [if_true, decide_eq_true_eq] at m2
                  intro ls H locs hl wl ws hW hS
                  have hav : ∀ v ∈ (st.take q2.na).reverse, wfV v := fun v hv => ws v (List.mem_of_mem_take (List.mem_reverse.mp hv))
                  have hwr : ∀ v ∈ st.drop q2.na, wfV v := fun v hv => ws v (List.mem_of_mem_drop hv)
                  have hg2 : q2.lg = true ∨ noL (st.take q2.na).reverse = true := c4.imp id (fun z => by unfold noL at z ⊢; rw [List.all_reverse]; exact z)
                  have hM := met_of l ad cA D SL xs H.size ih hq2 hnl hc c5 hg2 hav hW.2.2.2.2
                  have hstk : st.map (cv ad) = ((st.take q2.na).reverse.map (cv ad)).reverse ++ (st.drop q2.na).map (cv ad) := by
                    rw [List.map_reverse, List.reverse_reverse, ← List.map_append, List.take_append_drop]
                  have hlen : ((st.take q2.na).reverse.map (cv ad)).length = q2.na := by
                    rw [List.length_map, List.length_reverse, List.length_take]
                    omega
                  have hcs := cat_sum (ad := ad) (st.drop q2.na)
                  refine snd_ret (av := (st.take q2.na).reverse) hA hl wl hwr hW hS k ?_
                  have hpre : PreS s H (PM (st.take q2.na).reverse h K ad cA D SL xs H.size) ((st.take q2.na).reverse.map (cv ad)) := ⟨PM_blind, snd_pre F hA hW hS⟩
                  have hR : (rmM d').frames + 1 ≤ R.frames ∧ 8 + (q2.ml + 11) + (rmM d').locals ≤ R.locals := by
                    unfold rmM
                    dsimp only
                    omega
                  cases nest with
                  | false =>
                    simp only [Bool.false_eq_true, if_false, decide_eq_true_eq] at hrk
                    refine va_runS (As := (st.take q2.na).reverse.map (cv ad)) (nL := q.ml) ⟨F.x, F.b, F.ml, F.own, F.ts⟩ hM (va_cwS q2.na F.ts (gi (fun w hw => ?_)) rfl rfl rfl ⟨m3, m4, m5⟩ hR) hpre rfl hlen hl.1 hstk (lv_room (by omega)) hdg ⟨by omega, by omega⟩
                    rcases List.mem_append.mp hw with hw | hw
                    · simp only [List.mem_cons, List.not_mem_nil, or_false] at hw
                      rcases hw with rfl | rfl | rfl
                      · exact gtb_in hrk rfl
                      · exact gtb_in m2 rfl
                      · exact gtb_in m1 rfl
                    · exact wsM_in hcd w hw
                  | true =>
                    simp only [if_true, decide_eq_true_eq] at hrk
                    exact va_runSN (As := (st.take q2.na).reverse.map (cv ad)) (nL := q.ml) ⟨F.x, F.b, F.ml, F.own, F.ts⟩ hM ⟨va_cnB q2.na F.ts (gi (wsM_in hcd)) rfl rfl rfl (F.ns _ (ntb_in hrk rfl)) (F.ts _ (gtb_in m1 rfl)) ⟨m3, m4, m5⟩ hR, F.ts _ (gtb_in m2 rfl), trivial⟩ hpre rfl hlen hl.1 hstk (lv_room (by omega)) hdg ⟨by omega, by omega⟩
                · cases hz
              · cases hz
            · unfold kcV at hz
              split at hz
              · next mi2 nest pl hmr =>
                split at hz
                · next q2 hq2 =>
                  split at hz
                  · next a rs hdr =>
                    obtain ⟨⟨c1, c2, c3, c4, c5, c6⟩, hz⟩ := gd_some hz
                    simp only [Option.some.injEq, Sum.inr.injEq, Prod.mk.injEq] at hz
                    obtain ⟨rfl, rfl, rfl⟩ := hz
                    have hrk := rOK_at hmr
                    unfold rOK at hrk
                    dsimp only at hrk
                    have hlt : mi2 < 1000 := by
                      have h1 := (List.getElem?_eq_some_iff.mp hq2).1
                      have h2 : PT.length = 244 := by decide +kernel
                      omega
                    rw [if_neg (by omega), hq2] at hrk
                    simp only [Bool.and_eq_true, decide_eq_true_eq] at hrk
                    obtain ⟨hnl, hrk⟩ := hrk
                    obtain ⟨pls, hm, hcd⟩ := mOK_at hq2 hnl
                    unfold mOK at hm
                    simp only [Bool.and_eq_true, decide_eq_true_eq] at hm
                    obtain ⟨m1, m2, m3, m4, m5, m6, m7, m8, m9⟩ := hm
                    rw [c1] at m2 m9
                    rw [c4] at m2
                    simp only [Bool.false_eq_true, if_false, Bool.and_eq_true, Bool.false_or, decide_eq_true_eq] at m2 m9
                    obtain ⟨m2, m2b⟩ := m2
                    split at m9
                    · next rk hrk2 =>
                      have m9 := of_decide_eq_true m9
                      intro ls H locs hl wl ws hW hS
                      have hlt2 : q2.na < st.length := by
                        have h1 : (st.drop q2.na).length = rs.length + 1 := by rw [hdr]; rfl
                        rw [List.length_drop] at h1
                        omega
                      have hnv : noL (vR a :: (st.take q2.na).reverse) = true := by
                        unfold noL at c5 ⊢
                        rw [List.all_cons, List.all_reverse, c5]
                        rfl
                      have hlay : lay (vR a :: (st.take q2.na).reverse) = vR a :: (st.take q2.na).reverse := lay_noL _ hnv
                      have hav : ∀ v ∈ vR a :: (st.take q2.na).reverse, wfV v := wfc (P := wfV) trivial (fun v hv => ws v (List.mem_of_mem_take (List.mem_reverse.mp hv)))
                      have hwr : ∀ v ∈ rs, wfV v := fun v hv => ws v (List.mem_of_mem_drop (by rw [hdr]; exact List.mem_cons_of_mem _ hv))
                      rw [← hlay] at hc
                      have hlen0 : (st.take q2.na).reverse.length = q2.na := by
                        rw [List.length_reverse, List.length_take]
                        omega
                      have hM := met_of l ad cA D SL xs H.size ih hq2 hnl hc (by rw [hlay, List.length_cons, hlen0]; exact c6) (Or.inr hnv) hav hW.2.2.2.2
                      have hstk : st.map (cv ad) = ((st.take q2.na).reverse.map (cv ad)).reverse ++ .ref (ad a) :: rs.map (cv ad) := by
                        have e1 : Value.ref (ad a) :: rs.map (cv ad) = (st.drop q2.na).map (cv ad) := by rw [hdr]; rfl
                        rw [e1, List.map_reverse, List.reverse_reverse, ← List.map_append, List.take_append_drop]
                      have hlen : ((st.take q2.na).reverse.map (cv ad)).length = q2.na := by rw [List.length_map, hlen0]
                      have hcs := cat_sum (ad := ad) rs
                      refine snd_ret (av := vR a :: (st.take q2.na).reverse) hA hl wl hwr hW hS k ?_
                      obtain ⟨rs0, hO1, -⟩ := isO_at c2
                      have hrecv := va_recv hW.1 hW.2.1 hrk2 (wld_at (ad := ad) (cA := cA) (h := h) hO1)
                      rw [m9] at hrecv
                      have hpre : PreV s H q2.y.cls (ad a) (PM (vR a :: (st.take q2.na).reverse) h K ad cA D SL xs H.size) ((st.take q2.na).reverse.map (cv ad)) := ⟨PM_blind, hrecv, snd_pre (av := vR a :: (st.take q2.na).reverse) F hA hW hS⟩
                      have hR : (rmM d').frames + 1 ≤ R.frames ∧ 8 + (q2.ml + 11) + (rmM d').locals ≤ R.locals := by
                        unfold rmM
                        dsimp only
                        omega
                      cases nest with
                      | false =>
                        simp only [Bool.false_eq_true, if_false, decide_eq_true_eq] at hrk
                        refine va_runV (As := (st.take q2.na).reverse.map (cv ad)) (nL := q.ml) ⟨F.x, F.b, F.ml, F.own, F.ts⟩ hM (cwV q2.na F.ts (gi (fun w hw => ?_)) rfl rfl rfl ⟨rfl, m3, m4, m5⟩ hR) hpre rfl hlen hl.1 hstk (lv_room (by omega)) hdg ⟨by omega, by omega⟩
                        rcases List.mem_append.mp hw with hw | hw
                        · simp only [List.mem_cons, List.not_mem_nil, or_false] at hw
                          rcases hw with rfl | rfl | rfl | rfl
                          · exact gtb_in hrk rfl
                          · exact gtb_in m2 rfl
                          · exact gtb_in m2b rfl
                          · exact gtb_in m1 rfl
                        · exact wsM_in hcd w hw
                      | true =>
                        simp only [if_true, decide_eq_true_eq] at hrk
                        exact va_runVN (As := (st.take q2.na).reverse.map (cv ad)) (nL := q.ml) (C := q2.y.cls) ⟨F.x, F.b, F.ml, F.own, F.ts⟩ hM ⟨va_cnB q2.na F.ts (gi (wsM_in hcd)) rfl rfl rfl (F.ns _ (ntb_in hrk rfl)) (F.ts _ (gtb_in m1 rfl)) ⟨m3, m4, m5⟩ hR, F.ts _ (gtb_in m2 rfl), F.ts _ (gtb_in m2b rfl)⟩ hpre rfl hlen hl.1 hstk (lv_room (by omega)) hdg ⟨by omega, by omega⟩
                    · cases m9
                  · cases hz
                · cases hz
              · cases hz
