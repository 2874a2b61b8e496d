/-! begin: a call on what is made -/
section CBG
variable {p : Program} {l : Launch} {e : Env} {R : Room} {s : State} {m : MethodId} {args : Array Value} {below : List Frame} {meth : Method} {c : Code} {cells slots : Nat} {Q : State → Prop}
variable {cc : ByteArray} {nL n : Nat} {cA : ClassId} {D : va_G} {A : Nat → Prop} {H H0 : Heap} {locs : List Jvm.Loc} {pc : Nat} {ls : Array Slot} {K : KK} {ad : Nat → Nat} {h h' : HH}
theorem o_beg (hKl : K.length ≤ 10000) (hKs : ∀ (a n : Nat), K[a]? = some (.inl n) → n < 2147483648) {q2 : ME} {mi2 : Nat} (hq2 : PT[mi2]? = some q2) (hnl : mi2 ≠ lawI) (c1 : q2.st = false) (c4 : q2.lg = false) (cna : q2.na = 1) (hml : 2 ≤ q2.ml) {d : Nat} (F : CF n cc nL p s m args c D A H0 cA) (C : CW D A H0 H locs (wld K ad cA h)) (hO : isO K 0 q2.ci) {z : Int} (hz : wfI z) (hr : wp K d mi2 0 (padL q2.ml (lay [vR 0, vI z])) [] h (fun r g => r = none ∧ g = h')) (hwf : wfH h) (hz1 : h 10001 0 = 0) (hz2 : ∀ j, h 10000 j = 0) {j pm : Nat} (hm : MR n j = some (mi2, false, pm)) (hdg : decode cc pc = .ok (.invokevirtual j, 3)) (hsz : ls.size = nL) (hfr : d + 1 + 1 ≤ R.frames) (hlo : 8 + (q2.ml + 11) + 64 * (d + 1) ≤ R.locals) (hcl : cells ≤ R.cells) (hsl : slots ≤ R.slots)
    (kk : ∀ (H1 : Heap) (locs1 : List Jvm.Loc), CW D A H0 H1 locs1 (wld K ad cA h') → W p l e R s m args below meth c H1 locs1 cells slots Q (F0 m (pc + 3) ls [])) : W p l e R s m args below meth c H locs cells slots Q (F0 m pc ls [.int (Int32.ofInt z), .ref (ad 0)]) := by
  obtain ⟨hx, hb, hmx, hown, hts, hns, hK, hA⟩ := F
  obtain ⟨hP, hD, hS⟩ := C
  obtain ⟨fu, r, hrun, hr1, hr2⟩ := hr
  obtain ⟨r1, r2⟩ := r
  dsimp only at hr1 hr2
  subst hr1
  subst hr2
  have hrk := rOK_at hm
  unfold rOK at hrk
  dsimp only at hrk
  have hlt : mi2 < 1000 := by
    have h1 := (List.getElem?_eq_some_iff.mp hq2).1
    have h2 : PT.length = 244 := by decide +kernel
    omega
  rw [if_neg (by omega), hq2] at hrk
  simp only [Bool.and_eq_true, decide_eq_true_eq, Bool.false_eq_true, if_false] at hrk
  obtain ⟨hnl, hrk⟩ := hrk
  obtain ⟨pls, hmo, hcd⟩ := mOK_at hq2 hnl
  unfold mOK at hmo
  simp only [Bool.and_eq_true, decide_eq_true_eq] at hmo
  obtain ⟨m1, m2, m3, m4, m5, m6, m7, m8, m9⟩ := hmo
  rw [c1] at m2 m9
  rw [c4] at m2
  simp only [Bool.false_eq_true, if_false, Bool.and_eq_true, Bool.false_or, decide_eq_true_eq] at m2 m9
  obtain ⟨m2, m2b⟩ := m2
  split at m9
  · next rk hrk2 =>
    have m9 := of_decide_eq_true m9
    have hM := met_of l ad cA D 0 (fun _ => 0) H.size (snd hKl hKs fu) hq2 hnl hrun (by show 2 ≤ q2.ml; exact hml) (Or.inr rfl) (by
      intro v hv
      simp only [List.mem_cons, List.not_mem_nil, or_false] at hv
      rcases hv with rfl | rfl
      · trivial
      · exact hz) hwf
    obtain ⟨rs0, hO1, -⟩ := isO_at hO
    have hrecv := va_recv hK hP hrk2 (wld_at (ad := ad) (cA := cA) (h := h) hO1)
    rw [m9] at hrecv
    have hpre : PreV s H q2.y.cls (ad 0) (PM [vR 0, vI z] h K ad cA D 0 (fun _ => 0) H.size) [.int (Int32.ofInt z)] := ⟨PM_blind, hrecv, fun U hU hWm => ⟨rfl, by rw [hU], va_K.moved hWm.alike hK, by rw [hU]; exact hP, hD.weaken (fun _ _ _ _ => trivial), ntb_moved hWm hns, ⟨fun y => by
      rcases y with y | y
      · exact absurd y (by decide)
      · exact absurd y (by decide), hz1, by decide, fun j => by rw [hz2]; rfl⟩⟩⟩
    have hf : ∀ x, va_A (wld K ad cA h) H.size x → A x := by
      intro x hx
      rcases hx with ⟨k, e', hk⟩ | hx
      · exact hD.2 k _ hk
      · exact hA x (Nat.le_trans hS.1 hx)
    have hrun2 : va_Run p l e R s m args below meth c H locs cells slots 0 0 (F0 m pc ls [.int (Int32.ofInt z), .ref (ad 0)]) [] (QM none r2 K ad cA D 0 (fun _ => 0) (va_A (wld K ad cA h) H.size) ([vR 0, vI z].map (cv ad)).toArray) (va_A (wld K ad cA h) H.size) := by
      refine va_runV (As := [.int (Int32.ofInt z)]) (nL := nL) ⟨hx, hb, hmx, hown, hts⟩ hM (cwV q2.na hts (gi (fun w hw => ?_)) rfl rfl rfl ⟨rfl, m3, m4, m5⟩ ⟨hfr, by unfold rmM; exact hlo⟩) hpre rfl cna.symm hsz rfl (lv_room (by decide)) hdg ⟨by omega, by omega⟩
      rcases List.mem_append.mp hw with hw | hw
      · simp only [List.mem_cons, List.not_mem_nil, or_false] at hw
        rcases hw with rfl | rfl | rfl | rfl
        · exact gtb_in hrk rfl
        · exact gtb_in m2 rfl
        · exact gtb_in m2b rfl
        · exact gtb_in m1 rfl
      · exact wsM_in hcd w hw
    refine va_callG (B := fun t => va_P D vwCl (wld K ad cA r2) t.heap) (r := none) (A1 := va_A (wld K ad cA h) H.size) ?_ hrun2 hS (fun x _ hx => hf x hx) hf (fun t H1 locs1 ht hB hS1 => ?_)
    · intro st' oc t hq
      obtain ⟨a1, a2, a3, a4, a5, a6, a7⟩ := hq
      exact ⟨a1, a2, a3⟩
    · rw [ht] at hB
      exact kk H1 locs1 ⟨hB, wld_D hD, hS1⟩
  · cases m9
end CBG
