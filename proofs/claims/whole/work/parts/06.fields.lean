section SNI
variable {p : Program} {l : Launch} {e : Env} {R : Room} {s : State} {m : MethodId} {args : Array Value} {below : List Frame} {meth : Method} {c : Code} {cells slots : Nat} {Q : State → Prop}
variable {q : ME} {K : KK} {ad : Nat → Nat} {cA : ClassId} {D : va_G} {A : Nat → Prop} {H0 : Heap} {SL : Nat} {xs : Nat → Int32} {d : Nat} {pc n : Nat} {L st : List AV} {h : HH}
theorem Fr.x (F : Fr q p R s m args c d cells slots) : p.tables.exec = Jvm.exec := F.1
theorem Fr.b (F : Fr q p R s m args c d cells slots) : c.code = q.b := F.2.1
theorem Fr.ml (F : Fr q p R s m args c d cells slots) : c.maxLocals = q.ml := F.2.2.1
theorem Fr.own (F : Fr q p R s m args c d cells slots) : s.vm.findClass (clN q.c) = some m.cls := F.2.2.2.1
theorem Fr.ts (F : Fr q p R s m args c d cells slots) : ∀ w ∈ gtb, w.before args s = true := F.2.2.2.2.1
theorem Fr.ns (F : Fr q p R s m args c d cells slots) : ∀ w ∈ ntb, va_Nw w s := F.2.2.2.2.2.1
theorem isO_lt {a ci : Nat} (hK : K.length ≤ 10000) (h : isO K a ci) : a < 10000 := Nat.lt_of_lt_of_le (by obtain ⟨rs, h1, -⟩ := isO_at h; exact (List.getElem?_eq_some_iff.mp h1).1) hK
theorem clw {ci : Nat} (hc : ci < 10) : ∃ C T N, vwCl[ci]? = some (C, T, N) := by
  have h1 : vwCl[ci]? = some (vwCl[ci]'(by exact hc)) := List.getElem?_eq_getElem _
  exact ⟨_, _, _, h1⟩
theorem snd_get {i : Nat} (F : Fr q p R s m args c d cells slots) (hdg : decode q.b pc = .ok (.getfield i, 3)) {pc' : Nat} {L' st' : List AV} {h' : HH} (hs : getF K q.c pc i L st h = some (.inl (pc', L', st', h'))) (k : WQ p l e R s m args below meth c cells slots Q q K ad cA D A H0 SL xs pc' L' st' h') : WQ p l e R s m args below meth c cells slots Q q K ad cA D A H0 SL xs pc L st h := by
  unfold getF at hs
  split at hs
  · next a r =>
    split at hs
    · next ci k0 nest pl hfr =>
      obtain ⟨hO, hs⟩ := gd_some hs
      have hf := fOK_at hfr
      unfold fOK at hf
      dsimp only at hf
      split at hf
      · next C T N hcl =>
        simp only [Bool.and_eq_true, decide_eq_true_eq] at hf
        obtain ⟨hk, hf⟩ := hf
        obtain ⟨hN, hty⟩ := cl_at hcl
        have hk2 : k0 < (FKL ci).length := by rw [← hN]; exact hk
        have hws : ∀ w ∈ u_ws C T N, w ∈ gtb := cl_words hcl
        intro ls H locs hl wl ws hW hS
        obtain ⟨hKa, hP, hD, hSa, hwf⟩ := hW
        obtain ⟨rs, hO1, hO2⟩ := isO_at hO
        have he := wld_at (ad := ad) (cA := cA) (h := h) hO1
        have hv : ((FKL ci).mapIdx (fun j t => fV ad t (rs.getD j 0) (h a j)))[k0]? = some (fV ad (FK ci k0) (rs.getD k0 0) (h a k0)) := by
          rw [List.getElem?_mapIdx, List.getElem?_eq_getElem hk2]
          simp [FK, hk2]
        have hrow : ∀ (v : AV), cv ad v = fV ad (FK ci k0) (rs.getD k0 0) (h a k0) → wfV v → (WQ p l e R s m args below meth c cells slots Q q K ad cA D A H0 SL xs (pc + 3) L (v :: r) h) → W p l e R s m args below meth c H locs cells slots Q (F0 m (pc) ls (.ref (ad a) :: r.map (cv ad))) := by
          intro v hcv hwv kk
          have kk2 := kk ls H locs hl wl (wfc hwv (fun z hz => ws z (List.mem_cons_of_mem _ hz))) ⟨hKa, hP, hD, hSa, hwf⟩ hS
          have kk3 : W p l e R s m args below meth c H locs cells slots Q (F0 m (pc + 3) ls (fV ad (FK ci k0) (rs.getD k0 0) (h a k0) :: r.map (cv ad))) := by rw [← hcv]; exact kk2
          cases nest with
          | false =>
            simp only [Bool.false_eq_true, if_false, decide_eq_true_eq] at hf
            exact va_get (D := D) F.x F.b F.ts hws F.own hKa hP a he hcl k0 hk (F.ts _ (gtb_in hf rfl)) (fun _ z => z) hv hdg kk3
          | true =>
            simp only [if_true, decide_eq_true_eq] at hf
            exact va_getN (D := D) F.x F.b F.ts hws F.own hKa hP a he hcl k0 hk ((F.ns _ (ntb_in hf rfl)).use rfl) (fun _ z => z) hv hdg kk3
        by_cases h2 : FK ci k0 = 2
        · rw [if_pos h2] at hs
          obtain ⟨rfl, rfl, rfl, rfl⟩ := nx_some hs
          refine hrow (vR (rT K a k0)) ?_ trivial k
          unfold fV
          rw [if_pos h2, hO2]
          rfl
        · rw [if_neg h2] at hs
          by_cases h3 : FK ci k0 = 3
          · rw [if_pos h3] at hs
            obtain ⟨h0, hs⟩ := gd_some hs
            obtain ⟨rfl, rfl, rfl, rfl⟩ := nx_some hs
            refine hrow (vR (h a k0).toNat) ?_ trivial k
            unfold fV
            rw [if_neg h2, if_pos h3, if_pos h0]
            rfl
          · rw [if_neg h3] at hs
            obtain ⟨rfl, rfl, rfl, rfl⟩ := nx_some hs
            refine hrow (vI (h a k0)) ?_ (hwf a k0) k
            unfold fV
            rw [if_neg h2, if_neg h3]
            rfl
      · cases hf
    · cases hs
  · cases hs
theorem put_core {i a ci k0 pl : Nat} {nest : Bool} {z : Int} {v : AV} {r : List AV} (hK : K.length ≤ 10000) (F : Fr q p R s m args c d cells slots) (hdg : decode q.b pc = .ok (.putfield i, 3)) (hfr : FR q.c i = some (ci, k0, nest, pl)) (hO : isO K a ci) (hfin : FF ci k0 = false) (hz : wfI z) (hcv : ∀ r0, cv ad v = fV ad (FK ci k0) r0 z) (hfit : ∀ ty, (FK ci k0 = 0 → ty = .int) → (FK ci k0 = 1 → ty = .boolean) → (FK ci k0 = 3 → ty = .array .int) → narrow ty (cv ad v) = cv ad v ∧ fits ty (cv ad v) = true) (k : WQ p l e R s m args below meth c cells slots Q q K ad cA D A H0 SL xs (pc + 3) L r (hput h a k0 z)) : WQ p l e R s m args below meth c cells slots Q q K ad cA D A H0 SL xs pc L (v :: vR a :: r) h := by
  have hf := fOK_at hfr
  unfold fOK at hf
  dsimp only at hf
  split at hf
  · next C T N hcl =>
    simp only [Bool.and_eq_true, decide_eq_true_eq] at hf
    obtain ⟨hk, hf⟩ := hf
    obtain ⟨hN, hty⟩ := cl_at hcl
    have hk2 : k0 < (FKL ci).length := by rw [← hN]; exact hk
    have hws : ∀ w ∈ u_ws C T N, w ∈ gtb := cl_words hcl
    obtain ⟨t1, t2, t3, t4, t5⟩ := hty k0 hk
    obtain ⟨hn1, hn2⟩ := hfit (clT ci k0) t3 t4 t5
    intro ls H locs hl wl ws hW hS
    obtain ⟨hKa, hP, hD, hSa, hwf⟩ := hW
    obtain ⟨rs, hO1, hO2⟩ := isO_at hO
    have he := wld_at (ad := ad) (cA := cA) (h := h) hO1
    have hset : (wld K ad cA h).set a (ad a, .inr (ci, ((FKL ci).mapIdx (fun j t => fV ad t (rs.getD j 0) (h a j))).set k0 (cv ad v))) = wld K ad cA (hput h a k0 z) := by
      unfold hput
      rw [wld_set hO1, hcv (rs.getD k0 0)]
      show _ = (wld K ad cA h).set a (ad a, .inr (ci, (FKL ci).mapIdx (fun j t => fV ad t (rs.getD j 0) (rput (h a) k0 z j))))
      rw [cell_putF]
    have kk : ∀ (H1 : Heap) (locs1 : List Loc), va_P D vwCl ((wld K ad cA h).set a (ad a, .inr (ci, ((FKL ci).mapIdx (fun j t => fV ad t (rs.getD j 0) (h a j))).set k0 (cv ad v)))) H1 → va_D A ((wld K ad cA h).set a (ad a, .inr (ci, ((FKL ci).mapIdx (fun j t => fV ad t (rs.getD j 0) (h a j))).set k0 (cv ad v)))) → va_S A H0 H1 locs1 → W p l e R s m args below meth c H1 locs1 cells slots Q (F0 m (pc + 3) ls (r.map (cv ad))) := by
      intro H1 locs1 hP1 hD1 hS1
      rw [hset] at hP1 hD1
      exact k ls H1 locs1 hl wl (fun y hy => ws y (List.mem_cons_of_mem _ (List.mem_cons_of_mem _ hy))) ⟨hKa, hP1, hD1, hS1, wfH_put hwf a k0 hz⟩ (hS.set (isO_lt hK hO) _)
    show W p l e R s m args below meth c H locs cells slots Q (F0 m (pc) ls (cv ad v :: .ref (ad a) :: r.map (cv ad)))
    cases nest with
    | false =>
      simp only [Bool.false_eq_true, if_false, decide_eq_true_eq] at hf
      exact va_put (D := D) F.x F.b F.ts hws (clT ci) (fun j hj => (hty j hj).2.1) (cl_names hcl) F.own hKa hP hD hSa a he hcl k0 hk (F.ts _ (gtb_in hf rfl)) (fun _ z => z) (t1.trans hfin) t2 hn1 hn2 (by rw [List.length_mapIdx]; exact hk2) hdg kk
    | true =>
      simp only [if_true, decide_eq_true_eq] at hf
      exact va_putN (D := D) F.x F.b F.ts hws (clT ci) (fun j hj => (hty j hj).2.1) (cl_names hcl) F.own hKa hP hD hSa a he hcl k0 hk ((F.ns _ (ntb_in hf rfl)).use rfl) (fun _ z => z) (t1.trans hfin) t2 hn1 hn2 (by rw [List.length_mapIdx]; exact hk2) hdg kk
  · cases hf
theorem snd_put {i : Nat} (hK : K.length ≤ 10000) (F : Fr q p R s m args c d cells slots) (hdg : decode q.b pc = .ok (.putfield i, 3)) {pc' : Nat} {L' st' : List AV} {h' : HH} (hs : putF K q.c pc i L st h = some (.inl (pc', L', st', h'))) (k : WQ p l e R s m args below meth c cells slots Q q K ad cA D A H0 SL xs pc' L' st' h') : WQ p l e R s m args below meth c cells slots Q q K ad cA D A H0 SL xs pc L st h := by
  unfold putF at hs
  split at hs
  · next x a r =>
    split at hs
    · next ci k0 nest pl hfr =>
      obtain ⟨⟨hO, hfin, hkd⟩, hs⟩ := gd_some hs
      obtain ⟨rfl, rfl, rfl, rfl⟩ := nx_some hs
      have n2 : ¬ FK ci k0 = 2 := by rcases hkd with z | ⟨z, -⟩ <;> omega
      have n3 : ¬ FK ci k0 = 3 := by rcases hkd with z | ⟨z, -⟩ <;> omega
      intro ls H locs hl wl ws hW hS
      have hx : wfI x := ws (.inl x) List.mem_cons_self
      refine put_core (z := x) (v := vI x) hK F hdg hfr hO hfin hx (fun _ => by unfold fV; rw [if_neg n2, if_neg n3]; rfl) (fun ty a0 a1 _ => ?_) k ls H locs hl wl ws hW hS
      rcases hkd with z | ⟨z, y⟩
      · rw [a0 z]; exact ⟨rfl, rfl⟩
      · rw [a1 z]
        rcases y with y | y <;> subst y
        · exact ⟨(by decide +kernel : narrow .boolean (.int (Int32.ofInt 0)) = .int (Int32.ofInt 0)), (by decide +kernel : fits .boolean (.int (Int32.ofInt 0)) = true)⟩
        · exact ⟨(by decide +kernel : narrow .boolean (.int (Int32.ofInt 1)) = .int (Int32.ofInt 1)), (by decide +kernel : fits .boolean (.int (Int32.ofInt 1)) = true)⟩
    · cases hs
  · next b a r =>
    split at hs
    · next ci k0 nest pl hfr =>
      obtain ⟨⟨hO, hfin, hkd, hb⟩, hs⟩ := gd_some hs
      obtain ⟨rfl, rfl, rfl, rfl⟩ := nx_some hs
      refine put_core (z := (b : Int)) (v := vR b) hK F hdg hfr hO hfin (by unfold wfI; omega) (fun _ => by unfold fV; rw [if_neg (by omega), if_pos hkd, if_pos (by omega)]; rfl) (fun ty _ _ a2 => ?_) k
      rw [a2 hkd]; exact ⟨rfl, rfl⟩
    · cases hs
  · cases hs
theorem aln_pos {a : Nat} {i : Int} (h0 : 0 ≤ i) (h1 : i < aln K a) : ∃ n : Nat, K[a]? = some (.inl n) ∧ aln K a = n := by
  unfold aln at *
  split at h1
  · next n hn => exact ⟨n, hn, rfl⟩
  · omega
theorem aln_lt {a : Nat} {n : Nat} (hK : K.length ≤ 10000) (h : K[a]? = some (.inl n)) : a < 10000 := Nat.lt_of_lt_of_le (List.getElem?_eq_some_iff.mp h).1 hK
theorem snd_ald (F : Fr q p R s m args c d cells slots) (hdg : decode q.b pc = .ok (.iaload, 1)) {pc' : Nat} {L' st' : List AV} {h' : HH} (hs : aLd K pc L st h = some (.inl (pc', L', st', h'))) (k : WQ p l e R s m args below meth c cells slots Q q K ad cA D A H0 SL xs pc' L' st' h') : WQ p l e R s m args below meth c cells slots Q q K ad cA D A H0 SL xs pc L st h := by
  unfold aLd at hs
  split at hs
  · next i a r =>
    obtain ⟨⟨h0, h1⟩, hs⟩ := gd_some hs
    obtain ⟨rfl, rfl, rfl, rfl⟩ := nx_some hs
    intro ls H locs hl wl ws hW hS
    obtain ⟨hKa, hP, hD, hSa, hwf⟩ := hW
    have hi : wfI i := ws (.inl i) List.mem_cons_self
    have kk := k ls H locs hl wl (wfc (hwf a i.toNat) (fun z hz => ws z (List.mem_cons_of_mem _ (List.mem_cons_of_mem _ hz)))) ⟨hKa, hP, hD, hSa, hwf⟩ hS
    show W p l e R s m args below meth c H locs cells slots Q (F0 m (pc) ls (.int (Int32.ofInt i) :: .ref (ad a) :: r.map (cv ad)))
    by_cases ha : a = 10000
    · subst ha
      unfold alen at h1
      rw [if_pos rfl, hS.2.1] at h1
      obtain ⟨hX, hb, hbA⟩ := hS.1 (Or.inr (by omega))
      refine va_sld F.x F.b hX hb hbA hSa (o_in hi h0 h1) hdg ?_
      rw [o_cl hi]
      have e2 : Int32.ofInt (h 10000 i.toNat) = xs i.toNat := by rw [hS.2.2.2]; exact Int32.ofInt_toInt _
      rw [← e2]
      exact kk
    · unfold alen at h1
      rw [if_neg ha] at h1
      obtain ⟨n0, hn, he⟩ := aln_pos h0 h1
      rw [he] at h1
      refine va_iald (D := D) F.x F.b hKa hP a 0 (wld_at hn) rfl (o_in hi h0 h1) hdg ?_
      rw [o_cl hi]
      exact kk
  · cases hs
theorem snd_ast (hK : K.length ≤ 10000) (F : Fr q p R s m args c d cells slots) (hdg : decode q.b pc = .ok (.iastore, 1)) {pc' : Nat} {L' st' : List AV} {h' : HH} (hs : aSt K pc L st h = some (.inl (pc', L', st', h'))) (k : WQ p l e R s m args below meth c cells slots Q q K ad cA D A H0 SL xs pc' L' st' h') : WQ p l e R s m args below meth c cells slots Q q K ad cA D A H0 SL xs pc L st h := by
  unfold aSt at hs
  split at hs
  · next x i a r =>
    obtain ⟨⟨h0, h1⟩, hs⟩ := gd_some hs
    obtain ⟨rfl, rfl, rfl, rfl⟩ := nx_some hs
    intro ls H locs hl wl ws hW hS
    obtain ⟨hKa, hP, hD, hSa, hwf⟩ := hW
    have hx : wfI x := ws (.inl x) List.mem_cons_self
    have hi : wfI i := ws (.inl i) (List.mem_cons_of_mem _ List.mem_cons_self)
    obtain ⟨n0, hn, he⟩ := aln_pos h0 h1
    rw [he] at h1
    have hset : (wld K ad cA h).set a (ad a, .inl (cA, n0, .inl (upd (fun j => Int32.ofInt (h a j)) (Int32.ofInt i).toNatClampNeg (Int32.ofInt x)))) = wld K ad cA (hput h a i.toNat x) := by
      unfold hput
      have e1 : upd (fun j => Int32.ofInt (h a j)) i.toNat (Int32.ofInt x) = fun j => Int32.ofInt (rput (h a) i.toNat x j) := by
        funext j
        unfold upd rput
        split <;> rfl
      rw [wld_set hn, o_cl hi, e1]
      rfl
    show W p l e R s m args below meth c H locs cells slots Q (F0 m (pc) ls (.int (Int32.ofInt x) :: .int (Int32.ofInt i) :: .ref (ad a) :: r.map (cv ad)))
    refine va_iast (D := D) F.x F.b hKa hP hD hSa a 0 (wld_at hn) rfl (o_in hi h0 h1) hdg (fun H1 locs1 hP1 hD1 hS1 => ?_)
    rw [hset] at hP1 hD1
    exact k ls H1 locs1 hl wl (fun y hy => ws y (List.mem_cons_of_mem _ (List.mem_cons_of_mem _ (List.mem_cons_of_mem _ hy)))) ⟨hKa, hP1, hD1, hS1, wfH_put hwf a _ hx⟩ (hS.set (aln_lt hK hn) _)
  · cases hs
theorem snd_aln (hKs : ∀ (a n : Nat), K[a]? = some (.inl n) → n < 2147483648) (F : Fr q p R s m args c d cells slots) (hdg : decode q.b pc = .ok (.arraylength, 1)) {pc' : Nat} {L' st' : List AV} {h' : HH} (hs : aLn K pc L st h = some (.inl (pc', L', st', h'))) (k : WQ p l e R s m args below meth c cells slots Q q K ad cA D A H0 SL xs pc' L' st' h') : WQ p l e R s m args below meth c cells slots Q q K ad cA D A H0 SL xs pc L st h := by
  unfold aLn at hs
  split at hs
  · next a r =>
    obtain ⟨h1, hs⟩ := gd_some hs
    obtain ⟨rfl, rfl, rfl, rfl⟩ := nx_some hs
    intro ls H locs hl wl ws hW hS
    obtain ⟨hKa, hP, hD, hSa, hwf⟩ := hW
    by_cases ha : a = 10000
    · subst ha
      have e1 : alen K h 10000 = SL := by unfold alen; rw [if_pos rfl, hS.2.1]
      have hc : xs 4096 = 1 ∨ 0 < SL := by
        rcases h1 with z | ⟨-, z⟩
        · rw [e1] at z; right; omega
        · rw [hS.2.2.2] at z
          exact Or.inl (o_inj z)
      obtain ⟨hX, hb, hbA⟩ := hS.1 hc
      have kk := k ls H locs hl wl (wfc (show wfI (alen K h 10000) by rw [e1]; have := hS.2.2.1; unfold wfI; omega) (fun z hz => ws z (List.mem_cons_of_mem _ hz))) ⟨hKa, hP, hD, hSa, hwf⟩ hS
      show W p l e R s m args below meth c H locs cells slots Q (F0 m (pc) ls (.ref (ad 10000) :: r.map (cv ad)))
      refine va_slen F.x F.b hX hb hbA hSa hdg ?_
      rw [e1] at kk
      exact kk
    · have h2 : 0 < aln K a := by
        rcases h1 with z | ⟨z, -⟩
        · unfold alen at z; rwa [if_neg ha] at z
        · exact absurd z ha
      obtain ⟨n0, hn, he⟩ := aln_pos (Int.le_refl 0) h2
      have e1 : alen K h a = n0 := by unfold alen; rw [if_neg ha, he]
      have kk := k ls H locs hl wl (wfc (show wfI (alen K h a) by rw [e1]; have := hKs a n0 hn; unfold wfI; omega) (fun z hz => ws z (List.mem_cons_of_mem _ hz))) ⟨hKa, hP, hD, hSa, hwf⟩ hS
      show W p l e R s m args below meth c H locs cells slots Q (F0 m (pc) ls (.ref (ad a) :: r.map (cv ad)))
      refine va_alen (D := D) F.x F.b hKa hP a 0 (wld_at hn) rfl rfl hdg ?_
      rw [e1] at kk
      exact kk
  · cases hs
end SNI
