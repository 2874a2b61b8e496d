section SNJ
variable {p : Program} {l : Launch} {e : Env} {R : Room} {s : State} {m : MethodId} {args : Array Value} {below : List Frame} {meth : Method} {c : Code} {cells slots : Nat} {Q : State → Prop}
variable {q : ME} {K : KK} {ad : Nat → Nat} {cA : ClassId} {D : va_G} {A : Nat → Prop} {H0 : Heap} {SL : Nat} {xs : Nat → Int32} {d : Nat} {pc n : Nat} {L st : List AV} {h : HH}
theorem rets_not {x : Nat × List AV × List AV × HH} : ¬ rets q st h = some (.inl x) := by
  intro hs
  unfold rets at hs
  split at hs
  · obtain ⟨-, hs2⟩ := gd_some hs
    clear hs
    have hs := hs2
    clear hs2
    cases hs
  · cases hs
theorem retL_not {x : Nat × List AV × List AV × HH} : ¬ retL q st h = some (.inl x) := by
  intro hs
  unfold retL at hs
  split at hs
  · obtain ⟨-, hs2⟩ := gd_some hs
    clear hs
    have hs := hs2
    clear hs2
    cases hs
  · cases hs
theorem kcV_not {cn j : Nat} {x : Nat × List AV × List AV × HH} : ¬ kcV K cn j st = some (.inl x) := by
  intro hs
  unfold kcV at hs
  split at hs
  · split at hs
    · split at hs
      · obtain ⟨-, hs2⟩ := gd_some hs
        clear hs
        have hs := hs2
        clear hs2
        cases hs
      · cases hs
    · cases hs
  · cases hs
theorem snd_cpy {i : Nat} (hK : K.length ≤ 10000) (F : Fr q p R s m args c d cells slots) (hdg : decode q.b pc = .ok (.invokestatic i, 3)) {pc' : Nat} {L' st' : List AV} {h' : HH} (hs : kcA K q.c pc i L st h = some (.inl (pc', L', st', h'))) (k : WQ p l e R s m args below meth c cells slots Q q K ad cA D A H0 SL xs pc' L' st' h') : WQ p l e R s m args below meth c cells slots Q q K ad cA D A H0 SL xs pc L st h := by
  unfold kcA at hs
  split at hs
  · next nest pl n dp b sp a hmr =>
    obtain ⟨⟨hn, hd, hsp, h4, h5, h6, h7⟩, hs2⟩ := gd_some hs
    clear hs
    have hs := hs2
    clear hs2
    obtain ⟨rfl, rfl, rfl, rfl⟩ := nx_some hs
    have hm := rOK_at hmr
    unfold rOK at hm
    dsimp only at hm
    rw [if_pos (by omega)] at hm
    have hm := of_decide_eq_true hm
    intro ls H locs hl wl ws hW hS
    obtain ⟨hKa, hP, hD, hSa, hwf⟩ := hW
    have w1 : wfI n := ws (.inl n) List.mem_cons_self
    have w2 : wfI dp := ws (.inl dp) (List.mem_cons_of_mem _ List.mem_cons_self)
    have w3 : wfI sp := ws (.inl sp) (List.mem_cons_of_mem _ (List.mem_cons_of_mem _ (List.mem_cons_of_mem _ List.mem_cons_self)))
    obtain ⟨n0, a1, a2⟩ := aln_pos (Int.le_refl 0) h6
    obtain ⟨n1, b1, b2⟩ := aln_pos (Int.le_refl 0) h7
    rw [a2] at h4
    rw [b2] at h5
    have e1 : va_cpy (fun j => Int32.ofInt (h a j)) (fun j => Int32.ofInt (h b j)) sp.toNat dp.toNat n.toNat = fun j => Int32.ofInt (if dp.toNat ≤ j ∧ j < dp.toNat + n.toNat then h a (sp.toNat + (j - dp.toNat)) else h b j) := by
      funext j
      unfold va_cpy
      split <;> rfl
    have e2 : (wld K ad cA h).set b (ad b, .inl (cA, n1, .inl (va_cpy (fun j => Int32.ofInt (h a j)) (fun j => Int32.ofInt (h b j)) (Int32.ofInt sp).toNatClampNeg (Int32.ofInt dp).toNatClampNeg (Int32.ofInt n).toNatClampNeg))) = wld K ad cA (hset h b (fun j => if dp.toNat ≤ j ∧ j < dp.toNat + n.toNat then h a (sp.toNat + (j - dp.toNat)) else h b j)) := by
      rw [wld_set b1, o_cl w1, o_cl w2, o_cl w3, e1]
      rfl
    have hfr := F.2.2.2.2.2.2.1
    have hlo := F.2.2.2.2.2.2.2.1
    show W p l e R s m args below meth c H locs cells slots Q (F0 m (pc) ls ([.int (Int32.ofInt n), .int (Int32.ofInt dp), .ref (ad b), .int (Int32.ofInt sp), .ref (ad a)]))
    refine va_copyi (D := D) F.x F.b (by rw [F.ml, hl.1]) F.own (F.ts _ (gtb_in hm rfl)) (F.ts _ sp_nat) (F.ts _ sp_st_cpy) (F.ts _ sp_ini_sys) hKa hP hD hSa a b 0 0 (wld_at a1) (wld_at b1) rfl rfl rfl (fun z => by have := (o_lt w3 wf0).mp z; omega) (fun z => by have := (o_lt w2 wf0).mp z; omega) (fun z => by have := (o_lt w1 wf0).mp z; omega) (by rw [o_cl w3, o_cl w1]; omega) (by rw [o_cl w2, o_cl w1]; omega) (fun _ _ => rfl) (by omega) ?_ hdg (fun H1 locs1 hP1 hD1 hS1 => ?_)
    · have e3 : nativeFrameWords "java/lang/System" "arraycopy" 5 = 7 := by decide +kernel
      rw [e3]
      simp only [List.map_nil, List.sum_nil]
      omega
    · rw [e2] at hP1 hD1
      refine k ls H1 locs1 hl wl (fun z hz => by cases hz) ⟨hKa, hP1, hD1, hS1, fun i j => ?_⟩ (hS.set (aln_lt hK b1) _)
      unfold hset
      split
      · show wfI (if dp.toNat ≤ j ∧ j < dp.toNat + n.toNat then h a (sp.toNat + (j - dp.toNat)) else h b j)
        split
        · exact hwf _ _
        · exact hwf _ _
      · exact hwf _ _
  · cases hs
theorem cat_le (v : Value) : v.category ≤ 2 := by rcases lv_cat v with z | z <;> omega
theorem snd_sp {i : Nat} (F : Fr q p R s m args c d cells slots) (hdg : decode q.b pc = .ok (.invokestatic i, 3)) {pc' : Nat} {L' st' : List AV} {h' : HH} (hs : kcS q.c pc i L st h = some (.inl (pc', L', st', h'))) (k : WQ p l e R s m args below meth c cells slots Q q K ad cA D A H0 SL xs pc' L' st' h') : WQ p l e R s m args below meth c cells slots Q q K ad cA D A H0 SL xs pc L st h := by
  have hfr := F.2.2.2.2.2.2.1
  have hlo := F.2.2.2.2.2.2.2.1
  have hce := F.2.2.2.2.2.2.2.2.1
  have hsl := F.2.2.2.2.2.2.2.2.2
  unfold kcS at hs
  split at hs
  · next nest pl hmr =>
    have hm := rOK_at hmr
    unfold rOK at hm
    dsimp only at hm
    rw [if_pos (by omega)] at hm
    have hm := of_decide_eq_true hm
    have core : ∀ (y x : Int) (r : List AV), (r.map (fun v => (cv ad v).category)).sum ≤ 4 → WQ p l e R s m args below meth c cells slots Q q K ad cA D A H0 SL xs (pc + 3) L (vI (if x < y then y else x) :: r) h → WQ p l e R s m args below meth c cells slots Q q K ad cA D A H0 SL xs pc L (.inl y :: .inl x :: r) h := by
      intro y x r hr kk ls H locs hl wl ws hW hS
      have wy : wfI y := ws (.inl y) List.mem_cons_self
      have wx : wfI x := ws (.inl x) (List.mem_cons_of_mem _ List.mem_cons_self)
      show W p l e R s m args below meth c H locs cells slots Q (F0 m (pc) ls (.int (Int32.ofInt y) :: .int (Int32.ofInt x) :: r.map (cv ad)))
      refine va_mmax F.x F.b (by rw [F.ml, hl.1]) F.own (F.ts _ (gtb_in hm rfl)) (F.ts _ sp_st_max) (F.ts _ sp_ini_math) (F.ts _ sp_cd_max) (by omega) (by rw [List.map_map]; show (r.map (fun v => (cv ad v).category)).sum + 13 ≤ _; omega) hce hsl hdg ?_
      have wz : wfI (if x < y then y else x) := by split <;> assumption
      have k2 := kk ls H locs hl wl (wfc (v := vI (if x < y then y else x)) wz (fun z hz => ws z (List.mem_cons_of_mem _ (List.mem_cons_of_mem _ hz)))) hW hS
      have e1 : Int32.ofInt (if x < y then y else x) = if Int32.ofInt x < Int32.ofInt y then Int32.ofInt y else Int32.ofInt x := by
        split
        · next z => rw [if_pos ((o_lt wx wy).mpr z)]
        · next z => rw [if_neg (fun w => z ((o_lt wx wy).mp w))]
      rw [← e1]
      exact k2
    split at hs
    · next y x =>
      obtain ⟨rfl, rfl, rfl, rfl⟩ := nx_some hs
      exact core y x [] (by simp) k
    · next y x w =>
      obtain ⟨rfl, rfl, rfl, rfl⟩ := nx_some hs
      exact core y x [w] (by have := cat_le (cv ad w); simp only [List.map_cons, List.map_nil, List.sum_cons, List.sum_nil]; omega) k
    · next y x w v =>
      obtain ⟨rfl, rfl, rfl, rfl⟩ := nx_some hs
      exact core y x [w, v] (by have := cat_le (cv ad w); have := cat_le (cv ad v); simp only [List.map_cons, List.map_nil, List.sum_cons, List.sum_nil]; omega) k
    · cases hs
  · next nest pl hmr =>
    have hm := rOK_at hmr
    unfold rOK at hm
    dsimp only at hm
    rw [if_pos (by omega)] at hm
    have hm := of_decide_eq_true hm
    have core : ∀ (y x : Int) (r : List AV), (r.map (fun v => (cv ad v).category)).sum ≤ 4 → WQ p l e R s m args below meth c cells slots Q q K ad cA D A H0 SL xs (pc + 3) L (vI (if y < x then y else x) :: r) h → WQ p l e R s m args below meth c cells slots Q q K ad cA D A H0 SL xs pc L (.inl y :: .inl x :: r) h := by
      intro y x r hr kk ls H locs hl wl ws hW hS
      have wy : wfI y := ws (.inl y) List.mem_cons_self
      have wx : wfI x := ws (.inl x) (List.mem_cons_of_mem _ List.mem_cons_self)
      show W p l e R s m args below meth c H locs cells slots Q (F0 m (pc) ls (.int (Int32.ofInt y) :: .int (Int32.ofInt x) :: r.map (cv ad)))
      refine va_mmin F.x F.b (by rw [F.ml, hl.1]) F.own (F.ts _ (gtb_in hm rfl)) (F.ts _ sp_st_min) (F.ts _ sp_ini_math) (F.ts _ sp_cd_min) (by omega) (by rw [List.map_map]; show (r.map (fun v => (cv ad v).category)).sum + 13 ≤ _; omega) hce hsl hdg ?_
      have wz : wfI (if y < x then y else x) := by split <;> assumption
      have k2 := kk ls H locs hl wl (wfc (v := vI (if y < x then y else x)) wz (fun z hz => ws z (List.mem_cons_of_mem _ (List.mem_cons_of_mem _ hz)))) hW hS
      have e1 : Int32.ofInt (if y < x then y else x) = if Int32.ofInt y < Int32.ofInt x then Int32.ofInt y else Int32.ofInt x := by
        split
        · next z => rw [if_pos ((o_lt wy wx).mpr z)]
        · next z => rw [if_neg (fun w => z ((o_lt wy wx).mp w))]
      rw [← e1]
      exact k2
    split at hs
    · next y x =>
      obtain ⟨rfl, rfl, rfl, rfl⟩ := nx_some hs
      exact core y x [] (by simp) k
    · next y x w =>
      obtain ⟨rfl, rfl, rfl, rfl⟩ := nx_some hs
      exact core y x [w] (by have := cat_le (cv ad w); simp only [List.map_cons, List.map_nil, List.sum_cons, List.sum_nil]; omega) k
    · next y x w v =>
      obtain ⟨rfl, rfl, rfl, rfl⟩ := nx_some hs
      exact core y x [w, v] (by have := cat_le (cv ad w); have := cat_le (cv ad v); simp only [List.map_cons, List.map_nil, List.sum_cons, List.sum_nil]; omega) k
    · cases hs
  · next nest pl hmr =>
    have hm := rOK_at hmr
    unfold rOK at hm
    dsimp only at hm
    rw [if_pos (by omega)] at hm
    have hm := of_decide_eq_true hm
    split at hs
    · next x =>
      obtain ⟨rfl, rfl, rfl, rfl⟩ := nx_some hs
      intro ls H locs hl wl ws hW hS
      have wx : wfI x := ws (.inl x) List.mem_cons_self
      show W p l e R s m args below meth c H locs cells slots Q (F0 m (pc) ls ([.int (Int32.ofInt x)]))
      refine va_mabs F.x F.b (by rw [F.ml, hl.1]) F.own (F.ts _ (gtb_in hm rfl)) (F.ts _ sp_st_abs) (F.ts _ sp_ini_math) (F.ts _ sp_cd_abs) (by omega) (by simp only [List.map_nil, List.sum_nil]; omega) hce hsl hdg ?_
      have wz : wfI (if 0 ≤ x then x else w32 (0 - x)) := by
        split
        · exact wx
        · exact w32_wf _
      have k2 := k ls H locs hl wl (wfc (v := vI (if 0 ≤ x then x else w32 (0 - x))) wz (fun z hz => by cases hz)) hW hS
      have e1 : Int32.ofInt (if 0 ≤ x then x else w32 (0 - x)) = if 0 ≤ Int32.ofInt x then Int32.ofInt x else 0 - Int32.ofInt x := by
        have a0 : (0 : Int32) ≤ Int32.ofInt x ↔ 0 ≤ x := o_le wf0 wx
        split
        · next z => rw [if_pos (a0.mpr z)]
        · next z =>
          rw [if_neg (fun w => z (a0.mp w)), ← o_sub]
          rfl
      rw [← e1]
      exact k2
    · cases hs
  · split at hs
    · obtain ⟨-, hs2⟩ := gd_some hs
      clear hs
      have hs := hs2
      clear hs2
      cases hs
    · cases hs
  · cases hs
set_option maxHeartbeats 4000000 in
theorem snd_I (hK : K.length ≤ 10000) (hKs : ∀ (a n : Nat), K[a]? = some (.inl n) → n < 2147483648) (F : Fr q p R s m args c d cells slots) {i : Instr} (hdg : decode q.b pc = .ok (i, n)) {pc' : Nat} {L' st' : List AV} {h' : HH} (hs : stepI K q pc n L st h i = some (.inl (pc', L', st', h'))) (k : WQ p l e R s m args below meth c cells slots Q q K ad cA D A H0 SL xs pc' L' st' h') : WQ p l e R s m args below meth c cells slots Q q K ad cA D A H0 SL xs pc L st h := by
  cases i
  case iconst z =>
    obtain ⟨⟨rfl, h1, h2⟩, hs2⟩ := gd_some hs
    clear hs
    have hs := hs2
    clear hs2
    obtain ⟨rfl, rfl, rfl, rfl⟩ := nx_some hs
    exact g_push (w := 1) (v := vI z) (by show wfI z; unfold wfI; omega) (fun ls H locs rest hl kk => lv_iconst F.x F.b hdg rfl kk) k
  case bipush z =>
    obtain ⟨⟨rfl, h1, h2⟩, hs2⟩ := gd_some hs
    clear hs
    have hs := hs2
    clear hs2
    obtain ⟨rfl, rfl, rfl, rfl⟩ := nx_some hs
    exact g_push (w := 2) (v := vI z) (by show wfI z; unfold wfI; omega) (fun ls H locs rest hl kk => lv_bipush F.x F.b hdg (o_bi h1 h2) kk) k
  case sipush z =>
    obtain ⟨⟨rfl, h1, h2⟩, hs2⟩ := gd_some hs
    clear hs
    have hs := hs2
    clear hs2
    obtain ⟨rfl, rfl, rfl, rfl⟩ := nx_some hs
    exact g_push (w := 3) (v := vI z) (by show wfI z; unfold wfI; omega) (fun ls H locs rest hl kk => lv_sipush F.x F.b hdg (o_si h1 h2) kk) k
  case lconst z =>
    obtain ⟨rfl, hs2⟩ := gd_some hs
    clear hs
    have hs := hs2
    clear hs2
    obtain ⟨rfl, rfl, rfl, rfl⟩ := nx_some hs
    exact g_push (w := 1) (v := vL (z.val : Int)) (by show wfJ _; unfold wfJ; omega) (fun ls H locs rest hl kk => lv_lconst F.x F.b hdg rfl kk) k
  case ldc j =>
    cases hc : CR q.c j with
    | none => simp only [stepI, hc] at hs; cases hs
    | some v =>
      simp only [stepI, hc] at hs
      obtain ⟨rfl, hs2⟩ := gd_some hs
      clear hs
      have hs := hs2
      clear hs2
      obtain ⟨rfl, rfl, rfl, rfl⟩ := nx_some hs
      have h1 := cOK_at hc
      simp only [cOK, Bool.and_eq_true, decide_eq_true_eq] at h1
      exact g_push (w := 2) (v := vI v.1) h1.2 (fun ls H locs rest hl kk => lv_ldc F.x F.b F.own (F.ts _ (gtb_in h1.1 rfl)) hdg kk) k
  case ldc_w j =>
    cases hc : CR q.c j with
    | none => simp only [stepI, hc] at hs; cases hs
    | some v =>
      simp only [stepI, hc] at hs
      obtain ⟨rfl, hs2⟩ := gd_some hs
      clear hs
      have hs := hs2
      clear hs2
      obtain ⟨rfl, rfl, rfl, rfl⟩ := nx_some hs
      have h1 := cOK_at hc
      simp only [cOK, Bool.and_eq_true, decide_eq_true_eq] at h1
      exact g_push (w := 3) (v := vI v.1) h1.2 (fun ls H locs rest hl kk => lv_ldcw F.x F.b F.own (F.ts _ (gtb_in h1.1 rfl)) hdg kk) k
  case ldc2_w j =>
    cases hc : LR q.c j with
    | none => simp only [stepI, hc] at hs; cases hs
    | some v =>
      simp only [stepI, hc] at hs
      obtain ⟨rfl, hs2⟩ := gd_some hs
      clear hs
      have hs := hs2
      clear hs2
      obtain ⟨rfl, rfl, rfl, rfl⟩ := nx_some hs
      have h1 := lOK_at hc
      simp only [lOK, Bool.and_eq_true, decide_eq_true_eq] at h1
      exact g_push (w := 3) (v := vL v.1) h1.2 (fun ls H locs rest hl kk => lv_ldc2 F.x F.b F.own (F.ts _ (gtb_in h1.1 rfl)) hdg kk) k
  case iload_n j =>
    obtain ⟨rfl, hs2⟩ := gd_some hs
    clear hs
    have hs := hs2
    clear hs2
    refine g_ld (w := 1) hs (fun v ho hv ls H locs rest hl kk => ?_) k
    obtain ⟨x, rfl⟩ := okI_i ho
    exact lv_iload_n F.x F.b hdg rfl (hl.2.2.2.2 _ _ hv (by intro z; cases z)) kk
  case iload j =>
    obtain ⟨rfl, hs2⟩ := gd_some hs
    clear hs
    have hs := hs2
    clear hs2
    refine g_ld (w := 2) hs (fun v ho hv ls H locs rest hl kk => ?_) k
    obtain ⟨x, rfl⟩ := okI_i ho
    exact lv_iload F.x F.b hdg (hl.2.2.2.2 _ _ hv (by intro z; cases z)) kk
  case lload_n j =>
    obtain ⟨rfl, hs2⟩ := gd_some hs
    clear hs
    have hs := hs2
    clear hs2
    refine g_ld (w := 1) hs (fun v ho hv ls H locs rest hl kk => ?_) k
    obtain ⟨x, rfl⟩ := okL_i ho
    exact lv_lload_n F.x F.b hdg rfl (hl.2.2.2.2 _ _ hv (by intro z; cases z)) kk
  case lload j =>
    obtain ⟨rfl, hs2⟩ := gd_some hs
    clear hs
    have hs := hs2
    clear hs2
    refine g_ld (w := 2) hs (fun v ho hv ls H locs rest hl kk => ?_) k
    obtain ⟨x, rfl⟩ := okL_i ho
    exact lv_lload F.x F.b hdg (hl.2.2.2.2 _ _ hv (by intro z; cases z)) kk
  case aload_n j =>
    obtain ⟨rfl, hs2⟩ := gd_some hs
    clear hs
    have hs := hs2
    clear hs2
    refine g_ld (w := 1) hs (fun v ho hv ls H locs rest hl kk => ?_) k
    obtain ⟨x, rfl⟩ := okR_i ho
    exact lv_aload_n F.x F.b hdg rfl (hl.2.2.2.2 _ _ hv (by intro z; cases z)) kk
  case aload j =>
    obtain ⟨rfl, hs2⟩ := gd_some hs
    clear hs
    have hs := hs2
    clear hs2
    refine g_ld (w := 2) hs (fun v ho hv ls H locs rest hl kk => ?_) k
    obtain ⟨x, rfl⟩ := okR_i ho
    exact lv_aload F.x F.b hdg (hl.2.2.2.2 _ _ hv (by intro z; cases z)) kk
  case istore_n j =>
    obtain ⟨rfl, hs2⟩ := gd_some hs
    clear hs
    have hs := hs2
    clear hs2
    refine g_sto (w := 1) hs (fun v hv => by obtain ⟨x, rfl⟩ := okI_i hv; rfl) (fun v ho ls H locs rest hl hi kk => ?_) k
    obtain ⟨x, rfl⟩ := okI_i ho
    exact lv_istore_n F.x F.b hdg rfl hl hi rfl kk
  case istore j =>
    obtain ⟨rfl, hs2⟩ := gd_some hs
    clear hs
    have hs := hs2
    clear hs2
    refine g_sto (w := 2) hs (fun v hv => by obtain ⟨x, rfl⟩ := okI_i hv; rfl) (fun v ho ls H locs rest hl hi kk => ?_) k
    obtain ⟨x, rfl⟩ := okI_i ho
    exact lv_istore F.x F.b hdg hl hi rfl kk
  case astore_n j =>
    obtain ⟨rfl, hs2⟩ := gd_some hs
    clear hs
    have hs := hs2
    clear hs2
    refine g_sto (w := 1) hs (fun v hv => by obtain ⟨x, rfl⟩ := okR_i hv; rfl) (fun v ho ls H locs rest hl hi kk => ?_) k
    obtain ⟨x, rfl⟩ := okR_i ho
    exact lv_astore_n F.x F.b hdg rfl hl hi rfl kk
  case astore j =>
    obtain ⟨rfl, hs2⟩ := gd_some hs
    clear hs
    have hs := hs2
    clear hs2
    refine g_sto (w := 2) hs (fun v hv => by obtain ⟨x, rfl⟩ := okR_i hv; rfl) (fun v ho ls H locs rest hl hi kk => ?_) k
    obtain ⟨x, rfl⟩ := okR_i ho
    exact lv_astore F.x F.b hdg hl hi rfl kk
  case lstore_n j =>
    obtain ⟨rfl, hs2⟩ := gd_some hs
    clear hs
    have hs := hs2
    clear hs2
    unfold stoL at hs
    split at hs
    · next z r =>
      obtain ⟨⟨hg, hi, hp, -⟩, hs2⟩ := gd_some hs
      clear hs
      have hs := hs2
      clear hs2
      obtain ⟨rfl, rfl, rfl, rfl⟩ := nx_some hs
      intro ls H locs hl wl ws hW hS
      refine lv_lstore_n F.x F.b hdg rfl hl.has (by rw [← hl.2.1]; exact hi) rfl (fun ls' hn => ?_)
      refine k ls' H locs (hl.set2 hg hp hn) (fun x hx => ?_) (fun x hx => ws x (List.mem_cons_of_mem _ hx)) hW hS
      rcases List.mem_or_eq_of_mem_set hx with h1 | h1
      · rcases List.mem_or_eq_of_mem_set h1 with h2 | h2
        · exact wl x h2
        · rw [h2]; exact ws _ List.mem_cons_self
      · rw [h1]; trivial
    · cases hs
  case lstore j =>
    obtain ⟨rfl, hs2⟩ := gd_some hs
    clear hs
    have hs := hs2
    clear hs2
    unfold stoL at hs
    split at hs
    · next z r =>
      obtain ⟨⟨hg, hi, hp, -⟩, hs2⟩ := gd_some hs
      clear hs
      have hs := hs2
      clear hs2
      obtain ⟨rfl, rfl, rfl, rfl⟩ := nx_some hs
      intro ls H locs hl wl ws hW hS
      refine lv_lstore F.x F.b hdg hl.has (by rw [← hl.2.1]; exact hi) rfl (fun ls' hn => ?_)
      refine k ls' H locs (hl.set2 hg hp hn) (fun x hx => ?_) (fun x hx => ws x (List.mem_cons_of_mem _ hx)) hW hS
      rcases List.mem_or_eq_of_mem_set hx with h1 | h1
      · rcases List.mem_or_eq_of_mem_set h1 with h2 | h2
        · exact wl x h2
        · rw [h2]; exact ws _ List.mem_cons_self
      · rw [h1]; trivial
    · cases hs
  case iinc j z =>
    simp only [stepI] at hs
    split at hs
    · next x hv =>
      obtain ⟨⟨rfl, hp, h1, h2⟩, hs2⟩ := gd_some hs
      clear hs
      have hs := hs2
      clear hs2
      obtain ⟨rfl, rfl, rfl, rfl⟩ := nx_some hs
      intro ls H locs hl wl ws hW hS
      have hm : (j, cv ad (vI x)) ∈ lvOf ad L := lvOf_mem.mpr ⟨_, hv, (by intro y; cases y), rfl⟩
      obtain ⟨k0, hk0⟩ := List.getElem?_of_mem hm
      have hi : j < q.ml := by rw [← hl.2.1]; exact (List.getElem?_eq_some_iff.mp hv).1
      refine lv_iinc F.x F.b hdg hl.has hk0 (v := Int32.ofInt (w32 (x + z))) (o_add x z) hi rfl (fun ls' hn => ?_)
      refine k ls' H locs (hl.set1 (v := vI (w32 (x + z))) hp rfl hn) (fun y hy => ?_) ws hW hS
      rcases List.mem_or_eq_of_mem_set hy with h3 | h3
      · exact wl y h3
      · rw [h3]; exact w32_wf _
    · cases hs
  case iadd =>
    obtain ⟨rfl, hs2⟩ := gd_some hs
    clear hs
    have hs := hs2
    clear hs2
    exact g_bin hs (fun x y _ _ => w32_wf _) (fun x y _ _ ls H locs rest kk => lv_iadd F.x F.b hdg (by rw [o_add]; exact kk)) k
  case isub =>
    obtain ⟨rfl, hs2⟩ := gd_some hs
    clear hs
    have hs := hs2
    clear hs2
    exact g_bin hs (fun x y _ _ => w32_wf _) (fun x y _ _ ls H locs rest kk => lv_isub F.x F.b hdg (by rw [o_sub]; exact kk)) k
  case imul =>
    obtain ⟨rfl, hs2⟩ := gd_some hs
    clear hs
    have hs := hs2
    clear hs2
    exact g_bin hs (fun x y _ _ => w32_wf _) (fun x y _ _ ls H locs rest kk => lv_imul F.x F.b hdg (by rw [o_mul]; exact kk)) k
  case iand =>
    obtain ⟨rfl, hs2⟩ := gd_some hs
    clear hs
    have hs := hs2
    clear hs2
    exact g_bin hs (fun x y _ _ => o_wf _) (fun x y _ _ ls H locs rest kk => lv_iand F.x F.b hdg (by rw [o_and]; exact kk)) k
  case ior =>
    obtain ⟨rfl, hs2⟩ := gd_some hs
    clear hs
    have hs := hs2
    clear hs2
    exact g_bin hs (fun x y _ _ => o_wf _) (fun x y _ _ ls H locs rest kk => lv_ior F.x F.b hdg (by rw [o_or]; exact kk)) k
  case ixor =>
    obtain ⟨rfl, hs2⟩ := gd_some hs
    clear hs
    have hs := hs2
    clear hs2
    exact g_bin hs (fun x y _ _ => o_wf _) (fun x y _ _ ls H locs rest kk => lv_ixor F.x F.b hdg (by rw [o_xor]; exact kk)) k
  case idiv =>
    obtain ⟨rfl, hs2⟩ := gd_some hs
    clear hs
    have hs := hs2
    clear hs2
    refine g_binG hs (fun x y _ _ _ => w32_wf _) (fun x y hx hy hg ls H locs rest kk => ?_) k
    refine lv_idiv F.x F.b hdg (fun z => ?_) (by rw [o_div hx hy]; exact kk)
    exact (of_decide_eq_true hg) ((o_eq hy wf0).mp z)
  case irem =>
    obtain ⟨rfl, hs2⟩ := gd_some hs
    clear hs
    have hs := hs2
    clear hs2
    refine g_binG hs (fun x y hx _ _ => tmod_wf hx) (fun x y hx hy hg ls H locs rest kk => ?_) k
    refine lv_irem F.x F.b hdg (fun z => ?_) (by rw [o_rem hx hy]; exact kk)
    exact (of_decide_eq_true hg) ((o_eq hy wf0).mp z)
  case ishl =>
    obtain ⟨rfl, hs2⟩ := gd_some hs
    clear hs
    have hs := hs2
    clear hs2
    refine g_binG hs (fun x y _ _ _ => w32_wf _) (fun x y hx hy hg ls H locs rest kk => ?_) k
    have hg := of_decide_eq_true hg
    exact lv_ishl F.x F.b hdg (by rw [o_shl x hg.1 hg.2]; exact kk)
  case ishr =>
    obtain ⟨rfl, hs2⟩ := gd_some hs
    clear hs
    have hs := hs2
    clear hs2
    refine g_binG hs (fun x y hx _ _ => div_wf hx _) (fun x y hx hy hg ls H locs rest kk => ?_) k
    have hg := of_decide_eq_true hg
    exact lv_ishr F.x F.b hdg (by rw [o_shr hx hg.1 hg.2]; exact kk)
  case iushr =>
    obtain ⟨rfl, hs2⟩ := gd_some hs
    clear hs
    have hs := hs2
    clear hs2
    refine g_binG hs (fun x y hx _ _ => div_wf hx _) (fun x y hx hy hg ls H locs rest kk => ?_) k
    have hg := of_decide_eq_true hg
    exact lv_iushr F.x F.b hdg (o_ushr hx hg.1 hg.2.1 hg.2.2) kk
  case ineg =>
    simp only [stepI] at hs
    split at hs
    · next x r =>
      obtain ⟨rfl, hs2⟩ := gd_some hs
      clear hs
      have hs := hs2
      clear hs2
      obtain ⟨rfl, rfl, rfl, rfl⟩ := nx_some hs
      intro ls H locs hl wl ws hW hS
      exact lv_ineg F.x F.b hdg (by rw [o_neg]; exact k ls H locs hl wl (wfc (w32_wf _) (fun z hz => ws z (List.mem_cons_of_mem _ hz))) hW hS)
    · cases hs
  case i2l =>
    simp only [stepI] at hs
    split at hs
    · next x r =>
      obtain ⟨rfl, hs2⟩ := gd_some hs
      clear hs
      have hs := hs2
      clear hs2
      obtain ⟨rfl, rfl, rfl, rfl⟩ := nx_some hs
      intro ls H locs hl wl ws hW hS
      have hx : wfI x := ws (.inl x) List.mem_cons_self
      exact lv_i2l F.x F.b hdg (j_i2l hx) (k ls H locs hl wl (wfc (show wfJ x by have := hx.1; have := hx.2; unfold wfJ; omega) (fun z hz => ws z (List.mem_cons_of_mem _ hz))) hW hS)
    · cases hs
  case lsub =>
    obtain ⟨rfl, hs2⟩ := gd_some hs
    clear hs
    have hs := hs2
    clear hs2
    exact g_binL hs (fun x y => w64_wf _) (fun x y _ _ ls H locs rest kk => lv_lsub F.x F.b hdg (by rw [j_sub]; exact kk)) k
  case lmul =>
    obtain ⟨rfl, hs2⟩ := gd_some hs
    clear hs
    have hs := hs2
    clear hs2
    exact g_binL hs (fun x y => w64_wf _) (fun x y _ _ ls H locs rest kk => lv_lmul F.x F.b hdg (by rw [j_mul]; exact kk)) k
  case lshl =>
    simp only [stepI] at hs
    split at hs
    · next y x r =>
      obtain ⟨⟨rfl, h0, h1⟩, hs2⟩ := gd_some hs
      clear hs
      have hs := hs2
      clear hs2
      obtain ⟨rfl, rfl, rfl, rfl⟩ := nx_some hs
      intro ls H locs hl wl ws hW hS
      exact lv_lshl F.x F.b hdg (j_shl x h0 h1) (k ls H locs hl wl (wfc (w64_wf _) (fun z hz => ws z (List.mem_cons_of_mem _ (List.mem_cons_of_mem _ hz)))) hW hS)
    · cases hs
  case lcmp =>
    simp only [stepI] at hs
    split at hs
    · next y x r =>
      obtain ⟨rfl, hs2⟩ := gd_some hs
      clear hs
      have hs := hs2
      clear hs2
      obtain ⟨rfl, rfl, rfl, rfl⟩ := nx_some hs
      intro ls H locs hl wl ws hW hS
      have hy : wfJ y := ws (.inr (.inl y)) List.mem_cons_self
      have hx : wfJ x := ws (.inr (.inl x)) (List.mem_cons_of_mem _ List.mem_cons_self)
      have kk := k ls H locs hl wl (wfc (show wfI (if x < y then -1 else if x = y then 0 else 1) by unfold wfI; split <;> (try split) <;> omega) (fun z hz => ws z (List.mem_cons_of_mem _ (List.mem_cons_of_mem _ hz)))) hW hS
      refine W.lcmp F.x F.b hdg ?_
      have e1 : lg_cmp (Int64.ofInt x) (Int64.ofInt y) = Int32.ofInt (if x < y then -1 else if x = y then 0 else 1) := by
        unfold lg_cmp
        have a1 : (Int64.ofInt x > Int64.ofInt y) ↔ y < x := j_lt hy hx
        have a2 : (Int64.ofInt x = Int64.ofInt y) ↔ x = y := j_eq hx hy
        by_cases c1 : y < x
        · rw [if_pos (a1.mpr c1), if_neg (by omega), if_neg (by omega)]; rfl
        · rw [if_neg (fun z => c1 (a1.mp z))]
          by_cases c2 : x = y
          · rw [if_pos (a2.mpr c2), if_neg (by omega), if_pos c2]; rfl
          · rw [if_neg (fun z => c2 (a2.mp z)), if_pos (by omega)]; rfl
      rw [e1]
      exact kk
    · cases hs
  case dup =>
    simp only [stepI] at hs
    split at hs
    · next v r =>
      obtain ⟨⟨rfl, h1⟩, hs2⟩ := gd_some hs
      clear hs
      have hs := hs2
      clear hs2
      obtain ⟨rfl, rfl, rfl, rfl⟩ := nx_some hs
      intro ls H locs hl wl ws hW hS
      exact lv_dup F.x F.b hdg (cat_notL h1) (k ls H locs hl wl (wfc (ws v List.mem_cons_self) ws) hW hS)
    · cases hs
  case dup2 =>
    simp only [stepI] at hs
    split at hs
    · next v w r =>
      obtain ⟨⟨rfl, h1, h2⟩, hs2⟩ := gd_some hs
      clear hs
      have hs := hs2
      clear hs2
      obtain ⟨rfl, rfl, rfl, rfl⟩ := nx_some hs
      intro ls H locs hl wl ws hW hS
      exact lv_dup2_11 F.x F.b hdg (cat_notL h1) (cat_notL h2) (k ls H locs hl wl (wfc (ws v List.mem_cons_self) (wfc (ws w (List.mem_cons_of_mem _ List.mem_cons_self)) ws)) hW hS)
    · cases hs
  case pop =>
    simp only [stepI] at hs
    split at hs
    · next v r =>
      obtain ⟨⟨rfl, h1⟩, hs2⟩ := gd_some hs
      clear hs
      have hs := hs2
      clear hs2
      obtain ⟨rfl, rfl, rfl, rfl⟩ := nx_some hs
      intro ls H locs hl wl ws hW hS
      exact lv_pop F.x F.b hdg (cat_notL h1) (k ls H locs hl wl (fun z hz => ws z (List.mem_cons_of_mem _ hz)) hW hS)
    · cases hs
  case goto off =>
    obtain ⟨⟨rfl, h0⟩, hs2⟩ := gd_some hs
    clear hs
    have hs := hs2
    clear hs2
    obtain ⟨rfl, rfl, rfl, rfl⟩ := nx_some hs
    intro ls H locs hl wl ws hW hS
    exact lv_goto F.x F.b hdg (tg_eq h0) (k ls H locs hl wl ws hW hS)
  case ifCond cc off =>
    obtain ⟨rfl, hs2⟩ := gd_some hs
    clear hs
    have hs := hs2
    clear hs2
    refine g_jif hs (fun x hx ls H locs rest ht kt kf => ?_) k
    cases cc
    · exact lv_if_eq F.x F.b hdg ht (fun z => kt (decide_eq_true ((o_eq hx wf0).mp z))) (fun z => kf (fun y => z ((o_eq hx wf0).mpr (of_decide_eq_true y))))
    · exact lv_if_ne F.x F.b hdg ht (fun z => kt (decide_eq_true (fun y => z ((o_eq hx wf0).mpr y)))) (fun z => kf (fun y => (of_decide_eq_true y) ((o_eq hx wf0).mp z)))
    · exact lv_if_lt F.x F.b hdg ht (fun z => kt (decide_eq_true ((o_lt hx wf0).mp z))) (fun z => kf (fun y => z ((o_lt hx wf0).mpr (of_decide_eq_true y))))
    · exact lv_if_ge F.x F.b hdg ht (fun z => kt (decide_eq_true ((o_le wf0 hx).mp z))) (fun z => kf (fun y => z ((o_le wf0 hx).mpr (of_decide_eq_true y))))
    · exact lv_if_gt F.x F.b hdg ht (fun z => kt (decide_eq_true ((o_lt wf0 hx).mp z))) (fun z => kf (fun y => z ((o_lt wf0 hx).mpr (of_decide_eq_true y))))
    · exact lv_if_le F.x F.b hdg ht (fun z => kt (decide_eq_true ((o_le hx wf0).mp z))) (fun z => kf (fun y => z ((o_le hx wf0).mpr (of_decide_eq_true y))))
  case if_icmp cc off =>
    obtain ⟨rfl, hs2⟩ := gd_some hs
    clear hs
    have hs := hs2
    clear hs2
    refine g_jcm hs (fun x y hx hy ls H locs rest ht kt kf => ?_) k
    cases cc
    · exact lv_icmp_eq F.x F.b hdg ht (fun z => kt (decide_eq_true ((o_eq hx hy).mp z))) (fun z => kf (fun y => z ((o_eq hx hy).mpr (of_decide_eq_true y))))
    · exact lv_icmp_ne F.x F.b hdg ht (fun z => kt (decide_eq_true (fun y => z ((o_eq hx hy).mpr y)))) (fun z => kf (fun y => (of_decide_eq_true y) ((o_eq hx hy).mp z)))
    · exact lv_icmp_lt F.x F.b hdg ht (fun z => kt (decide_eq_true ((o_lt hx hy).mp z))) (fun z => kf (fun y => z ((o_lt hx hy).mpr (of_decide_eq_true y))))
    · exact lv_icmp_ge F.x F.b hdg ht (fun z => kt (decide_eq_true ((o_le hy hx).mp z))) (fun z => kf (fun y => z ((o_le hy hx).mpr (of_decide_eq_true y))))
    · exact lv_icmp_gt F.x F.b hdg ht (fun z => kt (decide_eq_true ((o_lt hy hx).mp z))) (fun z => kf (fun y => z ((o_lt hy hx).mpr (of_decide_eq_true y))))
    · exact lv_icmp_le F.x F.b hdg ht (fun z => kt (decide_eq_true ((o_le hx hy).mp z))) (fun z => kf (fun y => z ((o_le hx hy).mpr (of_decide_eq_true y))))
  case tableswitch dd lo hi offs =>
    simp only [stepI] at hs
    split at hs
    · next x r =>
      obtain ⟨⟨h0, hz⟩, hs2⟩ := gd_some hs
      clear hs
      have hs := hs2
      clear hs2
      obtain ⟨rfl, rfl, rfl, rfl⟩ := nx_some hs
      intro ls H locs hl wl ws hW hS
      have hx : wfI x := ws (.inl x) List.mem_cons_self
      have kk := k ls H locs hl wl (fun z hz => ws z (List.mem_cons_of_mem _ hz)) hW hS
      by_cases c1 : x < lo ∨ hi < x
      · have e1 : swT dd lo hi offs.toList x = dd := by unfold swT; rw [if_pos c1]
        rw [e1] at kk h0
        exact lv_tableOut F.x F.b hdg (by rw [o_ti hx]; exact c1) (tg_eq h0) kk
      · have hlt : (x - lo).toNat < offs.size := by omega
        have e1 : swT dd lo hi offs.toList x = offs[(x - lo).toNat] := by
          unfold swT
          rw [if_neg c1, List.getD_eq_getElem?_getD, Array.getElem?_toList, Array.getElem?_eq_getElem hlt]
          rfl
        rw [e1] at kk h0
        exact lv_tableIn F.x F.b hdg (by rw [o_ti hx]; omega) (by rw [o_ti hx]; omega) (off := offs[(x - lo).toNat]) (by rw [o_ti hx]; exact Array.getElem?_eq_getElem hlt) (tg_eq h0) kk
    · cases hs
  case lookupswitch dd ps =>
    simp only [stepI] at hs
    split at hs
    · next x r =>
      obtain ⟨⟨h0, hz⟩, hs2⟩ := gd_some hs
      clear hs
      have hs := hs2
      clear hs2
      obtain ⟨rfl, rfl, rfl, rfl⟩ := nx_some hs
      intro ls H locs hl wl ws hW hS
      have hx : wfI x := ws (.inl x) List.mem_cons_self
      have kk := k ls H locs hl wl (fun z hz => ws z (List.mem_cons_of_mem _ hz)) hW hS
      exact lv_lookup F.x F.b hdg hz (by rw [o_ti hx]) (tg_eq h0) kk
    · cases hs
  case getfield j =>
    obtain ⟨rfl, hs2⟩ := gd_some hs
    clear hs
    have hs := hs2
    clear hs2
    exact snd_get F hdg hs k
  case putfield j =>
    obtain ⟨rfl, hs2⟩ := gd_some hs
    clear hs
    have hs := hs2
    clear hs2
    exact snd_put hK F hdg hs k
  case iaload =>
    obtain ⟨rfl, hs2⟩ := gd_some hs
    clear hs
    have hs := hs2
    clear hs2
    exact snd_ald F hdg hs k
  case iastore =>
    obtain ⟨rfl, hs2⟩ := gd_some hs
    clear hs
    have hs := hs2
    clear hs2
    exact snd_ast hK F hdg hs k
  case arraylength =>
    obtain ⟨rfl, hs2⟩ := gd_some hs
    clear hs
    have hs := hs2
    clear hs2
    exact snd_aln hKs F hdg hs k
  case invokestatic j =>
    obtain ⟨rfl, hs2⟩ := gd_some hs
    clear hs
    have hs := hs2
    clear hs2
    split at hs
    · next r hr =>
      cases hs
      exact snd_cpy hK F hdg hr k
    · exact snd_sp F hdg hs k
  case invokevirtual j =>
    obtain ⟨rfl, hs2⟩ := gd_some hs
    clear hs
    have hs := hs2
    clear hs2
    exact absurd hs kcV_not
  case ireturn =>
    obtain ⟨rfl, hs2⟩ := gd_some hs
    clear hs
    have hs := hs2
    clear hs2
    exact absurd hs rets_not
  case lreturn =>
    obtain ⟨rfl, hs2⟩ := gd_some hs
    clear hs
    have hs := hs2
    clear hs2
    exact absurd hs retL_not
  case return_ =>
    simp only [stepI] at hs
    split at hs
    · obtain ⟨-, hs2⟩ := gd_some hs
      clear hs
      have hs := hs2
      clear hs2
      cases hs
    · cases hs
  all_goals (cases hs)
end SNJ
