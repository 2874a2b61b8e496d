/-! wp, by equations -/
section WPS
variable {K : KK} {d mi pc n : Nat} {L st : List AV} {h : HH} {Q : Option AV → HH → Prop} {e : ME}
theorem run_mono : ∀ (n d mi pc : Nat) (L st : List AV) (h : HH) (r : Option AV × HH), run K d n mi pc L st h = some r → run K d (n + 1) mi pc L st h = some r := by
  intro n
  induction n with
  | zero => intro d mi pc L st h r hr; cases hr
  | succ n ih =>
    intro d mi pc L st h r hr
    unfold run at hr ⊢
    split at hr
    · cases hr
    · exact ih _ _ _ _ _ _ _ hr
    · exact hr
    · cases d with
      | zero => cases hr
      | succ d =>
        dsimp only at hr ⊢
        split at hr
        · cases hr
        · next r1 h1 hc =>
          rw [ih _ _ _ _ _ _ _ hc]
          exact ih _ _ _ _ _ _ _ hr
theorem run_le {n m d mi pc : Nat} {L st : List AV} {h : HH} {r : Option AV × HH} (hr : run K d n mi pc L st h = some r) (hl : n ≤ m) : run K d m mi pc L st h = some r := by
  obtain ⟨k, rfl⟩ := Nat.le.dest hl
  induction k with
  | zero => exact hr
  | succ k ih => exact run_mono _ _ _ _ _ _ _ _ (ih (by omega))
theorem wp_nx {pc' : Nat} {L' st' : List AV} {h' : HH} (hs : stepS K mi pc L st h = some (.inl (pc', L', st', h'))) : wp K d mi pc L st h Q = wp K d mi pc' L' st' h' Q := by
  apply propext
  constructor
  · rintro ⟨n, r, hr, hq⟩
    cases n with
    | zero => cases hr
    | succ n =>
      unfold run at hr
      rw [hs] at hr
      exact ⟨n, r, hr, hq⟩
  · rintro ⟨n, r, hr, hq⟩
    refine ⟨n + 1, r, ?_, hq⟩
    unfold run
    rw [hs]
    exact hr
theorem wp_no (hs : stepS K mi pc L st h = none) : wp K d mi pc L st h Q = False := by
  apply propext
  constructor
  · rintro ⟨n, r, hr, hq⟩
    cases n with
    | zero => cases hr
    | succ n =>
      unfold run at hr
      rw [hs] at hr
      cases hr
  · exact False.elim
theorem wp_rt {r : Option AV × HH} (hs : stepS K mi pc L st h = some (.inr (.inl r))) : wp K d mi pc L st h Q = Q r.1 r.2 := by
  apply propext
  constructor
  · rintro ⟨n, r', hr, hq⟩
    cases n with
    | zero => cases hr
    | succ n =>
      unfold run at hr
      rw [hs] at hr
      cases hr
      exact hq
  · intro hq
    refine ⟨1, r, ?_, hq⟩
    unfold run
    rw [hs]
theorem wp_cl {m2 : Nat} {L2 rest : List AV} (hs : stepS K mi pc L st h = some (.inr (.inr (m2, L2, rest)))) : wp K (d + 1) mi pc L st h Q = wp K d m2 0 L2 [] h (fun r h' => wp K (d + 1) mi (pc + 3) L (r.toList ++ rest) h' Q) := by
  apply propext
  constructor
  · rintro ⟨n, r', hr, hq⟩
    cases n with
    | zero => cases hr
    | succ n =>
      unfold run at hr
      rw [hs] at hr
      dsimp only at hr
      split at hr
      · cases hr
      · next r1 h1 hc => exact ⟨n, _, hc, n, r', hr, hq⟩
  · rintro ⟨n, r1, hc, n', r', hr, hq⟩
    refine ⟨max n n' + 1, r', ?_, hq⟩
    unfold run
    rw [hs]
    dsimp only
    rw [run_le hc (Nat.le_max_left n n')]
    exact run_le hr (Nat.le_max_right n n')
theorem wp_mono {Q' : Option AV → HH → Prop} (hw : wp K d mi pc L st h Q) (hq : ∀ r h', Q r h' → Q' r h') : wp K d mi pc L st h Q' := by
  obtain ⟨n, r, hr, h1⟩ := hw
  exact ⟨n, r, hr, hq _ _ h1⟩
theorem wp_gd {P : Prop} {inst : Decidable P} {pc' : Nat} {L' st' : List AV} {h' : HH} (hs : stepS K mi pc L st h = @gd P inst (nx pc' L' st' h')) : wp K d mi pc L st h Q = (P ∧ wp K d mi pc' L' st' h' Q) := by
  by_cases hP : P
  · have e1 : stepS K mi pc L st h = some (.inl (pc', L', st', h')) := by rw [hs]; unfold gd; rw [if_pos hP]; rfl
    rw [wp_nx e1]
    simp [hP]
  · have e1 : stepS K mi pc L st h = none := by rw [hs]; unfold gd; rw [if_neg hP]
    rw [wp_no e1]
    simp [hP]
theorem sS {i : Instr} (he : PT[mi]? = some e) (hd : decode e.b pc = .ok (i, n)) : stepS K mi pc L st h = stepI K e pc n L st h i := by
  unfold stepS
  rw [he]
  dsimp only
  rw [hd]
theorem gd_t {P : Prop} {inst : Decidable P} {x : Option RES} (hP : P) : @gd P inst x = x := by unfold gd; rw [if_pos hP]
theorem gd_T {inst : Decidable True} {x : Option RES} : @gd True inst x = x := gd_t trivial
theorem gd_a {P P' : Prop} {inst : Decidable (P ∧ P')} {inst' : Decidable P'} {x : Option RES} (hP : P) : @gd (P ∧ P') inst x = @gd P' inst' x := by
  unfold gd
  by_cases h' : P'
  · rw [if_pos ⟨hP, h'⟩, if_pos h']
  · rw [if_neg (fun z => h' z.2), if_neg h']
theorem w_iconst {z : Int} (hz : -1 ≤ z ∧ z ≤ 5) (he : PT[mi]? = some e) (hd : decode e.b pc = .ok (.iconst z, 1)) : wp K d mi pc L st h Q = wp K d mi (pc + 1) L (vI z :: st) h Q := by
  refine wp_nx ?_
  rw [sS he hd]
  exact gd_t ⟨rfl, hz⟩
theorem w_bipush {z : Int} (hz : -128 ≤ z ∧ z ≤ 127) (he : PT[mi]? = some e) (hd : decode e.b pc = .ok (.bipush z, 2)) : wp K d mi pc L st h Q = wp K d mi (pc + 2) L (vI z :: st) h Q := by
  refine wp_nx ?_
  rw [sS he hd]
  exact gd_t ⟨rfl, hz⟩
theorem w_sipush {z : Int} (hz : -32768 ≤ z ∧ z ≤ 32767) (he : PT[mi]? = some e) (hd : decode e.b pc = .ok (.sipush z, 3)) : wp K d mi pc L st h Q = wp K d mi (pc + 3) L (vI z :: st) h Q := by
  refine wp_nx ?_
  rw [sS he hd]
  exact gd_t ⟨rfl, hz⟩
theorem w_lconst {z : Fin 2} (he : PT[mi]? = some e) (hd : decode e.b pc = .ok (.lconst z, 1)) : wp K d mi pc L st h Q = wp K d mi (pc + 1) L (vL (z.val : Int) :: st) h Q := by
  refine wp_nx ?_
  rw [sS he hd]
  exact gd_t rfl
theorem w_ldc {j : Nat} {v : Int} {pl : Nat} (hc : CR e.c j = some (v, pl)) (he : PT[mi]? = some e) (hd : decode e.b pc = .ok (.ldc j, 2)) : wp K d mi pc L st h Q = wp K d mi (pc + 2) L (vI v :: st) h Q := by
  refine wp_nx ?_
  rw [sS he hd]
  simp only [stepI, hc]
  exact gd_T
theorem w_ldc_w {j : Nat} {v : Int} {pl : Nat} (hc : CR e.c j = some (v, pl)) (he : PT[mi]? = some e) (hd : decode e.b pc = .ok (.ldc_w j, 3)) : wp K d mi pc L st h Q = wp K d mi (pc + 3) L (vI v :: st) h Q := by
  refine wp_nx ?_
  rw [sS he hd]
  simp only [stepI, hc]
  exact gd_T
theorem w_ldc2_w {j : Nat} {v : Int} {pl : Nat} (hc : LR e.c j = some (v, pl)) (he : PT[mi]? = some e) (hd : decode e.b pc = .ok (.ldc2_w j, 3)) : wp K d mi pc L st h Q = wp K d mi (pc + 3) L (vL v :: st) h Q := by
  refine wp_nx ?_
  rw [sS he hd]
  simp only [stepI, hc]
  exact gd_T
theorem w_iload_n {j : Fin 4} {x : Int} (hL : L[j.val]? = some (.inl x)) (he : PT[mi]? = some e) (hd : decode e.b pc = .ok (.iload_n j, 1)) : wp K d mi pc L st h Q = wp K d mi (pc + 1) L (.inl x :: st) h Q := by
  refine wp_nx ?_
  rw [sS he hd]
  simp only [stepI, ld, hL]
  rfl
theorem w_iload {j : Nat} {x : Int} (hL : L[j]? = some (.inl x)) (he : PT[mi]? = some e) (hd : decode e.b pc = .ok (.iload j, 2)) : wp K d mi pc L st h Q = wp K d mi (pc + 2) L (.inl x :: st) h Q := by
  refine wp_nx ?_
  rw [sS he hd]
  simp only [stepI, ld, hL]
  rfl
theorem w_lload_n {j : Fin 4} {x : Int} (hL : L[j.val]? = some (.inr (.inl x))) (he : PT[mi]? = some e) (hd : decode e.b pc = .ok (.lload_n j, 1)) : wp K d mi pc L st h Q = wp K d mi (pc + 1) L (.inr (.inl x) :: st) h Q := by
  refine wp_nx ?_
  rw [sS he hd]
  simp only [stepI, ld, hL]
  rfl
theorem w_lload {j : Nat} {x : Int} (hL : L[j]? = some (.inr (.inl x))) (he : PT[mi]? = some e) (hd : decode e.b pc = .ok (.lload j, 2)) : wp K d mi pc L st h Q = wp K d mi (pc + 2) L (.inr (.inl x) :: st) h Q := by
  refine wp_nx ?_
  rw [sS he hd]
  simp only [stepI, ld, hL]
  rfl
theorem w_aload_n {j : Fin 4} {x : Nat} (hL : L[j.val]? = some (.inr (.inr (.inl x)))) (he : PT[mi]? = some e) (hd : decode e.b pc = .ok (.aload_n j, 1)) : wp K d mi pc L st h Q = wp K d mi (pc + 1) L (.inr (.inr (.inl x)) :: st) h Q := by
  refine wp_nx ?_
  rw [sS he hd]
  simp only [stepI, ld, hL]
  rfl
theorem w_aload {j : Nat} {x : Nat} (hL : L[j]? = some (.inr (.inr (.inl x)))) (he : PT[mi]? = some e) (hd : decode e.b pc = .ok (.aload j, 2)) : wp K d mi pc L st h Q = wp K d mi (pc + 2) L (.inr (.inr (.inl x)) :: st) h Q := by
  refine wp_nx ?_
  rw [sS he hd]
  simp only [stepI, ld, hL]
  rfl
theorem w_istore_n {j : Fin 4} {x : Int} (hi : j.val < L.length) (hg : e.lg = false ∨ notL (L.getD (j.val - 1) vU) = true) (he : PT[mi]? = some e) (hd : decode e.b pc = .ok (.istore_n j, 1)) : wp K d mi pc L (.inl x :: st) h Q = wp K d mi (pc + 1) (L.set (j.val) (.inl x)) (st) h Q := by
  refine wp_nx ?_
  rw [sS he hd]
  simp only [stepI, sto]
  rw [gd_T]
  exact gd_t ⟨rfl, hi, hg⟩
theorem w_istore {j : Nat} {x : Int} (hi : j < L.length) (hg : e.lg = false ∨ notL (L.getD (j - 1) vU) = true) (he : PT[mi]? = some e) (hd : decode e.b pc = .ok (.istore j, 2)) : wp K d mi pc L (.inl x :: st) h Q = wp K d mi (pc + 2) (L.set (j) (.inl x)) (st) h Q := by
  refine wp_nx ?_
  rw [sS he hd]
  simp only [stepI, sto]
  rw [gd_T]
  exact gd_t ⟨rfl, hi, hg⟩
theorem w_astore_n {j : Fin 4} {x : Nat} (hi : j.val < L.length) (hg : e.lg = false ∨ notL (L.getD (j.val - 1) vU) = true) (he : PT[mi]? = some e) (hd : decode e.b pc = .ok (.astore_n j, 1)) : wp K d mi pc L (.inr (.inr (.inl x)) :: st) h Q = wp K d mi (pc + 1) (L.set (j.val) (.inr (.inr (.inl x)))) (st) h Q := by
  refine wp_nx ?_
  rw [sS he hd]
  simp only [stepI, sto]
  rw [gd_T]
  exact gd_t ⟨rfl, hi, hg⟩
theorem w_astore {j : Nat} {x : Nat} (hi : j < L.length) (hg : e.lg = false ∨ notL (L.getD (j - 1) vU) = true) (he : PT[mi]? = some e) (hd : decode e.b pc = .ok (.astore j, 2)) : wp K d mi pc L (.inr (.inr (.inl x)) :: st) h Q = wp K d mi (pc + 2) (L.set (j) (.inr (.inr (.inl x)))) (st) h Q := by
  refine wp_nx ?_
  rw [sS he hd]
  simp only [stepI, sto]
  rw [gd_T]
  exact gd_t ⟨rfl, hi, hg⟩
theorem w_lstore_n {j : Fin 4} {x : Int} (hi : j.val + 1 < L.length) (hg : e.lg = true) (h1 : notL (L.getD (j.val - 1) vU) = true) (h2 : notL (L.getD (j.val + 1) vU) = true) (he : PT[mi]? = some e) (hd : decode e.b pc = .ok (.lstore_n j, 1)) : wp K d mi pc L (.inr (.inl x) :: st) h Q = wp K d mi (pc + 1) ((L.set (j.val) (vL x)).set (j.val + 1) vU) (st) h Q := by
  refine wp_nx ?_
  rw [sS he hd]
  simp only [stepI, stoL]
  rw [gd_T]
  exact gd_t ⟨hg, hi, h1, h2⟩
theorem w_lstore {j : Nat} {x : Int} (hi : j + 1 < L.length) (hg : e.lg = true) (h1 : notL (L.getD (j - 1) vU) = true) (h2 : notL (L.getD (j + 1) vU) = true) (he : PT[mi]? = some e) (hd : decode e.b pc = .ok (.lstore j, 2)) : wp K d mi pc L (.inr (.inl x) :: st) h Q = wp K d mi (pc + 2) ((L.set (j) (vL x)).set (j + 1) vU) (st) h Q := by
  refine wp_nx ?_
  rw [sS he hd]
  simp only [stepI, stoL]
  rw [gd_T]
  exact gd_t ⟨hg, hi, h1, h2⟩
theorem w_iinc {j : Nat} {x z : Int} (hL : L[j]? = some (.inl x)) (hg : e.lg = false ∨ notL (L.getD (j - 1) vU) = true) (hz : -32768 ≤ z ∧ z ≤ 32767) (he : PT[mi]? = some e) (hd : decode e.b pc = .ok (.iinc j z, 3)) : wp K d mi pc L st h Q = wp K d mi (pc + 3) (L.set j (vI (w32 (x + z)))) (st) h Q := by
  refine wp_nx ?_
  rw [sS he hd]
  simp only [stepI, hL]
  exact gd_t ⟨trivial, hg, hz⟩
theorem w_iadd {x y : Int} (he : PT[mi]? = some e) (hd : decode e.b pc = .ok (.iadd, 1)) : wp K d mi pc L (.inl y :: .inl x :: st) h Q = wp K d mi (pc + 1) L (vI (w32 (x + y)) :: st) h Q := by
  refine wp_nx ?_
  rw [sS he hd]
  exact gd_t rfl
theorem w_isub {x y : Int} (he : PT[mi]? = some e) (hd : decode e.b pc = .ok (.isub, 1)) : wp K d mi pc L (.inl y :: .inl x :: st) h Q = wp K d mi (pc + 1) L (vI (w32 (x - y)) :: st) h Q := by
  refine wp_nx ?_
  rw [sS he hd]
  exact gd_t rfl
theorem w_imul {x y : Int} (he : PT[mi]? = some e) (hd : decode e.b pc = .ok (.imul, 1)) : wp K d mi pc L (.inl y :: .inl x :: st) h Q = wp K d mi (pc + 1) L (vI (w32 (x * y)) :: st) h Q := by
  refine wp_nx ?_
  rw [sS he hd]
  exact gd_t rfl
theorem w_iand {x y : Int} (he : PT[mi]? = some e) (hd : decode e.b pc = .ok (.iand, 1)) : wp K d mi pc L (.inl y :: .inl x :: st) h Q = wp K d mi (pc + 1) L (vI (bAnd x y) :: st) h Q := by
  refine wp_nx ?_
  rw [sS he hd]
  exact gd_t rfl
theorem w_ior {x y : Int} (he : PT[mi]? = some e) (hd : decode e.b pc = .ok (.ior, 1)) : wp K d mi pc L (.inl y :: .inl x :: st) h Q = wp K d mi (pc + 1) L (vI (bOr x y) :: st) h Q := by
  refine wp_nx ?_
  rw [sS he hd]
  exact gd_t rfl
theorem w_ixor {x y : Int} (he : PT[mi]? = some e) (hd : decode e.b pc = .ok (.ixor, 1)) : wp K d mi pc L (.inl y :: .inl x :: st) h Q = wp K d mi (pc + 1) L (vI (bXor x y) :: st) h Q := by
  refine wp_nx ?_
  rw [sS he hd]
  exact gd_t rfl
theorem w_idiv {x y : Int} (he : PT[mi]? = some e) (hd : decode e.b pc = .ok (.idiv, 1)) : wp K d mi pc L (.inl y :: .inl x :: st) h Q = ((y ≠ 0) ∧ wp K d mi (pc + 1) L (vI (w32 (x.tdiv y)) :: st) h Q) := by
  rw [wp_gd (P := decide (y ≠ 0) = true) (by rw [sS he hd]; simp only [stepI, binG]; exact gd_T)]
  rw [decide_eq_true_eq]
theorem w_irem {x y : Int} (he : PT[mi]? = some e) (hd : decode e.b pc = .ok (.irem, 1)) : wp K d mi pc L (.inl y :: .inl x :: st) h Q = ((y ≠ 0) ∧ wp K d mi (pc + 1) L (vI (x.tmod y) :: st) h Q) := by
  rw [wp_gd (P := decide (y ≠ 0) = true) (by rw [sS he hd]; simp only [stepI, binG]; exact gd_T)]
  rw [decide_eq_true_eq]
theorem w_ishl {x y : Int} (he : PT[mi]? = some e) (hd : decode e.b pc = .ok (.ishl, 1)) : wp K d mi pc L (.inl y :: .inl x :: st) h Q = ((0 ≤ y ∧ y < 32) ∧ wp K d mi (pc + 1) L (vI (w32 (x * 2 ^ y.toNat)) :: st) h Q) := by
  rw [wp_gd (P := decide (0 ≤ y ∧ y < 32) = true) (by rw [sS he hd]; simp only [stepI, binG]; exact gd_T)]
  rw [decide_eq_true_eq]
theorem w_ishr {x y : Int} (he : PT[mi]? = some e) (hd : decode e.b pc = .ok (.ishr, 1)) : wp K d mi pc L (.inl y :: .inl x :: st) h Q = ((0 ≤ y ∧ y < 32) ∧ wp K d mi (pc + 1) L (vI (x / 2 ^ y.toNat) :: st) h Q) := by
  rw [wp_gd (P := decide (0 ≤ y ∧ y < 32) = true) (by rw [sS he hd]; simp only [stepI, binG]; exact gd_T)]
  rw [decide_eq_true_eq]
theorem w_iushr {x y : Int} (he : PT[mi]? = some e) (hd : decode e.b pc = .ok (.iushr, 1)) : wp K d mi pc L (.inl y :: .inl x :: st) h Q = ((0 ≤ x ∧ 0 ≤ y ∧ y < 32) ∧ wp K d mi (pc + 1) L (vI (x / 2 ^ y.toNat) :: st) h Q) := by
  rw [wp_gd (P := decide (0 ≤ x ∧ 0 ≤ y ∧ y < 32) = true) (by rw [sS he hd]; simp only [stepI, binG]; exact gd_T)]
  rw [decide_eq_true_eq]
theorem w_ineg {x : Int} (he : PT[mi]? = some e) (hd : decode e.b pc = .ok (.ineg, 1)) : wp K d mi pc L (.inl x :: st) h Q = wp K d mi (pc + 1) L (vI (w32 (-x)) :: st) h Q := by
  refine wp_nx ?_
  rw [sS he hd]
  exact gd_t rfl
theorem w_i2l {x : Int} (he : PT[mi]? = some e) (hd : decode e.b pc = .ok (.i2l, 1)) : wp K d mi pc L (.inl x :: st) h Q = wp K d mi (pc + 1) L (vL x :: st) h Q := by
  refine wp_nx ?_
  rw [sS he hd]
  exact gd_t rfl
theorem w_lsub {x y : Int} (he : PT[mi]? = some e) (hd : decode e.b pc = .ok (.lsub, 1)) : wp K d mi pc L (.inr (.inl y) :: .inr (.inl x) :: st) h Q = wp K d mi (pc + 1) L (vL (w64 (x - y)) :: st) h Q := by
  refine wp_nx ?_
  rw [sS he hd]
  exact gd_t rfl
theorem w_lmul {x y : Int} (he : PT[mi]? = some e) (hd : decode e.b pc = .ok (.lmul, 1)) : wp K d mi pc L (.inr (.inl y) :: .inr (.inl x) :: st) h Q = wp K d mi (pc + 1) L (vL (w64 (x * y)) :: st) h Q := by
  refine wp_nx ?_
  rw [sS he hd]
  exact gd_t rfl
theorem w_lshl {x y : Int} (he : PT[mi]? = some e) (hd : decode e.b pc = .ok (.lshl, 1)) : wp K d mi pc L (.inl y :: .inr (.inl x) :: st) h Q = ((0 ≤ y ∧ y < 64) ∧ wp K d mi (pc + 1) L (vL (w64 (x * 2 ^ y.toNat)) :: st) h Q) := by
  rw [wp_gd (P := 1 = 1 ∧ 0 ≤ y ∧ y < 64) (by rw [sS he hd]; rfl)]
  simp only [true_and]
theorem w_lcmp {x y : Int} (he : PT[mi]? = some e) (hd : decode e.b pc = .ok (.lcmp, 1)) : wp K d mi pc L (.inr (.inl y) :: .inr (.inl x) :: st) h Q = wp K d mi (pc + 1) L (vI (if x < y then -1 else if x = y then 0 else 1) :: st) h Q := by
  refine wp_nx ?_
  rw [sS he hd]
  exact gd_t rfl
theorem w_dup {v : AV} (hv : notL v = true) (he : PT[mi]? = some e) (hd : decode e.b pc = .ok (.dup, 1)) : wp K d mi pc L (v :: st) h Q = wp K d mi (pc + 1) L (v :: v :: st) h Q := by
  refine wp_nx ?_
  rw [sS he hd]
  exact gd_t ⟨rfl, hv⟩
theorem w_dup2 {v w : AV} (hv : notL v = true) (hw : notL w = true) (he : PT[mi]? = some e) (hd : decode e.b pc = .ok (.dup2, 1)) : wp K d mi pc L (v :: w :: st) h Q = wp K d mi (pc + 1) L (v :: w :: v :: w :: st) h Q := by
  refine wp_nx ?_
  rw [sS he hd]
  exact gd_t ⟨rfl, hv, hw⟩
theorem w_pop {v : AV} (hv : notL v = true) (he : PT[mi]? = some e) (hd : decode e.b pc = .ok (.pop, 1)) : wp K d mi pc L (v :: st) h Q = wp K d mi (pc + 1) L (st) h Q := by
  refine wp_nx ?_
  rw [sS he hd]
  exact gd_t ⟨rfl, hv⟩
theorem w_goto {off : Int} {t : Nat} (ht : (pc : Int) + off = t) (he : PT[mi]? = some e) (hd : decode e.b pc = .ok (.goto off, 3)) : wp K d mi pc L st h Q = wp K d mi (t) L (st) h Q := by
  have e1 : tg pc off = t := by unfold tg; omega
  refine wp_nx ?_
  rw [sS he hd]
  simp only [stepI, e1]
  exact gd_t ⟨trivial, by omega⟩
theorem wp_jmp {C : Prop} {inst : Decidable C} {C' : Prop} {inst' : Decidable C'} {off : Int} {t : Nat} (hc : C ↔ C') (ht : (pc : Int) + off = t) {r : List AV} (hs : stepS K mi pc L st h = @jmp pc off C inst L r h) : wp K d mi pc L st h Q = if C' then wp K d mi t L r h Q else wp K d mi (pc + 3) L r h Q := by
  have e1 : tg pc off = t := by unfold tg; omega
  unfold jmp at hs
  rw [gd_t (show 0 ≤ (pc : Int) + off by omega), e1] at hs
  by_cases hC : C
  · rw [if_pos hC] at hs
    rw [wp_nx hs, if_pos (hc.mp hC)]
  · rw [if_neg hC] at hs
    rw [wp_nx hs, if_neg (fun z => hC (hc.mpr z))]
theorem w_ifeq {x off : Int} {t : Nat} (ht : (pc : Int) + off = t) (he : PT[mi]? = some e) (hd : decode e.b pc = .ok (.ifCond .eq off, 3)) : wp K d mi pc L (.inl x :: st) h Q = if x = 0 then wp K d mi (t) L (st) h Q else wp K d mi (pc + 3) L (st) h Q := by
  refine wp_jmp (C := cnd .eq x 0 = true) (inst := instDecidableEqBool _ _) (by simp [cnd]) ht ?_
  rw [sS he hd]
  exact gd_t rfl
theorem w_icmpeq {x y off : Int} {t : Nat} (ht : (pc : Int) + off = t) (he : PT[mi]? = some e) (hd : decode e.b pc = .ok (.if_icmp .eq off, 3)) : wp K d mi pc L (.inl y :: .inl x :: st) h Q = if x = y then wp K d mi (t) L (st) h Q else wp K d mi (pc + 3) L (st) h Q := by
  refine wp_jmp (C := cnd .eq x y = true) (inst := instDecidableEqBool _ _) (by simp [cnd]) ht ?_
  rw [sS he hd]
  exact gd_t rfl
theorem w_ifne {x off : Int} {t : Nat} (ht : (pc : Int) + off = t) (he : PT[mi]? = some e) (hd : decode e.b pc = .ok (.ifCond .ne off, 3)) : wp K d mi pc L (.inl x :: st) h Q = if x ≠ 0 then wp K d mi (t) L (st) h Q else wp K d mi (pc + 3) L (st) h Q := by
  refine wp_jmp (C := cnd .ne x 0 = true) (inst := instDecidableEqBool _ _) (by simp [cnd]) ht ?_
  rw [sS he hd]
  exact gd_t rfl
theorem w_icmpne {x y off : Int} {t : Nat} (ht : (pc : Int) + off = t) (he : PT[mi]? = some e) (hd : decode e.b pc = .ok (.if_icmp .ne off, 3)) : wp K d mi pc L (.inl y :: .inl x :: st) h Q = if x ≠ y then wp K d mi (t) L (st) h Q else wp K d mi (pc + 3) L (st) h Q := by
  refine wp_jmp (C := cnd .ne x y = true) (inst := instDecidableEqBool _ _) (by simp [cnd]) ht ?_
  rw [sS he hd]
  exact gd_t rfl
theorem w_iflt {x off : Int} {t : Nat} (ht : (pc : Int) + off = t) (he : PT[mi]? = some e) (hd : decode e.b pc = .ok (.ifCond .lt off, 3)) : wp K d mi pc L (.inl x :: st) h Q = if x < 0 then wp K d mi (t) L (st) h Q else wp K d mi (pc + 3) L (st) h Q := by
  refine wp_jmp (C := cnd .lt x 0 = true) (inst := instDecidableEqBool _ _) (by simp [cnd]) ht ?_
  rw [sS he hd]
  exact gd_t rfl
theorem w_icmplt {x y off : Int} {t : Nat} (ht : (pc : Int) + off = t) (he : PT[mi]? = some e) (hd : decode e.b pc = .ok (.if_icmp .lt off, 3)) : wp K d mi pc L (.inl y :: .inl x :: st) h Q = if x < y then wp K d mi (t) L (st) h Q else wp K d mi (pc + 3) L (st) h Q := by
  refine wp_jmp (C := cnd .lt x y = true) (inst := instDecidableEqBool _ _) (by simp [cnd]) ht ?_
  rw [sS he hd]
  exact gd_t rfl
theorem w_ifge {x off : Int} {t : Nat} (ht : (pc : Int) + off = t) (he : PT[mi]? = some e) (hd : decode e.b pc = .ok (.ifCond .ge off, 3)) : wp K d mi pc L (.inl x :: st) h Q = if 0 ≤ x then wp K d mi (t) L (st) h Q else wp K d mi (pc + 3) L (st) h Q := by
  refine wp_jmp (C := cnd .ge x 0 = true) (inst := instDecidableEqBool _ _) (by simp [cnd]) ht ?_
  rw [sS he hd]
  exact gd_t rfl
theorem w_icmpge {x y off : Int} {t : Nat} (ht : (pc : Int) + off = t) (he : PT[mi]? = some e) (hd : decode e.b pc = .ok (.if_icmp .ge off, 3)) : wp K d mi pc L (.inl y :: .inl x :: st) h Q = if y ≤ x then wp K d mi (t) L (st) h Q else wp K d mi (pc + 3) L (st) h Q := by
  refine wp_jmp (C := cnd .ge x y = true) (inst := instDecidableEqBool _ _) (by simp [cnd]) ht ?_
  rw [sS he hd]
  exact gd_t rfl
theorem w_ifgt {x off : Int} {t : Nat} (ht : (pc : Int) + off = t) (he : PT[mi]? = some e) (hd : decode e.b pc = .ok (.ifCond .gt off, 3)) : wp K d mi pc L (.inl x :: st) h Q = if 0 < x then wp K d mi (t) L (st) h Q else wp K d mi (pc + 3) L (st) h Q := by
  refine wp_jmp (C := cnd .gt x 0 = true) (inst := instDecidableEqBool _ _) (by simp [cnd]) ht ?_
  rw [sS he hd]
  exact gd_t rfl
theorem w_icmpgt {x y off : Int} {t : Nat} (ht : (pc : Int) + off = t) (he : PT[mi]? = some e) (hd : decode e.b pc = .ok (.if_icmp .gt off, 3)) : wp K d mi pc L (.inl y :: .inl x :: st) h Q = if y < x then wp K d mi (t) L (st) h Q else wp K d mi (pc + 3) L (st) h Q := by
  refine wp_jmp (C := cnd .gt x y = true) (inst := instDecidableEqBool _ _) (by simp [cnd]) ht ?_
  rw [sS he hd]
  exact gd_t rfl
theorem w_ifle {x off : Int} {t : Nat} (ht : (pc : Int) + off = t) (he : PT[mi]? = some e) (hd : decode e.b pc = .ok (.ifCond .le off, 3)) : wp K d mi pc L (.inl x :: st) h Q = if x ≤ 0 then wp K d mi (t) L (st) h Q else wp K d mi (pc + 3) L (st) h Q := by
  refine wp_jmp (C := cnd .le x 0 = true) (inst := instDecidableEqBool _ _) (by simp [cnd]) ht ?_
  rw [sS he hd]
  exact gd_t rfl
theorem w_icmple {x y off : Int} {t : Nat} (ht : (pc : Int) + off = t) (he : PT[mi]? = some e) (hd : decode e.b pc = .ok (.if_icmp .le off, 3)) : wp K d mi pc L (.inl y :: .inl x :: st) h Q = if x ≤ y then wp K d mi (t) L (st) h Q else wp K d mi (pc + 3) L (st) h Q := by
  refine wp_jmp (C := cnd .le x y = true) (inst := instDecidableEqBool _ _) (by simp [cnd]) ht ?_
  rw [sS he hd]
  exact gd_t rfl
theorem w_table {dd lo hi x : Int} {offs : Array Int} {t : Nat} (h1 : swT dd lo hi offs.toList x = (t : Int) - pc) (h2 : hi - lo < offs.size) (he : PT[mi]? = some e) (hd : decode e.b pc = .ok (.tableswitch dd lo hi offs, n)) : wp K d mi pc L (.inl x :: st) h Q = wp K d mi (t) L (st) h Q := by
  refine wp_nx ?_
  rw [sS he hd]
  simp only [stepI]
  rw [gd_t ⟨by omega, h2⟩, h1]
  have e1 : tg pc ((t : Int) - pc) = t := by unfold tg; omega
  rw [e1]
  rfl
theorem w_lookup {dd x : Int} {ps : Array (Int × Int)} {t : Nat} (h1 : Op.lookupswitch.offset ps.toList dd x = (t : Int) - pc) (h2 : (ps.toList.zip (ps.toList.drop 1)).all (fun (a, next) => decide (a.1 < next.1)) = true) (he : PT[mi]? = some e) (hd : decode e.b pc = .ok (.lookupswitch dd ps, n)) : wp K d mi pc L (.inl x :: st) h Q = wp K d mi (t) L (st) h Q := by
  refine wp_nx ?_
  rw [sS he hd]
  simp only [stepI]
  rw [gd_t ⟨by omega, h2⟩, h1]
  have e1 : tg pc ((t : Int) - pc) = t := by unfold tg; omega
  rw [e1]
  rfl
theorem w_getI {j a ci k pl : Nat} {nb : Bool} (hf : FR e.c j = some (ci, k, nb, pl)) (hk : FK ci k < 2) (he : PT[mi]? = some e) (hd : decode e.b pc = .ok (.getfield j, 3)) : wp K d mi pc L (.inr (.inr (.inl a)) :: st) h Q = (isO K a ci ∧ wp K d mi (pc + 3) L (vI (h a k) :: st) h Q) := by
  apply wp_gd
  rw [sS he hd]
  simp only [stepI, getF, hf]
  rw [gd_T, if_neg (show ¬ FK ci k = 2 by omega), if_neg (show ¬ FK ci k = 3 by omega)]
theorem w_getR {j a ci k pl : Nat} {nb : Bool} (hf : FR e.c j = some (ci, k, nb, pl)) (hk : FK ci k = 2) (he : PT[mi]? = some e) (hd : decode e.b pc = .ok (.getfield j, 3)) : wp K d mi pc L (.inr (.inr (.inl a)) :: st) h Q = (isO K a ci ∧ wp K d mi (pc + 3) L (vR (rT K a k) :: st) h Q) := by
  apply wp_gd
  rw [sS he hd]
  simp only [stepI, getF, hf]
  rw [gd_T, if_pos hk]
theorem w_getD {j a ci k pl : Nat} {nb : Bool} (hf : FR e.c j = some (ci, k, nb, pl)) (hk : FK ci k = 3) (he : PT[mi]? = some e) (hd : decode e.b pc = .ok (.getfield j, 3)) : wp K d mi pc L (.inr (.inr (.inl a)) :: st) h Q = (isO K a ci ∧ 0 ≤ h a k ∧ wp K d mi (pc + 3) L (vR (h a k).toNat :: st) h Q) := by
  by_cases hO : isO K a ci
  · rw [wp_gd (P := 0 ≤ h a k) (by rw [sS he hd]; simp only [stepI, getF, hf]; rw [gd_T, gd_t hO, if_neg (show ¬ FK ci k = 2 by omega), if_pos hk])]
    exact propext ⟨fun z => ⟨hO, z⟩, fun z => z.2⟩
  · rw [wp_no (by rw [sS he hd]; simp only [stepI, getF, hf]; rw [gd_T]; unfold gd; rw [if_neg hO])]
    exact propext ⟨fun z => z.elim, fun z => hO z.1⟩
theorem w_putI {j a ci k pl : Nat} {nb : Bool} {x : Int} (hf : FR e.c j = some (ci, k, nb, pl)) (hk : FK ci k = 0) (hff : FF ci k = false) (he : PT[mi]? = some e) (hd : decode e.b pc = .ok (.putfield j, 3)) : wp K d mi pc L (.inl x :: .inr (.inr (.inl a)) :: st) h Q = (isO K a ci ∧ wp K d mi (pc + 3) L (st) (hput h a k x) Q) := by
  rw [wp_gd (by rw [sS he hd]; simp only [stepI, putF, hf]; rw [gd_T])]
  simp [hk, hff]
theorem w_putB {j a ci k pl : Nat} {nb : Bool} {x : Int} (hf : FR e.c j = some (ci, k, nb, pl)) (hk : FK ci k = 1) (hff : FF ci k = false) (he : PT[mi]? = some e) (hd : decode e.b pc = .ok (.putfield j, 3)) : wp K d mi pc L (.inl x :: .inr (.inr (.inl a)) :: st) h Q = (isO K a ci ∧ (x = 0 ∨ x = 1) ∧ wp K d mi (pc + 3) L (st) (hput h a k x) Q) := by
  rw [wp_gd (by rw [sS he hd]; simp only [stepI, putF, hf]; rw [gd_T])]
  simp [hk, hff, and_assoc]
theorem w_putD {j a ci k pl : Nat} {nb : Bool} {b : Nat} (hf : FR e.c j = some (ci, k, nb, pl)) (hk : FK ci k = 3) (hff : FF ci k = false) (he : PT[mi]? = some e) (hd : decode e.b pc = .ok (.putfield j, 3)) : wp K d mi pc L (.inr (.inr (.inl b)) :: .inr (.inr (.inl a)) :: st) h Q = (isO K a ci ∧ b < 10000 ∧ wp K d mi (pc + 3) L (st) (hput h a k (b : Int)) Q) := by
  rw [wp_gd (by rw [sS he hd]; simp only [stepI, putF, hf]; rw [gd_T])]
  simp [hk, hff, and_assoc]
theorem w_iaload {a : Nat} {i : Int} (he : PT[mi]? = some e) (hd : decode e.b pc = .ok (.iaload, 1)) : wp K d mi pc L (.inl i :: .inr (.inr (.inl a)) :: st) h Q = ((0 ≤ i ∧ i < alen K h a) ∧ wp K d mi (pc + 1) L (vI (h a i.toNat) :: st) h Q) := by
  apply wp_gd
  rw [sS he hd]
  exact gd_t rfl
theorem w_iastore {a : Nat} {i x : Int} (he : PT[mi]? = some e) (hd : decode e.b pc = .ok (.iastore, 1)) : wp K d mi pc L (.inl x :: .inl i :: .inr (.inr (.inl a)) :: st) h Q = ((0 ≤ i ∧ i < aln K a) ∧ wp K d mi (pc + 1) L (st) (hput h a i.toNat x) Q) := by
  apply wp_gd
  rw [sS he hd]
  exact gd_t rfl
theorem w_alen {a : Nat} (he : PT[mi]? = some e) (hd : decode e.b pc = .ok (.arraylength, 1)) : wp K d mi pc L (.inr (.inr (.inl a)) :: st) h Q = ((0 < alen K h a ∨ (a = 10000 ∧ h 10000 4096 = 1)) ∧ wp K d mi (pc + 1) L (vI (alen K h a) :: st) h Q) := by
  apply wp_gd
  rw [sS he hd]
  exact gd_t rfl
theorem w_max0 {j pl : Nat} {nb : Bool} {x y : Int} {w v : AV} (hm : MR e.c j = some (1000, nb, pl)) (he : PT[mi]? = some e) (hd : decode e.b pc = .ok (.invokestatic j, 3)) : wp K d mi pc L [.inl y, .inl x] h Q = wp K d mi (pc + 3) L [vI (if x < y then y else x)] h Q := by
  refine wp_nx ?_
  rw [sS he hd]
  simp only [stepI, kcA, kcS, hm]
  exact gd_T
theorem w_max1 {j pl : Nat} {nb : Bool} {x y : Int} {w v : AV} (hm : MR e.c j = some (1000, nb, pl)) (he : PT[mi]? = some e) (hd : decode e.b pc = .ok (.invokestatic j, 3)) : wp K d mi pc L [.inl y, .inl x, w] h Q = wp K d mi (pc + 3) L [vI (if x < y then y else x), w] h Q := by
  refine wp_nx ?_
  rw [sS he hd]
  simp only [stepI, kcA, kcS, hm]
  exact gd_T
theorem w_max2 {j pl : Nat} {nb : Bool} {x y : Int} {w v : AV} (hm : MR e.c j = some (1000, nb, pl)) (he : PT[mi]? = some e) (hd : decode e.b pc = .ok (.invokestatic j, 3)) : wp K d mi pc L [.inl y, .inl x, w, v] h Q = wp K d mi (pc + 3) L [vI (if x < y then y else x), w, v] h Q := by
  refine wp_nx ?_
  rw [sS he hd]
  simp only [stepI, kcA, kcS, hm]
  exact gd_T
theorem w_min0 {j pl : Nat} {nb : Bool} {x y : Int} {w v : AV} (hm : MR e.c j = some (1001, nb, pl)) (he : PT[mi]? = some e) (hd : decode e.b pc = .ok (.invokestatic j, 3)) : wp K d mi pc L [.inl y, .inl x] h Q = wp K d mi (pc + 3) L [vI (if y < x then y else x)] h Q := by
  refine wp_nx ?_
  rw [sS he hd]
  simp only [stepI, kcA, kcS, hm]
  exact gd_T
theorem w_min1 {j pl : Nat} {nb : Bool} {x y : Int} {w v : AV} (hm : MR e.c j = some (1001, nb, pl)) (he : PT[mi]? = some e) (hd : decode e.b pc = .ok (.invokestatic j, 3)) : wp K d mi pc L [.inl y, .inl x, w] h Q = wp K d mi (pc + 3) L [vI (if y < x then y else x), w] h Q := by
  refine wp_nx ?_
  rw [sS he hd]
  simp only [stepI, kcA, kcS, hm]
  exact gd_T
theorem w_min2 {j pl : Nat} {nb : Bool} {x y : Int} {w v : AV} (hm : MR e.c j = some (1001, nb, pl)) (he : PT[mi]? = some e) (hd : decode e.b pc = .ok (.invokestatic j, 3)) : wp K d mi pc L [.inl y, .inl x, w, v] h Q = wp K d mi (pc + 3) L [vI (if y < x then y else x), w, v] h Q := by
  refine wp_nx ?_
  rw [sS he hd]
  simp only [stepI, kcA, kcS, hm]
  exact gd_T
theorem w_abs {j pl : Nat} {nb : Bool} {x : Int} (hm : MR e.c j = some (1002, nb, pl)) (he : PT[mi]? = some e) (hd : decode e.b pc = .ok (.invokestatic j, 3)) : wp K d mi pc L [.inl x] h Q = wp K d mi (pc + 3) L [vI (if 0 ≤ x then x else w32 (0 - x))] h Q := by
  refine wp_nx ?_
  rw [sS he hd]
  simp only [stepI, kcA, kcS, hm]
  exact gd_T
theorem w_cpy {j pl a b : Nat} {nb : Bool} {n dp sp : Int} (hm : MR e.c j = some (1003, nb, pl)) (he : PT[mi]? = some e) (hd : decode e.b pc = .ok (.invokestatic j, 3)) : wp K d mi pc L [.inl n, .inl dp, .inr (.inr (.inl b)), .inl sp, .inr (.inr (.inl a))] h Q = ((0 ≤ n ∧ 0 ≤ dp ∧ 0 ≤ sp ∧ sp + n ≤ aln K a ∧ dp + n ≤ aln K b ∧ 0 < aln K a ∧ 0 < aln K b) ∧ wp K d mi (pc + 3) L [] (hset h b (fun j => if dp.toNat ≤ j ∧ j < dp.toNat + n.toNat then h a (sp.toNat + (j - dp.toNat)) else h b j)) Q) := by
  by_cases hP : 0 ≤ n ∧ 0 ≤ dp ∧ 0 ≤ sp ∧ sp + n ≤ aln K a ∧ dp + n ≤ aln K b ∧ 0 < aln K a ∧ 0 < aln K b
  · rw [wp_nx (pc' := pc + 3) (L' := L) (st' := []) (h' := hset h b (fun j => if dp.toNat ≤ j ∧ j < dp.toNat + n.toNat then h a (sp.toNat + (j - dp.toNat)) else h b j)) (by rw [sS he hd]; simp only [stepI, kcA, hm]; rw [gd_t hP]; exact gd_T)]
    exact propext ⟨fun z => ⟨hP, z⟩, fun z => z.2⟩
  · rw [wp_no (by
      have h9 : PT[1003]? = none := by decide +kernel
      rw [sS he hd]; simp only [stepI, kcA, kcS, hm]
      rw [gd_T]
      unfold gd
      rw [if_neg hP]
      simp only [h9])]
    exact propext ⟨fun z => z.elim, fun z => hP z.1⟩
theorem w_callS {j m2 pl : Nat} {nb : Bool} {e2 : ME} (he : PT[mi]? = some e) (hd : decode e.b pc = .ok (.invokestatic j, 3)) (hm : MR e.c j = some (m2, nb, pl)) (h2 : PT[m2]? = some e2) (c1 : e2.st = true) (c0 : m2 < 1000) {as rest L2 : List AV} (hst : st = as ++ rest) (hl : as.length = e2.na) (c3 : rest.length ≤ 4) (c4 : e2.lg = true ∨ noL as = true) (c5 : (lay as.reverse).length ≤ e2.ml) (hL2 : padL e2.ml (lay as.reverse) = L2) : wp K (d + 1) mi pc L st h Q = wp K d m2 0 L2 [] h (fun r h' => wp K (d + 1) mi (pc + 3) L (r.toList ++ rest) h' Q) := by
  have e1 : st.take e2.na = as := by rw [hst, ← hl, List.take_left']; rfl
  have e3 : st.drop e2.na = rest := by rw [hst, ← hl, List.drop_left']; rfl
  refine wp_cl ?_
  rw [sS he hd]
  have n0 : m2 ≠ 1000 := by omega
  have n1 : m2 ≠ 1001 := by omega
  have n2 : m2 ≠ 1002 := by omega
  have n3 : m2 ≠ 1003 := by omega
  have k1 : kcA K e.c pc j L st h = none := by
    unfold kcA
    rw [hm]
    split
    · rename_i hz
      first
        | (simp only [Option.some.injEq, Prod.mk.injEq] at hz; exact absurd hz.1 n3)
        | (rename_i hz2; simp only [Option.some.injEq, Prod.mk.injEq] at hz2; exact absurd hz2.1 n3)
        | (rename_i hz2 hz3; simp only [Option.some.injEq, Prod.mk.injEq] at hz2 hz3; omega)
    · rfl
  simp only [stepI, k1]
  rw [gd_T]
  unfold kcS
  rw [hm]
  split
  · next heq => cases heq; omega
  · next heq => cases heq; omega
  · next heq => cases heq; omega
  · next heq =>
    cases heq
    rw [h2]
    dsimp only
    rw [e1, e3, hL2]
    exact gd_t ⟨c1, by rw [hst, List.length_append]; omega, c3, c4, c5⟩
  · next heq => cases heq
theorem w_callV {j m2 pl a : Nat} {nb : Bool} {e2 : ME} (he : PT[mi]? = some e) (hd : decode e.b pc = .ok (.invokevirtual j, 3)) (hm : MR e.c j = some (m2, nb, pl)) (h2 : PT[m2]? = some e2) (c1 : e2.st = false) (c1b : e2.lg = false) {as rest L2 : List AV} (hst : st = as ++ vR a :: rest) (hl : as.length = e2.na) (c3 : rest.length ≤ 4) (c4 : noL as = true) (c5 : e2.na + 1 ≤ e2.ml) (hL2 : padL e2.ml (vR a :: as.reverse) = L2) : wp K (d + 1) mi pc L st h Q = (isO K a e2.ci ∧ wp K d m2 0 L2 [] h (fun r h' => wp K (d + 1) mi (pc + 3) L (r.toList ++ rest) h' Q)) := by
  have e1 : st.take e2.na = as := by rw [hst, ← hl, List.take_left']; rfl
  have e3 : st.drop e2.na = vR a :: rest := by rw [hst, ← hl, List.drop_left']; rfl
  have k1 : stepS K mi pc L st h = gd (e2.st = false ∧ isO K a e2.ci ∧ rest.length ≤ 4 ∧ e2.lg = false ∧ noL as = true ∧ e2.na + 1 ≤ e2.ml) (some (.inr (.inr (m2, L2, rest)))) := by
    rw [sS he hd]
    simp only [stepI]
    rw [gd_T]
    unfold kcV
    rw [hm]
    dsimp only
    rw [h2]
    dsimp only
    rw [e3]
    dsimp only
    rw [e1, hL2]
  by_cases hO : isO K a e2.ci
  · rw [wp_cl (by rw [k1]; exact gd_t ⟨c1, hO, c3, c1b, c4, c5⟩)]
    exact propext ⟨fun z => ⟨hO, z⟩, fun z => z.2⟩
  · rw [wp_no (by rw [k1]; unfold gd; rw [if_neg (fun z => hO z.2.1)])]
    exact propext ⟨fun z => z.elim, fun z => hO z.1⟩
theorem w_ireturn {x : Int} (he : PT[mi]? = some e) (hd : decode e.b pc = .ok (.ireturn, 1)) (hr : e.ret = some .int) : wp K d mi pc L [.inl x] h Q = Q (some (vI x)) h := by
  rw [wp_rt (by rw [sS he hd]; simp only [stepI, rets]; rw [gd_T]; exact gd_t (Or.inl hr))]
theorem w_zreturn {x : Int} (he : PT[mi]? = some e) (hd : decode e.b pc = .ok (.ireturn, 1)) (hr : e.ret = some .boolean) : wp K d mi pc L [.inl x] h Q = ((x = 0 ∨ x = 1) ∧ Q (some (vI x)) h) := by
  by_cases hx : x = 0 ∨ x = 1
  · rw [wp_rt (by rw [sS he hd]; simp only [stepI, rets]; rw [gd_T]; exact gd_t (Or.inr ⟨hr, hx⟩))]
    exact propext ⟨fun z => ⟨hx, z⟩, fun z => z.2⟩
  · rw [wp_no (by
      rw [sS he hd]; simp only [stepI, rets]; rw [gd_T]; unfold gd
      rw [if_neg]
      rintro (z | z)
      · rw [hr] at z; cases z
      · exact hx z.2)]
    exact propext ⟨fun z => z.elim, fun z => hx z.1⟩
theorem w_lreturn {x : Int} (he : PT[mi]? = some e) (hd : decode e.b pc = .ok (.lreturn, 1)) (hr : e.ret = some .long) : wp K d mi pc L [.inr (.inl x)] h Q = Q (some (vL x)) h := by
  rw [wp_rt (by rw [sS he hd]; simp only [stepI, retL]; rw [gd_T]; exact gd_t hr)]
theorem w_return (he : PT[mi]? = some e) (hd : decode e.b pc = .ok (.return_, 1)) (hr : e.ret = none) : wp K d mi pc L [] h Q = Q none h := by
  rw [wp_rt (by rw [sS he hd]; simp only [stepI]; exact gd_t ⟨trivial, hr⟩)]
end WPS
