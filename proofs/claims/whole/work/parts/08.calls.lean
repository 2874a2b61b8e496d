section SNC
variable {p : Program} {l : Launch} {e : Env} {R : Room} {s : State} {m : MethodId} {args : Array Value} {below : List Frame} {meth : Method} {c : Code} {cells slots : Nat} {Q : State → Prop}
variable {q : ME} {K : KK} {ad : Nat → Nat} {cA : ClassId} {D : va_G} {A : Nat → Prop} {H0 : Heap} {SL : Nat} {xs : Nat → Int32} {d : Nat} {pc n : Nat} {L st : List AV} {h : HH}
theorem nx_in {R : RES} (hs : nx pc L st h = some R) : ∃ σ, R = .inl σ := ⟨_, (Option.some.inj hs).symm⟩
theorem gd_in {P : Prop} {inst : Decidable P} {x : Option RES} {R : RES} (f : x = some R → ∃ σ, R = .inl σ) (hs : @gd P inst x = some R) : ∃ σ, R = .inl σ := f (gd_some hs).2
theorem ld_in {w i : Nat} {ok : AV → Bool} {R : RES} (hs : ld w pc i L st h ok = some R) : ∃ σ, R = .inl σ := by
  unfold ld at hs
  split at hs
  · exact gd_in nx_in hs
  · cases hs
theorem sto_in {w i : Nat} {g : Bool} {ok : AV → Bool} {R : RES} (hs : sto g w pc i L st h ok = some R) : ∃ σ, R = .inl σ := by
  unfold sto at hs
  split at hs
  · exact gd_in nx_in hs
  · cases hs
theorem stoL_in {w i : Nat} {g : Bool} {R : RES} (hs : stoL g w pc i L st h = some R) : ∃ σ, R = .inl σ := by
  unfold stoL at hs
  split at hs
  · exact gd_in nx_in hs
  · cases hs
theorem bin_in {f : Int → Int → Int} {R : RES} (hs : bin pc L st h f = some R) : ∃ σ, R = .inl σ := by
  unfold bin at hs
  split at hs
  · exact nx_in hs
  · cases hs
theorem binG_in {g : Int → Int → Bool} {f : Int → Int → Int} {R : RES} (hs : binG pc L st h g f = some R) : ∃ σ, R = .inl σ := by
  unfold binG at hs
  split at hs
  · exact gd_in nx_in hs
  · cases hs
theorem binL_in {f : Int → Int → Int} {R : RES} (hs : binL pc L st h f = some R) : ∃ σ, R = .inl σ := by
  unfold binL at hs
  split at hs
  · exact nx_in hs
  · cases hs
theorem jmp_in {off : Int} {C : Prop} {inst : Decidable C} {R : RES} (hs : @jmp pc off C inst L st h = some R) : ∃ σ, R = .inl σ := by
  unfold jmp at hs
  refine gd_in (fun hs => ?_) hs
  split at hs
  · exact nx_in hs
  · exact nx_in hs
theorem jif_in {off : Int} {P : Int → Bool} {R : RES} (hs : jif pc L st h off P = some R) : ∃ σ, R = .inl σ := by
  unfold jif at hs
  split at hs
  · exact jmp_in hs
  · cases hs
theorem jcm_in {off : Int} {P : Int → Int → Bool} {R : RES} (hs : jcm pc L st h off P = some R) : ∃ σ, R = .inl σ := by
  unfold jcm at hs
  split at hs
  · exact jmp_in hs
  · cases hs
theorem getF_in {cn i : Nat} {R : RES} (hs : getF K cn pc i L st h = some R) : ∃ σ, R = .inl σ := by
  unfold getF at hs
  split at hs
  · split at hs
    · refine gd_in (fun hs => ?_) hs
      split at hs
      · exact nx_in hs
      · split at hs
        · exact gd_in nx_in hs
        · exact nx_in hs
    · cases hs
  · cases hs
theorem putF_in {cn i : Nat} {R : RES} (hs : putF K cn pc i L st h = some R) : ∃ σ, R = .inl σ := by
  unfold putF at hs
  split at hs
  · split at hs
    · exact gd_in nx_in hs
    · cases hs
  · split at hs
    · exact gd_in nx_in hs
    · cases hs
  · cases hs
theorem aLd_in {R : RES} (hs : aLd K pc L st h = some R) : ∃ σ, R = .inl σ := by
  unfold aLd at hs
  split at hs
  · exact gd_in nx_in hs
  · cases hs
theorem aSt_in {R : RES} (hs : aSt K pc L st h = some R) : ∃ σ, R = .inl σ := by
  unfold aSt at hs
  split at hs
  · exact gd_in nx_in hs
  · cases hs
theorem aLn_in {R : RES} (hs : aLn K pc L st h = some R) : ∃ σ, R = .inl σ := by
  unfold aLn at hs
  split at hs
  · exact gd_in nx_in hs
  · cases hs
theorem kcA_in {cn i : Nat} {R : RES} (hs : kcA K cn pc i L st h = some R) : ∃ σ, R = .inl σ := by
  unfold kcA at hs
  split at hs
  · exact gd_in nx_in hs
  · cases hs
set_option maxHeartbeats 4000000 in
theorem stepI_cls {i : Instr} {R : RES} (hs : stepI K q pc n L st h i = some R) : (∃ σ, R = .inl σ) ∨ (i = .ireturn ∧ n = 1 ∧ rets q st h = some R) ∨ (i = .lreturn ∧ n = 1 ∧ retL q st h = some R) ∨ (i = .return_ ∧ n = 1 ∧ st = [] ∧ q.ret = none ∧ R = .inr (.inl (none, h))) ∨ (∃ j, i = .invokestatic j ∧ n = 3 ∧ kcS q.c pc j L st h = some R) ∨ (∃ j, i = .invokevirtual j ∧ n = 3 ∧ kcV K q.c j st = some R) := by
  cases i
  case ireturn =>
    obtain ⟨h1, h2⟩ := gd_some hs
    exact Or.inr (Or.inl ⟨rfl, h1, h2⟩)
  case lreturn =>
    obtain ⟨h1, h2⟩ := gd_some hs
    exact Or.inr (Or.inr (Or.inl ⟨rfl, h1, h2⟩))
  case return_ =>
    simp only [stepI] at hs
    split at hs
    · obtain ⟨⟨h1, h2⟩, h3⟩ := gd_some hs
      exact Or.inr (Or.inr (Or.inr (Or.inl ⟨rfl, h1, rfl, h2, (Option.some.inj h3).symm⟩)))
    · cases hs
  case invokestatic j =>
    obtain ⟨h1, h2⟩ := gd_some hs
    split at h2
    · next r hr =>
      cases h2
      exact Or.inl (kcA_in hr)
    · exact Or.inr (Or.inr (Or.inr (Or.inr (Or.inl ⟨j, rfl, h1, h2⟩))))
  case invokevirtual j =>
    obtain ⟨h1, h2⟩ := gd_some hs
    exact Or.inr (Or.inr (Or.inr (Or.inr (Or.inr ⟨j, rfl, h1, h2⟩))))
  case iinc j z =>
    simp only [stepI] at hs
    split at hs
    · exact Or.inl (gd_in nx_in hs)
    · cases hs
  case ldc j =>
    simp only [stepI] at hs
    split at hs
    · exact Or.inl (gd_in nx_in hs)
    · cases hs
  case ldc_w j =>
    simp only [stepI] at hs
    split at hs
    · exact Or.inl (gd_in nx_in hs)
    · cases hs
  case ldc2_w j =>
    simp only [stepI] at hs
    split at hs
    · exact Or.inl (gd_in nx_in hs)
    · cases hs
  case ifCond cc off => exact Or.inl (gd_in jif_in hs)
  case if_icmp cc off => exact Or.inl (gd_in jcm_in hs)
  case goto off => exact Or.inl (gd_in nx_in hs)
  case getfield j => exact Or.inl (gd_in getF_in hs)
  case putfield j => exact Or.inl (gd_in putF_in hs)
  case iaload => exact Or.inl (gd_in aLd_in hs)
  case iastore => exact Or.inl (gd_in aSt_in hs)
  case arraylength => exact Or.inl (gd_in aLn_in hs)
  case iload_n j => exact Or.inl (gd_in ld_in hs)
  case iload j => exact Or.inl (gd_in ld_in hs)
  case lload_n j => exact Or.inl (gd_in ld_in hs)
  case lload j => exact Or.inl (gd_in ld_in hs)
  case aload_n j => exact Or.inl (gd_in ld_in hs)
  case aload j => exact Or.inl (gd_in ld_in hs)
  case istore_n j => exact Or.inl (gd_in sto_in hs)
  case istore j => exact Or.inl (gd_in sto_in hs)
  case astore_n j => exact Or.inl (gd_in sto_in hs)
  case astore j => exact Or.inl (gd_in sto_in hs)
  case lstore_n j => exact Or.inl (gd_in stoL_in hs)
  case lstore j => exact Or.inl (gd_in stoL_in hs)
  case iconst j => exact Or.inl (gd_in nx_in hs)
  case bipush j => exact Or.inl (gd_in nx_in hs)
  case sipush j => exact Or.inl (gd_in nx_in hs)
  case lconst j => exact Or.inl (gd_in nx_in hs)
  case iadd => exact Or.inl (gd_in bin_in hs)
  case isub => exact Or.inl (gd_in bin_in hs)
  case imul => exact Or.inl (gd_in bin_in hs)
  case iand => exact Or.inl (gd_in bin_in hs)
  case ior => exact Or.inl (gd_in bin_in hs)
  case ixor => exact Or.inl (gd_in bin_in hs)
  case idiv => exact Or.inl (gd_in binG_in hs)
  case irem => exact Or.inl (gd_in binG_in hs)
  case ishl => exact Or.inl (gd_in binG_in hs)
  case ishr => exact Or.inl (gd_in binG_in hs)
  case iushr => exact Or.inl (gd_in binG_in hs)
  case lsub => exact Or.inl (gd_in binL_in hs)
  case lmul => exact Or.inl (gd_in binL_in hs)
  case ineg =>
    simp only [stepI] at hs
    split at hs
    · exact Or.inl (gd_in nx_in hs)
    · cases hs
  case i2l =>
    simp only [stepI] at hs
    split at hs
    · exact Or.inl (gd_in nx_in hs)
    · cases hs
  case lshl =>
    simp only [stepI] at hs
    split at hs
    · exact Or.inl (gd_in nx_in hs)
    · cases hs
  case lcmp =>
    simp only [stepI] at hs
    split at hs
    · exact Or.inl (gd_in nx_in hs)
    · cases hs
  case dup =>
    simp only [stepI] at hs
    split at hs
    · exact Or.inl (gd_in nx_in hs)
    · cases hs
  case dup2 =>
    simp only [stepI] at hs
    split at hs
    · exact Or.inl (gd_in nx_in hs)
    · cases hs
  case pop =>
    simp only [stepI] at hs
    split at hs
    · exact Or.inl (gd_in nx_in hs)
    · cases hs
  case tableswitch a1 a2 a3 a4 =>
    simp only [stepI] at hs
    split at hs
    · exact Or.inl (gd_in nx_in hs)
    · cases hs
  case lookupswitch a1 a2 =>
    simp only [stepI] at hs
    split at hs
    · exact Or.inl (gd_in nx_in hs)
    · cases hs
  all_goals (cases hs)
end SNC
/-! a contract out of a run -/
def wsM (q : ME) : List Cond := .code q.y q.b q.ml q.ret :: gtb
def rmM (d : Nat) : Room := { frames := d + 1, cells := 0, slots := 0, locals := 64 * (d + 1) }
def PM (av : List AV) (h : HH) (K : KK) (ad : Nat → Nat) (cA : ClassId) (D : va_G) (SL : Nat) (xs : Nat → Int32) (sz : Nat) : Array Value → State → Prop := va_Pc (av.map (cv ad)) (fun U => U.heap.size = sz ∧ va_K D vwCl [(cA, .int)] U ∧ va_P D vwCl (wld K ad cA h) U.heap ∧ va_D (fun _ => True) (wld K ad cA h) ∧ (∀ w ∈ ntb, va_Nw w U) ∧ Sx ad (va_A (wld K ad cA h) sz) U U.heap SL xs h)
def QM (r : Option AV) (h' : HH) (K : KK) (ad : Nat → Nat) (cA : ClassId) (D : va_G) (SL : Nat) (xs : Nat → Int32) (Af : Nat → Prop) : Array Value → State → Outcome → State → Prop := fun _ st oc t => oc = .returned (r.map (cv ad)) ∧ va_P D vwCl (wld K ad cA h') t.heap ∧ va_F Af st t ∧ wfH h' ∧ (∀ v ∈ r.toList, wfV v) ∧ h' 10001 0 = SL ∧ ∀ j, h' 10000 j = (xs j).toInt
def SNDn (K : KK) (n : Nat) : Prop := ∀ (d mi : Nat) (q : ME) (pc : Nat) (L st : List AV) (h : HH) (r : Option AV × HH), PT[mi]? = some q → run K d n mi pc L st h = some r →
  ∀ (p : Program) (l : Launch) (e : Env) (R : Room) (s : State) (m : MethodId) (args : Array Value) (below : List Frame) (meth : Method) (c : Code) (cells slots : Nat) (Q : State → Prop) (ad : Nat → Nat) (cA : ClassId) (D : va_G) (A : Nat → Prop) (H0 : Heap) (SL : Nat) (xs : Nat → Int32),
  Fr q p R s m args c d cells slots → (∀ x : Nat, H0.size ≤ x → A x) → (∀ (pc' : Nat) (L' st' : List AV) (h' : HH), stepS K mi pc' L' st' h' = some (.inr (.inl r)) → WQ p l e R s m args below meth c cells slots Q q K ad cA D A H0 SL xs pc' L' st' h') → WQ p l e R s m args below meth c cells slots Q q K ad cA D A H0 SL xs pc L st h
theorem lay_len (ad : Nat → Nat) : ∀ av : List AV, (lg_sl (av.map (cv ad))).length = (lay av).length
  | [] => rfl
  | v :: r => by
    have ih := lay_len ad r
    unfold lg_sl at ih ⊢
    simp only [List.map_cons, List.flatMap_cons, List.length_append, ih]
    match v with
    | .inl x => simp [cv, lay, notL, Value.category]; omega
    | .inr (.inl x) => simp [cv, lay, notL, Value.category]; omega
    | .inr (.inr (.inl a)) => simp [cv, lay, notL, Value.category]; omega
    | .inr (.inr (.inr a)) => simp [cv, lay, notL, Value.category]; omega
theorem lay_args (ad : Nat → Nat) : ∀ (av : List AV) (b i : Nat) (v : AV), (lay av)[i]? = some v → v ≠ vU → (b + i, cv ad v) ∈ lv_args b (av.map (cv ad))
  | [], b, i, v, hv, _ => by simp [lay] at hv
  | x :: r, b, i, v, hv, hn => by
    by_cases hx : notL x = true
    · have hc : (cv ad x).category = 1 := cat_notL hx
      simp only [lay, hx, if_true] at hv
      simp only [List.map_cons, lv_args, hc]
      match i, hv with
      | 0, hv =>
        simp only [List.getElem?_cons_zero, Option.some.injEq] at hv
        subst hv
        exact List.mem_cons_self
      | i + 1, hv =>
        simp only [List.getElem?_cons_succ] at hv
        have := lay_args ad r (b + 1) i v hv hn
        rw [show b + (i + 1) = b + 1 + i by omega]
        exact List.mem_cons_of_mem _ this
    · have hx' : notL x = false := by simpa using hx
      have hc : (cv ad x).category = 2 := by
        match x, hx' with
        | .inr (.inl z), _ => rfl
      simp only [lay, hx', Bool.false_eq_true, if_false] at hv
      simp only [List.map_cons, lv_args, hc, if_true]
      match i, hv with
      | 0, hv =>
        simp only [List.getElem?_cons_zero, Option.some.injEq] at hv
        subst hv
        exact List.mem_cons_self
      | 1, hv =>
        simp only [List.getElem?_cons_succ, List.getElem?_cons_zero, Option.some.injEq] at hv
        exact absurd hv.symm hn
      | i + 2, hv =>
        simp only [List.getElem?_cons_succ] at hv
        have := lay_args ad r (b + 2) i v hv hn
        rw [show b + (i + 2) = b + 2 + i by omega]
        exact List.mem_cons_of_mem _ this
theorem lay_noL : ∀ av : List AV, noL av = true → lay av = av
  | [], _ => rfl
  | v :: r, hh => by
    unfold noL at hh
    rw [List.all_cons, Bool.and_eq_true] at hh
    simp only [lay, hh.1, if_true]
    rw [lay_noL r hh.2]
theorem LH_entry {ad : Nat → Nat} {q : ME} {av : List AV} (hl : (lay av).length ≤ q.ml) (hg : q.lg = true ∨ noL av = true) : LH ad ((lg_sl (av.map (cv ad)) ++ List.replicate (q.ml - (lg_sl (av.map (cv ad))).length) Slot.unset).toArray) q (padL q.ml (lay av)) := by
  have h0 := lv_entry (av.map (cv ad)) (n := q.ml) (by rw [lay_len]; exact hl)
  refine ⟨h0.1, ?_, h0.2.1, fun z => ?_, fun i v hv hn => ?_⟩
  · unfold padL
    rw [List.length_append, List.length_replicate]
    omega
  · rcases hg with y | y
    · rw [z] at y; cases y
    · rw [lay_noL av y]
      unfold padL noL
      rw [List.all_append, Bool.and_eq_true]
      refine ⟨y, ?_⟩
      rw [List.all_eq_true]
      intro x hx
      rw [List.eq_of_mem_replicate hx]
      rfl
  · unfold padL at hv
    by_cases hi : i < (lay av).length
    · rw [List.getElem?_append_left hi] at hv
      have := lay_args ad av 0 i v hv hn
      rw [Nat.zero_add] at this
      exact h0.2.2 _ this
    · rw [List.getElem?_append_right (by omega)] at hv
      exact absurd (List.eq_of_mem_replicate (List.mem_of_getElem? hv)) hn
theorem wf_lay : ∀ {av : List AV}, (∀ v ∈ av, wfV v) → ∀ v ∈ lay av, wfV v
  | [], _, v, hv => by cases hv
  | x :: r, hh, v, hv => by
    have ih := wf_lay (av := r) (fun y hy => hh y (List.mem_cons_of_mem _ hy))
    have hx := hh x List.mem_cons_self
    unfold lay at hv
    split at hv
    · rcases List.mem_cons.mp hv with rfl | hv
      · exact hx
      · exact ih v hv
    · rcases List.mem_cons.mp hv with rfl | hv
      · exact hx
      · rcases List.mem_cons.mp hv with rfl | hv
        · trivial
        · exact ih v hv
theorem wf_pad {n : Nat} {L : List AV} (hL : ∀ v ∈ L, wfV v) : ∀ v ∈ padL n L, wfV v := by
  intro v hv
  unfold padL at hv
  rcases List.mem_append.mp hv with h | h
  · exact hL v h
  · rw [List.eq_of_mem_replicate h]; trivial
theorem wld_D {K : KK} {ad : Nat → Nat} {cA : ClassId} {A : Nat → Prop} {h h' : HH} (hD : va_D A (wld K ad cA h)) : va_D A (wld K ad cA h') := by
  have key : ∀ (i : Nat) (x : Nat × va_E), (wld K ad cA h')[i]? = some x → ∃ y, (wld K ad cA h)[i]? = some y ∧ y.1 = x.1 := by
    intro i x hx
    unfold wld at hx ⊢
    rw [List.getElem?_mapIdx] at hx ⊢
    cases hk : K[i]? with
    | none => rw [hk] at hx; cases hx
    | some kd =>
      rw [hk] at hx
      cases hx
      exact ⟨_, rfl, rfl⟩
  refine ⟨fun i j x y hx hy hxy => ?_, fun i x hx => ?_⟩
  · obtain ⟨x0, a1, a2⟩ := key i x hx
    obtain ⟨y0, b1, b2⟩ := key j y hy
    exact hD.1 i j x0 y0 a1 b1 (by rw [a2, b2, hxy])
  · obtain ⟨x0, a1, a2⟩ := key i x hx
    rw [← a2]
    exact hD.2 i x0 a1
