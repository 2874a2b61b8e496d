/-! what a state of the small machine stands for -/
def cv (ad : Nat → Nat) : AV → Value
  | .inl x => .int (Int32.ofInt x)
  | .inr (.inl x) => .long (Int64.ofInt x)
  | .inr (.inr (.inl a)) => .ref (ad a)
  | .inr (.inr (.inr _)) => .null
def wfV : AV → Prop
  | .inl x => wfI x
  | .inr (.inl x) => wfJ x
  | _ => True
def wfH (h : HH) : Prop := ∀ a k, wfI (h a k)
theorem wfH_put {h : HH} (hw : wfH h) (a k : Nat) {x : Int} (hx : wfI x) : wfH (hput h a k x) := by
  intro i j
  unfold hput hset rput
  split
  · show wfI (if j = k then x else h a j)
    split
    · exact hx
    · exact hw a j
  · exact hw i j
def fV (ad : Nat → Nat) (t r : Nat) (z : Int) : Value := if t = 2 then .ref (ad r) else if t = 3 then (if 0 ≤ z then .ref (ad z.toNat) else .null) else .int (Int32.ofInt z)
def cellE (ad : Nat → Nat) (cA : ClassId) : (Nat ⊕ (Nat × List Nat)) → (Nat → Int) → va_E
  | .inl n, f => .inl (cA, n, .inl (fun j => Int32.ofInt (f j)))
  | .inr ci, f => .inr (ci.1, (FKL ci.1).mapIdx (fun k t => fV ad t (ci.2.getD k 0) (f k)))
def wld (K : KK) (ad : Nat → Nat) (cA : ClassId) (h : HH) : va_W := K.mapIdx (fun i kd => (ad i, cellE ad cA kd (h i)))
theorem wld_at {K : KK} {ad : Nat → Nat} {cA : ClassId} {h : HH} {a : Nat} {kd : Nat ⊕ (Nat × List Nat)} (hk : K[a]? = some kd) : (wld K ad cA h)[a]? = some (ad a, cellE ad cA kd (h a)) := by
  unfold wld
  rw [List.getElem?_mapIdx, hk]
  rfl
theorem wld_set {K : KK} {ad : Nat → Nat} {cA : ClassId} {h : HH} {a : Nat} {kd : Nat ⊕ (Nat × List Nat)} (hk : K[a]? = some kd) (f : Nat → Int) : wld K ad cA (hset h a f) = (wld K ad cA h).set a (ad a, cellE ad cA kd f) := by
  have ha : a < K.length := (List.getElem?_eq_some_iff.mp hk).1
  apply List.ext_getElem?
  intro i
  by_cases hi : i = a
  · subst hi
    rw [wld_at hk, List.getElem?_set_self (by unfold wld; rw [List.length_mapIdx]; exact ha)]
    simp [hset]
  · rw [List.getElem?_set_ne (Ne.symm hi)]
    unfold wld
    rw [List.getElem?_mapIdx, List.getElem?_mapIdx]
    simp [hset, hi]
theorem cell_putF {ad : Nat → Nat} {ci k : Nat} {rs : List Nat} {f : Nat → Int} {x : Int} : (FKL ci).mapIdx (fun j t => fV ad t (rs.getD j 0) (rput f k x j)) = ((FKL ci).mapIdx (fun j t => fV ad t (rs.getD j 0) (f j))).set k (fV ad (FK ci k) (rs.getD k 0) x) := by
  apply List.ext_getElem?
  intro i
  by_cases hi : i = k
  · subst hi
    by_cases hl : i < (FKL ci).length
    · rw [List.getElem?_set_self (by rw [List.length_mapIdx]; exact hl), List.getElem?_mapIdx, List.getElem?_eq_getElem hl]
      simp [rput, FK, hl]
    · rw [List.getElem?_eq_none (by rw [List.length_mapIdx]; omega), List.getElem?_eq_none (by rw [List.length_set, List.length_mapIdx]; omega)]
  · rw [List.getElem?_set_ne (Ne.symm hi), List.getElem?_mapIdx, List.getElem?_mapIdx]
    simp [rput, hi]
theorem isO_at {K : KK} {a ci : Nat} (h : isO K a ci) : ∃ rs : List Nat, K[a]? = some (.inr (ci, rs)) ∧ ∀ k, rT K a k = rs.getD k 0 := by
  obtain ⟨h1, h2⟩ := h
  unfold kC at h1
  unfold rT
  cases hk : kO K a with
  | none => rw [hk] at h1; dsimp only at h1; omega
  | some x =>
    rw [hk] at h1
    dsimp only at h1 ⊢
    refine ⟨x.2, ?_, fun _ => rfl⟩
    unfold kO at hk
    split at hk
    · next y hy =>
      rw [hy]
      cases hk
      rw [← h1]
    · cases hk
/-- the frame's slots -/
def LH (ad : Nat → Nat) (ls : Array Slot) (q : ME) (L : List AV) : Prop := ls.size = q.ml ∧ L.length = q.ml ∧ lv_wf ls ∧ (q.lg = false → noL L = true) ∧ ∀ (i : Nat) (v : AV), L[i]? = some v → v ≠ vU → ls[i]? = some (.val (cv ad v))
def lvOf (ad : Nat → Nat) (L : List AV) : List (Nat × Value) := L.zipIdx.filterMap (fun x => if x.1 = vU then none else some (x.2, cv ad x.1))
theorem lvOf_mem {ad : Nat → Nat} {L : List AV} {j : Nat} {w : Value} : (j, w) ∈ lvOf ad L ↔ ∃ v, L[j]? = some v ∧ v ≠ vU ∧ w = cv ad v := by
  unfold lvOf
  rw [List.mem_filterMap]
  constructor
  · rintro ⟨⟨v, i⟩, h1, h2⟩
    have h3 := List.mem_zipIdx_iff_getElem?.mp h1
    simp only at h2 h3
    by_cases hv : v = vU
    · rw [if_pos hv] at h2; cases h2
    · rw [if_neg hv] at h2
      cases h2
      exact ⟨v, h3, hv, rfl⟩
  · rintro ⟨v, h1, h2, rfl⟩
    refine ⟨(v, j), List.mem_zipIdx_iff_getElem?.mpr h1, ?_⟩
    simp only
    rw [if_neg h2]
theorem LH.has {ad : Nat → Nat} {ls : Array Slot} {q : ME} {L : List AV} (h : LH ad ls q L) : lv_has ls q.ml (lvOf ad L) := by
  refine ⟨h.1, h.2.2.1, fun x hx => ?_⟩
  obtain ⟨v, h1, h2, h3⟩ := lvOf_mem.mp (show (x.1, x.2) ∈ lvOf ad L from hx)
  rw [h3]
  exact h.2.2.2.2 _ v h1 h2
theorem cat_notL {ad : Nat → Nat} {v : AV} (h : notL v = true) : (cv ad v).category = 1 := by
  match v, h with
  | .inl x, _ => rfl
  | .inr (.inr (.inl a)), _ => rfl
  | .inr (.inr (.inr _)), _ => rfl
theorem noL_at {L : List AV} (h : noL L = true) {i : Nat} {v : AV} (hv : L[i]? = some v) : notL v = true := List.all_eq_true.mp h v (List.mem_of_getElem? hv)
theorem noL_set {L : List AV} (h : noL L = true) {i : Nat} {v : AV} (hv : notL v = true) : noL (L.set i v) = true := by
  unfold noL at *
  rw [List.all_eq_true] at *
  intro x hx
  rcases List.mem_or_eq_of_mem_set hx with h1 | h1
  · exact h x h1
  · rw [h1]; exact hv
theorem LH.set1 {ad : Nat → Nat} {ls ls' : Array Slot} {q : ME} {L : List AV} {i : Nat} {v : AV} (h : LH ad ls q L) (hp : q.lg = false ∨ notL (L.getD (i - 1) vU) = true) (hv : notL v = true) (hn : lv_has ls' q.ml ((i, cv ad v) :: (lvOf ad L).filter (fun x => !(x.1 == i) && !(x.1 + 1 == i && x.2.category == 2)))) : LH ad ls' q (L.set i v) := by
  refine ⟨hn.1, by rw [List.length_set]; exact h.2.1, hn.2.1, fun z => noL_set (h.2.2.2.1 z) hv, fun j w hj hw => ?_⟩
  by_cases hji : j = i
  · subst hji
    have hl : j < L.length := by
      have := (List.getElem?_eq_some_iff.mp hj).1
      rwa [List.length_set] at this
    rw [List.getElem?_set_self hl] at hj
    cases hj
    exact hn.2.2 _ List.mem_cons_self
  · rw [List.getElem?_set_ne (Ne.symm hji)] at hj
    refine hn.2.2 (j, cv ad w) (List.mem_cons_of_mem _ (List.mem_filter.mpr ⟨lvOf_mem.mpr ⟨w, hj, hw, rfl⟩, ?_⟩))
    have h1 : j + 1 = i → (cv ad w).category = 1 := by
      intro z
      apply cat_notL
      rcases hp with h2 | h2
      · exact noL_at (h.2.2.2.1 h2) hj
      · rw [← z, Nat.add_sub_cancel, List.getD_eq_getElem?_getD, hj] at h2
        exact h2
    have hji' : (j == i) = false := beq_eq_false_iff_ne.mpr hji
    simp only [hji', Bool.not_false, Bool.true_and]
    by_cases z : j + 1 = i
    · rw [h1 z]; simp
    · have : (j + 1 == i) = false := beq_eq_false_iff_ne.mpr z
      rw [this]; rfl
theorem LH.set2 {ad : Nat → Nat} {ls ls' : Array Slot} {q : ME} {L : List AV} {i : Nat} {z : Int} (h : LH ad ls q L) (hg : q.lg = true) (hp : notL (L.getD (i - 1) vU) = true) (hn : lv_has ls' q.ml ((i, cv ad (vL z)) :: (lvOf ad L).filter (fun x => !(x.1 == i) && (!(x.1 == i + 1) && !(x.1 + 1 == i && x.2.category == 2))))) : LH ad ls' q ((L.set i (vL z)).set (i + 1) vU) := by
  refine ⟨hn.1, by rw [List.length_set, List.length_set]; exact h.2.1, hn.2.1, fun y => by (rw [hg] at y; cases y), fun j w hj hw => ?_⟩
  by_cases hj1 : j = i + 1
  · subst hj1
    have hl : i + 1 < (L.set i (vL z)).length := by
      have := (List.getElem?_eq_some_iff.mp hj).1
      rwa [List.length_set] at this
    rw [List.getElem?_set_self hl] at hj
    cases hj
    exact absurd rfl hw
  · rw [List.getElem?_set_ne (Ne.symm hj1)] at hj
    by_cases hji : j = i
    · subst hji
      have hl : j < L.length := by
        have := (List.getElem?_eq_some_iff.mp hj).1
        rwa [List.length_set] at this
      rw [List.getElem?_set_self hl] at hj
      cases hj
      exact hn.2.2 _ List.mem_cons_self
    · rw [List.getElem?_set_ne (Ne.symm hji)] at hj
      refine hn.2.2 (j, cv ad w) (List.mem_cons_of_mem _ (List.mem_filter.mpr ⟨lvOf_mem.mpr ⟨w, hj, hw, rfl⟩, ?_⟩))
      have h1 : j + 1 = i → (cv ad w).category = 1 := by
        intro y
        apply cat_notL
        rw [← y, Nat.add_sub_cancel, List.getD_eq_getElem?_getD, hj] at hp
        exact hp
      have a1 : (j == i) = false := beq_eq_false_iff_ne.mpr hji
      have a2 : (j == i + 1) = false := beq_eq_false_iff_ne.mpr hj1
      simp only [a1, a2, Bool.not_false, Bool.true_and]
      by_cases y : j + 1 = i
      · rw [h1 y]; simp
      · have : (j + 1 == i) = false := beq_eq_false_iff_ne.mpr y
        rw [this]; rfl
/-- the heap's part -/
def Wd (K : KK) (ad : Nat → Nat) (cA : ClassId) (D : va_G) (A : Nat → Prop) (s : State) (H0 H : Heap) (locs : List Loc) (h : HH) : Prop := va_K D vwCl [(cA, .int)] s ∧ va_P D vwCl (wld K ad cA h) H ∧ va_D A (wld K ad cA h) ∧ va_S A H0 H locs ∧ wfH h
def Sx (ad : Nat → Nat) (A : Nat → Prop) (s : State) (H0 : Heap) (SL : Nat) (xs : Nat → Int32) (h : HH) : Prop := ((xs 4096 = 1 ∨ 0 < SL) → va_X (ad 10000) SL xs s H0 ∧ ad 10000 < H0.size ∧ ¬ A (ad 10000)) ∧ h 10001 0 = SL ∧ SL < 2147483648 ∧ ∀ j, h 10000 j = (xs j).toInt
theorem Sx.set {ad : Nat → Nat} {A : Nat → Prop} {s : State} {H0 : Heap} {SL : Nat} {xs : Nat → Int32} {h : HH} (hs : Sx ad A s H0 SL xs h) {a : Nat} (ha : a < 10000) (f : Nat → Int) : Sx ad A s H0 SL xs (hset h a f) := by
  have e0 : hset h a f 10000 = h 10000 := by unfold hset; rw [if_neg (by omega)]
  have e1 : hset h a f 10001 = h 10001 := by unfold hset; rw [if_neg (by omega)]
  unfold Sx
  rw [e0, e1]
  exact hs
def Fr (q : ME) (p : Program) (R : Room) (s : State) (m : MethodId) (args : Array Value) (c : Code) (d cells slots : Nat) : Prop := p.tables.exec = Jvm.exec ∧ c.code = q.b ∧ c.maxLocals = q.ml ∧ s.vm.findClass (clN q.c) = some m.cls ∧ (∀ w ∈ gtb, w.before args s = true) ∧ (∀ w ∈ ntb, va_Nw w s) ∧ d + 1 ≤ R.frames ∧ 64 * (d + 1) ≤ R.locals ∧ cells ≤ R.cells ∧ slots ≤ R.slots
/-- from every state of the machine that the small one stands for, the end is reached -/
def WQ (p : Program) (l : Launch) (e : Env) (R : Room) (s : State) (m : MethodId) (args : Array Value) (below : List Frame) (meth : Method) (c : Code) (cells slots : Nat) (Q : State → Prop) (q : ME) (K : KK) (ad : Nat → Nat) (cA : ClassId) (D : va_G) (A : Nat → Prop) (H0 : Heap) (SL : Nat) (xs : Nat → Int32) (pc : Nat) (L st : List AV) (h : HH) : Prop :=
  ∀ (ls : Array Slot) (H : Heap) (locs : List Loc), LH ad ls q L → (∀ v ∈ L, wfV v) → (∀ v ∈ st, wfV v) → Wd K ad cA D A s H0 H locs h → Sx ad A s H0 SL xs h → W p l e R s m args below meth c H locs cells slots Q (F0 m pc ls (st.map (cv ad)))
theorem gd_some {P : Prop} {inst : Decidable P} {x : Option RES} {r : RES} (hh : @gd P inst x = some r) : P ∧ x = some r := by
  unfold gd at hh
  split at hh
  · next a => exact ⟨a, hh⟩
  · cases hh
theorem nx_some {pc pc' : Nat} {L L' st st' : List AV} {h h' : HH} (hh : nx pc L st h = some (.inl (pc', L', st', h'))) : pc = pc' ∧ L = L' ∧ st = st' ∧ h = h' := by
  unfold nx at hh
  simpa using hh
theorem wfc {P : AV → Prop} {v : AV} {r : List AV} (h1 : P v) (h2 : ∀ x ∈ r, P x) : ∀ x ∈ v :: r, P x := List.forall_mem_cons.mpr ⟨h1, h2⟩
theorem okI_i {v : AV} (hh : okI v = true) : ∃ x, v = vI x := by
  match v, hh with
  | .inl x, _ => exact ⟨x, rfl⟩
theorem okL_i {v : AV} (hh : okL v = true) : ∃ x, v = vL x := by
  match v, hh with
  | .inr (.inl x), _ => exact ⟨x, rfl⟩
theorem okR_i {v : AV} (hh : okR v = true) : ∃ x, v = vR x := by
  match v, hh with
  | .inr (.inr (.inl x)), _ => exact ⟨x, rfl⟩
section SND
variable {p : Program} {l : Launch} {e : Env} {R : Room} {s : State} {m : MethodId} {args : Array Value} {below : List Frame} {meth : Method} {c : Code} {cells slots : Nat} {Q : State → Prop}
variable {q : ME} {K : KK} {ad : Nat → Nat} {cA : ClassId} {D : va_G} {A : Nat → Prop} {H0 : Heap} {SL : Nat} {xs : Nat → Int32} {d : Nat} {pc n : Nat} {L st : List AV} {h : HH}
/-- what a row that pushes one value gives -/
theorem g_push {w : Nat} {v : AV} (hv : wfV v) (row : ∀ (ls : Array Slot) (H : Heap) (locs : List Loc) (rest : List Value), LH ad ls q L → W p l e R s m args below meth c H locs cells slots Q (F0 m (pc + w) ls (cv ad v :: rest)) → W p l e R s m args below meth c H locs cells slots Q (F0 m (pc) ls (rest))) (k : WQ p l e R s m args below meth c cells slots Q q K ad cA D A H0 SL xs (pc + w) L (v :: st) h) : WQ p l e R s m args below meth c cells slots Q q K ad cA D A H0 SL xs pc L st h := by
  intro ls H locs hl wl ws hW hS
  exact row ls H locs _ hl (k ls H locs hl wl (wfc hv ws) hW hS)
theorem g_ld {w i : Nat} {ok : AV → Bool} {pc' : Nat} {L' st' : List AV} {h' : HH} (hs : ld w pc i L st h ok = some (.inl (pc', L', st', h'))) (row : ∀ (v : AV), ok v = true → L[i]? = some v → ∀ (ls : Array Slot) (H : Heap) (locs : List Loc) (rest : List Value), LH ad ls q L → W p l e R s m args below meth c H locs cells slots Q (F0 m (pc + w) ls (cv ad v :: rest)) → W p l e R s m args below meth c H locs cells slots Q (F0 m (pc) ls (rest))) (k : WQ p l e R s m args below meth c cells slots Q q K ad cA D A H0 SL xs pc' L' st' h') : WQ p l e R s m args below meth c cells slots Q q K ad cA D A H0 SL xs pc L st h := by
  unfold ld at hs
  split at hs
  · next v hv =>
    obtain ⟨ho, hs⟩ := gd_some hs
    obtain ⟨rfl, rfl, rfl, rfl⟩ := nx_some hs
    intro ls H locs hl wl ws hW hS
    exact row v ho hv ls H locs _ hl (k ls H locs hl wl (wfc (wl v (List.mem_of_getElem? hv)) ws) hW hS)
  · cases hs
theorem g_sto {w i : Nat} {ok : AV → Bool} {pc' : Nat} {L' st' : List AV} {h' : HH} (hs : sto q.lg w pc i L st h ok = some (.inl (pc', L', st', h'))) (hok : ∀ v, ok v = true → notL v = true) (row : ∀ (v : AV), ok v = true → ∀ (ls : Array Slot) (H : Heap) (locs : List Loc) (rest : List Value), lv_has ls q.ml (lvOf ad L) → i < q.ml → (∀ ls' : Array Slot, lv_has ls' q.ml ((i, cv ad v) :: (lvOf ad L).filter (fun x => !(x.1 == i) && !(x.1 + 1 == i && x.2.category == 2))) → W p l e R s m args below meth c H locs cells slots Q (F0 m (pc + w) ls' (rest))) → W p l e R s m args below meth c H locs cells slots Q (F0 m (pc) ls (cv ad v :: rest))) (k : WQ p l e R s m args below meth c cells slots Q q K ad cA D A H0 SL xs pc' L' st' h') : WQ p l e R s m args below meth c cells slots Q q K ad cA D A H0 SL xs pc L st h := by
  unfold sto at hs
  split at hs
  · next v r =>
    obtain ⟨⟨ho, hi, hp⟩, hs⟩ := gd_some hs
    obtain ⟨rfl, rfl, rfl, rfl⟩ := nx_some hs
    intro ls H locs hl wl ws hW hS
    refine row v ho ls H locs _ hl.has (by rw [← hl.2.1]; exact hi) (fun ls' hn => ?_)
    refine k ls' H locs (hl.set1 hp (hok v ho) hn) (fun x hx => ?_) (fun x hx => ws x (List.mem_cons_of_mem _ hx)) hW hS
    rcases List.mem_or_eq_of_mem_set hx with h1 | h1
    · exact wl x h1
    · rw [h1]; exact ws v List.mem_cons_self
  · cases hs
theorem g_bin {f : Int → Int → Int} {pc' : Nat} {L' st' : List AV} {h' : HH} (hs : bin pc L st h f = some (.inl (pc', L', st', h'))) (hf : ∀ x y, wfI x → wfI y → wfI (f x y)) (row : ∀ x y, wfI x → wfI y → ∀ (ls : Array Slot) (H : Heap) (locs : List Loc) (rest : List Value), W p l e R s m args below meth c H locs cells slots Q (F0 m (pc + 1) ls (.int (Int32.ofInt (f x y)) :: rest)) → W p l e R s m args below meth c H locs cells slots Q (F0 m (pc) ls (.int (Int32.ofInt y) :: .int (Int32.ofInt x) :: rest))) (k : WQ p l e R s m args below meth c cells slots Q q K ad cA D A H0 SL xs pc' L' st' h') : WQ p l e R s m args below meth c cells slots Q q K ad cA D A H0 SL xs pc L st h := by
  unfold bin at hs
  split at hs
  · next y x r =>
    obtain ⟨rfl, rfl, rfl, rfl⟩ := nx_some hs
    intro ls H locs hl wl ws hW hS
    have wy : wfI y := ws _ List.mem_cons_self
    have wx : wfI x := ws (.inl x) (List.mem_cons_of_mem _ List.mem_cons_self)
    exact row x y wx wy ls H locs _ (k ls H locs hl wl (wfc (hf x y wx wy) (fun z hz => ws z (List.mem_cons_of_mem _ (List.mem_cons_of_mem _ hz)))) hW hS)
  · cases hs
theorem g_binG {g : Int → Int → Bool} {f : Int → Int → Int} {pc' : Nat} {L' st' : List AV} {h' : HH} (hs : binG pc L st h g f = some (.inl (pc', L', st', h'))) (hf : ∀ x y, wfI x → wfI y → g x y = true → wfI (f x y)) (row : ∀ x y, wfI x → wfI y → g x y = true → ∀ (ls : Array Slot) (H : Heap) (locs : List Loc) (rest : List Value), W p l e R s m args below meth c H locs cells slots Q (F0 m (pc + 1) ls (.int (Int32.ofInt (f x y)) :: rest)) → W p l e R s m args below meth c H locs cells slots Q (F0 m (pc) ls (.int (Int32.ofInt y) :: .int (Int32.ofInt x) :: rest))) (k : WQ p l e R s m args below meth c cells slots Q q K ad cA D A H0 SL xs pc' L' st' h') : WQ p l e R s m args below meth c cells slots Q q K ad cA D A H0 SL xs pc L st h := by
  unfold binG at hs
  split at hs
  · next y x r =>
    obtain ⟨hg, hs⟩ := gd_some hs
    obtain ⟨rfl, rfl, rfl, rfl⟩ := nx_some hs
    intro ls H locs hl wl ws hW hS
    have wy : wfI y := ws _ List.mem_cons_self
    have wx : wfI x := ws (.inl x) (List.mem_cons_of_mem _ List.mem_cons_self)
    exact row x y wx wy hg ls H locs _ (k ls H locs hl wl (wfc (hf x y wx wy hg) (fun z hz => ws z (List.mem_cons_of_mem _ (List.mem_cons_of_mem _ hz)))) hW hS)
  · cases hs
theorem g_binL {f : Int → Int → Int} {pc' : Nat} {L' st' : List AV} {h' : HH} (hs : binL pc L st h f = some (.inl (pc', L', st', h'))) (hf : ∀ x y, wfJ (f x y)) (row : ∀ x y, wfJ x → wfJ y → ∀ (ls : Array Slot) (H : Heap) (locs : List Loc) (rest : List Value), W p l e R s m args below meth c H locs cells slots Q (F0 m (pc + 1) ls (.long (Int64.ofInt (f x y)) :: rest)) → W p l e R s m args below meth c H locs cells slots Q (F0 m (pc) ls (.long (Int64.ofInt y) :: .long (Int64.ofInt x) :: rest))) (k : WQ p l e R s m args below meth c cells slots Q q K ad cA D A H0 SL xs pc' L' st' h') : WQ p l e R s m args below meth c cells slots Q q K ad cA D A H0 SL xs pc L st h := by
  unfold binL at hs
  split at hs
  · next y x r =>
    obtain ⟨rfl, rfl, rfl, rfl⟩ := nx_some hs
    intro ls H locs hl wl ws hW hS
    have wy : wfJ y := ws _ List.mem_cons_self
    have wx : wfJ x := ws (.inr (.inl x)) (List.mem_cons_of_mem _ List.mem_cons_self)
    exact row x y wx wy ls H locs _ (k ls H locs hl wl (wfc (hf x y) (fun z hz => ws z (List.mem_cons_of_mem _ (List.mem_cons_of_mem _ hz)))) hW hS)
  · cases hs
theorem tg_eq {pc : Nat} {off : Int} (h0 : 0 ≤ (pc : Int) + off) : (pc : Int) + off = ((tg pc off : Nat) : Int) := by
  unfold tg
  omega
theorem g_jmp {C : Prop} {inst : Decidable C} {off : Int} {r : List AV} {pc' : Nat} {L' st' : List AV} {h' : HH} (hs : @jmp pc off C inst L r h = some (.inl (pc', L', st', h'))) : 0 ≤ (pc : Int) + off ∧ L' = L ∧ st' = r ∧ h' = h ∧ (C → pc' = tg pc off) ∧ (¬ C → pc' = pc + 3) := by
  unfold jmp at hs
  obtain ⟨h0, hs⟩ := gd_some hs
  split at hs
  · next a =>
    obtain ⟨rfl, rfl, rfl, rfl⟩ := nx_some hs
    exact ⟨h0, rfl, rfl, rfl, fun _ => rfl, fun z => absurd a z⟩
  · next a =>
    obtain ⟨rfl, rfl, rfl, rfl⟩ := nx_some hs
    exact ⟨h0, rfl, rfl, rfl, fun z => absurd z a, fun _ => rfl⟩
theorem g_jif {off : Int} {P : Int → Bool} {pc' : Nat} {L' st' : List AV} {h' : HH} (hs : jif pc L st h off P = some (.inl (pc', L', st', h'))) (row : ∀ x, wfI x → ∀ (ls : Array Slot) (H : Heap) (locs : List Loc) (rest : List Value), (pc : Int) + off = ((tg pc off : Nat) : Int) → (P x = true → W p l e R s m args below meth c H locs cells slots Q (F0 m (tg pc off) ls (rest))) → (¬ P x = true → W p l e R s m args below meth c H locs cells slots Q (F0 m (pc + 3) ls (rest))) → W p l e R s m args below meth c H locs cells slots Q (F0 m (pc) ls (.int (Int32.ofInt x) :: rest))) (k : WQ p l e R s m args below meth c cells slots Q q K ad cA D A H0 SL xs pc' L' st' h') : WQ p l e R s m args below meth c cells slots Q q K ad cA D A H0 SL xs pc L st h := by
  unfold jif at hs
  split at hs
  · next x r =>
    obtain ⟨h0, rfl, rfl, rfl, ht, hf⟩ := g_jmp hs
    intro ls H locs hl wl ws hW hS
    have kk := k ls H locs hl wl (fun z hz => ws z (List.mem_cons_of_mem _ hz)) hW hS
    exact row x (ws _ List.mem_cons_self) ls H locs _ (tg_eq h0) (fun z => by rw [← ht z]; exact kk) (fun z => by rw [← hf z]; exact kk)
  · cases hs
theorem g_jcm {off : Int} {P : Int → Int → Bool} {pc' : Nat} {L' st' : List AV} {h' : HH} (hs : jcm pc L st h off P = some (.inl (pc', L', st', h'))) (row : ∀ x y, wfI x → wfI y → ∀ (ls : Array Slot) (H : Heap) (locs : List Loc) (rest : List Value), (pc : Int) + off = ((tg pc off : Nat) : Int) → (P x y = true → W p l e R s m args below meth c H locs cells slots Q (F0 m (tg pc off) ls (rest))) → (¬ P x y = true → W p l e R s m args below meth c H locs cells slots Q (F0 m (pc + 3) ls (rest))) → W p l e R s m args below meth c H locs cells slots Q (F0 m (pc) ls (.int (Int32.ofInt y) :: .int (Int32.ofInt x) :: rest))) (k : WQ p l e R s m args below meth c cells slots Q q K ad cA D A H0 SL xs pc' L' st' h') : WQ p l e R s m args below meth c cells slots Q q K ad cA D A H0 SL xs pc L st h := by
  unfold jcm at hs
  split at hs
  · next y x r =>
    obtain ⟨h0, rfl, rfl, rfl, ht, hf⟩ := g_jmp hs
    intro ls H locs hl wl ws hW hS
    have kk := k ls H locs hl wl (fun z hz => ws z (List.mem_cons_of_mem _ (List.mem_cons_of_mem _ hz))) hW hS
    exact row x y (ws (.inl x) (List.mem_cons_of_mem _ List.mem_cons_self)) (ws _ List.mem_cons_self) ls H locs _ (tg_eq h0) (fun z => by rw [← ht z]; exact kk) (fun z => by rw [← hf z]; exact kk)
  · cases hs
end SND
