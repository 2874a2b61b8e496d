/-! what follows is all that follows; the first order by its places -/
theorem clI_row {n b : Nat} {f : Nat → Nat} : ∀ k a, itn (clI b) k 0 f a = if a < k ∧ (f a).testBit b = true then f a ||| f b else f a
  | 0, a => by rw [if_neg (fun z => absurd z.1 (Nat.not_lt_zero a))]; rfl
  | k + 1, a => by
    rw [itn_e, Nat.zero_add]
    have ih := fun a => clI_row (n := n) (b := b) (f := f) k a
    generalize itn (clI b) k 0 f = g at ih
    have hk : g k = f k := by rw [ih k, if_neg (fun z => absurd z.1 (Nat.lt_irrefl k))]
    have hb : g b = f b := by
      rw [ih b]
      split
      · exact Nat.or_self _
      · rfl
    unfold clI
    rw [hk]
    by_cases hz : (f k).testBit b = true
    · rw [if_pos hz, hb]
      by_cases ha : a = k
      · subst ha
        rw [nput_same, if_pos ⟨by omega, hz⟩]
      · rw [nput_ne ha, ih a]
        by_cases h2 : a < k
        · by_cases h3 : (f a).testBit b = true
          · rw [if_pos ⟨h2, h3⟩, if_pos ⟨by omega, h3⟩]
          · rw [if_neg (fun z => h3 z.2), if_neg (fun z => h3 z.2)]
        · rw [if_neg (fun z => h2 z.1), if_neg (fun z => absurd z.1 (by omega))]
    · rw [if_neg hz, ih a]
      by_cases ha : a = k
      · subst ha
        rw [if_neg (fun z => hz z.2), if_neg (fun z => hz z.2)]
      · by_cases h2 : a < k
        · by_cases h3 : (f a).testBit b = true
          · rw [if_pos ⟨h2, h3⟩, if_pos ⟨by omega, h3⟩]
          · rw [if_neg (fun z => h3 z.2), if_neg (fun z => h3 z.2)]
        · rw [if_neg (fun z => h2 z.1), if_neg (fun z => absurd z.1 (by omega))]
theorem clR_bit {n b a c : Nat} {f : Nat → Nat} (h : MS n f) : (itn (clI b) n 0 f a).testBit c = ((f a).testBit c || ((f a).testBit b && (f b).testBit c)) := by
  rw [clI_row (n := n)]
  by_cases ha : a < n
  · cases hb : (f a).testBit b
    · rw [if_neg (fun z => Bool.false_ne_true z.2)]; simp
    · rw [if_pos ⟨ha, rfl⟩, Nat.testBit_or]; simp
  · rw [if_neg (fun z => ha z.1)]
    have e1 := h.bit (j := a) (b := b) (Or.inl (by omega))
    rw [e1]; simp
def TR (f : Nat → Nat) : Prop := ∀ a b c, (f a).testBit b = true → (f b).testBit c = true → (f a).testBit c = true
def TRk (k : Nat) (f : Nat → Nat) : Prop := ∀ b, b < k → ∀ a c, (f a).testBit b = true → (f b).testBit c = true → (f a).testBit c = true
theorem clR_TR {n k : Nat} {f : Nat → Nat} (h : MS n f) (t : TRk k f) : TRk (k + 1) (itn (clI k) n 0 f) := by
  intro b hb a c h1 h2
  rw [clR_bit h] at h1 h2 ⊢
  simp only [Bool.or_eq_true, Bool.and_eq_true] at h1 h2 ⊢
  by_cases e : b = k
  · subst e
    have g1 : (f a).testBit b = true := by
      rcases h1 with q | q
      · exact q
      · exact q.1
    have g2 : (f b).testBit c = true := by
      rcases h2 with q | q
      · exact q
      · exact q.2
    exact Or.inr ⟨g1, g2⟩
  · have hk : b < k := by omega
    rcases h1 with q | ⟨q1, q2⟩
    · rcases h2 with r | ⟨r1, r2⟩
      · exact Or.inl (t b hk a c q r)
      · exact Or.inr ⟨t b hk a k q r1, r2⟩
    · rcases h2 with r | ⟨r1, r2⟩
      · exact Or.inr ⟨q1, t b hk k c q2 r⟩
      · exact Or.inr ⟨q1, r2⟩
theorem clF_TR {n : Nat} {f : Nat → Nat} (h : MS n f) : TR (clF n f) := by
  have key : MS n (clF n f) ∧ TRk n (clF n f) := itn_inv (fun b f => itn (clI b) n 0 f) (fun k f => MS n f ∧ TRk k f) n (fun i f hf _ => ⟨clR_MS n hf.1, clR_TR hf.1 hf.2⟩) n 0 f (by omega) ⟨h, fun b hb => absurd hb (Nat.not_lt_zero b)⟩
  intro a b c h1 h2
  rcases Nat.lt_or_ge b n with q | q
  · exact key.2 b q a c h1 h2
  · rw [key.1.bit (Or.inr q)] at h1
    cases h1
theorem ovF_TR {A B T : Nat → Nat} {n m : Nat} (hb : BO A B T n m) : TR (ovF A B T n m) := clF_TR (lnF_MS hb)
theorem rbF_bit {f : Nat → Nat} {a : Nat} : ∀ k, (rbF f k).testBit a = (decide (a < k) && (f a).testBit a)
  | 0 => by simp [rbF, itn]
  | k + 1 => by
    have ih := rbF_bit (f := f) (a := a) k
    unfold rbF at ih ⊢
    rw [itn_e, Nat.zero_add]
    generalize itn (rbI f) k 0 0 = v at ih
    unfold rbI
    by_cases ha : a = k
    · subst ha
      cases hb : (f a).testBit a
      · simp [ih, hb]
      · simp [Nat.testBit_or]
    · have e : decide (a < k + 1) = decide (a < k) := by
        by_cases hz : a < k
        · simp [hz]; omega
        · have : ¬ a < k + 1 := by omega
          simp [hz, this]
      rw [e]
      have hne : ¬ k = a := fun z => ha z.symm
      cases hb : (f k).testBit k
      · simp [ih]
      · simp only [if_true]
        rw [Nat.testBit_or, bit_pow, ih]
        simp [hne]
theorem rbF_zero {f : Nat → Nat} {n : Nat} (h : MS n f) : rbF f n = 0 ↔ ∀ a, (f a).testBit a = false := by
  constructor
  · intro hz a
    rcases Nat.lt_or_ge a n with q | q
    · have := rbF_bit (f := f) (a := a) n
      rw [hz, Nat.zero_testBit, decide_eq_true q, Bool.true_and] at this
      exact this.symm
    · exact h.bit (Or.inl q)
  · intro hz
    apply Nat.eq_of_testBit_eq
    intro i
    rw [rbF_bit, hz, Nat.zero_testBit, Bool.and_false]
theorem pc_lt {n X Y a : Nat} (h : ∀ i, X.testBit i = true → Y.testBit i = true) (ha : a < n) (hY : Y.testBit a = true) (hX : X.testBit a = false) : pc n X < pc n Y := by
  have e := pc_out ha hY
  have : pc n X ≤ pc n (anot Y (2 ^ a)) := by
    unfold pc
    refine sN_le n (fun i _ => ?_)
    cases hx : X.testBit i
    · exact Nat.zero_le _
    · have hne : ¬ a = i := fun z => by rw [z, hx] at hX; cases hX
      rw [anot_bit, h i hx, bit_pow, decide_eq_false hne]
      exact Nat.le_refl _
  omega
theorem free_ex {f : Nat → Nat} {n P : Nat} (hf : MS n f) (tr : TR f) (ir : ∀ a, (f a).testBit a = false) (hP : pc n P < n) : ∃ s, s < n ∧ P.testBit s = false ∧ wU (unF n f) s P = 0 := by
  have key : ∀ m s, s < n → P.testBit s = false → pc n (anot (unF n f s) P) ≤ m → ∃ s, s < n ∧ P.testBit s = false ∧ wU (unF n f) s P = 0 := by
    intro m
    induction m with
    | zero =>
      intro s hs hb hm
      refine ⟨s, hs, hb, ?_⟩
      unfold wU
      rw [if_pos (pc_pos (anot_le _ _ ((unF_MS hf) s).1) (by omega))]
    | succ m ih =>
      intro s hs hb hm
      by_cases hz : wU (unF n f) s P = 0
      · exact ⟨s, hs, hb, hz⟩
      · have hne : ∃ a, (anot (unF n f s) P).testBit a = true := Nat.exists_testBit_of_ne_zero (fun z => hz (by unfold wU; rw [if_pos z]))
        obtain ⟨a, ha⟩ := hne
        have ha0 := ha
        rw [anot_bit, Bool.and_eq_true, Bool.not_eq_true', unF_bit hf] at ha
        have han : a < n := by
          rcases Nat.lt_or_ge a n with q | q
          · exact q
          · rw [hf.bit (Or.inl q)] at ha; cases ha.1
        refine ih a han ha.2 ?_
        have := pc_lt (n := n) (X := anot (unF n f a) P) (Y := anot (unF n f s) P) (a := a) (fun i hi => ?_) han ha0 ?_
        · omega
        · rw [anot_bit, Bool.and_eq_true, unF_bit hf] at hi
          rw [anot_bit, unF_bit hf, tr i a s hi.1 ha.1, hi.2]
          rfl
        · rw [anot_bit, unF_bit hf, ir a]
          rfl
  obtain ⟨s, h1, h2⟩ := pc_gap (P := P) n hP
  exact key _ s h1 h2 (Nat.le_refl _)
theorem Tm_zero {f : Nat → Nat} {n : Nat} (hf : MS n f) (tr : TR f) (ir : ∀ a, (f a).testBit a = false) : ∀ k P, k + pc n P = n → Tm (wU (unF n f)) n k P = 0
  | 0, _, _ => rfl
  | k + 1, P, h => by
    obtain ⟨s, h1, h2, h3⟩ := free_ex hf tr ir (P := P) (by omega)
    have e := pc_put h1 h2
    have q := Tm_zero hf tr ir k (P ||| 2 ^ s) (by omega)
    have q2 := Tm_le (w := wU (unF n f)) (k := k) h1 h2
    omega
theorem fst1_cong {p q : Nat → Bool} : ∀ k s, (∀ j, s ≤ j → j < s + k → p j = q j) → fst1 p k s = fst1 q k s
  | 0, _, _ => rfl
  | k + 1, s, h => by
    rw [fst1, fst1, h s (by omega) (by omega), fst1_cong k (s + 1) (fun j h1 h2 => h j (by omega) (by omega))]
def free (U : Nat → Nat) (P s : Nat) : Bool := !P.testBit s && (anot (U s) P == 0)
theorem bst_free {f : Nat → Nat} {n k P : Nat} (hf : MS n f) (tr : TR f) (ir : ∀ a, (f a).testBit a = false) (h : k + 1 + pc n P = n) : fst1 (bst (wU (unF n f)) n k P) n 0 = fst1 (free (unF n f) P) n 0 := by
  refine fst1_cong n 0 (fun j _ hj => ?_)
  unfold bst free
  rw [Tm_zero hf tr ir (k + 1) P h]
  cases hb : P.testBit j
  · have e := pc_put (n := n) (by omega) hb
    rw [Tm_zero hf tr ir k _ (by omega), Nat.add_zero]
    unfold wU
    by_cases hz : anot (unF n f j) P = 0
    · rw [if_pos hz, hz]
    · rw [if_neg hz]
      have : (anot (unF n f j) P == 0) = false := by simp [hz]
      rw [this]; rfl
  · rfl
/-- the first order, place by place -/
theorem gc_po {w : Nat → Nat → Nat} {n : Nat} (hw : ∀ s P, w s P ≤ 6) (hn0 : 0 < n) (hn : n ≤ 6) : px n (gc w n n 0) n = 2 ^ n - 1 ∧ ∀ i, i < n → (pc n (px n (gc w n n 0) i) = i ∧ po n (gc w n n 0) i = fst1 (bst w n (n - 1 - i) (px n (gc w n n 0) i)) n 0) := by
  have h0 := gc_is hw hn n 0 (Nat.two_pow_pos n) (by rw [pc_zero]; omega)
  have hfull := (pv_full hn0).mp h0.2.1
  refine ⟨hfull, ?_⟩
  generalize hG : gc w n n 0 = G at h0 hfull ⊢
  have hpc : ∀ i, i ≤ n → pc n (px n G i) = i := by
    intro i
    induction i with
    | zero => intro _; exact pc_zero
    | succ i ih =>
      intro hi
      rw [px, pc_put (po_lt hn0) (px_inj hn0 hfull (by omega)), ih (by omega)]
  have key : ∀ i, i ≤ n → ∀ j, j < n - i → dg n j G = dg n j (gc w n (n - i) (px n G i)) := by
    intro i
    induction i with
    | zero =>
      intro _ j _
      rw [show px n G 0 = 0 from rfl, Nat.sub_zero, hG]
    | succ i ih =>
      intro hi j hj
      obtain ⟨k, hk⟩ : ∃ k, n - i = k + 1 := ⟨n - i - 1, by omega⟩
      have e1 : n - (i + 1) = k := by omega
      have hpi := hpc i (by omega)
      have b := bst_is (k := k) (P := px n G i) hw hn (by omega)
      have hP := or_lt (px_lt (c := G) hn0 i) b.1
      have hpp := pc_put b.1 b.2.1
      have gk := gc_is hw hn k (px n G i ||| 2 ^ fst1 (bst w n k (px n G i)) n 0) hP (by omega)
      have ihk := ih (by omega) k (by omega)
      have ihj := ih (by omega) j (by omega)
      rw [hk] at ihk ihj
      rw [gc] at ihk ihj
      rw [dg_hi gk.1 b.1] at ihk
      rw [dg_lo hn0 (by omega)] at ihj
      have epo : po n G i = fst1 (bst w n k (px n G i)) n 0 := by
        unfold po
        rw [show n - 1 - i = k by omega]
        exact ihk
      rw [e1, px, epo]
      exact ihj
  intro i hi
  refine ⟨hpc i (by omega), ?_⟩
  have hpi := hpc i (by omega)
  have b := bst_is (k := n - 1 - i) (P := px n G i) hw hn (by omega)
  have hP := or_lt (px_lt (c := G) hn0 i) b.1
  have hpp := pc_put b.1 b.2.1
  have gk := gc_is hw hn (n - 1 - i) (px n G i ||| 2 ^ fst1 (bst w n (n - 1 - i) (px n G i)) n 0) hP (by omega)
  have q := key i (by omega) (n - 1 - i) (by omega)
  have e1 : n - i = (n - 1 - i) + 1 := by omega
  rw [e1, gc, dg_hi gk.1 b.1] at q
  exact q
