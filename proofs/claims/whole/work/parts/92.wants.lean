/-! wanted: whether all orders agree; what is known as bits -/
def awI (f : Nat → Nat) (n w c : Nat) (s : Int × Bool × Nat) : Int × Bool × Nat := if vl f n c then ((wn n w c : Int), s.2.1 && (decide (s.1 < 0) || decide ((wn n w c : Int) = s.1)), s.2.2 + 1) else s
def awF (f : Nat → Nat) (n w N : Nat) : Int × Bool × Nat := itn (awI f n w) N 0 (-1, true, 0)
def agB (f : Nat → Nat) (n w : Nat) : Bool := (awF f n w (n ^ n)).2.1
def cntV (f : Nat → Nat) (n : Nat) : Nat := (fdF f n (n ^ n)).1
section WN3
variable {f : Nat → Nat} {n a b c o q w : Nat}
theorem awF_3 : ∀ N, (awF f n w N).2.2 = (fdF f n N).1
  | 0 => rfl
  | N + 1 => by
    have ih := awF_3 N
    unfold awF fdF at ih ⊢
    rw [itn_e, itn_e, Nat.zero_add]
    generalize itn (awI f n w) N 0 (-1, true, 0) = s at ih ⊢
    generalize itn (fdI f n) N 0 (0, -1, fun _ => 0) = t at ih ⊢
    unfold awI fdI
    split
    · rw [ih]
    · exact ih
theorem awF_inv : ∀ N, (((awF f n w N).1 = -1 ∧ ∀ c, c < N → vl f n c = false) ∨ ∃ c0, c0 < N ∧ vl f n c0 = true ∧ (awF f n w N).1 = (wn n w c0 : Int)) ∧ ((awF f n w N).2.1 = true ↔ ∀ c1 c2, c1 < N → c2 < N → vl f n c1 = true → vl f n c2 = true → wn n w c1 = wn n w c2)
  | 0 => ⟨Or.inl ⟨rfl, fun c h => absurd h (Nat.not_lt_zero c)⟩, fun _ c1 _ h => absurd h (Nat.not_lt_zero c1), fun _ => rfl⟩
  | N + 1 => by
    have ih := awF_inv N
    unfold awF at ih ⊢
    rw [itn_e, Nat.zero_add]
    generalize itn (awI f n w) N 0 (-1, true, 0) = s at ih ⊢
    obtain ⟨i1, i2⟩ := ih
    unfold awI
    cases hv : vl f n N
    · rw [if_neg Bool.false_ne_true]
      refine ⟨?_, i2.trans ⟨fun h c1 c2 l1 l2 v1 v2 => ?_, fun h c1 c2 l1 l2 => h c1 c2 (by omega) (by omega)⟩⟩
      · rcases i1 with ⟨z1, z2⟩ | ⟨c0, z1, z2, z3⟩
        · refine Or.inl ⟨z1, fun c hc => ?_⟩
          by_cases e : c = N
          · rw [e]
            exact hv
          · exact z2 c (by omega)
        · exact Or.inr ⟨c0, by omega, z2, z3⟩
      · have n1 : ¬ c1 = N := fun z => by rw [z, hv] at v1; cases v1
        have n2 : ¬ c2 = N := fun z => by rw [z, hv] at v2; cases v2
        exact h c1 c2 (by omega) (by omega) v1 v2
    · rw [if_pos rfl]
      refine ⟨Or.inr ⟨N, by omega, hv, rfl⟩, ?_⟩
      try dsimp only
      rw [Bool.and_eq_true, Bool.or_eq_true, decide_eq_true_eq, decide_eq_true_eq, i2]
      constructor
      · rintro ⟨h1, h2⟩ c1 c2 l1 l2 v1 v2
        have key : ∀ c, c < N → vl f n c = true → wn n w c = wn n w N := by
          intro c hc hcv
          rcases i1 with ⟨z1, z2⟩ | ⟨c0, z1, z2, z3⟩
          · rw [z2 c hc] at hcv
            cases hcv
          · have e0 : wn n w N = wn n w c0 := by omega
            rw [e0]
            exact h1 c c0 hc z1 hcv z2
        by_cases e1 : c1 = N
        · by_cases e2 : c2 = N
          · rw [e1, e2]
          · rw [e1]
            exact (key c2 (by omega) v2).symm
        · by_cases e2 : c2 = N
          · rw [e2]
            exact key c1 (by omega) v1
          · exact h1 c1 c2 (by omega) (by omega) v1 v2
      · intro h
        refine ⟨fun c1 c2 l1 l2 => h c1 c2 (by omega) (by omega), ?_⟩
        rcases i1 with ⟨z1, z2⟩ | ⟨c0, z1, z2, z3⟩
        · exact Or.inl (by omega)
        · refine Or.inr ?_
          rw [z3, h N c0 (by omega) (by omega) hv z2]
theorem agB_iff : agB f n w = true ↔ ∀ c1 c2, c1 < n ^ n → c2 < n ^ n → vl f n c1 = true → vl f n c2 = true → wn n w c1 = wn n w c2 := (awF_inv (n ^ n)).2
/-- what is known, as bits -/
def bo (a b : Nat) : Nat := 3 * a + (if b < a then b else b - 1)
def kbI (f : Nat → Nat) (a b s : Nat) : Nat := if ¬ a = b ∧ (f a).testBit b = true then s ||| 2 ^ bo a b else s
def kb (f : Nat → Nat) : Nat := itn (fun a s => itn (kbI f a) 4 0 s) 4 0 0
theorem kbI_bit {i : Nat} (k s : Nat) : (itn (kbI f a) k 0 s).testBit i = true ↔ s.testBit i = true ∨ ∃ b, b < k ∧ ¬ a = b ∧ (f a).testBit b = true ∧ bo a b = i := by
  induction k with
  | zero => exact ⟨Or.inl, fun z => z.elim id (fun ⟨b, h, _⟩ => absurd h (Nat.not_lt_zero b))⟩
  | succ k ih =>
    rw [itn_e, Nat.zero_add]
    generalize itn (kbI f a) k 0 s = t at ih ⊢
    unfold kbI
    constructor
    · intro z
      split at z
      · next hk =>
        rw [Nat.testBit_or, Bool.or_eq_true, bit_pow, decide_eq_true_eq] at z
        rcases z with z | z
        · rcases ih.mp z with y | ⟨b, y1, y2⟩
          · exact Or.inl y
          · exact Or.inr ⟨b, by omega, y2⟩
        · exact Or.inr ⟨k, by omega, hk.1, hk.2, z⟩
      · rcases ih.mp z with y | ⟨b, y1, y2⟩
        · exact Or.inl y
        · exact Or.inr ⟨b, by omega, y2⟩
    · intro z
      have old : (s.testBit i = true ∨ ∃ b, b < k ∧ ¬ a = b ∧ (f a).testBit b = true ∧ bo a b = i) → (if ¬ a = k ∧ (f a).testBit k = true then t ||| 2 ^ bo a k else t).testBit i = true := by
        intro y
        have y2 := ih.mpr y
        split
        · rw [Nat.testBit_or, y2]
          rfl
        · exact y2
      rcases z with z | ⟨b, z1, z2, z3, z4⟩
      · exact old (Or.inl z)
      · by_cases e : b = k
        · subst e
          rw [if_pos ⟨z2, z3⟩, Nat.testBit_or, bit_pow, z4, decide_eq_true rfl, Bool.or_true]
        · exact old (Or.inr ⟨b, by omega, z2, z3, z4⟩)
theorem kb_in {i : Nat} (k : Nat) : (itn (fun a s => itn (kbI f a) 4 0 s) k 0 0).testBit i = true ↔ ∃ a b, a < k ∧ b < 4 ∧ ¬ a = b ∧ (f a).testBit b = true ∧ bo a b = i := by
  induction k with
  | zero =>
    rw [itn, Nat.zero_testBit]
    exact ⟨fun z => (by cases z), fun ⟨a, b, h, _⟩ => absurd h (Nat.not_lt_zero a)⟩
  | succ k ih =>
    rw [itn_e, Nat.zero_add, kbI_bit, ih]
    constructor
    · rintro (⟨a, b, h1, h2⟩ | ⟨b, h1, h2⟩)
      · exact ⟨a, b, by omega, h2⟩
      · exact ⟨k, b, by omega, h1, h2⟩
    · rintro ⟨a, b, h1, h2⟩
      by_cases e : a = k
      · subst e
        exact Or.inr ⟨b, h2⟩
      · exact Or.inl ⟨a, b, by omega, h2⟩
theorem bo_inj {x y : Nat} (ha : a < 4) (hb : b < 4) (hx : x < 4) (hy : y < 4) (h1 : ¬ a = b) (h2 : ¬ x = y) (e : bo a b = bo x y) : a = x ∧ b = y := by
  unfold bo at e
  split at e <;> split at e <;> omega
theorem bo_lt (ha : a < 4) (hb : b < 4) (h1 : ¬ a = b) : bo a b < 12 := by
  unfold bo
  split <;> omega
theorem kb_at (ha : a < 4) (hb : b < 4) (h1 : ¬ a = b) : (kb f).testBit (bo a b) = (f a).testBit b := by
  rw [Bool.eq_iff_iff]
  unfold kb
  rw [kb_in]
  constructor
  · rintro ⟨x, y, x1, x2, x3, x4, x5⟩
    obtain ⟨e1, e2⟩ := bo_inj x1 x2 ha hb x3 h1 x5
    rw [← e1, ← e2]
    exact x4
  · intro z
    exact ⟨a, b, ha, hb, h1, z, rfl⟩
theorem kb_lt : kb f < 4096 := lt_bits (k := 12) (fun i hi => by
  cases h : (kb f).testBit i
  · rfl
  · unfold kb at h
    obtain ⟨x, y, x1, x2, x3, x4, x5⟩ := (kb_in 4).mp h
    have := bo_lt x1 x2 x3
    omega)
def nb (f : Nat → Nat) : Nat := pc 12 (kb f)
def bi (b : Bool) : Nat := if b then 1 else 0
theorem nb_eq : nb f = bi ((f 0).testBit 1) + bi ((f 0).testBit 2) + bi ((f 0).testBit 3) + bi ((f 1).testBit 0) + bi ((f 1).testBit 2) + bi ((f 1).testBit 3) + bi ((f 2).testBit 0) + bi ((f 2).testBit 1) + bi ((f 2).testBit 3) + bi ((f 3).testBit 0) + bi ((f 3).testBit 1) + bi ((f 3).testBit 2) := by
  have e : nb f = 0 + bi ((kb f).testBit 0) + bi ((kb f).testBit 1) + bi ((kb f).testBit 2) + bi ((kb f).testBit 3) + bi ((kb f).testBit 4) + bi ((kb f).testBit 5) + bi ((kb f).testBit 6) + bi ((kb f).testBit 7) + bi ((kb f).testBit 8) + bi ((kb f).testBit 9) + bi ((kb f).testBit 10) + bi ((kb f).testBit 11) := rfl
  rw [e, Nat.zero_add]
  have k := fun a b ha hb h1 => kb_at (f := f) (a := a) (b := b) ha hb h1
  rw [← k 0 1 (by decide) (by decide) (by decide), ← k 0 2 (by decide) (by decide) (by decide), ← k 0 3 (by decide) (by decide) (by decide), ← k 1 0 (by decide) (by decide) (by decide), ← k 1 2 (by decide) (by decide) (by decide), ← k 1 3 (by decide) (by decide) (by decide), ← k 2 0 (by decide) (by decide) (by decide), ← k 2 1 (by decide) (by decide) (by decide), ← k 2 3 (by decide) (by decide) (by decide), ← k 3 0 (by decide) (by decide) (by decide), ← k 3 1 (by decide) (by decide) (by decide), ← k 3 2 (by decide) (by decide) (by decide)]
  rfl
theorem bi_as (hf : PO n f) (a b : Nat) : bi ((f a).testBit b) + bi ((f b).testBit a) ≤ 1 := by
  cases h : (f a).testBit b
  · cases (f b).testBit a <;> decide
  · rw [hf.asym h]
    decide
theorem bi_out (hf : PO n f) (h : n ≤ a ∨ n ≤ b) : bi ((f a).testBit b) = 0 := by
  rw [hf.1.bit h]
  rfl
theorem nb_open (h : N3 n) (hf : PO n f) (hab : a < b) (hb : b < n) (h1 : (f a).testBit b = false) (h2 : (f b).testBit a = false) : nb f + 1 ≤ n * (n - 1) / 2 := by
  rw [nb_eq]
  have a01 := bi_as hf 0 1
  have a02 := bi_as hf 0 2
  have a03 := bi_as hf 0 3
  have a12 := bi_as hf 1 2
  have a13 := bi_as hf 1 3
  have a23 := bi_as hf 2 3
  have z1 : bi ((f a).testBit b) = 0 := by rw [h1]; rfl
  have z2 : bi ((f b).testBit a) = 0 := by rw [h2]; rfl
  have out := fun a b h => bi_out (a := a) (b := b) hf h
  rcases h with rfl | rfl | rfl
  · have e : a = 0 ∧ b = 1 := by omega
    obtain ⟨rfl, rfl⟩ := e
    rw [out 0 2 (by omega), out 0 3 (by omega), out 1 2 (by omega), out 1 3 (by omega), out 2 0 (by omega), out 2 1 (by omega), out 2 3 (by omega), out 3 0 (by omega), out 3 1 (by omega), out 3 2 (by omega)]
    omega
  · have o3 := out 0 3 (by omega)
    have o13 := out 1 3 (by omega)
    have o23 := out 2 3 (by omega)
    have o30 := out 3 0 (by omega)
    have o31 := out 3 1 (by omega)
    have o32 := out 3 2 (by omega)
    have e : (a = 0 ∧ b = 1) ∨ (a = 0 ∧ b = 2) ∨ (a = 1 ∧ b = 2) := by omega
    rcases e with ⟨rfl, rfl⟩ | ⟨rfl, rfl⟩ | ⟨rfl, rfl⟩ <;> omega
  · have e : (a = 0 ∧ b = 1) ∨ (a = 0 ∧ b = 2) ∨ (a = 0 ∧ b = 3) ∨ (a = 1 ∧ b = 2) ∨ (a = 1 ∧ b = 3) ∨ (a = 2 ∧ b = 3) := by omega
    rcases e with ⟨rfl, rfl⟩ | ⟨rfl, rfl⟩ | ⟨rfl, rfl⟩ | ⟨rfl, rfl⟩ | ⟨rfl, rfl⟩ | ⟨rfl, rfl⟩ <;> omega
theorem nb_le (h : N3 n) (hf : PO n f) : nb f ≤ n * (n - 1) / 2 := by
  rw [nb_eq]
  have a01 := bi_as hf 0 1
  have a02 := bi_as hf 0 2
  have a03 := bi_as hf 0 3
  have a12 := bi_as hf 1 2
  have a13 := bi_as hf 1 3
  have a23 := bi_as hf 2 3
  have out := fun a b h => bi_out (a := a) (b := b) hf h
  rcases h with rfl | rfl | rfl
  · rw [out 0 2 (by omega), out 0 3 (by omega), out 1 2 (by omega), out 1 3 (by omega), out 2 0 (by omega), out 2 1 (by omega), out 2 3 (by omega), out 3 0 (by omega), out 3 1 (by omega), out 3 2 (by omega)]
    omega
  · have o3 := out 0 3 (by omega)
    have o13 := out 1 3 (by omega)
    have o23 := out 2 3 (by omega)
    have o30 := out 3 0 (by omega)
    have o31 := out 3 1 (by omega)
    have o32 := out 3 2 (by omega)
    omega
  · omega
theorem nb_ab (h : N3 n) (ha : a < n) (hb : b < n) (hab : ¬ a = b) (h1 : (f a).testBit b = false) : nb f + 1 ≤ nb (ab f n a b) := by
  have h4 := h.le
  refine pc_lt (n := 12) (X := kb f) (Y := kb (ab f n a b)) (a := bo a b) (fun i hi => ?_) (bo_lt (by omega) (by omega) hab) ?_ ?_
  · unfold kb at hi ⊢
    obtain ⟨x, y, x1, x2, x3, x4, x5⟩ := (kb_in 4).mp hi
    exact (kb_in 4).mpr ⟨x, y, x1, x2, x3, ab_up x4, x5⟩
  · rw [kb_at (by omega) (by omega) hab]
    exact ab_new
  · rw [kb_at (by omega) (by omega) hab]
    exact h1
theorem ah_all (h : N3 n) {x : Nat} (hx : x < 16) (ho : o < fc n) : (ah n x).testBit o = true ↔ bef n (rc n o) (x / 4) (x % 4) := by
  have := all_r (wkC_ok h) hx
  rw [Bool.and_eq_true] at this
  have t := all_r this.2 ho
  rw [beq_iff_eq] at t
  rw [t]
  exact befB_iff
theorem op_ex (h : N3 n) (hf : PO n f) (hag : agB f n w = false) : ∃ a b, a < b ∧ b < n ∧ (f a).testBit b = false ∧ (f b).testBit a = false := by
  have h4 := h.le
  refine Classical.byContradiction (fun hn => ?_)
  have cmp : ∀ a b, a < n → b < n → ¬ a = b → (f a).testBit b = true ∨ (f b).testBit a = true := by
    intro a b ha hb hab
    cases h1 : (f a).testBit b
    · cases h2 : (f b).testBit a
      · refine absurd ?_ hn
        rcases Nat.lt_or_ge a b with c | c
        · exact ⟨a, b, c, hb, h1, h2⟩
        · exact ⟨b, a, by omega, ha, h2, h1⟩
      · exact Or.inr rfl
    · exact Or.inl rfl
  have one : ∀ c1 c2 a b, vl f n c1 = true → vl f n c2 = true → bef n c1 a b → bef n c2 a b := by
    intro c1 c2 a b v1 v2 hb
    have k1 := (vl_char (by omega) hf.1).mp v1
    have k2 := (vl_char (by omega) hf.1).mp v2
    obtain ⟨p, q, p1, p2, p3, p4⟩ := hb
    have la : a < n := by rw [← p3]; exact po_lt (by omega)
    have lb : b < n := by rw [← p4]; exact po_lt (by omega)
    have hne : ¬ a = b := fun z => by
      have := po_ne (by omega) k1.1 (by omega) p2 (p3.trans (z.trans p4.symm))
      omega
    rcases cmp a b la lb hne with z | z
    · exact k2.2 a b z
    · exact absurd (k1.2 b a z) ((bef_tot (by omega) k1.1 la lb hne).mp ⟨p, q, p1, p2, p3, p4⟩)
  have : agB f n w = true := agB_iff.mpr (fun c1 c2 l1 l2 v1 v2 => by
    obtain ⟨o1, b1, e1⟩ := rc_ex h l1 ((vl_char (by omega) hf.1).mp v1).1
    obtain ⟨o2, b2, e2⟩ := rc_ex h l2 ((vl_char (by omega) hf.1).mp v2).1
    have eo : o1 = o2 := rc_key h b1 b2 (fun x hx => by
      rw [Bool.eq_iff_iff, ah_all h hx b1, ah_all h hx b2, e1, e2]
      exact ⟨one c1 c2 _ _ v1 v2, one c2 c1 _ _ v2 v1⟩)
    rw [← e1, ← e2, eo])
  rw [hag] at this
  cases this
end WN3
