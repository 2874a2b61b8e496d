/-! wanted: known out of bits; how many orders are in a set, by the class -/
def kfI (b a c s : Nat) : Nat := if ¬ a = c ∧ b.testBit (bo a c) = true then s ||| 2 ^ c else s
def kf (b : Nat) : Nat → Nat := fun a => if a < 4 then itn (kfI b a) 4 0 0 else 0
section WN8
variable {f : Nat → Nat} {n a b c o q w : Nat}
theorem kfI_bit {i : Nat} (k s : Nat) : (itn (kfI b a) k 0 s).testBit i = true ↔ s.testBit i = true ∨ (i < k ∧ ¬ a = i ∧ b.testBit (bo a i) = true) := by
  induction k with
  | zero => exact ⟨Or.inl, fun z => z.elim id (fun y => absurd y.1 (Nat.not_lt_zero i))⟩
  | succ k ih =>
    rw [itn_e, Nat.zero_add]
    generalize itn (kfI b a) k 0 s = t at ih ⊢
    unfold kfI
    constructor
    · intro z
      split at z
      · next hk =>
        rw [Nat.testBit_or, Bool.or_eq_true, bit_pow, decide_eq_true_eq] at z
        rcases z with z | z
        · rcases ih.mp z with y | ⟨y1, y2⟩
          · exact Or.inl y
          · exact Or.inr ⟨by omega, y2⟩
        · subst z
          exact Or.inr ⟨by omega, hk⟩
      · rcases ih.mp z with y | ⟨y1, y2⟩
        · exact Or.inl y
        · exact Or.inr ⟨by omega, y2⟩
    · intro z
      have old : (s.testBit i = true ∨ (i < k ∧ ¬ a = i ∧ b.testBit (bo a i) = true)) → (if ¬ a = k ∧ b.testBit (bo a k) = true then t ||| 2 ^ k else t).testBit i = true := by
        intro y
        have y2 := ih.mpr y
        split
        · rw [Nat.testBit_or, y2]
          rfl
        · exact y2
      rcases z with z | ⟨z1, z2, z3⟩
      · exact old (Or.inl z)
      · by_cases e : i = k
        · subst e
          rw [if_pos ⟨z2, z3⟩, Nat.testBit_or, bit_pow, decide_eq_true rfl, Bool.or_true]
        · exact old (Or.inr ⟨by omega, z2, z3⟩)
theorem kf_bit {i : Nat} : (kf b a).testBit i = true ↔ a < 4 ∧ i < 4 ∧ ¬ a = i ∧ b.testBit (bo a i) = true := by
  unfold kf
  split
  · next h =>
    rw [kfI_bit, Nat.zero_testBit]
    constructor
    · rintro (z | z)
      · cases z
      · exact ⟨h, z⟩
    · intro z
      exact Or.inr z.2
  · next h =>
    rw [Nat.zero_testBit]
    exact ⟨fun z => (by cases z), fun z => absurd z.1 h⟩
theorem kf_kb (h : N3 n) (hf : PO n f) : kf (kb f) = f := by
  have h4 := h.le
  funext a
  apply Nat.eq_of_testBit_eq
  intro i
  rw [Bool.eq_iff_iff, kf_bit]
  constructor
  · rintro ⟨h1, h2, h3, h5⟩
    rw [kb_at h1 h2 h3] at h5
    exact h5
  · intro z
    have l := hf.lt z
    have hne : ¬ a = i := fun e => by
      rw [e, hf.2.2] at z
      cases z
    exact ⟨by omega, by omega, hne, by rw [kb_at (by omega) (by omega) hne]; exact z⟩
def bcO (n : Nat) : Bool := (List.range 4096).all (fun b => bcF (wsF (kf b) n : Int) == (pc 24 (wsF (kf b) n) : Int))
theorem bcO_ok {n : Nat} (h : N3 n) : bcO n = true := by
  rcases h with rfl | rfl | rfl <;> decide +kernel
theorem bc_set (h : N3 n) (hf : PO n f) : bcF (wsF f n : Int) = (cntV f n : Int) := by
  have t := all_r (bcO_ok h) (kb_lt (f := f))
  rw [beq_iff_eq, kf_kb h hf] at t
  rw [t]
  unfold cntV
  rw [st_cnt h hf]
end WN8
