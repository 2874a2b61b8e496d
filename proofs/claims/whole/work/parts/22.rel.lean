/-! how the two stand to each other -/
/-- a barn is as it must be -/
def VB (h : HH) (b : Nat) : Prop := (2 ≤ h b 0 ∧ h b 0 ≤ 6) ∧ (0 ≤ h b 2 ∧ h b 2 < 6) ∧ (0 ≤ h b 3 ∧ h b 3 ≤ 9) ∧ (0 ≤ h b 4 ∧ h b 4 ≤ 24) ∧ (0 ≤ h b 8 ∧ h b 8 ≤ 12) ∧ (∀ j, j < 6 → 0 ≤ h (b + 1) j ∧ h (b + 1) j ≤ 99) ∧ (∀ i : Nat, (i : Int) < h b 4 → (0 ≤ h (b + 2) i ∧ h (b + 2) i < h b 0) ∧ (0 ≤ h (b + 3) i ∧ h (b + 3) i < h b 0) ∧ h (b + 2) i ≠ h (b + 3) i ∧ (0 ≤ h (b + 4) i ∧ h (b + 4) i ≤ 2)) ∧ (∀ i : Nat, (i : Int) < h b 8 → 0 ≤ h (b + 5) i ∧ h (b + 5) i < h (b + 6) i ∧ h (b + 6) i < h b 0) ∧ (∀ a, a < 6 → 0 ≤ h (b + 7) a ∧ h (b + 7) a < 2 ^ (h b 0).toNat ∧ (h (b + 7) a).toNat.testBit a = false) ∧ (∀ a : Nat, a < 6 → h b 0 ≤ a → h (b + 7) a = 0)
/-- the barn that is now, and the reference's numbers -/
def EB (h : HH) : Prop := h 54 0 = h 1 0 ∧ h 54 1 = h 1 2 ∧ h 54 2 = h 1 3 ∧ h 54 3 = h 1 4 ∧ h 54 4 = h 1 8 ∧ (∀ j, j < 6 → h 55 j = h 2 j) ∧ (∀ j, j < 24 → h 56 j = h 3 j ∧ h 57 j = h 4 j ∧ h 58 j = h 5 j) ∧ (∀ j, j < 12 → h 60 j = h 6 j ∧ h 61 j = h 7 j) ∧ (∀ j, j < 6 → h 59 j = h 8 j)
/-- a barn, and a row of 113 numbers that tells it -/
def IB (h : HH) (b m : Nat) : Prop := h m 0 = h b 0 ∧ h m 1 = h b 2 ∧ h m 2 = h b 3 ∧ h m 3 = h b 4 ∧ h m 4 = h b 8 ∧ (∀ j, j < 6 → h m (5 + 2 * j) = h (b + 1) j ∧ h m (6 + 2 * j) = h (b + 7) j) ∧ (∀ j, j < 24 → h m (17 + 3 * j) = h (b + 2) j ∧ h m (18 + 3 * j) = h (b + 3) j ∧ h m (19 + 3 * j) = h (b + 4) j) ∧ (∀ j, j < 12 → h m (89 + 2 * j) = h (b + 5) j ∧ h m (90 + 2 * j) = h (b + 6) j)
/-- all else that stays -/
def XB (h : HH) : Prop := h 54 24 = h 0 2 ∧ (h 0 2 = 0 ∨ (h 0 2 = 1 ∧ VB h 9 ∧ IB h 9 68)) ∧ h 54 15 = h 17 1 ∧ (0 ≤ h 17 1 ∧ h 17 1 ≤ 96) ∧ (∀ j, j < 96 → h 63 j = h 18 j ∧ 0 ≤ h 18 j ∧ h 18 j ≤ 255) ∧ h 54 48 = h 0 11 ∧ (0 ≤ h 0 11 ∧ h 0 11 ≤ 12) ∧ (∀ j, j < 12 → h 82 j = h 52 j ∧ 0 ≤ h 52 j ∧ h 52 j ≤ 9) ∧ (∀ j, j < 7 → h 62 j = h 53 j)
def RE (h : HH) : Prop := VB h 1 ∧ EB h ∧ XB h
/-- what is written anew before it is read -/
def scr (a k : Nat) : Bool := (decide (19 ≤ a) && decide (a ≤ 30)) || (decide (37 ≤ a) && decide (a ≤ 51)) || (decide (64 ≤ a) && decide (a ≤ 67)) || (decide (69 ≤ a) && decide (a ≤ 81)) || (decide (a = 54) && (decide (k = 12) || decide (k = 16) || decide (k = 17) || decide (k = 18) || decide (k = 25) || decide (k = 26) || decide (k = 27) || decide (k = 30) || decide (k = 31) || decide (k = 35) || decide (k = 36) || decide (k = 39) || decide (k = 45)))
def Fq (h h' : HH) : Prop := ∀ a k, scr a k = false → h' a k = h a k
theorem Fq.rf {h : HH} : Fq h h := fun _ _ _ => rfl
theorem Fq.tr {h h1 h2 : HH} (a : Fq h h1) (b : Fq h1 h2) : Fq h h2 := fun i k hi => (b i k hi).trans (a i k hi)
theorem Fq.put {h h' : HH} (f : Fq h h') {a k : Nat} {v : Int} (hs : scr a k = true) : Fq h (hput h' a k v) := by
  intro i j hi
  rw [hput_ne, f i j hi]
  by_cases h1 : i = a
  · right
    intro h2
    rw [h1, h2, hs] at hi
    cases hi
  · exact Or.inl h1
theorem Fq.set {h h' : HH} (f : Fq h h') {a : Nat} {g : Nat → Int} (hs : ∀ k, scr a k = true) : Fq h (hset h' a g) := by
  intro i j hi
  by_cases h1 : i = a
  · rw [h1, hs] at hi
    cases hi
  · unfold hset
    rw [if_neg h1, f i j hi]
theorem Fq.row {h h' : HH} (f : Fq h h') {a : Nat} (hs : ∀ k, scr a k = false) : h' a = h a := funext (fun k => f a k (hs k))
theorem Fq.at {h h' : HH} (f : Fq h h') (a k : Nat) (hs : scr a k = false) : h' a k = h a k := f a k hs
theorem scr_lo {a : Nat} (h : a ≤ 18 ∨ (31 ≤ a ∧ a ≤ 36) ∨ a = 52 ∨ a = 53 ∨ (55 ≤ a ∧ a ≤ 63) ∨ a = 68 ∨ 82 ≤ a) (k : Nat) : scr a k = false := by
  unfold scr
  simp only [Bool.or_eq_false_iff, Bool.and_eq_false_iff, decide_eq_false_iff_not]
  omega
theorem VB.fq {h h' : HH} (f : Fq h h') {b : Nat} (hb : b ≤ 11) (v : VB h b) : VB h' b := by
  unfold VB at *
  have e0 := f.row (a := b) (scr_lo (by omega))
  have e1 := f.row (a := b + 1) (scr_lo (by omega))
  have e2 := f.row (a := b + 2) (scr_lo (by omega))
  have e3 := f.row (a := b + 3) (scr_lo (by omega))
  have e4 := f.row (a := b + 4) (scr_lo (by omega))
  have e5 := f.row (a := b + 5) (scr_lo (by omega))
  have e6 := f.row (a := b + 6) (scr_lo (by omega))
  have e7 := f.row (a := b + 7) (scr_lo (by omega))
  rw [e0, e1, e2, e3, e4, e5, e6, e7]
  exact v
theorem RE.fq {h h' : HH} (f : Fq h h') (v : RE h) : RE h' := by
  obtain ⟨v1, v2, v3⟩ := v
  have r : ∀ a, (a ≤ 18 ∨ (31 ≤ a ∧ a ≤ 36) ∨ a = 52 ∨ a = 53 ∨ (55 ≤ a ∧ a ≤ 63) ∨ a = 68 ∨ 82 ≤ a) → h' a = h a := fun a ha => f.row (scr_lo ha)
  have m : ∀ k, (k ≤ 4 ∨ k = 15 ∨ k = 24 ∨ k = 48) → h' 54 k = h 54 k := by
    intro k hk
    refine f 54 k ?_
    rcases hk with z | z | z | z
    · unfold scr
      simp only [Bool.or_eq_false_iff, Bool.and_eq_false_iff, decide_eq_false_iff_not]
      omega
    · subst z; rfl
    · subst z; rfl
    · subst z; rfl
  refine ⟨v1.fq f (by omega), ?_, ?_⟩
  · unfold EB at *
    rw [m 0 (by omega), m 1 (by omega), m 2 (by omega), m 3 (by omega), m 4 (by omega), r 1 (by omega), r 2 (by omega), r 3 (by omega), r 4 (by omega), r 5 (by omega), r 6 (by omega), r 7 (by omega), r 8 (by omega), r 55 (by omega), r 56 (by omega), r 57 (by omega), r 58 (by omega), r 59 (by omega), r 60 (by omega), r 61 (by omega)]
    exact v2
  · unfold XB at *
    rw [m 24 (by omega), m 15 (by omega), m 48 (by omega), r 0 (by omega), r 17 (by omega), r 18 (by omega), r 63 (by omega), r 82 (by omega), r 52 (by omega), r 53 (by omega), r 62 (by omega)]
    refine ⟨v3.1, ?_, v3.2.2⟩
    rcases v3.2.1 with z | ⟨z1, z2, z3⟩
    · exact Or.inl z
    · refine Or.inr ⟨z1, z2.fq f (by omega), ?_⟩
      unfold IB at *
      rw [r 68 (by omega), r 9 (by omega), r (9 + 1) (by omega), r (9 + 2) (by omega), r (9 + 3) (by omega), r (9 + 4) (by omega), r (9 + 5) (by omega), r (9 + 6) (by omega), r (9 + 7) (by omega)]
      exact z3
/-- rows that these calls leave alone: what is wanted's, and what the cells are not -/
def KW (h h' : HH) : Prop := ∀ a, (31 ≤ a ∧ a ≤ 36) ∨ 83 ≤ a → h' a = h a
theorem KW.rf {h : HH} : KW h h := fun _ _ => rfl
theorem KW.fq {h h' : HH} (f : Fq h h') : KW h h' := fun a ha => f.row (scr_lo (by omega))
theorem KW.tr {h h1 h2 : HH} (a : KW h h1) (b : KW h1 h2) : KW h h2 := fun i hi => (b i hi).trans (a i hi)
theorem KW.put {h h' : HH} (f : KW h h') {a k : Nat} {v : Int} (ha : ¬ ((31 ≤ a ∧ a ≤ 36) ∨ 83 ≤ a)) : KW h (hput h' a k v) := by
  intro i hi
  rw [hput_row (fun z => ha (by rw [← z]; exact hi)), f i hi]
/-- both have counted a refusal -/
theorem RE.refuse {h : HH} (v : RE h) (k : Nat) (t : Int) : RE (hput (hput (hput h 53 k (w32 (h 53 k + 1))) 54 12 t) 62 k (w32 (h 62 k + 1))) := by
  obtain ⟨v1, v2, v3⟩ := v
  refine ⟨?_, ?_, ?_⟩
  · unfold VB at *
    simp only [hput_at, Nat.reduceAdd, Nat.reduceEqDiff, false_and, if_false]
    exact v1
  · unfold EB at *
    simp only [hput_at, Nat.reduceAdd, Nat.reduceEqDiff, false_and, and_false, if_false]
    exact v2
  · unfold XB VB IB at *
    simp only [hput_at, Nat.reduceAdd, Nat.reduceEqDiff, false_and, and_false, if_false, true_and]
    refine ⟨v3.1, v3.2.1, v3.2.2.1, v3.2.2.2.1, v3.2.2.2.2.1, v3.2.2.2.2.2.1, v3.2.2.2.2.2.2.1, v3.2.2.2.2.2.2.2.1, fun j hj => ?_⟩
    have hr := v3.2.2.2.2.2.2.2.2 j hj
    by_cases hk : j = k
    · subst hk
      simp [hr]
    · simp [hk, hr]
