/-! wanted: the class reckons the fewest -/
def MI (g : HH) : Prop := ∀ n w f, N3 n → w < 6 → PO n f → g 35 (ix n w f) = 0 ∨ (g 35 (ix n w f) = (((wW n w f).1 + 1 : Nat) : Int) ∧ g 36 (ix n w f) = (((wW n w f).2 + 1 : Nat) : Int))
/-- all but the rows of what is kept; what was kept stays -/
def MX (g g' : HH) : Prop := (∀ i, i ≠ 35 → i ≠ 36 → g' i = g i) ∧ ∀ i, g 35 i ≠ 0 → g' 35 i = g 35 i ∧ g' 36 i = g 36 i
theorem MX.rf {g : HH} : MX g g := ⟨fun _ _ _ => rfl, fun _ _ => ⟨rfl, rfl⟩⟩
theorem MX.tr {g x y : HH} (a : MX g x) (b : MX x y) : MX g y := ⟨fun i h1 h2 => (b.1 i h1 h2).trans (a.1 i h1 h2), fun i hi => by
  obtain ⟨a1, a2⟩ := a.2 i hi
  obtain ⟨b1, b2⟩ := b.2 i (by rw [a1]; exact hi)
  exact ⟨b1.trans a1, b2.trans a2⟩⟩
section WN9
variable {d : Nat} {g g' h : HH} {Q : Option AV → HH → Prop} {f A : Nat → Nat} {n m c o q w : Nat}
theorem LO.mx (x : MX g g') (l : LO g n) : LO g' n := by
  unfold LO at *
  rw [x.1 31 (by decide) (by decide), x.1 33 (by decide) (by decide), x.1 34 (by decide) (by decide)]
  exact l
theorem MI.put (hm : MI g) (h : N3 n) (hw : w < 6) (hf : PO n f) : MI (hput (hput g 35 (ix n w f) (((wW n w f).1 + 1 : Nat) : Int)) 36 (ix n w f) (((wW n w f).2 + 1 : Nat) : Int)) := by
  intro n' w' f' h' hw' hf'
  by_cases e : ix n' w' f' = ix n w f
  · obtain ⟨rfl, rfl, rfl⟩ := ix_inj h' h hf' hf e
    right
    refine ⟨?_, hput_same⟩
    rw [hput_row (by decide), hput_same]
  · have := hm n' w' f' h' hw' hf'
    rw [hput_row (show (35 : Nat) ≠ 36 by decide), hput_ne (Or.inr e), hput_ne (Or.inr e), hput_row (by decide)]
    exact this
theorem MX.put (hm : MI g) (h : N3 n) (hw : w < 6) (hf : PO n f) : MX g (hput (hput g 35 (ix n w f) (((wW n w f).1 + 1 : Nat) : Int)) 36 (ix n w f) (((wW n w f).2 + 1 : Nat) : Int)) := by
  refine ⟨fun i h1 h2 => by rw [hput_row h2, hput_row h1], fun i hi => ?_⟩
  by_cases e : i = ix n w f
  · subst e
    have := (hm n w f h hw hf).resolve_left hi
    rw [hput_row (show (35 : Nat) ≠ 36 by decide), hput_same, hput_same]
    exact ⟨this.1.symm, this.2.symm⟩
  · rw [hput_row (show (35 : Nat) ≠ 36 by decide), hput_ne (Or.inr e), hput_ne (Or.inr e), hput_row (by decide)]
    exact ⟨rfl, rfl⟩
theorem ah_out (h : N3 n) : ∀ x, x < 16 → n ≤ x % 4 → ah n x = 0 := by
  rcases h with rfl | rfl | rfl <;> decide +kernel
theorem anot_self {S : Nat} : anot S S = 0 := by
  apply Nat.eq_of_testBit_eq
  intro i
  rw [anot_bit, Nat.zero_testBit]
  cases S.testBit i <;> rfl
theorem anot_0 {S : Nat} : anot S 0 = S := by
  apply Nat.eq_of_testBit_eq
  intro i
  rw [anot_bit, Nat.zero_testBit]
  cases S.testBit i <;> rfl
theorem maxN {a b : Nat} : (if (a : Int) < (b : Int) then (b : Int) else (a : Int)) = ((max a b : Nat) : Int) := by
  by_cases c : a < b
  · rw [if_pos (by omega), Nat.max_eq_right (by omega)]
  · rw [if_neg (by omega), Nat.max_eq_left (by omega)]
theorem minN {a b : Nat} : (if (b : Int) < (a : Int) then (b : Int) else (a : Int)) = ((min a b : Nat) : Int) := by
  by_cases c : b < a
  · rw [if_pos (by omega), Nat.min_eq_right (by omega)]
  · rw [if_neg (by omega), Nat.min_eq_left (by omega)]
/-- what one pair of stones does to a set -/
theorem pair_skip (h : N3 n) (hf : PO n f) {p : Nat} (hp : p < 16) (hs : skp f n p = true) : ¬ p / 4 < p % 4 ∨ wsF f n &&& ah n p = 0 ∨ anot (wsF f n) (wsF f n &&& ah n p) = 0 := by
  have h4 := h.le
  by_cases c1 : p / 4 < p % 4
  · by_cases c2 : p % 4 < n
    · have e : 4 * (p / 4) + p % 4 = p := by omega
      unfold skp at hs
      rw [decide_eq_true c1, decide_eq_true c2] at hs
      cases h1 : (f (p / 4)).testBit (p % 4)
      · cases h2 : (f (p % 4)).testBit (p / 4)
        · rw [h1, h2] at hs
          cases hs
        · have := st_none h hf h2
          rw [e] at this
          exact Or.inr (Or.inl this)
      · have := st_all h hf h1
        rw [e] at this
        rw [this]
        exact Or.inr (Or.inr anot_self)
    · rw [ah_out h p hp (by omega), Nat.and_zero]
      exact Or.inr (Or.inl rfl)
  · exact Or.inl c1
theorem pair_open (h : N3 n) (hf : PO n f) {p : Nat} (hs : skp f n p = false) : p / 4 < p % 4 ∧ p % 4 < n ∧ (f (p / 4)).testBit (p % 4) = false ∧ (f (p % 4)).testBit (p / 4) = false ∧ wsF f n &&& ah n p = wsF (ab f n (p / 4) (p % 4)) n ∧ anot (wsF f n) (wsF f n &&& ah n p) = wsF (ab f n (p % 4) (p / 4)) n := by
  have h4 := h.le
  unfold skp at hs
  rw [Bool.or_eq_false_iff, Bool.not_eq_false', Bool.and_eq_true, decide_eq_true_eq, decide_eq_true_eq, Bool.or_eq_false_iff] at hs
  obtain ⟨⟨c1, c2⟩, h1, h2⟩ := hs
  have e : 4 * (p / 4) + p % 4 = p := by omega
  have w1 := st_with h hf (show p / 4 < n by omega) c2 (show ¬ p / 4 = p % 4 by omega) h2
  have w2 := st_wout h hf (show p / 4 < n by omega) c2 (show ¬ p / 4 = p % 4 by omega) h1
  rw [e] at w1 w2
  exact ⟨c1, c2, h1, h2, w1, w2⟩
end WN9
