/-! bounds by law: halvings, sums of them -/
def hvN : Nat → Nat → Nat
  | 0, _ => 0
  | f + 1, n => if n ≤ 1 then 0 else hvN f ((n + 1) / 2) + 1
theorem hvN_le : ∀ f n, hvN f n ≤ f
  | 0, _ => Nat.le_refl _
  | f + 1, n => by
    have := hvN_le f ((n + 1) / 2)
    unfold hvN
    split <;> omega
section LWA
variable {K : KK} {d : Nat} {h : HH} {Q : Option AV → HH → Prop} {x y z t : Int}
theorem hv_step {n : Nat} (hn : n < 100000) : w32 ((w32 ((n : Int) + 1)).tdiv 2) = (((n + 1) / 2 : Nat) : Int) := by
  rw [w32_id (z := (n : Int) + 1) (by omega) (by omega), Int.tdiv_eq_ediv_of_nonneg (by omega), w32_id (by omega) (by omega)]
  omega
theorem c_hv_loop : ∀ (f n : Nat) (x acc : Int), n ≤ 2 ^ f → n < 100000 → 0 ≤ acc → acc + f < 100000 → wp K d 34 4 [vI x, vI acc, vI n] [] h Q = Q (some (vI (acc + hvN f n))) h := by
  intro f
  induction f with
  | zero =>
    intro n x acc hn hs h0 h1
    have n1 : ((n : Int) ≤ 1) = True := eq_true (by simp at hn; omega)
    rw [s34_4]
    simp only [s34_0, s34_1, s34_2, s34_3, s34_5, s34_6, s34_9, s34_12, s34_13, s34_14, s34_15, s34_16, s34_17, s34_18, s34_21, s34_22, Option.toList_some, Option.toList_none, List.cons_append, List.nil_append, ite10, ite10n, ite01, ite11, nem, and_true, true_and, eq_self, true_or, or_true, not_true_eq_false, not_false_eq_true, ne_eq, false_and, and_false, Int.reduceEq, Int.reduceNe, Int.reduceLT, Int.reduceLE, Int.reduceToNat, Int.reduceNeg, Nat.reduceEqDiff, Nat.reduceAdd, ↓reduceIte, n1, hvN, Int.natCast_zero, Int.add_zero]
  | succ f ih =>
    intro n x acc hn hs h0 h1
    by_cases hc : n ≤ 1
    · have n1 : ((n : Int) ≤ 1) = True := eq_true (by omega)
      rw [s34_4]
      simp only [s34_0, s34_1, s34_2, s34_3, s34_5, s34_6, s34_9, s34_12, s34_13, s34_14, s34_15, s34_16, s34_17, s34_18, s34_21, s34_22, Option.toList_some, Option.toList_none, List.cons_append, List.nil_append, ite10, ite10n, ite01, ite11, nem, and_true, true_and, eq_self, true_or, or_true, not_true_eq_false, not_false_eq_true, ne_eq, false_and, and_false, Int.reduceEq, Int.reduceNe, Int.reduceLT, Int.reduceLE, Int.reduceToNat, Int.reduceNeg, Nat.reduceEqDiff, Nat.reduceAdd, ↓reduceIte, n1, hvN, hc, Int.natCast_zero, Int.add_zero]
    · have n1 : ((n : Int) ≤ 1) = False := eq_false (by omega)
      have e1 : w32 (acc + 1) = acc + 1 := w32_id (by omega) (by omega)
      have e2 := hv_step hs
      rw [s34_4]
      simp only [s34_0, s34_1, s34_2, s34_3, s34_5, s34_6, s34_9, s34_12, s34_13, s34_14, s34_15, s34_16, s34_17, s34_18, s34_21, s34_22, Option.toList_some, Option.toList_none, List.cons_append, List.nil_append, ite10, ite10n, ite01, ite11, nem, and_true, true_and, eq_self, true_or, or_true, not_true_eq_false, not_false_eq_true, ne_eq, false_and, and_false, Int.reduceEq, Int.reduceNe, Int.reduceLT, Int.reduceLE, Int.reduceToNat, Int.reduceNeg, Nat.reduceEqDiff, Nat.reduceAdd, ↓reduceIte, n1, e1, e2]
      rw [ih ((n + 1) / 2) x (acc + 1) (by rw [Nat.pow_succ] at hn; omega) (by omega) (by omega) (by omega)]
      have e3 : hvN (f + 1) n = hvN f ((n + 1) / 2) + 1 := by
        rw [hvN]
        rw [if_neg hc]
      have e4 : acc + 1 + (hvN f ((n + 1) / 2) : Int) = acc + (hvN (f + 1) n : Int) := by
        rw [e3, Int.natCast_add]
        simp only [Int.natCast_one]
        omega
      rw [e4]
theorem m_hv_loop : ∀ (f n : Nat) (x acc : Int), n ≤ 2 ^ f → n < 100000 → 0 ≤ acc → acc + f < 100000 → wp K d 234 4 [vI x, vI n, vI acc] [] h Q = Q (some (vI (acc + hvN f n))) h := by
  intro f
  induction f with
  | zero =>
    intro n x acc hn hs h0 h1
    have n1 : ((n : Int) ≤ 1) = True := eq_true (by simp at hn; omega)
    rw [s234_4]
    simp only [s234_0, s234_1, s234_2, s234_3, s234_5, s234_6, s234_9, s234_10, s234_11, s234_12, s234_13, s234_14, s234_15, s234_18, s234_21, s234_22, Option.toList_some, Option.toList_none, List.cons_append, List.nil_append, ite10, ite10n, ite01, ite11, nem, and_true, true_and, eq_self, true_or, or_true, not_true_eq_false, not_false_eq_true, ne_eq, false_and, and_false, Int.reduceEq, Int.reduceNe, Int.reduceLT, Int.reduceLE, Int.reduceToNat, Int.reduceNeg, Nat.reduceEqDiff, Nat.reduceAdd, ↓reduceIte, n1, hvN, Int.natCast_zero, Int.add_zero]
  | succ f ih =>
    intro n x acc hn hs h0 h1
    by_cases hc : n ≤ 1
    · have n1 : ((n : Int) ≤ 1) = True := eq_true (by omega)
      rw [s234_4]
      simp only [s234_0, s234_1, s234_2, s234_3, s234_5, s234_6, s234_9, s234_10, s234_11, s234_12, s234_13, s234_14, s234_15, s234_18, s234_21, s234_22, Option.toList_some, Option.toList_none, List.cons_append, List.nil_append, ite10, ite10n, ite01, ite11, nem, and_true, true_and, eq_self, true_or, or_true, not_true_eq_false, not_false_eq_true, ne_eq, false_and, and_false, Int.reduceEq, Int.reduceNe, Int.reduceLT, Int.reduceLE, Int.reduceToNat, Int.reduceNeg, Nat.reduceEqDiff, Nat.reduceAdd, ↓reduceIte, n1, hvN, hc, Int.natCast_zero, Int.add_zero]
    · have n1 : ((n : Int) ≤ 1) = False := eq_false (by omega)
      have e1 : w32 (acc + 1) = acc + 1 := w32_id (by omega) (by omega)
      have e2 := hv_step hs
      rw [s234_4]
      simp only [s234_0, s234_1, s234_2, s234_3, s234_5, s234_6, s234_9, s234_10, s234_11, s234_12, s234_13, s234_14, s234_15, s234_18, s234_21, s234_22, Option.toList_some, Option.toList_none, List.cons_append, List.nil_append, ite10, ite10n, ite01, ite11, nem, and_true, true_and, eq_self, true_or, or_true, not_true_eq_false, not_false_eq_true, ne_eq, false_and, and_false, Int.reduceEq, Int.reduceNe, Int.reduceLT, Int.reduceLE, Int.reduceToNat, Int.reduceNeg, Nat.reduceEqDiff, Nat.reduceAdd, ↓reduceIte, n1, e1, e2]
      rw [ih ((n + 1) / 2) x (acc + 1) (by rw [Nat.pow_succ] at hn; omega) (by omega) (by omega) (by omega)]
      have e3 : hvN (f + 1) n = hvN f ((n + 1) / 2) + 1 := by
        rw [hvN]
        rw [if_neg hc]
      have e4 : acc + 1 + (hvN f ((n + 1) / 2) : Int) = acc + (hvN (f + 1) n : Int) := by
        rw [e3, Int.natCast_add]
        simp only [Int.natCast_one]
        omega
      rw [e4]
theorem c_hv_eq {n : Nat} (hn : n ≤ 32) : wp K d 34 0 [vI (n : Int), vU, vU] [] h Q = Q (some (vI (hvN 5 n))) h := by
  simp only [s34_0, s34_1, s34_2, s34_3, s34_5, s34_6, s34_9, s34_12, s34_13, s34_14, s34_15, s34_16, s34_17, s34_18, s34_21, s34_22, Option.toList_some, Option.toList_none, List.cons_append, List.nil_append, ite10, ite10n, ite01, ite11, nem, and_true, true_and, eq_self, true_or, or_true, not_true_eq_false, not_false_eq_true, ne_eq, false_and, and_false, Int.reduceEq, Int.reduceNe, Int.reduceLT, Int.reduceLE, Int.reduceToNat, Int.reduceNeg, Nat.reduceEqDiff, Nat.reduceAdd, ↓reduceIte]
  rw [c_hv_loop 5 n _ 0 hn (by omega) (by omega) (by omega), Int.zero_add]
theorem m_hv_eq {n : Nat} (hn : n ≤ 32) : wp K d 234 0 [vI (n : Int), vU, vU] [] h Q = Q (some (vI (hvN 5 n))) h := by
  simp only [s234_0, s234_1, s234_2, s234_3, s234_5, s234_6, s234_9, s234_10, s234_11, s234_12, s234_13, s234_14, s234_15, s234_18, s234_21, s234_22, Option.toList_some, Option.toList_none, List.cons_append, List.nil_append, ite10, ite10n, ite01, ite11, nem, and_true, true_and, eq_self, true_or, or_true, not_true_eq_false, not_false_eq_true, ne_eq, false_and, and_false, Int.reduceEq, Int.reduceNe, Int.reduceLT, Int.reduceLE, Int.reduceToNat, Int.reduceNeg, Nat.reduceEqDiff, Nat.reduceAdd, ↓reduceIte]
  rw [m_hv_loop 5 n _ 0 hn (by omega) (by omega) (by omega), Int.zero_add]
end LWA
