/-! how many bits; count -/
def bcF (x : Int) : Int :=
  let i1 := x - bAnd (x / 2 ^ 1) 1431655765
  let i2 := bAnd i1 858993459 + bAnd (i1 / 2 ^ 2) 858993459
  let i3 := bAnd (i2 + i2 / 2 ^ 4) 252645135
  let i4 := i3 + i3 / 2 ^ 8
  let i5 := i4 + i4 / 2 ^ 16
  bAnd i5 63
def popc (n : Nat) : Int := sumF (fun k => if n.testBit k then 1 else 0) 0 24
theorem bcF_64 : ∀ n : Nat, n < 64 → bcF (n : Int) = popc n := by decide +kernel
theorem bAnd_r {x y : Int} (h0 : 0 ≤ x) (h1 : x < 2147483648) (h2 : 0 ≤ y) (h3 : y < 2147483648) : 0 ≤ bAnd x y ∧ bAnd x y ≤ x ∧ bAnd x y ≤ y := by
  obtain ⟨n, rfl⟩ := Int.eq_ofNat_of_zero_le h0
  obtain ⟨m, rfl⟩ := Int.eq_ofNat_of_zero_le h2
  rw [bAnd_nat (by omega) (by omega)]
  have a1 : n &&& m ≤ n := Nat.and_le_left
  have a2 : n &&& m ≤ m := Nat.and_le_right
  omega
section PRX
variable {d : Nat} {h : HH} {Q : Option AV → HH → Prop} {x y z t : Int}
theorem bitCount_eq {K : KK} (h0 : 0 ≤ x) (h1 : x < 1073741824) : wp K d 242 0 [vI x] [] h Q = Q (some (vI (bcF x))) h := by
  have q1 := bAnd_r (x := x / 2 ^ 1) (y := 1431655765) (by omega) (by omega) (by omega) (by omega)
  have e1 : w32 (x - bAnd (x / 2 ^ 1) 1431655765) = x - bAnd (x / 2 ^ 1) 1431655765 := w32_id (by omega) (by omega)
  generalize hi1 : x - bAnd (x / 2 ^ 1) 1431655765 = i1 at e1
  have r1 : 0 ≤ i1 ∧ i1 < 1073741824 := by omega
  have q2 := bAnd_r (x := i1) (y := 858993459) (by omega) (by omega) (by omega) (by omega)
  have q3 := bAnd_r (x := i1 / 2 ^ 2) (y := 858993459) (by omega) (by omega) (by omega) (by omega)
  have e2 : w32 (bAnd i1 858993459 + bAnd (i1 / 2 ^ 2) 858993459) = bAnd i1 858993459 + bAnd (i1 / 2 ^ 2) 858993459 := w32_id (by omega) (by omega)
  generalize hi2 : bAnd i1 858993459 + bAnd (i1 / 2 ^ 2) 858993459 = i2 at e2
  have r2 : 0 ≤ i2 ∧ i2 < 1342177280 := by omega
  have e3 : w32 (i2 + i2 / 2 ^ 4) = i2 + i2 / 2 ^ 4 := w32_id (by omega) (by omega)
  have q4 := bAnd_r (x := i2 + i2 / 2 ^ 4) (y := 252645135) (by omega) (by omega) (by omega) (by omega)
  generalize hi3 : bAnd (i2 + i2 / 2 ^ 4) 252645135 = i3 at q4
  have e4 : w32 (i3 + i3 / 2 ^ 8) = i3 + i3 / 2 ^ 8 := w32_id (by omega) (by omega)
  generalize hi4 : i3 + i3 / 2 ^ 8 = i4 at e4
  have e5 : w32 (i4 + i4 / 2 ^ 16) = i4 + i4 / 2 ^ 16 := w32_id (by omega) (by omega)
  have e6 : bcF x = bAnd (i4 + i4 / 2 ^ 16) 63 := by
    unfold bcF
    simp only [hi1, hi2, hi3, hi4]
  have p0 : (0 ≤ x) = True := eq_true h0
  have p1 : (0 ≤ i1) = True := eq_true r1.1
  have p2 : (0 ≤ i2) = True := eq_true r2.1
  have p3 : (0 ≤ i3) = True := eq_true q4.1
  have p4 : (0 ≤ i4) = True := eq_true (by omega)
  have t1 : Int.toNat 1 = 1 := rfl
  rw [e6]
  simp only [s242_0, s242_1, s242_2, s242_3, s242_4, s242_7, s242_8, s242_9, s242_10, s242_11, s242_14, s242_15, s242_16, s242_17, s242_18, s242_21, s242_22, s242_23, s242_24, s242_25, s242_26, s242_27, s242_28, s242_29, s242_32, s242_33, s242_34, s242_35, s242_36, s242_38, s242_39, s242_40, s242_41, s242_42, s242_43, s242_45, s242_46, s242_47, s242_48, s242_49, s242_51, s242_52, Option.toList_some, Option.toList_none, List.cons_append, List.nil_append, ite10, ite10n, ite01, ite11, nem, and_true, true_and, eq_self, true_or, or_true, not_true_eq_false, not_false_eq_true, ne_eq, false_and, and_false, Int.reduceEq, Int.reduceNe, Int.reduceLT, Int.reduceLE, Int.reduceToNat, Int.reduceNeg, Nat.reduceEqDiff, Nat.reduceAdd, ↓reduceIte, p0, hi1, e1, p1, e2, hi2, p2, e3, hi3, p3, e4, hi4, p4, e5]
theorem popc_r (n : Nat) : 0 ≤ popc n ∧ popc n ≤ 24 := by
  have := sumF_b (f := fun k => if n.testBit k then (1 : Int) else 0) (M := 1) (by omega) 24 0 (fun j _ _ => by split <;> omega)
  unfold popc
  omega
theorem ones_loop {K : KK} {n : Nat} (hn : n < 2147483648) : ∀ (k s : Nat) (acc : Int), s + k = 24 → 0 ≤ acc → acc ≤ s → wp K d 150 4 [vI n, vI acc, vI s] [] h Q = Q (some (vI (acc + sumF (fun k => if n.testBit k then 1 else 0) s k))) h := by
  intro k
  induction k with
  | zero =>
    intro s acc hs h0 h1
    have n1 : ((24 : Int) ≤ (s : Int)) = True := eq_true (by omega)
    rw [s150_4]
    simp only [s150_0, s150_1, s150_2, s150_3, s150_5, s150_7, s150_10, s150_11, s150_12, s150_13, s150_14, s150_15, s150_16, s150_17, s150_18, s150_21, s150_24, s150_25, Option.toList_some, Option.toList_none, List.cons_append, List.nil_append, ite10, ite10n, ite01, ite11, nem, and_true, true_and, eq_self, true_or, or_true, not_true_eq_false, not_false_eq_true, ne_eq, false_and, and_false, Int.reduceEq, Int.reduceNe, Int.reduceLT, Int.reduceLE, Int.reduceToNat, Int.reduceNeg, Nat.reduceEqDiff, Nat.reduceAdd, ↓reduceIte, n1, sumF, Int.add_zero]
  | succ k ih =>
    intro s acc hs h0 h1
    have n1 : ((24 : Int) ≤ (s : Int)) = False := eq_false (by omega)
    have p1 : (0 ≤ (s : Int)) = True := eq_true (by omega)
    have p2 : ((s : Int) < 32) = True := eq_true (by omega)
    have b1 := bit1 (z := (n : Int)) (k := s) (by omega) (by omega)
    rw [Int.toNat_natCast] at b1
    have hb : 0 ≤ (if n.testBit s then (1 : Int) else 0) ∧ (if n.testBit s then (1 : Int) else 0) ≤ 1 := by split <;> omega
    have e1 : w32 (acc + (if n.testBit s then (1 : Int) else 0)) = acc + (if n.testBit s then (1 : Int) else 0) := w32_id (by omega) (by omega)
    have e2 : w32 ((s : Int) + 1) = ((s + 1 : Nat) : Int) := by rw [w32_id (by omega) (by omega)]; omega
    rw [s150_4]
    simp only [s150_0, s150_1, s150_2, s150_3, s150_5, s150_7, s150_10, s150_11, s150_12, s150_13, s150_14, s150_15, s150_16, s150_17, s150_18, s150_21, s150_24, s150_25, Option.toList_some, Option.toList_none, List.cons_append, List.nil_append, ite10, ite10n, ite01, ite11, nem, and_true, true_and, eq_self, true_or, or_true, not_true_eq_false, not_false_eq_true, ne_eq, false_and, and_false, Int.reduceEq, Int.reduceNe, Int.reduceLT, Int.reduceLE, Int.reduceToNat, Int.reduceNeg, Nat.reduceEqDiff, Nat.reduceAdd, ↓reduceIte, n1, p1, p2, Int.toNat_natCast, b1, e1, e2]
    rw [ih (s + 1) _ (by omega) (by omega) (by omega), sumF_s, Int.add_assoc]
theorem ones_eq {K : KK} {n : Nat} (hn : n < 2147483648) : wp K d 150 0 [vI (n : Int), vU, vU] [] h Q = Q (some (vI (popc n))) h := by
  simp only [s150_0, s150_1, s150_2, s150_3, s150_5, s150_7, s150_10, s150_11, s150_12, s150_13, s150_14, s150_15, s150_16, s150_17, s150_18, s150_21, s150_24, s150_25, Option.toList_some, Option.toList_none, List.cons_append, List.nil_append, ite10, ite10n, ite01, ite11, nem, and_true, true_and, eq_self, true_or, or_true, not_true_eq_false, not_false_eq_true, ne_eq, false_and, and_false, Int.reduceEq, Int.reduceNe, Int.reduceLT, Int.reduceLE, Int.reduceToNat, Int.reduceNeg, Nat.reduceEqDiff, Nat.reduceAdd, ↓reduceIte]
  have := ones_loop (K := K) (d := d) (h := h) (Q := Q) hn 24 0 0 rfl (by omega) (by omega)
  simp only [Int.zero_add] at this
  exact this
end PRX
