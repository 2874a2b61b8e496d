/-! what the methods of a barn do -/
def cw (t s : Int) : Int := if (if 0 ≤ t then t else -t) ≤ s then 1 else if 0 < t then 2 else 0
def ansF (kind fig t n : Int) : Int := if kind = 1 then cw t fig else if kind = 2 then (if (n + 1).tmod (fig + 2) = 0 then 2 - cw t 0 else cw t 0) else if kind = 3 then (if cw t fig = 1 then 1 else 2) else if kind = 4 then cw t (fig + n.tdiv 5) else if kind = 5 then (if (n + 1).tmod (fig + 2) = 0 then cw t 0 else 2 - cw t 0) else cw t 0
theorem cw_r (t s : Int) : 0 ≤ cw t s ∧ cw t s ≤ 2 := by
  unfold cw
  (repeat' split) <;> omega
theorem hput_same {h : HH} {a k : Nat} {v : Int} : hput h a k v a k = v := by simp [hput, hset, rput]
theorem hput_ne {h : HH} {a k i j : Nat} {v : Int} (hn : i ≠ a ∨ j ≠ k) : hput h a k v i j = h i j := by
  unfold hput hset rput
  split
  · next e1 =>
    subst e1
    show (if j = k then v else h i j) = h i j
    rw [if_neg (hn.resolve_left (fun z => z rfl))]
  · rfl
theorem hput_row {h : HH} {a k i : Nat} {v : Int} (hn : i ≠ a) : hput h a k v i = h i := by
  unfold hput hset
  rw [if_neg hn]
theorem hput_at {h : HH} {a k i j : Nat} {v : Int} : hput h a k v i j = if i = a ∧ j = k then v else h i j := by
  unfold hput hset rput
  by_cases h1 : i = a
  · subst h1
    by_cases h2 : j = k
    · simp [h2]
    · simp [h2]
  · simp [h1]
theorem ite10 {c : Prop} {i : Decidable c} : ((if c then (1 : Int) else 0) = 0) = ¬ c := by
  by_cases h : c <;> simp [h]
theorem ite10n {c : Prop} {i : Decidable c} : ((if c then (1 : Int) else 0) ≠ 0) = c := by
  by_cases h : c <;> simp [h]
theorem ite01 {c : Prop} {i : Decidable c} : ((if c then (1 : Int) else 0) = 0 ∨ (if c then (1 : Int) else 0) = 1) = True := by
  by_cases h : c <;> simp [h]
theorem ite11 {c : Prop} {i : Decidable c} : ((if c then (1 : Int) else 0) = 1) = c := by
  by_cases h : c <;> simp [h]
theorem nem {c : Prop} : (¬ c ∨ c) = True := eq_true (Classical.em c).symm
/-- a barn at b: its rows stand behind it -/
def BK (K : KK) (b : Nat) : Prop := isO K b 0 ∧ b < 1000 ∧ rT K b 1 = b + 1 ∧ rT K b 5 = b + 2 ∧ rT K b 6 = b + 3 ∧ rT K b 7 = b + 4 ∧ rT K b 9 = b + 5 ∧ rT K b 10 = b + 6 ∧ rT K b 11 = b + 7 ∧ aln K (b + 1) = 6 ∧ aln K (b + 2) = 24 ∧ aln K (b + 3) = 24 ∧ aln K (b + 4) = 24 ∧ aln K (b + 5) = 12 ∧ aln K (b + 6) = 12 ∧ aln K (b + 7) = 6
section BRN
variable {K : KK} {d : Nat} {h : HH} {Q : Option AV → HH → Prop} {x y z n : Int} {b : Nat}
theorem BK.o (hb : BK K b) : isO K b 0 = True := eq_true hb.1
theorem BK.r1 (hb : BK K b) : rT K b 1 = b + 1 := hb.2.2.1
theorem BK.r5 (hb : BK K b) : rT K b 5 = b + 2 := hb.2.2.2.1
theorem BK.r6 (hb : BK K b) : rT K b 6 = b + 3 := hb.2.2.2.2.1
theorem BK.r7 (hb : BK K b) : rT K b 7 = b + 4 := hb.2.2.2.2.2.1
theorem BK.r9 (hb : BK K b) : rT K b 9 = b + 5 := hb.2.2.2.2.2.2.1
theorem BK.r10 (hb : BK K b) : rT K b 10 = b + 6 := hb.2.2.2.2.2.2.2.1
theorem BK.r11 (hb : BK K b) : rT K b 11 = b + 7 := hb.2.2.2.2.2.2.2.2.1
theorem BK.n1 (hb : BK K b) : aln K (b + 1) = 6 := hb.2.2.2.2.2.2.2.2.2.1
theorem BK.n2 (hb : BK K b) : aln K (b + 2) = 24 := hb.2.2.2.2.2.2.2.2.2.2.1
theorem BK.n3 (hb : BK K b) : aln K (b + 3) = 24 := hb.2.2.2.2.2.2.2.2.2.2.2.1
theorem BK.n4 (hb : BK K b) : aln K (b + 4) = 24 := hb.2.2.2.2.2.2.2.2.2.2.2.2.1
theorem BK.n5 (hb : BK K b) : aln K (b + 5) = 12 := hb.2.2.2.2.2.2.2.2.2.2.2.2.2.1
theorem BK.n6 (hb : BK K b) : aln K (b + 6) = 12 := hb.2.2.2.2.2.2.2.2.2.2.2.2.2.2.1
theorem BK.n7 (hb : BK K b) : aln K (b + 7) = 6 := hb.2.2.2.2.2.2.2.2.2.2.2.2.2.2.2
theorem al {a : Nat} {n : Int} (ha : a < 10000) (hn : aln K a = n) : alen K h a = n := by
  unfold alen
  rw [if_neg (by omega), hn]
theorem BK.a1 (hb : BK K b) : alen K h (b + 1) = 6 := al (by have := hb.2.1; omega) hb.n1
theorem BK.a2 (hb : BK K b) : alen K h (b + 2) = 24 := al (by have := hb.2.1; omega) hb.n2
theorem BK.a3 (hb : BK K b) : alen K h (b + 3) = 24 := al (by have := hb.2.1; omega) hb.n3
theorem BK.a4 (hb : BK K b) : alen K h (b + 4) = 24 := al (by have := hb.2.1; omega) hb.n4
theorem BK.a5 (hb : BK K b) : alen K h (b + 5) = 12 := al (by have := hb.2.1; omega) hb.n5
theorem BK.a6 (hb : BK K b) : alen K h (b + 6) = 12 := al (by have := hb.2.1; omega) hb.n6
theorem BK.a7 (hb : BK K b) : alen K h (b + 7) = 6 := al (by have := hb.2.1; omega) hb.n7
theorem isStone_eq (hb : isO K b 0) : wp K d 3 0 [vR b, vI x] [] h Q = Q (some (vI (if 0 ≤ x ∧ x < h b 0 then 1 else 0))) h := by
  simp only [s3_0, s3_1, s3_4, s3_5, s3_6, s3_9, s3_12, s3_13, s3_16, s3_17, eq_true hb, Option.toList_some, Option.toList_none, List.cons_append, List.nil_append, ite10, ite10n, ite01, ite11, nem, and_true, true_and, eq_self, true_or, or_true, not_true_eq_false, not_false_eq_true, ne_eq, false_and, and_false, Int.reduceEq, Int.reduceNe, Int.reduceLT, Int.reduceLE, Int.reduceToNat, Int.reduceNeg, Nat.reduceEqDiff, Nat.reduceAdd, ↓reduceIte]
  (repeat' split) <;> first | rfl | (exfalso; omega)
theorem areTwo_eq (hb : isO K b 0) : wp K (d + 1) 4 0 [vR b, vI x, vI y] [] h Q = Q (some (vI (if (0 ≤ x ∧ x < h b 0) ∧ (0 ≤ y ∧ y < h b 0) ∧ ¬ x = y then 1 else 0))) h := by
  simp only [s4_0, s4_1, s4_2, s4_5, s4_8, s4_9, s4_10, s4_13, s4_16, s4_17, s4_18, s4_21, s4_22, s4_25, s4_26, eq_true hb, isStone_eq hb, Option.toList_some, Option.toList_none, List.cons_append, List.nil_append, ite10, ite10n, ite01, ite11, nem, and_true, true_and, eq_self, true_or, or_true, not_true_eq_false, not_false_eq_true, ne_eq, false_and, and_false, Int.reduceEq, Int.reduceNe, Int.reduceLT, Int.reduceLE, Int.reduceToNat, Int.reduceNeg, Nat.reduceEqDiff, Nat.reduceAdd, ↓reduceIte]
  (repeat' split) <;> first | rfl | (exfalso; omega) | (exfalso; simp_all; done)
theorem refW_eq (hb : isO K b 0) : wp K (d + 1) 5 0 [vR b, vI x, vI y] [] h Q = Q (some (vI (if 0 ≤ x ∧ x < h b 0 then (if y < 1 then -4 else if 99 < y then -6 else 0) else -1))) h := by
  simp only [s5_0, s5_1, s5_2, s5_5, s5_8, s5_9, s5_10, s5_11, s5_12, s5_15, s5_17, s5_18, s5_19, s5_21, s5_24, s5_26, s5_29, s5_30, eq_true hb, isStone_eq hb, Option.toList_some, Option.toList_none, List.cons_append, List.nil_append, ite10, ite10n, ite01, ite11, nem, and_true, true_and, eq_self, true_or, or_true, not_true_eq_false, not_false_eq_true, ne_eq, false_and, and_false, Int.reduceEq, Int.reduceNe, Int.reduceLT, Int.reduceLE, Int.reduceToNat, Int.reduceNeg, Nat.reduceEqDiff, Nat.reduceAdd, ↓reduceIte]
  (repeat' split) <;> first | rfl | (exfalso; omega)
theorem chW_eq (hb : BK K b) (h0 : 0 ≤ x) (h1 : x < 6) : wp K d 6 0 [vR b, vI x, vI y, vU] [] h Q = Q (some (vI (h (b + 1) x.toNat))) (hput h (b + 1) x.toNat y) := by
  simp only [s6_0, s6_1, s6_4, s6_5, s6_6, s6_7, s6_8, s6_11, s6_12, s6_13, s6_14, s6_15, hb.o, hb.r1, hb.a1, hb.n1, Option.toList_some, Option.toList_none, List.cons_append, List.nil_append, ite10, ite10n, ite01, ite11, nem, and_true, true_and, eq_self, true_or, or_true, not_true_eq_false, not_false_eq_true, ne_eq, false_and, and_false, Int.reduceEq, Int.reduceNe, Int.reduceLT, Int.reduceLE, Int.reduceToNat, Int.reduceNeg, Nat.reduceEqDiff, Nat.reduceAdd, ↓reduceIte, h0, h1]
theorem isKind_eq : wp K d 141 0 [vI x] [] h Q = Q (some (vI (if 0 ≤ x ∧ x < 6 then 1 else 0))) h := by
  simp only [s141_0, s141_1, s141_4, s141_5, s141_7, s141_10, s141_11, s141_14, s141_15, Option.toList_some, Option.toList_none, List.cons_append, List.nil_append, ite10, ite10n, ite01, ite11, nem, and_true, true_and, eq_self, true_or, or_true, not_true_eq_false, not_false_eq_true, ne_eq, false_and, and_false, Int.reduceEq, Int.reduceNe, Int.reduceLT, Int.reduceLE, Int.reduceToNat, Int.reduceNeg, Nat.reduceEqDiff, Nat.reduceAdd, ↓reduceIte]
  (repeat' split) <;> first | rfl | (exfalso; omega) | simp
theorem refS_eq : wp K (d + 1) 7 0 [vR b, vI x, vI y] [] h Q = Q (some (vI (if 0 ≤ x ∧ x < 6 then (if y < 0 then -4 else if 9 < y then -6 else 0) else -2))) h := by
  simp only [s7_0, s7_1, s7_4, s7_7, s7_9, s7_10, s7_11, s7_14, s7_16, s7_17, s7_18, s7_20, s7_23, s7_25, s7_28, s7_29, isKind_eq, Option.toList_some, Option.toList_none, List.cons_append, List.nil_append, ite10, ite10n, ite01, ite11, nem, and_true, true_and, eq_self, true_or, or_true, not_true_eq_false, not_false_eq_true, ne_eq, false_and, and_false, Int.reduceEq, Int.reduceNe, Int.reduceLT, Int.reduceLE, Int.reduceToNat, Int.reduceNeg, Nat.reduceEqDiff, Nat.reduceAdd, ↓reduceIte]
  (repeat' split) <;> first | rfl | (exfalso; omega)
theorem chS_eq (hb : isO K b 0) : wp K d 8 0 [vR b, vI x, vI y, vU] [] h Q = Q (some (vI (w32 (w32 (10 * h b 2) + h b 3)))) (hput (hput h b 2 x) b 3 y) := by
  simp only [s8_0, s8_2, s8_3, s8_6, s8_7, s8_8, s8_11, s8_12, s8_13, s8_14, s8_15, s8_18, s8_19, s8_20, s8_23, s8_24, eq_true hb, Option.toList_some, Option.toList_none, List.cons_append, List.nil_append, ite10, ite10n, ite01, ite11, nem, and_true, true_and, eq_self, true_or, or_true, not_true_eq_false, not_false_eq_true, ne_eq, false_and, and_false, Int.reduceEq, Int.reduceNe, Int.reduceLT, Int.reduceLE, Int.reduceToNat, Int.reduceNeg, Nat.reduceEqDiff, Nat.reduceAdd, ↓reduceIte]
theorem refG_eq (hb : isO K b 0) : wp K (d + 2) 9 0 [vR b, vI x, vI y] [] h Q = Q (some (vI (if (0 ≤ x ∧ x < h b 0) ∧ (0 ≤ y ∧ y < h b 0) ∧ ¬ x = y then (if 24 ≤ h b 4 then -6 else 0) else -1))) h := by
  simp only [s9_0, s9_1, s9_2, s9_3, s9_6, s9_9, s9_10, s9_11, s9_12, s9_15, s9_17, s9_20, s9_22, s9_25, s9_26, eq_true hb, areTwo_eq hb, Option.toList_some, Option.toList_none, List.cons_append, List.nil_append, ite10, ite10n, ite01, ite11, nem, and_true, true_and, eq_self, true_or, or_true, not_true_eq_false, not_false_eq_true, ne_eq, false_and, and_false, Int.reduceEq, Int.reduceNe, Int.reduceLT, Int.reduceLE, Int.reduceToNat, Int.reduceNeg, Nat.reduceEqDiff, Nat.reduceAdd, ↓reduceIte]
  (repeat' split) <;> first | rfl | (exfalso; omega)
theorem write_eq (hb : BK K b) (h0 : 0 ≤ h b 4) (h1 : h b 4 < 24) : wp K d 10 0 [vR b, vI x, vI y, vI z] [] h Q = Q none (hput (hput (hput (hput h (b + 2) (h b 4).toNat x) (b + 3) (h b 4).toNat y) (b + 4) (h b 4).toNat z) b 4 (h b 4 + 1)) := by
  have e1 : ∀ (i k : Nat) (v : Int) (g : HH), i ≠ 0 → hput g (b + i) k v b = g b := fun i k v g hi => hput_row (by omega)
  simp only [s10_0, s10_1, s10_4, s10_5, s10_8, s10_9, s10_10, s10_11, s10_14, s10_15, s10_18, s10_19, s10_20, s10_21, s10_24, s10_25, s10_28, s10_29, s10_30, s10_31, s10_32, s10_35, s10_36, s10_37, s10_40, hb.o, hb.r5, hb.r6, hb.r7, hb.n2, hb.n3, hb.n4, Option.toList_some, Option.toList_none, List.cons_append, List.nil_append, ite10, ite10n, ite01, ite11, nem, and_true, true_and, eq_self, true_or, or_true, not_true_eq_false, not_false_eq_true, ne_eq, false_and, and_false, Int.reduceEq, Int.reduceNe, Int.reduceLT, Int.reduceLE, Int.reduceToNat, Int.reduceNeg, Nat.reduceEqDiff, Nat.reduceAdd, ↓reduceIte, h0, h1, hput_row (show b ≠ b + 2 by omega), hput_row (show b ≠ b + 3 by omega), hput_row (show b ≠ b + 4 by omega)]
  rw [w32_id (by omega) (by omega)]
theorem refK_eq (hb : isO K b 0) : wp K (d + 1) 11 0 [vR b, vI x, vI y] [] h Q = Q (some (vI (if (0 ≤ x ∧ x < h b 0) ∧ (0 ≤ y ∧ y < h b 0) ∧ x < y then (if 12 ≤ h b 8 then -6 else 0) else -1))) h := by
  simp only [s11_0, s11_1, s11_2, s11_5, s11_8, s11_9, s11_10, s11_13, s11_16, s11_17, s11_18, s11_21, s11_22, s11_23, s11_24, s11_27, s11_29, s11_32, s11_34, s11_37, s11_38, eq_true hb, isStone_eq hb, Option.toList_some, Option.toList_none, List.cons_append, List.nil_append, ite10, ite10n, ite01, ite11, nem, and_true, true_and, eq_self, true_or, or_true, not_true_eq_false, not_false_eq_true, ne_eq, false_and, and_false, Int.reduceEq, Int.reduceNe, Int.reduceLT, Int.reduceLE, Int.reduceToNat, Int.reduceNeg, Nat.reduceEqDiff, Nat.reduceAdd, ↓reduceIte]
  (repeat' split) <;> first | rfl | (exfalso; omega)
theorem addC_eq (hb : BK K b) (h0 : 0 ≤ h b 8) (h1 : h b 8 < 12) : wp K d 12 0 [vR b, vI x, vI y] [] h Q = Q (some (vI (h b 8 + 1))) (hput (hput (hput h (b + 5) (h b 8).toNat x) (b + 6) (h b 8).toNat y) b 8 (h b 8 + 1)) := by
  simp only [s12_0, s12_1, s12_4, s12_5, s12_8, s12_9, s12_10, s12_11, s12_14, s12_15, s12_18, s12_19, s12_20, s12_21, s12_22, s12_25, s12_26, s12_27, s12_30, s12_31, s12_34, hb.o, hb.r9, hb.r10, hb.n5, hb.n6, Option.toList_some, Option.toList_none, List.cons_append, List.nil_append, ite10, ite10n, ite01, ite11, nem, and_true, true_and, eq_self, true_or, or_true, not_true_eq_false, not_false_eq_true, ne_eq, false_and, and_false, Int.reduceEq, Int.reduceNe, Int.reduceLT, Int.reduceLE, Int.reduceToNat, Int.reduceNeg, Nat.reduceEqDiff, Nat.reduceAdd, ↓reduceIte, h0, h1, hput_row (show b ≠ b + 5 by omega), hput_row (show b ≠ b + 6 by omega), hput_same]
  rw [w32_id (by omega) (by omega)]
theorem otherWay_eq (h0 : 0 ≤ x) (h1 : x ≤ 2) : wp K d 18 0 [vI x] [] h Q = Q (some (vI (2 - x))) h := by
  simp only [s18_0, s18_1, s18_2, s18_3, Option.toList_some, Option.toList_none, List.cons_append, List.nil_append, ite10, ite10n, ite01, ite11, nem, and_true, true_and, eq_self, true_or, or_true, not_true_eq_false, not_false_eq_true, ne_eq, false_and, and_false, Int.reduceEq, Int.reduceNe, Int.reduceLT, Int.reduceLE, Int.reduceToNat, Int.reduceNeg, Nat.reduceEqDiff, Nat.reduceAdd, ↓reduceIte]
  rw [w32_id (by omega) (by omega)]
theorem byW_eq (hb : BK K b) (h0 : 0 ≤ x) (h1 : x < 6) (h2 : 0 ≤ y) (h3 : y < 6) (hw : ∀ j, j < 6 → 0 ≤ h (b + 1) j ∧ h (b + 1) j ≤ 99) : wp K d 17 0 [vR b, vI x, vI y, vI z, vU] [] h Q = Q (some (vI (cw (h (b + 1) x.toNat - h (b + 1) y.toNat) z))) h := by
  have a1 := hw x.toNat (by omega)
  have a2 := hw y.toNat (by omega)
  simp only [s17_0, s17_1, s17_4, s17_5, s17_6, s17_7, s17_10, s17_11, s17_12, s17_13, s17_15, s17_17, s17_20, s17_21, s17_24, s17_25, s17_26, s17_28, s17_31, s17_32, s17_35, s17_36, hb.o, hb.r1, hb.a1, Option.toList_some, Option.toList_none, List.cons_append, List.nil_append, ite10, ite10n, ite01, ite11, nem, and_true, true_and, eq_self, true_or, or_true, not_true_eq_false, not_false_eq_true, ne_eq, false_and, and_false, Int.reduceEq, Int.reduceNe, Int.reduceLT, Int.reduceLE, Int.reduceToNat, Int.reduceNeg, Nat.reduceEqDiff, Nat.reduceAdd, ↓reduceIte, h0, h1, h2, h3]
  rw [w32_id (by omega) (by omega), w32_id (by omega) (by omega)]
  unfold cw
  (repeat' split) <;> first | rfl | (exfalso; omega)
theorem answer_eq (hb : BK K b) (h0 : 0 ≤ x) (h1 : x < 6) (h2 : 0 ≤ y) (h3 : y < 6) (hw : ∀ j, j < 6 → 0 ≤ h (b + 1) j ∧ h (b + 1) j ≤ 99) (hk : 0 ≤ h b 2 ∧ h b 2 < 6) (hf : 0 ≤ h b 3 ∧ h b 3 ≤ 9) (hn : 0 ≤ n ∧ n < 1000) : wp K (d + 1) 16 0 [vR b, vI x, vI y, vI n, vU, vU] [] h Q = Q (some (vI (ansF (h b 2) (h b 3) (h (b + 1) x.toNat - h (b + 1) y.toNat) n))) h := by
  have e1 := cw_r (h (b + 1) x.toNat - h (b + 1) y.toNat) 0
  have e2 := w32_id (z := n + 1) (by omega) (by omega)
  have e3 := w32_id (z := h b 3 + 2) (by omega) (by omega)
  have e4 : w32 (n.tdiv 5) = n.tdiv 5 := by
    rw [Int.tdiv_eq_ediv_of_nonneg (by omega)]
    exact w32_id (by omega) (by omega)
  have e5 : w32 (h b 3 + n.tdiv 5) = h b 3 + n.tdiv 5 := by
    rw [Int.tdiv_eq_ediv_of_nonneg (by omega)]
    exact w32_id (by omega) (by omega)
  have e6 : h b 3 + 2 ≠ 0 := by omega
  simp only [s16_0, s16_1, s16_2, s16_3, s16_4, s16_7, s16_9, s16_10, s16_11, s16_12, s16_13, s16_16, s16_17, s16_18, s16_19, s16_22, s16_23, s16_26, s16_27, s16_29, s16_30, s16_33, s16_68, s16_69, s16_70, s16_71, s16_72, s16_75, s16_78, s16_79, s16_81, s16_84, s16_86, s16_89, s16_92, s16_94, s16_95, s16_96, s16_97, s16_98, s16_99, s16_102, s16_105, s16_106, s16_109, s16_110, s16_113, s16_114, s16_115, s16_116, s16_117, s16_118, s16_119, s16_122, s16_123, s16_124, s16_125, s16_126, s16_129, s16_130, s16_132, s16_135, s16_137, s16_140, s16_142, s16_145, s16_146, s16_148, hb.o, byW_eq hb h0 h1 h2 h3 hw, otherWay_eq e1.1 e1.2, Option.toList_some, Option.toList_none, List.cons_append, List.nil_append, ite10, ite10n, ite01, ite11, nem, and_true, true_and, eq_self, true_or, or_true, not_true_eq_false, not_false_eq_true, ne_eq, false_and, and_false, Int.reduceEq, Int.reduceNe, Int.reduceLT, Int.reduceLE, Int.reduceToNat, Int.reduceNeg, Nat.reduceEqDiff, Nat.reduceAdd, ↓reduceIte, e2, e3, e4, e5, e6, ne_eq, not_false_eq_true]
  unfold ansF
  (repeat' split) <;> first | rfl | (exfalso; omega) | skip
end BRN
