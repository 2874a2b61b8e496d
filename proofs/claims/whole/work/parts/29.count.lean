/-! count, of both -/
section PRY
variable {d : Nat} {h : HH} {Q : Option AV → HH → Prop} {x y z t : Int}
theorem allL_loop {K : KK} {b n : Nat} (hb : BK K b) (hn : h b 0 = n) (hn6 : n ≤ 6) (hw : ∀ j, j < 6 → 0 ≤ h (b + 7) j ∧ h (b + 7) j < 64) : ∀ (k s : Nat) (acc : Int), s + k = n → 0 ≤ acc → acc ≤ 24 * s → wp K (d + 1) 14 4 [vR b, vI acc, vI s] [] h Q = Q (some (vI (acc + sumF (fun j => popc (h (b + 7) j).toNat) s k))) h := by
  intro k
  induction k with
  | zero =>
    intro s acc hs h0 h1
    have n1 : ((n : Int) ≤ (s : Int)) = True := eq_true (by omega)
    rw [s14_4]
    simp only [s14_0, s14_1, s14_2, s14_3, s14_5, s14_6, s14_9, s14_12, s14_13, s14_14, s14_17, s14_18, s14_19, s14_22, s14_23, s14_24, s14_27, s14_30, s14_31, Option.toList_some, Option.toList_none, List.cons_append, List.nil_append, ite10, ite10n, ite01, ite11, nem, and_true, true_and, eq_self, true_or, or_true, not_true_eq_false, not_false_eq_true, ne_eq, false_and, and_false, Int.reduceEq, Int.reduceNe, Int.reduceLT, Int.reduceLE, Int.reduceToNat, Int.reduceNeg, Nat.reduceEqDiff, Nat.reduceAdd, ↓reduceIte, hb.o, hn, n1, sumF, Int.add_zero]
  | succ k ih =>
    intro s acc hs h0 h1
    have n1 : ((n : Int) ≤ (s : Int)) = False := eq_false (by omega)
    have p1 : (0 ≤ (s : Int)) = True := eq_true (by omega)
    have p2 : ((s : Int) < 6) = True := eq_true (by omega)
    have hv := hw s (by omega)
    have hz : bcF (h (b + 7) s) = popc (h (b + 7) s).toNat := by
      have := bcF_64 (h (b + 7) s).toNat (by omega)
      rw [Int.toNat_of_nonneg hv.1] at this
      exact this
    have hp := popc_r (h (b + 7) s).toNat
    have e1 : w32 (acc + popc (h (b + 7) s).toNat) = acc + popc (h (b + 7) s).toNat := w32_id (by omega) (by omega)
    have e2 : w32 ((s : Int) + 1) = ((s + 1 : Nat) : Int) := by rw [w32_id (by omega) (by omega)]; omega
    rw [s14_4]
    simp only [s14_0, s14_1, s14_2, s14_3, s14_5, s14_6, s14_9, s14_12, s14_13, s14_14, s14_17, s14_18, s14_19, s14_22, s14_23, s14_24, s14_27, s14_30, s14_31, Option.toList_some, Option.toList_none, List.cons_append, List.nil_append, ite10, ite10n, ite01, ite11, nem, and_true, true_and, eq_self, true_or, or_true, not_true_eq_false, not_false_eq_true, ne_eq, false_and, and_false, Int.reduceEq, Int.reduceNe, Int.reduceLT, Int.reduceLE, Int.reduceToNat, Int.reduceNeg, Nat.reduceEqDiff, Nat.reduceAdd, ↓reduceIte, hb.o, hb.r11, hb.a7, hn, n1, p1, p2, Int.toNat_natCast, bitCount_eq hv.1 (show h (b + 7) s < 1073741824 by omega), hz, e1, e2]
    rw [ih (s + 1) _ (by omega) (by omega) (by omega), sumF_s, Int.add_assoc]
def cntL (f : Nat → Int) (n : Nat) : Int := sumF (fun j => popc (f j).toNat) 0 n
theorem allL_eq {n : Nat} (hn : h 1 0 = n) (hn6 : n ≤ 6) (hw : ∀ j, j < 6 → 0 ≤ h 8 j ∧ h 8 j < 64) : wp K0 (d + 1) 14 0 [vR 1, vU, vU] [] h Q = Q (some (vI (cntL (h 8) n))) h := by
  have e := allL_loop (d := d) (Q := Q) bk1 hn hn6 hw n 0 0 (by omega) (by omega) (by omega)
  simp only [Int.zero_add] at e
  simp only [s14_0, s14_1, s14_2, s14_3, s14_5, s14_6, s14_9, s14_12, s14_13, s14_14, s14_17, s14_18, s14_19, s14_22, s14_23, s14_24, s14_27, s14_30, s14_31, Option.toList_some, Option.toList_none, List.cons_append, List.nil_append, ite10, ite10n, ite01, ite11, nem, and_true, true_and, eq_self, true_or, or_true, not_true_eq_false, not_false_eq_true, ne_eq, false_and, and_false, Int.reduceEq, Int.reduceNe, Int.reduceLT, Int.reduceLE, Int.reduceToNat, Int.reduceNeg, Nat.reduceEqDiff, Nat.reduceAdd, ↓reduceIte]
  exact e
theorem allW_eq {n : Nat} (hn : h 1 0 = n) (hn6 : n ≤ 6) (hw : ∀ j, j < 6 → 0 ≤ h 2 j ∧ h 2 j ≤ 99) : wp K0 d 15 0 [vR 1, vU, vU] [] h Q = Q (some (vI (sumF (h 2) 0 n))) h := by
  have e := allW_loop (d := d) (Q := Q) bk1 hn hn6 hw n 0 0 (by omega) (by omega) (by omega)
  simp only [Int.zero_add] at e
  simp only [s15_0, s15_1, s15_2, s15_3, s15_5, s15_6, s15_9, s15_12, s15_13, s15_14, s15_17, s15_18, s15_19, s15_20, s15_21, s15_24, s15_27, s15_28, Option.toList_some, Option.toList_none, List.cons_append, List.nil_append, ite10, ite10n, ite01, ite11, nem, and_true, true_and, eq_self, true_or, or_true, not_true_eq_false, not_false_eq_true, ne_eq, false_and, and_false, Int.reduceEq, Int.reduceNe, Int.reduceLT, Int.reduceLE, Int.reduceToNat, Int.reduceNeg, Nat.reduceEqDiff, Nat.reduceAdd, ↓reduceIte]
  exact e
def cntF (n w c k s l r : Int) (f : Nat → Int) (x : Int) : Int := if 11 ≤ x ∧ x ≤ 16 then f (x - 10).toNat else if x = 0 then n else if x = 1 then w else if x = 2 then c else if x = 3 then k else if x = 4 then s else if x = 5 then l else if x = 6 then r else -9
theorem c_count_eq {n : Nat} (hn : h 1 0 = n) (hn6 : n ≤ 6) (hw : ∀ j, j < 6 → 0 ≤ h 2 j ∧ h 2 j ≤ 99) (hl : ∀ j, j < 6 → 0 ≤ h 8 j ∧ h 8 j < 64) : wp K0 (d + 5) 138 0 [vR 0, vI x] [] h Q = Q (some (vI (cntF n (h 1 4) (h 1 8) (cntL (h 8) n) (sumF (h 2) 0 n) (h 17 1) (h 0 11) (h 53) x))) h := by
  unfold cntF
  by_cases h1 : 11 ≤ x ∧ x ≤ 16
  · have n1 : (x < 11) = False := eq_false (by omega)
    have n2 : (x ≤ 16) = True := eq_true h1.2
    have n3 : (16 < x) = False := eq_false (by omega)
    have n4 : (11 ≤ x) = True := eq_true h1.1
    have e1 : w32 (x - 10) = x - 10 := w32_id (by omega) (by omega)
    have n5 : (0 ≤ x - 10) = True := eq_true (by omega)
    have n6 : (x - 10 < 7) = True := eq_true (by omega)
    simp only [s138_0, s138_1, s138_3, s138_6, s138_7, s138_9, s138_12, s138_13, s138_16, s138_17, s138_19, s138_20, s138_21, s138_22, s138_23, s138_64, s138_65, s138_68, s138_71, s138_72, s138_73, s138_76, s138_79, s138_80, s138_81, s138_84, s138_87, s138_88, s138_89, s138_92, s138_95, s138_96, s138_97, s138_100, s138_103, s138_104, s138_105, s138_108, s138_111, s138_112, s138_113, s138_116, s138_117, s138_119, k_o0, k_r0_0, k_r0_1, k_r0_3, k_r0_4, k_r0_5, k_r0_6, k_r0_7, k_r0_8, k_r0_9, k_r0_10, k_r0_12, k_o1, k_r1_1, k_r1_5, k_r1_6, k_r1_7, k_r1_9, k_r1_10, k_r1_11, k_n2, k_a2, k_n3, k_a3, k_n4, k_a4, k_n5, k_a5, k_n6, k_a6, k_n7, k_a7, k_n8, k_a8, k_o9, k_r9_1, k_r9_5, k_r9_6, k_r9_7, k_r9_9, k_r9_10, k_r9_11, k_n10, k_a10, k_n11, k_a11, k_n12, k_a12, k_n13, k_a13, k_n14, k_a14, k_n15, k_a15, k_n16, k_a16, k_o17, k_r17_0, k_r17_2, k_n18, k_a18, k_o19, k_r19_1, k_r19_5, k_r19_6, k_r19_7, k_r19_9, k_r19_10, k_r19_11, k_n20, k_a20, k_n21, k_a21, k_n22, k_a22, k_n23, k_a23, k_n24, k_a24, k_n25, k_a25, k_n26, k_a26, k_o27, k_r27_1, k_r27_2, k_r27_3, k_n28, k_a28, k_n29, k_a29, k_n30, k_a30, k_o31, k_r31_2, k_r31_3, k_r31_4, k_r31_5, k_r31_6, k_n32, k_a32, k_n33, k_a33, k_n34, k_a34, k_n35, k_a35, k_n36, k_a36, k_o37, k_r37_0, k_r37_3, k_r37_5, k_r37_6, k_r37_7, k_r37_8, k_n38, k_a38, k_n39, k_a39, k_n40, k_a40, k_n41, k_a41, k_n42, k_a42, k_n43, k_a43, k_o44, k_r44_0, k_r44_1, k_n45, k_a45, k_n46, k_a46, k_o47, k_r47_1, k_r47_2, k_n48, k_a48, k_n49, k_a49, k_o50, k_r50_0, k_n51, k_a51, k_n52, k_a52, k_n53, k_a53, k_o54, k_r54_5, k_r54_6, k_r54_7, k_r54_8, k_r54_9, k_r54_10, k_r54_11, k_r54_13, k_r54_14, k_r54_19, k_r54_20, k_r54_21, k_r54_22, k_r54_23, k_r54_28, k_r54_29, k_r54_32, k_r54_33, k_r54_34, k_r54_37, k_r54_38, k_r54_40, k_r54_41, k_r54_42, k_r54_43, k_r54_44, k_r54_46, k_r54_47, k_n55, k_a55, k_n56, k_a56, k_n57, k_a57, k_n58, k_a58, k_n59, k_a59, k_n60, k_a60, k_n61, k_a61, k_n62, k_a62, k_n63, k_a63, k_n64, k_a64, k_n65, k_a65, k_n66, k_a66, k_n67, k_a67, k_n68, k_a68, k_n69, k_a69, k_n70, k_a70, k_n71, k_a71, k_n72, k_a72, k_n73, k_a73, k_n74, k_a74, k_n75, k_a75, k_n76, k_a76, k_n77, k_a77, k_n78, k_a78, k_n79, k_a79, k_n80, k_a80, k_n81, k_a81, k_n82, k_a82, Option.toList_some, Option.toList_none, List.cons_append, List.nil_append, ite10, ite10n, ite01, ite11, nem, and_true, true_and, eq_self, true_or, or_true, not_true_eq_false, not_false_eq_true, ne_eq, false_and, and_false, Int.reduceEq, Int.reduceNe, Int.reduceLT, Int.reduceLE, Int.reduceToNat, Int.reduceNeg, Nat.reduceEqDiff, Nat.reduceAdd, ↓reduceIte, n1, n2, n3, n4, e1, n5, n6]
  · rw [if_neg h1]
    have key : wp K0 (d + 5) 138 0 [vR 0, vI x] [] h Q = wp K0 (d + 5) 138 23 [vR 0, vI x] [.inl x] h Q := by
      by_cases n1 : x < 11
      · have n4 : (11 ≤ x) = False := eq_false (by omega)
        simp only [s138_0, s138_1, s138_3, s138_6, s138_7, s138_9, s138_12, s138_13, s138_16, s138_17, s138_19, s138_20, s138_21, s138_22, n1, n4, Option.toList_some, Option.toList_none, List.cons_append, List.nil_append, ite10, ite10n, ite01, ite11, nem, and_true, true_and, eq_self, true_or, or_true, not_true_eq_false, not_false_eq_true, ne_eq, false_and, and_false, Int.reduceEq, Int.reduceNe, Int.reduceLT, Int.reduceLE, Int.reduceToNat, Int.reduceNeg, Nat.reduceEqDiff, Nat.reduceAdd, ↓reduceIte]
      · have n4 : (11 ≤ x) = True := eq_true (by omega)
        have n3 : (16 < x) = True := eq_true (by omega)
        have n2 : (x ≤ 16) = False := eq_false (by omega)
        simp only [s138_0, s138_1, s138_3, s138_6, s138_7, s138_9, s138_12, s138_13, s138_16, s138_17, s138_19, s138_20, s138_21, s138_22, n1, n2, n3, n4, Option.toList_some, Option.toList_none, List.cons_append, List.nil_append, ite10, ite10n, ite01, ite11, nem, and_true, true_and, eq_self, true_or, or_true, not_true_eq_false, not_false_eq_true, ne_eq, false_and, and_false, Int.reduceEq, Int.reduceNe, Int.reduceLT, Int.reduceLE, Int.reduceToNat, Int.reduceNeg, Nat.reduceEqDiff, Nat.reduceAdd, ↓reduceIte]
    rw [key, s138_23]
    (repeat' split) <;> simp only [s138_0, s138_1, s138_3, s138_6, s138_7, s138_9, s138_12, s138_13, s138_16, s138_17, s138_19, s138_20, s138_21, s138_22, s138_23, s138_64, s138_65, s138_68, s138_71, s138_72, s138_73, s138_76, s138_79, s138_80, s138_81, s138_84, s138_87, s138_88, s138_89, s138_92, s138_95, s138_96, s138_97, s138_100, s138_103, s138_104, s138_105, s138_108, s138_111, s138_112, s138_113, s138_116, s138_117, s138_119, k_o0, k_r0_0, k_r0_1, k_r0_3, k_r0_4, k_r0_5, k_r0_6, k_r0_7, k_r0_8, k_r0_9, k_r0_10, k_r0_12, k_o1, k_r1_1, k_r1_5, k_r1_6, k_r1_7, k_r1_9, k_r1_10, k_r1_11, k_n2, k_a2, k_n3, k_a3, k_n4, k_a4, k_n5, k_a5, k_n6, k_a6, k_n7, k_a7, k_n8, k_a8, k_o9, k_r9_1, k_r9_5, k_r9_6, k_r9_7, k_r9_9, k_r9_10, k_r9_11, k_n10, k_a10, k_n11, k_a11, k_n12, k_a12, k_n13, k_a13, k_n14, k_a14, k_n15, k_a15, k_n16, k_a16, k_o17, k_r17_0, k_r17_2, k_n18, k_a18, k_o19, k_r19_1, k_r19_5, k_r19_6, k_r19_7, k_r19_9, k_r19_10, k_r19_11, k_n20, k_a20, k_n21, k_a21, k_n22, k_a22, k_n23, k_a23, k_n24, k_a24, k_n25, k_a25, k_n26, k_a26, k_o27, k_r27_1, k_r27_2, k_r27_3, k_n28, k_a28, k_n29, k_a29, k_n30, k_a30, k_o31, k_r31_2, k_r31_3, k_r31_4, k_r31_5, k_r31_6, k_n32, k_a32, k_n33, k_a33, k_n34, k_a34, k_n35, k_a35, k_n36, k_a36, k_o37, k_r37_0, k_r37_3, k_r37_5, k_r37_6, k_r37_7, k_r37_8, k_n38, k_a38, k_n39, k_a39, k_n40, k_a40, k_n41, k_a41, k_n42, k_a42, k_n43, k_a43, k_o44, k_r44_0, k_r44_1, k_n45, k_a45, k_n46, k_a46, k_o47, k_r47_1, k_r47_2, k_n48, k_a48, k_n49, k_a49, k_o50, k_r50_0, k_n51, k_a51, k_n52, k_a52, k_n53, k_a53, k_o54, k_r54_5, k_r54_6, k_r54_7, k_r54_8, k_r54_9, k_r54_10, k_r54_11, k_r54_13, k_r54_14, k_r54_19, k_r54_20, k_r54_21, k_r54_22, k_r54_23, k_r54_28, k_r54_29, k_r54_32, k_r54_33, k_r54_34, k_r54_37, k_r54_38, k_r54_40, k_r54_41, k_r54_42, k_r54_43, k_r54_44, k_r54_46, k_r54_47, k_n55, k_a55, k_n56, k_a56, k_n57, k_a57, k_n58, k_a58, k_n59, k_a59, k_n60, k_a60, k_n61, k_a61, k_n62, k_a62, k_n63, k_a63, k_n64, k_a64, k_n65, k_a65, k_n66, k_a66, k_n67, k_a67, k_n68, k_a68, k_n69, k_a69, k_n70, k_a70, k_n71, k_a71, k_n72, k_a72, k_n73, k_a73, k_n74, k_a74, k_n75, k_a75, k_n76, k_a76, k_n77, k_a77, k_n78, k_a78, k_n79, k_a79, k_n80, k_a80, k_n81, k_a81, k_n82, k_a82, Option.toList_some, Option.toList_none, List.cons_append, List.nil_append, ite10, ite10n, ite01, ite11, nem, and_true, true_and, eq_self, true_or, or_true, not_true_eq_false, not_false_eq_true, ne_eq, false_and, and_false, Int.reduceEq, Int.reduceNe, Int.reduceLT, Int.reduceLE, Int.reduceToNat, Int.reduceNeg, Nat.reduceEqDiff, Nat.reduceAdd, ↓reduceIte, allL_eq hn hn6 hl, allW_eq hn hn6 hw, hn]
end PRY
