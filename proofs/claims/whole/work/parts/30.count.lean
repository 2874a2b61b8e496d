/-! count of the reference, and the pair -/
theorem step24 {a P : Int} {s : Nat} (h0 : 0 ≤ a) (h1 : a ≤ 24 * s) (h2 : 0 ≤ P) (h3 : P ≤ 24) : 0 ≤ a + P ∧ a + P ≤ 24 * ((s + 1 : Nat) : Int) := by
  rw [Int.natCast_add]
  omega
theorem step100 {a P : Int} {s : Nat} (h0 : 0 ≤ a) (h1 : a ≤ 100 * s) (h2 : 0 ≤ P) (h3 : P ≤ 99) : 0 ≤ a + P ∧ a + P ≤ 100 * ((s + 1 : Nat) : Int) := by
  rw [Int.natCast_add]
  omega
section PRZ
variable {d : Nat} {h : HH} {Q : Option AV → HH → Prop} {x y z t : Int}
theorem ones_eqI {K : KK} (h0 : 0 ≤ z) (h1 : z < 2147483648) : wp K d 150 0 [vI z, vU, vU] [] h Q = Q (some (vI (popc z.toNat))) h := by
  obtain ⟨m, rfl⟩ := Int.eq_ofNat_of_zero_le h0
  rw [ones_eq (by omega), Int.toNat_natCast]
theorem mc_loop {n : Nat} (hn : h 54 0 = n) (hn6 : n ≤ 6) (hw : ∀ j, j < 6 → 0 ≤ h 55 j ∧ h 55 j ≤ 99) (hl : ∀ j, j < 6 → 0 ≤ h 59 j ∧ h 59 j < 64) : ∀ (k s : Nat) (a1 a2 : Int), s + k = n → 0 ≤ a1 → a1 ≤ 24 * s → 0 ≤ a2 → a2 ≤ 100 * s → wp K0 (d + 1) 241 12 [vR 54, vI x, vI a1, vI a2, vI s] [] h Q = wp K0 (d + 1) 241 50 [vR 54, vI x, vI (a1 + sumF (fun j => popc (h 59 j).toNat) s k), vI (a2 + sumF (h 55) s k), vI n] [] h Q := by
  intro k
  induction k with
  | zero =>
    intro s a1 a2 hs h1 h2 h3 h4
    have n1 : ((n : Int) ≤ (s : Int)) = True := eq_true (by omega)
    have e0 : s = n := by omega
    rw [s241_12]
    simp only [s241_14, s241_15, s241_18, k_o0, k_r0_0, k_r0_1, k_r0_3, k_r0_4, k_r0_5, k_r0_6, k_r0_7, k_r0_8, k_r0_9, k_r0_10, k_r0_12, k_o1, k_r1_1, k_r1_5, k_r1_6, k_r1_7, k_r1_9, k_r1_10, k_r1_11, k_n2, k_a2, k_n3, k_a3, k_n4, k_a4, k_n5, k_a5, k_n6, k_a6, k_n7, k_a7, k_n8, k_a8, k_o9, k_r9_1, k_r9_5, k_r9_6, k_r9_7, k_r9_9, k_r9_10, k_r9_11, k_n10, k_a10, k_n11, k_a11, k_n12, k_a12, k_n13, k_a13, k_n14, k_a14, k_n15, k_a15, k_n16, k_a16, k_o17, k_r17_0, k_r17_2, k_n18, k_a18, k_o19, k_r19_1, k_r19_5, k_r19_6, k_r19_7, k_r19_9, k_r19_10, k_r19_11, k_n20, k_a20, k_n21, k_a21, k_n22, k_a22, k_n23, k_a23, k_n24, k_a24, k_n25, k_a25, k_n26, k_a26, k_o27, k_r27_1, k_r27_2, k_r27_3, k_n28, k_a28, k_n29, k_a29, k_n30, k_a30, k_o31, k_r31_2, k_r31_3, k_r31_4, k_r31_5, k_r31_6, k_n32, k_a32, k_n33, k_a33, k_n34, k_a34, k_n35, k_a35, k_n36, k_a36, k_o37, k_r37_0, k_r37_3, k_r37_5, k_r37_6, k_r37_7, k_r37_8, k_n38, k_a38, k_n39, k_a39, k_n40, k_a40, k_n41, k_a41, k_n42, k_a42, k_n43, k_a43, k_o44, k_r44_0, k_r44_1, k_n45, k_a45, k_n46, k_a46, k_o47, k_r47_1, k_r47_2, k_n48, k_a48, k_n49, k_a49, k_o50, k_r50_0, k_n51, k_a51, k_n52, k_a52, k_n53, k_a53, k_o54, k_r54_5, k_r54_6, k_r54_7, k_r54_8, k_r54_9, k_r54_10, k_r54_11, k_r54_13, k_r54_14, k_r54_19, k_r54_20, k_r54_21, k_r54_22, k_r54_23, k_r54_28, k_r54_29, k_r54_32, k_r54_33, k_r54_34, k_r54_37, k_r54_38, k_r54_40, k_r54_41, k_r54_42, k_r54_43, k_r54_44, k_r54_46, k_r54_47, k_n55, k_a55, k_n56, k_a56, k_n57, k_a57, k_n58, k_a58, k_n59, k_a59, k_n60, k_a60, k_n61, k_a61, k_n62, k_a62, k_n63, k_a63, k_n64, k_a64, k_n65, k_a65, k_n66, k_a66, k_n67, k_a67, k_n68, k_a68, k_n69, k_a69, k_n70, k_a70, k_n71, k_a71, k_n72, k_a72, k_n73, k_a73, k_n74, k_a74, k_n75, k_a75, k_n76, k_a76, k_n77, k_a77, k_n78, k_a78, k_n79, k_a79, k_n80, k_a80, k_n81, k_a81, k_n82, k_a82, Option.toList_some, Option.toList_none, List.cons_append, List.nil_append, ite10, ite10n, ite01, ite11, nem, and_true, true_and, eq_self, true_or, or_true, not_true_eq_false, not_false_eq_true, ne_eq, false_and, and_false, Int.reduceEq, Int.reduceNe, Int.reduceLT, Int.reduceLE, Int.reduceToNat, Int.reduceNeg, Nat.reduceEqDiff, Nat.reduceAdd, ↓reduceIte, hn, n1, sumF, Int.add_zero, e0, Int.le_refl]
  | succ k ih =>
    intro s a1 a2 hs h1 h2 h3 h4
    have n1 : ((n : Int) ≤ (s : Int)) = False := eq_false (by omega)
    have p1 : (0 ≤ (s : Int)) = True := eq_true (by omega)
    have p2 : ((s : Int) < 6) = True := eq_true (by omega)
    have hv := hw s (by omega)
    have hv2 := hl s (by omega)
    have hp := popc_r (h 59 s).toNat
    have e1 : w32 (a1 + popc (h 59 s).toNat) = a1 + popc (h 59 s).toNat := w32_id (by omega) (by omega)
    have e3 : w32 (a2 + h 55 s) = a2 + h 55 s := w32_id (by omega) (by omega)
    have e2 : w32 ((s : Int) + 1) = ((s + 1 : Nat) : Int) := by rw [w32_id (by omega) (by omega)]; omega
    have hq1 := step24 h1 h2 hp.1 hp.2
    have hq2 := step100 h3 h4 hv.1 hv.2
    rw [s241_12]
    simp only [s241_14, s241_15, s241_18, s241_21, s241_22, s241_23, s241_26, s241_28, s241_29, s241_32, s241_33, s241_34, s241_35, s241_36, s241_39, s241_41, s241_42, s241_43, s241_44, s241_47, k_o0, k_r0_0, k_r0_1, k_r0_3, k_r0_4, k_r0_5, k_r0_6, k_r0_7, k_r0_8, k_r0_9, k_r0_10, k_r0_12, k_o1, k_r1_1, k_r1_5, k_r1_6, k_r1_7, k_r1_9, k_r1_10, k_r1_11, k_n2, k_a2, k_n3, k_a3, k_n4, k_a4, k_n5, k_a5, k_n6, k_a6, k_n7, k_a7, k_n8, k_a8, k_o9, k_r9_1, k_r9_5, k_r9_6, k_r9_7, k_r9_9, k_r9_10, k_r9_11, k_n10, k_a10, k_n11, k_a11, k_n12, k_a12, k_n13, k_a13, k_n14, k_a14, k_n15, k_a15, k_n16, k_a16, k_o17, k_r17_0, k_r17_2, k_n18, k_a18, k_o19, k_r19_1, k_r19_5, k_r19_6, k_r19_7, k_r19_9, k_r19_10, k_r19_11, k_n20, k_a20, k_n21, k_a21, k_n22, k_a22, k_n23, k_a23, k_n24, k_a24, k_n25, k_a25, k_n26, k_a26, k_o27, k_r27_1, k_r27_2, k_r27_3, k_n28, k_a28, k_n29, k_a29, k_n30, k_a30, k_o31, k_r31_2, k_r31_3, k_r31_4, k_r31_5, k_r31_6, k_n32, k_a32, k_n33, k_a33, k_n34, k_a34, k_n35, k_a35, k_n36, k_a36, k_o37, k_r37_0, k_r37_3, k_r37_5, k_r37_6, k_r37_7, k_r37_8, k_n38, k_a38, k_n39, k_a39, k_n40, k_a40, k_n41, k_a41, k_n42, k_a42, k_n43, k_a43, k_o44, k_r44_0, k_r44_1, k_n45, k_a45, k_n46, k_a46, k_o47, k_r47_1, k_r47_2, k_n48, k_a48, k_n49, k_a49, k_o50, k_r50_0, k_n51, k_a51, k_n52, k_a52, k_n53, k_a53, k_o54, k_r54_5, k_r54_6, k_r54_7, k_r54_8, k_r54_9, k_r54_10, k_r54_11, k_r54_13, k_r54_14, k_r54_19, k_r54_20, k_r54_21, k_r54_22, k_r54_23, k_r54_28, k_r54_29, k_r54_32, k_r54_33, k_r54_34, k_r54_37, k_r54_38, k_r54_40, k_r54_41, k_r54_42, k_r54_43, k_r54_44, k_r54_46, k_r54_47, k_n55, k_a55, k_n56, k_a56, k_n57, k_a57, k_n58, k_a58, k_n59, k_a59, k_n60, k_a60, k_n61, k_a61, k_n62, k_a62, k_n63, k_a63, k_n64, k_a64, k_n65, k_a65, k_n66, k_a66, k_n67, k_a67, k_n68, k_a68, k_n69, k_a69, k_n70, k_a70, k_n71, k_a71, k_n72, k_a72, k_n73, k_a73, k_n74, k_a74, k_n75, k_a75, k_n76, k_a76, k_n77, k_a77, k_n78, k_a78, k_n79, k_a79, k_n80, k_a80, k_n81, k_a81, k_n82, k_a82, Option.toList_some, Option.toList_none, List.cons_append, List.nil_append, ite10, ite10n, ite01, ite11, nem, and_true, true_and, eq_self, true_or, or_true, not_true_eq_false, not_false_eq_true, ne_eq, false_and, and_false, Int.reduceEq, Int.reduceNe, Int.reduceLT, Int.reduceLE, Int.reduceToNat, Int.reduceNeg, Nat.reduceEqDiff, Nat.reduceAdd, ↓reduceIte, hn, n1, p1, p2, Int.toNat_natCast, ones_eqI hv2.1 (show h 59 s < 2147483648 by omega), e1, e2, e3]
    rw [ih (s + 1) _ _ (by omega) hq1.1 hq1.2 hq2.1 hq2.2, sumF_s, sumF_s, Int.add_assoc, Int.add_assoc]
theorem m_count_eq {n : Nat} (hn : h 54 0 = n) (hn6 : n ≤ 6) (hw : ∀ j, j < 6 → 0 ≤ h 55 j ∧ h 55 j ≤ 99) (hl : ∀ j, j < 6 → 0 ≤ h 59 j ∧ h 59 j < 64) : wp K0 (d + 5) 241 0 [vR 54, vI x, vU, vU, vU] [] h Q = Q (some (vI (cntF n (h 54 3) (h 54 4) (cntL (h 59) n) (sumF (h 55) 0 n) (h 54 15) (h 54 48) (h 62) x))) (th h) := by
  have q : ∀ k, k ≠ 12 → th h 54 k = h 54 k := fun k hk => th_k hk
  have q0 := q 0 (by decide)
  have q3 := q 3 (by decide)
  have q4 := q 4 (by decide)
  have q15 := q 15 (by decide)
  have q48 := q 48 (by decide)
  have r55 : th h 55 = h 55 := th_r (by decide)
  have r59 : th h 59 = h 59 := th_r (by decide)
  have r62 : th h 62 = h 62 := th_r (by decide)
  have e := mc_loop (d := d + 4) (h := th h) (Q := Q) (x := x) (n := n) (by rw [q0]; exact hn) hn6 (by rw [r55]; exact hw) (by rw [r59]; exact hl) n 0 0 0 (by omega) (by omega) (by omega) (by omega) (by omega)
  simp only [Int.zero_add, r55, r59] at e
  have e2 : wp K0 (d + 5) 241 0 [vR 54, vI x, vU, vU, vU] [] h Q = wp K0 (d + 4 + 1) 241 12 [vR 54, vI x, vI 0, vI 0, vI ((0 : Nat) : Int)] [] (th h) Q := by
    simp only [s241_0, s241_1, s241_2, s241_5, s241_6, s241_7, s241_8, s241_9, s241_10, k_o0, k_r0_0, k_r0_1, k_r0_3, k_r0_4, k_r0_5, k_r0_6, k_r0_7, k_r0_8, k_r0_9, k_r0_10, k_r0_12, k_o1, k_r1_1, k_r1_5, k_r1_6, k_r1_7, k_r1_9, k_r1_10, k_r1_11, k_n2, k_a2, k_n3, k_a3, k_n4, k_a4, k_n5, k_a5, k_n6, k_a6, k_n7, k_a7, k_n8, k_a8, k_o9, k_r9_1, k_r9_5, k_r9_6, k_r9_7, k_r9_9, k_r9_10, k_r9_11, k_n10, k_a10, k_n11, k_a11, k_n12, k_a12, k_n13, k_a13, k_n14, k_a14, k_n15, k_a15, k_n16, k_a16, k_o17, k_r17_0, k_r17_2, k_n18, k_a18, k_o19, k_r19_1, k_r19_5, k_r19_6, k_r19_7, k_r19_9, k_r19_10, k_r19_11, k_n20, k_a20, k_n21, k_a21, k_n22, k_a22, k_n23, k_a23, k_n24, k_a24, k_n25, k_a25, k_n26, k_a26, k_o27, k_r27_1, k_r27_2, k_r27_3, k_n28, k_a28, k_n29, k_a29, k_n30, k_a30, k_o31, k_r31_2, k_r31_3, k_r31_4, k_r31_5, k_r31_6, k_n32, k_a32, k_n33, k_a33, k_n34, k_a34, k_n35, k_a35, k_n36, k_a36, k_o37, k_r37_0, k_r37_3, k_r37_5, k_r37_6, k_r37_7, k_r37_8, k_n38, k_a38, k_n39, k_a39, k_n40, k_a40, k_n41, k_a41, k_n42, k_a42, k_n43, k_a43, k_o44, k_r44_0, k_r44_1, k_n45, k_a45, k_n46, k_a46, k_o47, k_r47_1, k_r47_2, k_n48, k_a48, k_n49, k_a49, k_o50, k_r50_0, k_n51, k_a51, k_n52, k_a52, k_n53, k_a53, k_o54, k_r54_5, k_r54_6, k_r54_7, k_r54_8, k_r54_9, k_r54_10, k_r54_11, k_r54_13, k_r54_14, k_r54_19, k_r54_20, k_r54_21, k_r54_22, k_r54_23, k_r54_28, k_r54_29, k_r54_32, k_r54_33, k_r54_34, k_r54_37, k_r54_38, k_r54_40, k_r54_41, k_r54_42, k_r54_43, k_r54_44, k_r54_46, k_r54_47, k_n55, k_a55, k_n56, k_a56, k_n57, k_a57, k_n58, k_a58, k_n59, k_a59, k_n60, k_a60, k_n61, k_a61, k_n62, k_a62, k_n63, k_a63, k_n64, k_a64, k_n65, k_a65, k_n66, k_a66, k_n67, k_a67, k_n68, k_a68, k_n69, k_a69, k_n70, k_a70, k_n71, k_a71, k_n72, k_a72, k_n73, k_a73, k_n74, k_a74, k_n75, k_a75, k_n76, k_a76, k_n77, k_a77, k_n78, k_a78, k_n79, k_a79, k_n80, k_a80, k_n81, k_a81, k_n82, k_a82, Option.toList_some, Option.toList_none, List.cons_append, List.nil_append, ite10, ite10n, ite01, ite11, nem, and_true, true_and, eq_self, true_or, or_true, not_true_eq_false, not_false_eq_true, ne_eq, false_and, and_false, Int.reduceEq, Int.reduceNe, Int.reduceLT, Int.reduceLE, Int.reduceToNat, Int.reduceNeg, Nat.reduceEqDiff, Nat.reduceAdd, ↓reduceIte, tq]
    rfl
  rw [e2, e]
  have e1 : 11 ≤ x ∧ x ≤ 16 → w32 (x - 10) = x - 10 := fun hz => w32_id (by omega) (by omega)
  unfold cntF
  rw [s241_50, s241_51]
  by_cases h1 : 11 ≤ x ∧ x ≤ 16
  · have n0 : (x = 0) = False := eq_false (by omega)
    have n1 : (x = 1) = False := eq_false (by omega)
    have n2 : (x = 2) = False := eq_false (by omega)
    have n3 : (x = 3) = False := eq_false (by omega)
    have n4 : (x = 4) = False := eq_false (by omega)
    have n5 : (x = 5) = False := eq_false (by omega)
    have n6 : (x = 6) = False := eq_false (by omega)
    have p5 : (0 ≤ x - 10) = True := eq_true (by omega)
    have p6 : (x - 10 < 7) = True := eq_true (by omega)
    simp only [s241_0, s241_1, s241_2, s241_5, s241_6, s241_7, s241_8, s241_9, s241_10, s241_14, s241_15, s241_18, s241_21, s241_22, s241_23, s241_26, s241_28, s241_29, s241_32, s241_33, s241_34, s241_35, s241_36, s241_39, s241_41, s241_42, s241_43, s241_44, s241_47, s241_50, s241_51, s241_92, s241_93, s241_96, s241_97, s241_98, s241_101, s241_102, s241_103, s241_106, s241_107, s241_108, s241_109, s241_110, s241_111, s241_112, s241_115, s241_116, s241_117, s241_120, s241_121, s241_122, s241_123, s241_126, s241_129, s241_132, s241_135, s241_136, s241_139, s241_140, s241_142, s241_143, s241_144, s241_147, s241_149, k_o0, k_r0_0, k_r0_1, k_r0_3, k_r0_4, k_r0_5, k_r0_6, k_r0_7, k_r0_8, k_r0_9, k_r0_10, k_r0_12, k_o1, k_r1_1, k_r1_5, k_r1_6, k_r1_7, k_r1_9, k_r1_10, k_r1_11, k_n2, k_a2, k_n3, k_a3, k_n4, k_a4, k_n5, k_a5, k_n6, k_a6, k_n7, k_a7, k_n8, k_a8, k_o9, k_r9_1, k_r9_5, k_r9_6, k_r9_7, k_r9_9, k_r9_10, k_r9_11, k_n10, k_a10, k_n11, k_a11, k_n12, k_a12, k_n13, k_a13, k_n14, k_a14, k_n15, k_a15, k_n16, k_a16, k_o17, k_r17_0, k_r17_2, k_n18, k_a18, k_o19, k_r19_1, k_r19_5, k_r19_6, k_r19_7, k_r19_9, k_r19_10, k_r19_11, k_n20, k_a20, k_n21, k_a21, k_n22, k_a22, k_n23, k_a23, k_n24, k_a24, k_n25, k_a25, k_n26, k_a26, k_o27, k_r27_1, k_r27_2, k_r27_3, k_n28, k_a28, k_n29, k_a29, k_n30, k_a30, k_o31, k_r31_2, k_r31_3, k_r31_4, k_r31_5, k_r31_6, k_n32, k_a32, k_n33, k_a33, k_n34, k_a34, k_n35, k_a35, k_n36, k_a36, k_o37, k_r37_0, k_r37_3, k_r37_5, k_r37_6, k_r37_7, k_r37_8, k_n38, k_a38, k_n39, k_a39, k_n40, k_a40, k_n41, k_a41, k_n42, k_a42, k_n43, k_a43, k_o44, k_r44_0, k_r44_1, k_n45, k_a45, k_n46, k_a46, k_o47, k_r47_1, k_r47_2, k_n48, k_a48, k_n49, k_a49, k_o50, k_r50_0, k_n51, k_a51, k_n52, k_a52, k_n53, k_a53, k_o54, k_r54_5, k_r54_6, k_r54_7, k_r54_8, k_r54_9, k_r54_10, k_r54_11, k_r54_13, k_r54_14, k_r54_19, k_r54_20, k_r54_21, k_r54_22, k_r54_23, k_r54_28, k_r54_29, k_r54_32, k_r54_33, k_r54_34, k_r54_37, k_r54_38, k_r54_40, k_r54_41, k_r54_42, k_r54_43, k_r54_44, k_r54_46, k_r54_47, k_n55, k_a55, k_n56, k_a56, k_n57, k_a57, k_n58, k_a58, k_n59, k_a59, k_n60, k_a60, k_n61, k_a61, k_n62, k_a62, k_n63, k_a63, k_n64, k_a64, k_n65, k_a65, k_n66, k_a66, k_n67, k_a67, k_n68, k_a68, k_n69, k_a69, k_n70, k_a70, k_n71, k_a71, k_n72, k_a72, k_n73, k_a73, k_n74, k_a74, k_n75, k_a75, k_n76, k_a76, k_n77, k_a77, k_n78, k_a78, k_n79, k_a79, k_n80, k_a80, k_n81, k_a81, k_n82, k_a82, Option.toList_some, Option.toList_none, List.cons_append, List.nil_append, ite10, ite10n, ite01, ite11, nem, and_true, true_and, eq_self, true_or, or_true, not_true_eq_false, not_false_eq_true, ne_eq, false_and, and_false, Int.reduceEq, Int.reduceNe, Int.reduceLT, Int.reduceLE, Int.reduceToNat, Int.reduceNeg, Nat.reduceEqDiff, Nat.reduceAdd, ↓reduceIte, n0, n1, n2, n3, n4, n5, n6, m_in_eq, h1, e1 h1, p5, p6, r62]
  · rw [if_neg h1]
    (repeat' split) <;> simp only [s241_0, s241_1, s241_2, s241_5, s241_6, s241_7, s241_8, s241_9, s241_10, s241_14, s241_15, s241_18, s241_21, s241_22, s241_23, s241_26, s241_28, s241_29, s241_32, s241_33, s241_34, s241_35, s241_36, s241_39, s241_41, s241_42, s241_43, s241_44, s241_47, s241_50, s241_51, s241_92, s241_93, s241_96, s241_97, s241_98, s241_101, s241_102, s241_103, s241_106, s241_107, s241_108, s241_109, s241_110, s241_111, s241_112, s241_115, s241_116, s241_117, s241_120, s241_121, s241_122, s241_123, s241_126, s241_129, s241_132, s241_135, s241_136, s241_139, s241_140, s241_142, s241_143, s241_144, s241_147, s241_149, k_o0, k_r0_0, k_r0_1, k_r0_3, k_r0_4, k_r0_5, k_r0_6, k_r0_7, k_r0_8, k_r0_9, k_r0_10, k_r0_12, k_o1, k_r1_1, k_r1_5, k_r1_6, k_r1_7, k_r1_9, k_r1_10, k_r1_11, k_n2, k_a2, k_n3, k_a3, k_n4, k_a4, k_n5, k_a5, k_n6, k_a6, k_n7, k_a7, k_n8, k_a8, k_o9, k_r9_1, k_r9_5, k_r9_6, k_r9_7, k_r9_9, k_r9_10, k_r9_11, k_n10, k_a10, k_n11, k_a11, k_n12, k_a12, k_n13, k_a13, k_n14, k_a14, k_n15, k_a15, k_n16, k_a16, k_o17, k_r17_0, k_r17_2, k_n18, k_a18, k_o19, k_r19_1, k_r19_5, k_r19_6, k_r19_7, k_r19_9, k_r19_10, k_r19_11, k_n20, k_a20, k_n21, k_a21, k_n22, k_a22, k_n23, k_a23, k_n24, k_a24, k_n25, k_a25, k_n26, k_a26, k_o27, k_r27_1, k_r27_2, k_r27_3, k_n28, k_a28, k_n29, k_a29, k_n30, k_a30, k_o31, k_r31_2, k_r31_3, k_r31_4, k_r31_5, k_r31_6, k_n32, k_a32, k_n33, k_a33, k_n34, k_a34, k_n35, k_a35, k_n36, k_a36, k_o37, k_r37_0, k_r37_3, k_r37_5, k_r37_6, k_r37_7, k_r37_8, k_n38, k_a38, k_n39, k_a39, k_n40, k_a40, k_n41, k_a41, k_n42, k_a42, k_n43, k_a43, k_o44, k_r44_0, k_r44_1, k_n45, k_a45, k_n46, k_a46, k_o47, k_r47_1, k_r47_2, k_n48, k_a48, k_n49, k_a49, k_o50, k_r50_0, k_n51, k_a51, k_n52, k_a52, k_n53, k_a53, k_o54, k_r54_5, k_r54_6, k_r54_7, k_r54_8, k_r54_9, k_r54_10, k_r54_11, k_r54_13, k_r54_14, k_r54_19, k_r54_20, k_r54_21, k_r54_22, k_r54_23, k_r54_28, k_r54_29, k_r54_32, k_r54_33, k_r54_34, k_r54_37, k_r54_38, k_r54_40, k_r54_41, k_r54_42, k_r54_43, k_r54_44, k_r54_46, k_r54_47, k_n55, k_a55, k_n56, k_a56, k_n57, k_a57, k_n58, k_a58, k_n59, k_a59, k_n60, k_a60, k_n61, k_a61, k_n62, k_a62, k_n63, k_a63, k_n64, k_a64, k_n65, k_a65, k_n66, k_a66, k_n67, k_a67, k_n68, k_a68, k_n69, k_a69, k_n70, k_a70, k_n71, k_a71, k_n72, k_a72, k_n73, k_a73, k_n74, k_a74, k_n75, k_a75, k_n76, k_a76, k_n77, k_a77, k_n78, k_a78, k_n79, k_a79, k_n80, k_a80, k_n81, k_a81, k_n82, k_a82, Option.toList_some, Option.toList_none, List.cons_append, List.nil_append, ite10, ite10n, ite01, ite11, nem, and_true, true_and, eq_self, true_or, or_true, not_true_eq_false, not_false_eq_true, ne_eq, false_and, and_false, Int.reduceEq, Int.reduceNe, Int.reduceLT, Int.reduceLE, Int.reduceToNat, Int.reduceNeg, Nat.reduceEqDiff, Nat.reduceAdd, ↓reduceIte, m_in_eq, h1, q0, q3, q4, q15, q48, hn, cntL]
theorem pr_count (v : RE h) : PR (d + 5) 138 241 [vR 0, vI x] [vR 54, vI x, vU, vU, vU] h := by
  have v0 := v
  obtain ⟨v1, ⟨b1, b2, b3, b4, b5, b6, b7, b8, b9⟩, c1, c2, c3, c4, c5, c6, c7, c8, c9⟩ := v
  have hn := v0.nn
  have hw : ∀ j, j < 6 → 0 ≤ h 2 j ∧ h 2 j ≤ 99 := v1.2.2.2.2.2.1
  have hl : ∀ j, j < 6 → 0 ≤ h 8 j ∧ h 8 j < 64 := by
    intro j hj
    obtain ⟨a1, a2, a3, a4, a5, a6, a7, a8, a9, a10⟩ := v1
    have q : 0 ≤ h 8 j ∧ h 8 j < 2 ^ (h 1 0).toNat ∧ (h 8 j).toNat.testBit j = false := a9 j hj
    have w : 2 ^ (h 1 0).toNat ≤ 2 ^ 6 := Nat.pow_le_pow_right (by decide) (by omega)
    have w1 := nlt_pow q.1 q.2.1
    have q1 := q.1
    generalize 2 ^ (h 1 0).toNat = P at *
    omega
  have e0 : h 1 0 = ((h 1 0).toNat : Int) := by omega
  have m1 : ∀ j, j < 6 → 0 ≤ h 55 j ∧ h 55 j ≤ 99 := fun j hj => by rw [b6 j hj]; exact hw j hj
  have m2 : ∀ j, j < 6 → 0 ≤ h 59 j ∧ h 59 j < 64 := fun j hj => by rw [b9 j hj]; exact hl j hj
  have f1 : cntL (h 59) (h 1 0).toNat = cntL (h 8) (h 1 0).toNat := by
    unfold cntL
    refine sumF_cong _ _ (fun j _ h2 => ?_)
    rw [b9 j (by omega)]
  have f2 : sumF (h 55) 0 (h 1 0).toNat = sumF (h 2) 0 (h 1 0).toNat := sumF_cong _ _ (fun j _ h2 => b6 j (by omega))
  have f3 : ∀ g1 g2 g3 g4 g5 g6 g7 : Int, cntF g1 g2 g3 g4 g5 g6 g7 (h 62) x = cntF g1 g2 g3 g4 g5 g6 g7 (h 53) x := by
    intro g1 g2 g3 g4 g5 g6 g7
    unfold cntF
    by_cases hz : 11 ≤ x ∧ x ≤ 16
    · rw [if_pos hz, if_pos hz, c9 _ (by omega)]
    · rw [if_neg hz, if_neg hz]
  unfold PR
  rw [c_count_eq e0 (by omega) hw hl, m_count_eq (n := (h 1 0).toNat) (by rw [b1]; exact e0) (by omega) m1 m2, b4, b5, c3, c6, f1, f2, f3]
  exact pr_same v0 th_fq _
end PRZ
