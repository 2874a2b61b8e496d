/-! barn: the class goes on to the end of a statement -/
section BNG
variable {d : Nat} {G h : HH} {Q : Option AV → HH → Prop} {U : Nat → Nat} {N p k : Nat}
theorem nd_dg : ∀ f j i, j ≤ i → i < j + nd U N f j → i < N ∧ isDg (U i) = true
  | 0, j, i, h1, h2 => by
    have e : nd U N 0 j = 0 := rfl
    omega
  | f + 1, j, i, h1, h2 => by
    by_cases c : j < N ∧ isDg (U j) = true
    · have e : nd U N (f + 1) j = nd U N f (j + 1) + 1 := if_pos c
      by_cases hi : i = j
      · rw [hi]
        exact c
      · exact nd_dg f (j + 1) i (by omega) (by omega)
    · have e : nd U N (f + 1) j = 0 := if_neg c
      omega
theorem sOK_in (h : sOK U N p = true) {i : Nat} (h1 : p ≤ i) (h2 : i < sq U N p) : ¬ U i = 59 := by
  have z : 0 < mD (U p) ∧ sq U N p < N ∧ U (sq U N p) = 59 ∧ lD (U p) ≤ nd U N (mD (U p)) (p + 1) := of_decide_eq_true h
  by_cases hi : i = p
  · intro h59
    have e : mD (U p) = 0 := by rw [← hi, h59]; rfl
    omega
  · have g := nd_dg (U := U) (N := N) (mD (U p)) (p + 1) i (by omega) h2
    have g2 : 48 ≤ U i ∧ U i ≤ 57 := of_decide_eq_true g.2
    omega
theorem c_skip {a1 a3 : AV} {st s : Int} {q : Nat} (hN : N ≤ 96) (hq : q < N) (hU : ∀ j, j < N → h 18 j = (U j : Int)) : ∀ (k i : Nat), i + k = q → (∀ j, i ≤ j → j < q → ¬ U j = 59) → wp K0 d 72 39 [vR 17, a1, vI (N : Int), a3, vI st, vI s, vI (i : Int)] [] h Q = wp K0 d 72 39 [vR 17, a1, vI (N : Int), a3, vI st, vI s, vI (q : Int)] [] h Q
  | 0, i, h1, h2 => by
    rw [show i = q by omega]
  | k + 1, i, h1, h2 => by
    rw [← c_skip hN hq hU k (i + 1) (by omega) (fun j j1 j2 => h2 j (by omega) j2)]
    have u := hU i (by omega)
    have n59 := h2 i (Nat.le_refl i) (by omega)
    have e59 : ((U i : Int) = 59) = False := eq_false (by omega)
    clear h2
    rw [s72_39]
    simp (disch := omega) only [s72_41, s72_42, s72_45, s72_46, s72_49, s72_51, s72_52, s72_54, s72_84, s72_87, k_o0, k_r0_0, k_r0_1, k_r0_3, k_r0_4, k_r0_5, k_r0_6, k_r0_7, k_r0_8, k_r0_9, k_r0_10, k_r0_12, k_o1, k_r1_1, k_r1_5, k_r1_6, k_r1_7, k_r1_9, k_r1_10, k_r1_11, k_n2, k_a2, k_n3, k_a3, k_n4, k_a4, k_n5, k_a5, k_n6, k_a6, k_n7, k_a7, k_n8, k_a8, k_o9, k_r9_1, k_r9_5, k_r9_6, k_r9_7, k_r9_9, k_r9_10, k_r9_11, k_n10, k_a10, k_n11, k_a11, k_n12, k_a12, k_n13, k_a13, k_n14, k_a14, k_n15, k_a15, k_n16, k_a16, k_o17, k_r17_0, k_r17_2, k_n18, k_a18, k_o19, k_r19_1, k_r19_5, k_r19_6, k_r19_7, k_r19_9, k_r19_10, k_r19_11, k_n20, k_a20, k_n21, k_a21, k_n22, k_a22, k_n23, k_a23, k_n24, k_a24, k_n25, k_a25, k_n26, k_a26, k_o27, k_r27_1, k_r27_2, k_r27_3, k_n28, k_a28, k_n29, k_a29, k_n30, k_a30, k_o31, k_r31_2, k_r31_3, k_r31_4, k_r31_5, k_r31_6, k_n32, k_a32, k_n33, k_a33, k_n34, k_a34, k_n35, k_a35, k_n36, k_a36, k_o37, k_r37_0, k_r37_3, k_r37_5, k_r37_6, k_r37_7, k_r37_8, k_n38, k_a38, k_n39, k_a39, k_n40, k_a40, k_n41, k_a41, k_n42, k_a42, k_n43, k_a43, k_o44, k_r44_0, k_r44_1, k_n45, k_a45, k_n46, k_a46, k_o47, k_r47_1, k_r47_2, k_n48, k_a48, k_n49, k_a49, k_o50, k_r50_0, k_n51, k_a51, k_n52, k_a52, k_n53, k_a53, k_o54, k_r54_5, k_r54_6, k_r54_7, k_r54_8, k_r54_9, k_r54_10, k_r54_11, k_r54_13, k_r54_14, k_r54_19, k_r54_20, k_r54_21, k_r54_22, k_r54_23, k_r54_28, k_r54_29, k_r54_32, k_r54_33, k_r54_34, k_r54_37, k_r54_38, k_r54_40, k_r54_41, k_r54_42, k_r54_43, k_r54_44, k_r54_46, k_r54_47, k_n55, k_a55, k_n56, k_a56, k_n57, k_a57, k_n58, k_a58, k_n59, k_a59, k_n60, k_a60, k_n61, k_a61, k_n62, k_a62, k_n63, k_a63, k_n64, k_a64, k_n65, k_a65, k_n66, k_a66, k_n67, k_a67, k_n68, k_a68, k_n69, k_a69, k_n70, k_a70, k_n71, k_a71, k_n72, k_a72, k_n73, k_a73, k_n74, k_a74, k_n75, k_a75, k_n76, k_a76, k_n77, k_a77, k_n78, k_a78, k_n79, k_a79, k_n80, k_a80, k_n81, k_a81, k_n82, k_a82, Option.toList_some, Option.toList_none, List.cons_append, List.nil_append, ite10, ite10n, ite01, ite11, nem, and_true, true_and, eq_self, true_or, or_true, not_true_eq_false, not_false_eq_true, ne_eq, false_and, and_false, Int.reduceEq, Int.reduceNe, Int.reduceLT, Int.reduceLE, Int.reduceToNat, Int.reduceNeg, Nat.reduceEqDiff, Nat.reduceAdd, ↓reduceIte, u, e59, ne_eq, not_false_eq_true, nc1, w32_id, leF, leT, ltT, Int.toNat_natCast, if_true, if_false, true_and]
end BNG
