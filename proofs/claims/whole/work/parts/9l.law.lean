/-! the law: its loop -/
theorem ite_in {c : Prop} {i : Decidable c} {A B : Prop} (h1 : c → A) (h2 : ¬ c → B) : @ite Prop c i A B := by
  by_cases hc : c
  · rw [if_pos hc]
    exact h1 hc
  · rw [if_neg hc]
    exact h2 hc
theorem law_loop {d L : Nat} (hL : L ≤ 2048) : ∀ (k i : Nat) (h : HH), L < i + 4 * k → i ≤ L + 4 → RE h → LI h → MI h → h 10001 0 = (L : Int) → h 10000 4096 = 1 → wp K0 (d + 11) 243 18 [vR 10000, vR 0, vR 54, vI (i : Int)] [] h (fun r _ => r = some (vI 1)) := by
  intro k
  induction k with
  | zero =>
    intro i h hk hi v li mi hs hf
    simp (disch := omega) only [s243_18, s243_19, s243_20, s243_21, s243_22, s243_23, s243_1041, s243_1042, k_o0, k_r0_0, k_r0_1, k_r0_3, k_r0_4, k_r0_5, k_r0_6, k_r0_7, k_r0_8, k_r0_9, k_r0_10, k_r0_12, k_o1, k_r1_1, k_r1_5, k_r1_6, k_r1_7, k_r1_9, k_r1_10, k_r1_11, k_n2, k_a2, k_n3, k_a3, k_n4, k_a4, k_n5, k_a5, k_n6, k_a6, k_n7, k_a7, k_n8, k_a8, k_o9, k_r9_1, k_r9_5, k_r9_6, k_r9_7, k_r9_9, k_r9_10, k_r9_11, k_n10, k_a10, k_n11, k_a11, k_n12, k_a12, k_n13, k_a13, k_n14, k_a14, k_n15, k_a15, k_n16, k_a16, k_o17, k_r17_0, k_r17_2, k_n18, k_a18, k_o19, k_r19_1, k_r19_5, k_r19_6, k_r19_7, k_r19_9, k_r19_10, k_r19_11, k_n20, k_a20, k_n21, k_a21, k_n22, k_a22, k_n23, k_a23, k_n24, k_a24, k_n25, k_a25, k_n26, k_a26, k_o27, k_r27_1, k_r27_2, k_r27_3, k_n28, k_a28, k_n29, k_a29, k_n30, k_a30, k_o31, k_r31_2, k_r31_3, k_r31_4, k_r31_5, k_r31_6, k_n32, k_a32, k_n33, k_a33, k_n34, k_a34, k_n35, k_a35, k_n36, k_a36, k_o37, k_r37_0, k_r37_3, k_r37_5, k_r37_6, k_r37_7, k_r37_8, k_n38, k_a38, k_n39, k_a39, k_n40, k_a40, k_n41, k_a41, k_n42, k_a42, k_n43, k_a43, k_o44, k_r44_0, k_r44_1, k_n45, k_a45, k_n46, k_a46, k_o47, k_r47_1, k_r47_2, k_n48, k_a48, k_n49, k_a49, k_o50, k_r50_0, k_n51, k_a51, k_n52, k_a52, k_n53, k_a53, k_o54, k_r54_5, k_r54_6, k_r54_7, k_r54_8, k_r54_9, k_r54_10, k_r54_11, k_r54_13, k_r54_14, k_r54_19, k_r54_20, k_r54_21, k_r54_22, k_r54_23, k_r54_28, k_r54_29, k_r54_32, k_r54_33, k_r54_34, k_r54_37, k_r54_38, k_r54_40, k_r54_41, k_r54_42, k_r54_43, k_r54_44, k_r54_46, k_r54_47, k_n55, k_a55, k_n56, k_a56, k_n57, k_a57, k_n58, k_a58, k_n59, k_a59, k_n60, k_a60, k_n61, k_a61, k_n62, k_a62, k_n63, k_a63, k_n64, k_a64, k_n65, k_a65, k_n66, k_a66, k_n67, k_a67, k_n68, k_a68, k_n69, k_a69, k_n70, k_a70, k_n71, k_a71, k_n72, k_a72, k_n73, k_a73, k_n74, k_a74, k_n75, k_a75, k_n76, k_a76, k_n77, k_a77, k_n78, k_a78, k_n79, k_a79, k_n80, k_a80, k_n81, k_a81, k_n82, k_a82, Option.toList_some, Option.toList_none, List.cons_append, List.nil_append, ite10, ite10n, ite01, ite11, nem, and_true, true_and, eq_self, true_or, or_true, not_true_eq_false, not_false_eq_true, ne_eq, false_and, and_false, Int.reduceEq, Int.reduceNe, Int.reduceLT, Int.reduceLE, Int.reduceToNat, Int.reduceNeg, Nat.reduceEqDiff, Nat.reduceAdd, ↓reduceIte, al_s, hs, hf, w32_id, ltT]
  | succ k ih =>
    intro i h hk hi v li mi hs hf
    by_cases hb : L < i + 4
    · clear ih
      simp (disch := omega) only [s243_18, s243_19, s243_20, s243_21, s243_22, s243_23, s243_1041, s243_1042, k_o0, k_r0_0, k_r0_1, k_r0_3, k_r0_4, k_r0_5, k_r0_6, k_r0_7, k_r0_8, k_r0_9, k_r0_10, k_r0_12, k_o1, k_r1_1, k_r1_5, k_r1_6, k_r1_7, k_r1_9, k_r1_10, k_r1_11, k_n2, k_a2, k_n3, k_a3, k_n4, k_a4, k_n5, k_a5, k_n6, k_a6, k_n7, k_a7, k_n8, k_a8, k_o9, k_r9_1, k_r9_5, k_r9_6, k_r9_7, k_r9_9, k_r9_10, k_r9_11, k_n10, k_a10, k_n11, k_a11, k_n12, k_a12, k_n13, k_a13, k_n14, k_a14, k_n15, k_a15, k_n16, k_a16, k_o17, k_r17_0, k_r17_2, k_n18, k_a18, k_o19, k_r19_1, k_r19_5, k_r19_6, k_r19_7, k_r19_9, k_r19_10, k_r19_11, k_n20, k_a20, k_n21, k_a21, k_n22, k_a22, k_n23, k_a23, k_n24, k_a24, k_n25, k_a25, k_n26, k_a26, k_o27, k_r27_1, k_r27_2, k_r27_3, k_n28, k_a28, k_n29, k_a29, k_n30, k_a30, k_o31, k_r31_2, k_r31_3, k_r31_4, k_r31_5, k_r31_6, k_n32, k_a32, k_n33, k_a33, k_n34, k_a34, k_n35, k_a35, k_n36, k_a36, k_o37, k_r37_0, k_r37_3, k_r37_5, k_r37_6, k_r37_7, k_r37_8, k_n38, k_a38, k_n39, k_a39, k_n40, k_a40, k_n41, k_a41, k_n42, k_a42, k_n43, k_a43, k_o44, k_r44_0, k_r44_1, k_n45, k_a45, k_n46, k_a46, k_o47, k_r47_1, k_r47_2, k_n48, k_a48, k_n49, k_a49, k_o50, k_r50_0, k_n51, k_a51, k_n52, k_a52, k_n53, k_a53, k_o54, k_r54_5, k_r54_6, k_r54_7, k_r54_8, k_r54_9, k_r54_10, k_r54_11, k_r54_13, k_r54_14, k_r54_19, k_r54_20, k_r54_21, k_r54_22, k_r54_23, k_r54_28, k_r54_29, k_r54_32, k_r54_33, k_r54_34, k_r54_37, k_r54_38, k_r54_40, k_r54_41, k_r54_42, k_r54_43, k_r54_44, k_r54_46, k_r54_47, k_n55, k_a55, k_n56, k_a56, k_n57, k_a57, k_n58, k_a58, k_n59, k_a59, k_n60, k_a60, k_n61, k_a61, k_n62, k_a62, k_n63, k_a63, k_n64, k_a64, k_n65, k_a65, k_n66, k_a66, k_n67, k_a67, k_n68, k_a68, k_n69, k_a69, k_n70, k_a70, k_n71, k_a71, k_n72, k_a72, k_n73, k_a73, k_n74, k_a74, k_n75, k_a75, k_n76, k_a76, k_n77, k_a77, k_n78, k_a78, k_n79, k_a79, k_n80, k_a80, k_n81, k_a81, k_n82, k_a82, Option.toList_some, Option.toList_none, List.cons_append, List.nil_append, ite10, ite10n, ite01, ite11, nem, and_true, true_and, eq_self, true_or, or_true, not_true_eq_false, not_false_eq_true, ne_eq, false_and, and_false, Int.reduceEq, Int.reduceNe, Int.reduceLT, Int.reduceLE, Int.reduceToNat, Int.reduceNeg, Nat.reduceEqDiff, Nat.reduceAdd, ↓reduceIte, al_s, hs, hf, w32_id, ltT]
    · have nx : ∀ h2, RE h2 → LI h2 → MI h2 → (∀ a, 83 ≤ a → h2 a = h a) → wp K0 (d + 11) 243 1035 [vR 10000, vR 0, vR 54, vI (i : Int)] [] h2 (fun r _ => r = some (vI 1)) := by
        intro h2 v2 li2 mi2 kp
        have q := ih (i + 4) h2 (by omega) (by omega) v2 li2 mi2 (by rw [kp _ (by decide)]; exact hs) (by rw [kp _ (by decide)]; exact hf)
        have n4 : (i : Int) + 4 = ((i + 4 : Nat) : Int) := rfl
        clear ih v2 li2 mi2 kp
        simp (disch := omega) only [s243_1035, s243_1038, n4, w32_id]
        exact q
      clear ih
      have hi2 : i + 4 ≤ L := by omega
      simp (disch := omega) only [s243_18, s243_19, s243_20, s243_21, s243_22, s243_23, s243_26, s243_27, s243_28, s243_29, s243_31, k_o0, k_r0_0, k_r0_1, k_r0_3, k_r0_4, k_r0_5, k_r0_6, k_r0_7, k_r0_8, k_r0_9, k_r0_10, k_r0_12, k_o1, k_r1_1, k_r1_5, k_r1_6, k_r1_7, k_r1_9, k_r1_10, k_r1_11, k_n2, k_a2, k_n3, k_a3, k_n4, k_a4, k_n5, k_a5, k_n6, k_a6, k_n7, k_a7, k_n8, k_a8, k_o9, k_r9_1, k_r9_5, k_r9_6, k_r9_7, k_r9_9, k_r9_10, k_r9_11, k_n10, k_a10, k_n11, k_a11, k_n12, k_a12, k_n13, k_a13, k_n14, k_a14, k_n15, k_a15, k_n16, k_a16, k_o17, k_r17_0, k_r17_2, k_n18, k_a18, k_o19, k_r19_1, k_r19_5, k_r19_6, k_r19_7, k_r19_9, k_r19_10, k_r19_11, k_n20, k_a20, k_n21, k_a21, k_n22, k_a22, k_n23, k_a23, k_n24, k_a24, k_n25, k_a25, k_n26, k_a26, k_o27, k_r27_1, k_r27_2, k_r27_3, k_n28, k_a28, k_n29, k_a29, k_n30, k_a30, k_o31, k_r31_2, k_r31_3, k_r31_4, k_r31_5, k_r31_6, k_n32, k_a32, k_n33, k_a33, k_n34, k_a34, k_n35, k_a35, k_n36, k_a36, k_o37, k_r37_0, k_r37_3, k_r37_5, k_r37_6, k_r37_7, k_r37_8, k_n38, k_a38, k_n39, k_a39, k_n40, k_a40, k_n41, k_a41, k_n42, k_a42, k_n43, k_a43, k_o44, k_r44_0, k_r44_1, k_n45, k_a45, k_n46, k_a46, k_o47, k_r47_1, k_r47_2, k_n48, k_a48, k_n49, k_a49, k_o50, k_r50_0, k_n51, k_a51, k_n52, k_a52, k_n53, k_a53, k_o54, k_r54_5, k_r54_6, k_r54_7, k_r54_8, k_r54_9, k_r54_10, k_r54_11, k_r54_13, k_r54_14, k_r54_19, k_r54_20, k_r54_21, k_r54_22, k_r54_23, k_r54_28, k_r54_29, k_r54_32, k_r54_33, k_r54_34, k_r54_37, k_r54_38, k_r54_40, k_r54_41, k_r54_42, k_r54_43, k_r54_44, k_r54_46, k_r54_47, k_n55, k_a55, k_n56, k_a56, k_n57, k_a57, k_n58, k_a58, k_n59, k_a59, k_n60, k_a60, k_n61, k_a61, k_n62, k_a62, k_n63, k_a63, k_n64, k_a64, k_n65, k_a65, k_n66, k_a66, k_n67, k_a67, k_n68, k_a68, k_n69, k_a69, k_n70, k_a70, k_n71, k_a71, k_n72, k_a72, k_n73, k_a73, k_n74, k_a74, k_n75, k_a75, k_n76, k_a76, k_n77, k_a77, k_n78, k_a78, k_n79, k_a79, k_n80, k_a80, k_n81, k_a81, k_n82, k_a82, Option.toList_some, Option.toList_none, List.cons_append, List.nil_append, ite10, ite10n, ite01, ite11, nem, and_true, true_and, eq_self, true_or, or_true, not_true_eq_false, not_false_eq_true, ne_eq, false_and, and_false, Int.reduceEq, Int.reduceNe, Int.reduceLT, Int.reduceLE, Int.reduceToNat, Int.reduceNeg, Nat.reduceEqDiff, Nat.reduceAdd, ↓reduceIte, al_s, hs, hf, w32_id, ltF, leT, ltT, Int.toNat_natCast]
      rw [s243_32]
      refine ite_in (fun _ => lb_0 v li mi hs hi2 hL nx) (fun _ => ?_)
      refine ite_in (fun _ => lb_1 v li mi hs hi2 hL nx) (fun _ => ?_)
      refine ite_in (fun _ => lb_2 v li mi hs hi2 hL nx) (fun _ => ?_)
      refine ite_in (fun _ => lb_3 v li mi hs hi2 hL nx) (fun _ => ?_)
      refine ite_in (fun _ => lb_4 v li mi hs hi2 hL nx) (fun _ => ?_)
      refine ite_in (fun _ => lb_5 v li mi hs hi2 hL nx) (fun _ => ?_)
      refine ite_in (fun _ => lb_6 v li mi hs hi2 hL nx) (fun _ => ?_)
      refine ite_in (fun _ => lb_7 v li mi hs hi2 hL nx) (fun _ => ?_)
      refine ite_in (fun _ => lb_8 v li mi hs hi2 hL nx) (fun _ => ?_)
      refine ite_in (fun _ => lb_9 v li mi hs hi2 hL nx) (fun _ => ?_)
      refine ite_in (fun _ => lb_10 v li mi hs hi2 hL nx) (fun _ => ?_)
      refine ite_in (fun _ => lb_11 v li mi hs hi2 hL nx) (fun _ => ?_)
      refine ite_in (fun _ => lb_12 v li mi hs hi2 hL nx) (fun _ => ?_)
      refine ite_in (fun _ => lb_13 v li mi hs hi2 hL nx) (fun _ => ?_)
      refine ite_in (fun _ => lb_14 v li mi hs hi2 hL nx) (fun _ => ?_)
      refine ite_in (fun _ => lb_15 v li mi hs hi2 hL nx) (fun _ => ?_)
      refine ite_in (fun _ => lb_16 v li mi hs hi2 hL nx) (fun _ => ?_)
      refine ite_in (fun _ => lb_17 v li mi hs hi2 hL nx) (fun _ => ?_)
      refine ite_in (fun _ => lb_18 v li mi hs hi2 hL nx) (fun _ => ?_)
      refine ite_in (fun _ => lb_19 v li mi hs hi2 hL nx) (fun _ => ?_)
      refine ite_in (fun _ => lb_20 v li mi hs hi2 hL nx) (fun _ => ?_)
      refine ite_in (fun _ => lb_21 v li mi hs hi2 hL nx) (fun _ => ?_)
      refine ite_in (fun _ => lb_22 v li mi hs hi2 hL nx) (fun _ => ?_)
      refine ite_in (fun _ => lb_23 v li mi hs hi2 hL nx) (fun _ => ?_)
      refine ite_in (fun _ => lb_24 v li mi hs hi2 hL nx) (fun _ => ?_)
      refine ite_in (fun _ => lb_25 v li mi hs hi2 hL nx) (fun _ => ?_)
      refine ite_in (fun _ => lb_26 v li mi hs hi2 hL nx) (fun _ => ?_)
      refine ite_in (fun _ => lb_27 v li mi hs hi2 hL nx) (fun _ => ?_)
      refine ite_in (fun _ => lb_28 v li mi hs hi2 hL nx) (fun _ => ?_)
      refine ite_in (fun _ => lb_29 v li mi hs hi2 hL nx) (fun _ => ?_)
      refine ite_in (fun _ => lb_30 v li mi hs hi2 hL nx) (fun _ => ?_)
      refine ite_in (fun _ => lb_31 v li mi hs hi2 hL nx) (fun _ => ?_)
      refine ite_in (fun _ => lb_32 v li mi hs hi2 hL nx) (fun _ => ?_)
      refine ite_in (fun _ => lb_33 v li mi hs hi2 hL nx) (fun _ => ?_)
      refine ite_in (fun _ => lb_34 v li mi hs hi2 hL nx) (fun _ => ?_)
      refine ite_in (fun _ => lb_35 v li mi hs hi2 hL nx) (fun _ => ?_)
      refine ite_in (fun _ => lb_36 v li mi hs hi2 hL nx) (fun _ => ?_)
      refine ite_in (fun _ => lb_37 v li mi hs hi2 hL nx) (fun _ => ?_)
      exact nx h v li mi (fun _ _ => rfl)
