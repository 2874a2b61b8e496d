/-! image, restore -/
section IMG
variable {d : Nat} {h g : HH} {Q : Option AV → HH → Prop} {a b : Nat}
theorem VB.rows (e : ∀ i, b ≤ i → i ≤ b + 7 → g i = h i) (v : VB h b) : VB g b := by
  unfold VB at *
  rw [e b (by omega) (by omega), e (b + 1) (by omega) (by omega), e (b + 2) (by omega) (by omega), e (b + 3) (by omega) (by omega), e (b + 4) (by omega) (by omega), e (b + 5) (by omega) (by omega), e (b + 6) (by omega) (by omega), e (b + 7) (by omega) (by omega)]
  exact v
theorem VB.cb (c : CB h g b a) (v : VB h a) : VB g b := by
  obtain ⟨_, ⟨c0, c2, c3, c4, c8⟩, r1, r2, r3, r4, r5, r6, r7⟩ := c
  unfold VB at *
  rw [c0, c2, c3, c4, c8]
  obtain ⟨a1, a2, a3, a4, a5, a6, a7, a8, a9, a10⟩ := v
  refine ⟨a1, a2, a3, a4, a5, fun j hj => ?_, fun i hi => ?_, fun i hi => ?_, fun j hj => ?_, fun j hj hk => ?_⟩
  · rw [r1 j hj]
    exact a6 j hj
  · rw [r2 i (by omega), r3 i (by omega), r4 i (by omega)]
    exact a7 i hi
  · rw [r5 i (by omega), r6 i (by omega)]
    exact a8 i hi
  · rw [r7 j hj]
    exact a9 j hj
  · rw [r7 j hj]
    exact a10 j hj hk
theorem UT.row {T : Nat} (u : UT T h g) {i : Nat} (h1 : i ≠ T) (h2 : i ≠ 54) : g i = h i := funext (fun k => u i k h1 (fun z => h2 z.1))
theorem UG.row (u : UG h g) {i : Nat} (h1 : i < 54 ∨ 61 < i) : g i = h i := funext (fun k => u i k (by omega) (by omega) (by omega) (by omega))
theorem pr_image (v : RE h) : PR (d + 5) 136 165 [vR 0] [vR 54] h := by
  obtain ⟨v1, v2, v3⟩ := v
  obtain ⟨g, wg, cg⟩ := c_tf_9_1 (h := h)
  have cg0 := cg
  obtain ⟨cf, ⟨c0, c2, c3, c4, c8⟩, r1, r2, r3, r4, r5, r6, r7⟩ := cg
  obtain ⟨g2, w2, u2, t2⟩ := m_ct_68 (h := hput (th (hput g 0 2 1)) 54 24 1)
  have x54 : ∀ k, k ≠ 12 → k ≠ 24 → hput (th (hput g 0 2 1)) 54 24 1 54 k = h 54 k := fun k hk hk2 => by rw [hput_ne (Or.inr hk2), th_k hk, hput_row (by decide), cf 54 (by omega)]
  have xr : ∀ i, i ≠ 0 → i ≠ 54 → hput (th (hput g 0 2 1)) 54 24 1 i = g i := fun i hi hi2 => by rw [hput_row hi2, th_r hi2, hput_row hi]
  have x0 : ∀ k, k ≠ 2 → hput (th (hput g 0 2 1)) 54 24 1 0 k = h 0 k := fun k hk => by rw [hput_row (by decide), th_r (by decide), hput_ne (Or.inr hk), cf 0 (by omega)]
  have y54 : ∀ k, k ≠ 12 → k ≠ 24 → k ≠ 25 → k ≠ 26 → k ≠ 27 → g2 54 k = h 54 k := fun k h1 h2 h3 h4 h5 => by rw [u2 54 k (by decide) (by omega), x54 k h1 h2]
  have y24 : g2 54 24 = 1 := by rw [u2 54 24 (by decide) (by omega), hput_same]
  have yr : ∀ i, i ≠ 0 → i ≠ 54 → i ≠ 68 → g2 i = g i := fun i h1 h2 h3 => by rw [u2.row h3 h2, xr i h1 h2]
  have yh : ∀ i, i ≠ 0 → i ≠ 54 → i ≠ 68 → (i < 9 ∨ 16 < i) → g2 i = h i := fun i h1 h2 h3 h4 => by rw [yr i h1 h2 h3, cf i h4]
  have y0 : ∀ k, k ≠ 2 → g2 0 k = h 0 k := fun k hk => by rw [u2 0 k (by decide) (by omega), x0 k hk]
  have y02 : g2 0 2 = 1 := by rw [u2 0 2 (by decide) (by omega), hput_row (by decide), th_r (by decide), hput_same]
  have V1 : VB g2 1 := v1.rows (fun i h1 h2 => yh i (by omega) (by omega) (by omega) (by omega))
  have V9 : VB g2 9 := (VB.cb cg0 v1).rows (fun i h1 h2 => yr i (by omega) (by omega) (by omega))
  obtain ⟨b1, b2, b3, b4, b5, b6, b7, b8, b9⟩ := v2
  have hr : RE g2 := by
    refine ⟨V1, ?_, ?_⟩
    · unfold EB
      rw [y54 0 (by decide) (by decide) (by decide) (by decide) (by decide), y54 1 (by decide) (by decide) (by decide) (by decide) (by decide), y54 2 (by decide) (by decide) (by decide) (by decide) (by decide), y54 3 (by decide) (by decide) (by decide) (by decide) (by decide), y54 4 (by decide) (by decide) (by decide) (by decide) (by decide), yh 1 (by decide) (by decide) (by decide) (by decide), yh 2 (by decide) (by decide) (by decide) (by decide), yh 3 (by decide) (by decide) (by decide) (by decide), yh 4 (by decide) (by decide) (by decide) (by decide), yh 5 (by decide) (by decide) (by decide) (by decide), yh 6 (by decide) (by decide) (by decide) (by decide), yh 7 (by decide) (by decide) (by decide) (by decide), yh 8 (by decide) (by decide) (by decide) (by decide), yh 55 (by decide) (by decide) (by decide) (by decide), yh 56 (by decide) (by decide) (by decide) (by decide), yh 57 (by decide) (by decide) (by decide) (by decide), yh 58 (by decide) (by decide) (by decide) (by decide), yh 59 (by decide) (by decide) (by decide) (by decide), yh 60 (by decide) (by decide) (by decide) (by decide), yh 61 (by decide) (by decide) (by decide) (by decide)]
      exact ⟨b1, b2, b3, b4, b5, b6, b7, b8, b9⟩
    · unfold XB
      rw [y24, y02, y54 15 (by decide) (by decide) (by decide) (by decide) (by decide), y54 48 (by decide) (by decide) (by decide) (by decide) (by decide), y0 11 (by decide), yh 17 (by decide) (by decide) (by decide) (by decide), yh 18 (by decide) (by decide) (by decide) (by decide), yh 63 (by decide) (by decide) (by decide) (by decide), yh 82 (by decide) (by decide) (by decide) (by decide), yh 52 (by decide) (by decide) (by decide) (by decide), yh 53 (by decide) (by decide) (by decide) (by decide), yh 62 (by decide) (by decide) (by decide) (by decide)]
      refine ⟨rfl, Or.inr ⟨rfl, V9, ?_⟩, v3.2.2⟩
      obtain ⟨⟨t0, t1, t3, t4, t5⟩, tA, tB, tC⟩ := t2
      unfold IB
      rw [t0, t1, t3, t4, t5, yr 9 (by decide) (by decide) (by decide), yr (9 + 1) (by decide) (by decide) (by decide), yr (9 + 2) (by decide) (by decide) (by decide), yr (9 + 3) (by decide) (by decide) (by decide), yr (9 + 4) (by decide) (by decide) (by decide), yr (9 + 5) (by decide) (by decide) (by decide), yr (9 + 6) (by decide) (by decide) (by decide), yr (9 + 7) (by decide) (by decide) (by decide), x54 0 (by decide) (by decide), x54 1 (by decide) (by decide), x54 2 (by decide) (by decide), x54 3 (by decide) (by decide), x54 4 (by decide) (by decide), c0, c2, c3, c4, c8]
      refine ⟨b1, b2, b3, b4, b5, fun j hj => ?_, fun j hj => ?_, fun j hj => ?_⟩
      · rw [(tA j hj).1, (tA j hj).2, xr 55 (by decide) (by decide), xr 59 (by decide) (by decide), cf 55 (by omega), cf 59 (by omega), r1 j hj, r7 j hj, b6 j hj, b9 j hj]
        exact ⟨rfl, rfl⟩
      · rw [(tB j hj).1, (tB j hj).2.1, (tB j hj).2.2, xr 56 (by decide) (by decide), xr 57 (by decide) (by decide), xr 58 (by decide) (by decide), cf 56 (by omega), cf 57 (by omega), cf 58 (by omega), r2 j hj, r3 j hj, r4 j hj, (b7 j hj).1, (b7 j hj).2.1, (b7 j hj).2.2]
        exact ⟨rfl, rfl, rfl⟩
      · rw [(tC j hj).1, (tC j hj).2, xr 60 (by decide) (by decide), xr 61 (by decide) (by decide), cf 60 (by omega), cf 61 (by omega), r5 j hj, r6 j hj, (b8 j hj).1, (b8 j hj).2]
        exact ⟨rfl, rfl⟩
  have hk : KW h g2 := fun i hi => yh i (by omega) (by omega) (by omega) (by omega)
  have e4 : hput g 0 2 1 1 4 = h 1 4 := by rw [hput_row (by decide), cf 1 (by omega)]
  have e3 : g2 54 3 = h 1 4 := by rw [y54 3 (by decide) (by decide) (by decide) (by decide) (by decide), b4]
  unfold PR
  simp only [s136_0, s136_1, s136_4, s136_5, s136_8, s136_11, s136_12, s136_13, s136_16, s136_17, s136_20, s136_23, k_o0, k_r0_0, k_r0_1, k_r0_3, k_r0_4, k_r0_5, k_r0_6, k_r0_7, k_r0_8, k_r0_9, k_r0_10, k_r0_12, k_o1, k_r1_1, k_r1_5, k_r1_6, k_r1_7, k_r1_9, k_r1_10, k_r1_11, k_n2, k_a2, k_n3, k_a3, k_n4, k_a4, k_n5, k_a5, k_n6, k_a6, k_n7, k_a7, k_n8, k_a8, k_o9, k_r9_1, k_r9_5, k_r9_6, k_r9_7, k_r9_9, k_r9_10, k_r9_11, k_n10, k_a10, k_n11, k_a11, k_n12, k_a12, k_n13, k_a13, k_n14, k_a14, k_n15, k_a15, k_n16, k_a16, k_o17, k_r17_0, k_r17_2, k_n18, k_a18, k_o19, k_r19_1, k_r19_5, k_r19_6, k_r19_7, k_r19_9, k_r19_10, k_r19_11, k_n20, k_a20, k_n21, k_a21, k_n22, k_a22, k_n23, k_a23, k_n24, k_a24, k_n25, k_a25, k_n26, k_a26, k_o27, k_r27_1, k_r27_2, k_r27_3, k_n28, k_a28, k_n29, k_a29, k_n30, k_a30, k_o31, k_r31_2, k_r31_3, k_r31_4, k_r31_5, k_r31_6, k_n32, k_a32, k_n33, k_a33, k_n34, k_a34, k_n35, k_a35, k_n36, k_a36, k_o37, k_r37_0, k_r37_3, k_r37_5, k_r37_6, k_r37_7, k_r37_8, k_n38, k_a38, k_n39, k_a39, k_n40, k_a40, k_n41, k_a41, k_n42, k_a42, k_n43, k_a43, k_o44, k_r44_0, k_r44_1, k_n45, k_a45, k_n46, k_a46, k_o47, k_r47_1, k_r47_2, k_n48, k_a48, k_n49, k_a49, k_o50, k_r50_0, k_n51, k_a51, k_n52, k_a52, k_n53, k_a53, k_o54, k_r54_5, k_r54_6, k_r54_7, k_r54_8, k_r54_9, k_r54_10, k_r54_11, k_r54_13, k_r54_14, k_r54_19, k_r54_20, k_r54_21, k_r54_22, k_r54_23, k_r54_28, k_r54_29, k_r54_32, k_r54_33, k_r54_34, k_r54_37, k_r54_38, k_r54_40, k_r54_41, k_r54_42, k_r54_43, k_r54_44, k_r54_46, k_r54_47, k_n55, k_a55, k_n56, k_a56, k_n57, k_a57, k_n58, k_a58, k_n59, k_a59, k_n60, k_a60, k_n61, k_a61, k_n62, k_a62, k_n63, k_a63, k_n64, k_a64, k_n65, k_a65, k_n66, k_a66, k_n67, k_a67, k_n68, k_a68, k_n69, k_a69, k_n70, k_a70, k_n71, k_a71, k_n72, k_a72, k_n73, k_a73, k_n74, k_a74, k_n75, k_a75, k_n76, k_a76, k_n77, k_a77, k_n78, k_a78, k_n79, k_a79, k_n80, k_a80, k_n81, k_a81, k_n82, k_a82, Option.toList_some, Option.toList_none, List.cons_append, List.nil_append, ite10, ite10n, ite01, ite11, nem, and_true, true_and, eq_self, true_or, or_true, not_true_eq_false, not_false_eq_true, ne_eq, false_and, and_false, Int.reduceEq, Int.reduceNe, Int.reduceLT, Int.reduceLE, Int.reduceToNat, Int.reduceNeg, Nat.reduceEqDiff, Nat.reduceAdd, ↓reduceIte, wg, e4]
  simp only [s165_0, s165_1, s165_2, s165_5, s165_6, s165_7, s165_10, s165_11, s165_12, s165_15, s165_16, s165_19, s165_20, s165_23, k_o0, k_r0_0, k_r0_1, k_r0_3, k_r0_4, k_r0_5, k_r0_6, k_r0_7, k_r0_8, k_r0_9, k_r0_10, k_r0_12, k_o1, k_r1_1, k_r1_5, k_r1_6, k_r1_7, k_r1_9, k_r1_10, k_r1_11, k_n2, k_a2, k_n3, k_a3, k_n4, k_a4, k_n5, k_a5, k_n6, k_a6, k_n7, k_a7, k_n8, k_a8, k_o9, k_r9_1, k_r9_5, k_r9_6, k_r9_7, k_r9_9, k_r9_10, k_r9_11, k_n10, k_a10, k_n11, k_a11, k_n12, k_a12, k_n13, k_a13, k_n14, k_a14, k_n15, k_a15, k_n16, k_a16, k_o17, k_r17_0, k_r17_2, k_n18, k_a18, k_o19, k_r19_1, k_r19_5, k_r19_6, k_r19_7, k_r19_9, k_r19_10, k_r19_11, k_n20, k_a20, k_n21, k_a21, k_n22, k_a22, k_n23, k_a23, k_n24, k_a24, k_n25, k_a25, k_n26, k_a26, k_o27, k_r27_1, k_r27_2, k_r27_3, k_n28, k_a28, k_n29, k_a29, k_n30, k_a30, k_o31, k_r31_2, k_r31_3, k_r31_4, k_r31_5, k_r31_6, k_n32, k_a32, k_n33, k_a33, k_n34, k_a34, k_n35, k_a35, k_n36, k_a36, k_o37, k_r37_0, k_r37_3, k_r37_5, k_r37_6, k_r37_7, k_r37_8, k_n38, k_a38, k_n39, k_a39, k_n40, k_a40, k_n41, k_a41, k_n42, k_a42, k_n43, k_a43, k_o44, k_r44_0, k_r44_1, k_n45, k_a45, k_n46, k_a46, k_o47, k_r47_1, k_r47_2, k_n48, k_a48, k_n49, k_a49, k_o50, k_r50_0, k_n51, k_a51, k_n52, k_a52, k_n53, k_a53, k_o54, k_r54_5, k_r54_6, k_r54_7, k_r54_8, k_r54_9, k_r54_10, k_r54_11, k_r54_13, k_r54_14, k_r54_19, k_r54_20, k_r54_21, k_r54_22, k_r54_23, k_r54_28, k_r54_29, k_r54_32, k_r54_33, k_r54_34, k_r54_37, k_r54_38, k_r54_40, k_r54_41, k_r54_42, k_r54_43, k_r54_44, k_r54_46, k_r54_47, k_n55, k_a55, k_n56, k_a56, k_n57, k_a57, k_n58, k_a58, k_n59, k_a59, k_n60, k_a60, k_n61, k_a61, k_n62, k_a62, k_n63, k_a63, k_n64, k_a64, k_n65, k_a65, k_n66, k_a66, k_n67, k_a67, k_n68, k_a68, k_n69, k_a69, k_n70, k_a70, k_n71, k_a71, k_n72, k_a72, k_n73, k_a73, k_n74, k_a74, k_n75, k_a75, k_n76, k_a76, k_n77, k_a77, k_n78, k_a78, k_n79, k_a79, k_n80, k_a80, k_n81, k_a81, k_n82, k_a82, Option.toList_some, Option.toList_none, List.cons_append, List.nil_append, ite10, ite10n, ite01, ite11, nem, and_true, true_and, eq_self, true_or, or_true, not_true_eq_false, not_false_eq_true, ne_eq, false_and, and_false, Int.reduceEq, Int.reduceNe, Int.reduceLT, Int.reduceLE, Int.reduceToNat, Int.reduceNeg, Nat.reduceEqDiff, Nat.reduceAdd, ↓reduceIte, tq, w2, e3]
  exact ⟨_, rfl, rfl, hr, hk⟩
theorem pr_restore (v : RE h) : PR (d + 5) 137 166 [vR 0] [vR 54] h := by
  have v0 := v
  obtain ⟨v1, v2, v3⟩ := v
  obtain ⟨b1, b2, b3, b4, b5, b6, b7, b8, b9⟩ := v2
  obtain ⟨q1, q2, q3⟩ := v3
  rcases q2 with q2 | ⟨q2, V9, I9⟩
  · have e1 : refC h 3 54 24 = 0 := by rw [refC_54, q1, q2]
    have e2 : th (refC h 3) 54 24 = 0 := by rw [th_k (by decide), e1]
    unfold PR
    simp only [s137_0, s137_1, s137_4, s137_7, s137_8, s137_10, s137_13, s137_14, s137_15, s137_18, s137_19, s137_22, s137_25, s137_26, s137_29, s137_32, k_o0, k_r0_0, k_r0_1, k_r0_3, k_r0_4, k_r0_5, k_r0_6, k_r0_7, k_r0_8, k_r0_9, k_r0_10, k_r0_12, k_o1, k_r1_1, k_r1_5, k_r1_6, k_r1_7, k_r1_9, k_r1_10, k_r1_11, k_n2, k_a2, k_n3, k_a3, k_n4, k_a4, k_n5, k_a5, k_n6, k_a6, k_n7, k_a7, k_n8, k_a8, k_o9, k_r9_1, k_r9_5, k_r9_6, k_r9_7, k_r9_9, k_r9_10, k_r9_11, k_n10, k_a10, k_n11, k_a11, k_n12, k_a12, k_n13, k_a13, k_n14, k_a14, k_n15, k_a15, k_n16, k_a16, k_o17, k_r17_0, k_r17_2, k_n18, k_a18, k_o19, k_r19_1, k_r19_5, k_r19_6, k_r19_7, k_r19_9, k_r19_10, k_r19_11, k_n20, k_a20, k_n21, k_a21, k_n22, k_a22, k_n23, k_a23, k_n24, k_a24, k_n25, k_a25, k_n26, k_a26, k_o27, k_r27_1, k_r27_2, k_r27_3, k_n28, k_a28, k_n29, k_a29, k_n30, k_a30, k_o31, k_r31_2, k_r31_3, k_r31_4, k_r31_5, k_r31_6, k_n32, k_a32, k_n33, k_a33, k_n34, k_a34, k_n35, k_a35, k_n36, k_a36, k_o37, k_r37_0, k_r37_3, k_r37_5, k_r37_6, k_r37_7, k_r37_8, k_n38, k_a38, k_n39, k_a39, k_n40, k_a40, k_n41, k_a41, k_n42, k_a42, k_n43, k_a43, k_o44, k_r44_0, k_r44_1, k_n45, k_a45, k_n46, k_a46, k_o47, k_r47_1, k_r47_2, k_n48, k_a48, k_n49, k_a49, k_o50, k_r50_0, k_n51, k_a51, k_n52, k_a52, k_n53, k_a53, k_o54, k_r54_5, k_r54_6, k_r54_7, k_r54_8, k_r54_9, k_r54_10, k_r54_11, k_r54_13, k_r54_14, k_r54_19, k_r54_20, k_r54_21, k_r54_22, k_r54_23, k_r54_28, k_r54_29, k_r54_32, k_r54_33, k_r54_34, k_r54_37, k_r54_38, k_r54_40, k_r54_41, k_r54_42, k_r54_43, k_r54_44, k_r54_46, k_r54_47, k_n55, k_a55, k_n56, k_a56, k_n57, k_a57, k_n58, k_a58, k_n59, k_a59, k_n60, k_a60, k_n61, k_a61, k_n62, k_a62, k_n63, k_a63, k_n64, k_a64, k_n65, k_a65, k_n66, k_a66, k_n67, k_a67, k_n68, k_a68, k_n69, k_a69, k_n70, k_a70, k_n71, k_a71, k_n72, k_a72, k_n73, k_a73, k_n74, k_a74, k_n75, k_a75, k_n76, k_a76, k_n77, k_a77, k_n78, k_a78, k_n79, k_a79, k_n80, k_a80, k_n81, k_a81, k_n82, k_a82, Option.toList_some, Option.toList_none, List.cons_append, List.nil_append, ite10, ite10n, ite01, ite11, nem, and_true, true_and, eq_self, true_or, or_true, not_true_eq_false, not_false_eq_true, ne_eq, false_and, and_false, Int.reduceEq, Int.reduceNe, Int.reduceLT, Int.reduceLE, Int.reduceToNat, Int.reduceNeg, Nat.reduceEqDiff, Nat.reduceAdd, ↓reduceIte, q2, cr (-3)]
    simp only [s166_0, s166_1, s166_2, s166_5, s166_6, s166_9, s166_12, s166_13, s166_15, s166_18, s166_19, s166_20, s166_21, s166_24, s166_25, s166_28, s166_29, s166_32, k_o0, k_r0_0, k_r0_1, k_r0_3, k_r0_4, k_r0_5, k_r0_6, k_r0_7, k_r0_8, k_r0_9, k_r0_10, k_r0_12, k_o1, k_r1_1, k_r1_5, k_r1_6, k_r1_7, k_r1_9, k_r1_10, k_r1_11, k_n2, k_a2, k_n3, k_a3, k_n4, k_a4, k_n5, k_a5, k_n6, k_a6, k_n7, k_a7, k_n8, k_a8, k_o9, k_r9_1, k_r9_5, k_r9_6, k_r9_7, k_r9_9, k_r9_10, k_r9_11, k_n10, k_a10, k_n11, k_a11, k_n12, k_a12, k_n13, k_a13, k_n14, k_a14, k_n15, k_a15, k_n16, k_a16, k_o17, k_r17_0, k_r17_2, k_n18, k_a18, k_o19, k_r19_1, k_r19_5, k_r19_6, k_r19_7, k_r19_9, k_r19_10, k_r19_11, k_n20, k_a20, k_n21, k_a21, k_n22, k_a22, k_n23, k_a23, k_n24, k_a24, k_n25, k_a25, k_n26, k_a26, k_o27, k_r27_1, k_r27_2, k_r27_3, k_n28, k_a28, k_n29, k_a29, k_n30, k_a30, k_o31, k_r31_2, k_r31_3, k_r31_4, k_r31_5, k_r31_6, k_n32, k_a32, k_n33, k_a33, k_n34, k_a34, k_n35, k_a35, k_n36, k_a36, k_o37, k_r37_0, k_r37_3, k_r37_5, k_r37_6, k_r37_7, k_r37_8, k_n38, k_a38, k_n39, k_a39, k_n40, k_a40, k_n41, k_a41, k_n42, k_a42, k_n43, k_a43, k_o44, k_r44_0, k_r44_1, k_n45, k_a45, k_n46, k_a46, k_o47, k_r47_1, k_r47_2, k_n48, k_a48, k_n49, k_a49, k_o50, k_r50_0, k_n51, k_a51, k_n52, k_a52, k_n53, k_a53, k_o54, k_r54_5, k_r54_6, k_r54_7, k_r54_8, k_r54_9, k_r54_10, k_r54_11, k_r54_13, k_r54_14, k_r54_19, k_r54_20, k_r54_21, k_r54_22, k_r54_23, k_r54_28, k_r54_29, k_r54_32, k_r54_33, k_r54_34, k_r54_37, k_r54_38, k_r54_40, k_r54_41, k_r54_42, k_r54_43, k_r54_44, k_r54_46, k_r54_47, k_n55, k_a55, k_n56, k_a56, k_n57, k_a57, k_n58, k_a58, k_n59, k_a59, k_n60, k_a60, k_n61, k_a61, k_n62, k_a62, k_n63, k_a63, k_n64, k_a64, k_n65, k_a65, k_n66, k_a66, k_n67, k_a67, k_n68, k_a68, k_n69, k_a69, k_n70, k_a70, k_n71, k_a71, k_n72, k_a72, k_n73, k_a73, k_n74, k_a74, k_n75, k_a75, k_n76, k_a76, k_n77, k_a77, k_n78, k_a78, k_n79, k_a79, k_n80, k_a80, k_n81, k_a81, k_n82, k_a82, Option.toList_some, Option.toList_none, List.cons_append, List.nil_append, ite10, ite10n, ite01, ite11, nem, and_true, true_and, eq_self, true_or, or_true, not_true_eq_false, not_false_eq_true, ne_eq, false_and, and_false, Int.reduceEq, Int.reduceNe, Int.reduceLT, Int.reduceLE, Int.reduceToNat, Int.reduceNeg, Nat.reduceEqDiff, Nat.reduceAdd, ↓reduceIte, tq, e2, mr (-3)]
    exact pr_refuse v0 3 _
  · obtain ⟨g, wg, cg⟩ := c_tf_1_9 (h := h)
    have cg0 := cg
    obtain ⟨cf, ⟨c0, c2, c3, c4, c8⟩, r1, r2, r3, r4, r5, r6, r7⟩ := cg
    obtain ⟨g2, w2, u2, t2⟩ := m_cg_68 (h := th g)
    have xr : ∀ i, i ≠ 54 → th g i = g i := fun i hi => th_r hi
    have yr : ∀ i, (i < 54 ∨ 61 < i) → g2 i = g i := fun i h1 => by rw [u2.row h1, xr i (by omega)]
    have yh : ∀ i, (i < 54 ∨ 61 < i) → (i < 1 ∨ 8 < i) → g2 i = h i := fun i h1 h2 => by rw [yr i h1, cf i (by omega)]
    have y54 : ∀ k, k ≠ 12 → ¬ k ≤ 4 → k ≠ 25 → k ≠ 26 → k ≠ 27 → g2 54 k = h 54 k := fun k h1 h2 h3 h4 h5 => by rw [u2 54 k (by omega) (by omega) (by omega) (by omega), th_k h1, cf 54 (by omega)]
    have V1 : VB g2 1 := (VB.cb cg0 V9).rows (fun i h1 h2 => yr i (by omega))
    have W9 : VB g2 9 := V9.rows (fun i h1 h2 => yh i (by omega) (by omega))
    obtain ⟨⟨t0, t1, t3, t4, t5⟩, tA, tB, tC⟩ := t2
    have x68 : th g 68 = h 68 := by rw [xr 68 (by decide), cf 68 (by omega)]
    rw [x68] at t0 t1 t3 t4 t5 tA tB tC
    have J9 := I9
    obtain ⟨i0, i1, i2, i3, i4, iA, iB, iC⟩ := I9
    have hr : RE g2 := by
      refine ⟨V1, ?_, ?_⟩
      · unfold EB
        rw [yr 1 (by decide), yr 2 (by decide), yr 3 (by decide), yr 4 (by decide), yr 5 (by decide), yr 6 (by decide), yr 7 (by decide), yr 8 (by decide), c0, c2, c3, c4, c8, ← t0, ← t1, ← t3, ← t4, ← t5]
        refine ⟨i0, i1, i2, i3, i4, fun j hj => ?_, fun j hj => ?_, fun j hj => ?_, fun j hj => ?_⟩
        · rw [← (tA j hj).1, (iA j hj).1]
          exact (r1 j hj).symm
        · rw [← (tB j hj).1, ← (tB j hj).2.1, ← (tB j hj).2.2, (iB j hj).1, (iB j hj).2.1, (iB j hj).2.2]
          exact ⟨(r2 j hj).symm, (r3 j hj).symm, (r4 j hj).symm⟩
        · rw [← (tC j hj).1, ← (tC j hj).2, (iC j hj).1, (iC j hj).2]
          exact ⟨(r5 j hj).symm, (r6 j hj).symm⟩
        · rw [← (tA j hj).2, (iA j hj).2]
          exact (r7 j hj).symm
      · unfold XB
        rw [y54 24 (by decide) (by decide) (by decide) (by decide) (by decide), y54 15 (by decide) (by decide) (by decide) (by decide) (by decide), y54 48 (by decide) (by decide) (by decide) (by decide) (by decide), yh 0 (by decide) (by decide), yh 17 (by decide) (by decide), yh 18 (by decide) (by decide), yh 63 (by decide) (by decide), yh 82 (by decide) (by decide), yh 52 (by decide) (by decide), yh 53 (by decide) (by decide), yh 62 (by decide) (by decide)]
        refine ⟨q1, Or.inr ⟨q2, W9, ?_⟩, q3⟩
        unfold IB
        rw [yh 68 (by decide) (by decide), yh 9 (by decide) (by decide), yh (9 + 1) (by decide) (by decide), yh (9 + 2) (by decide) (by decide), yh (9 + 3) (by decide) (by decide), yh (9 + 4) (by decide) (by decide), yh (9 + 5) (by decide) (by decide), yh (9 + 6) (by decide) (by decide), yh (9 + 7) (by decide) (by decide)]
        exact J9
    have hk : KW h g2 := fun i hi => yh i (by omega) (by omega)
    have e24 : th g 54 24 = 1 := by rw [th_k (by decide), cf 54 (by omega), q1, q2]
    have e3 : g2 54 3 = g 1 4 := by rw [← t4, i3, c4]
    unfold PR
    simp only [s137_0, s137_1, s137_4, s137_7, s137_8, s137_10, s137_13, s137_14, s137_15, s137_18, s137_19, s137_22, s137_25, s137_26, s137_29, s137_32, k_o0, k_r0_0, k_r0_1, k_r0_3, k_r0_4, k_r0_5, k_r0_6, k_r0_7, k_r0_8, k_r0_9, k_r0_10, k_r0_12, k_o1, k_r1_1, k_r1_5, k_r1_6, k_r1_7, k_r1_9, k_r1_10, k_r1_11, k_n2, k_a2, k_n3, k_a3, k_n4, k_a4, k_n5, k_a5, k_n6, k_a6, k_n7, k_a7, k_n8, k_a8, k_o9, k_r9_1, k_r9_5, k_r9_6, k_r9_7, k_r9_9, k_r9_10, k_r9_11, k_n10, k_a10, k_n11, k_a11, k_n12, k_a12, k_n13, k_a13, k_n14, k_a14, k_n15, k_a15, k_n16, k_a16, k_o17, k_r17_0, k_r17_2, k_n18, k_a18, k_o19, k_r19_1, k_r19_5, k_r19_6, k_r19_7, k_r19_9, k_r19_10, k_r19_11, k_n20, k_a20, k_n21, k_a21, k_n22, k_a22, k_n23, k_a23, k_n24, k_a24, k_n25, k_a25, k_n26, k_a26, k_o27, k_r27_1, k_r27_2, k_r27_3, k_n28, k_a28, k_n29, k_a29, k_n30, k_a30, k_o31, k_r31_2, k_r31_3, k_r31_4, k_r31_5, k_r31_6, k_n32, k_a32, k_n33, k_a33, k_n34, k_a34, k_n35, k_a35, k_n36, k_a36, k_o37, k_r37_0, k_r37_3, k_r37_5, k_r37_6, k_r37_7, k_r37_8, k_n38, k_a38, k_n39, k_a39, k_n40, k_a40, k_n41, k_a41, k_n42, k_a42, k_n43, k_a43, k_o44, k_r44_0, k_r44_1, k_n45, k_a45, k_n46, k_a46, k_o47, k_r47_1, k_r47_2, k_n48, k_a48, k_n49, k_a49, k_o50, k_r50_0, k_n51, k_a51, k_n52, k_a52, k_n53, k_a53, k_o54, k_r54_5, k_r54_6, k_r54_7, k_r54_8, k_r54_9, k_r54_10, k_r54_11, k_r54_13, k_r54_14, k_r54_19, k_r54_20, k_r54_21, k_r54_22, k_r54_23, k_r54_28, k_r54_29, k_r54_32, k_r54_33, k_r54_34, k_r54_37, k_r54_38, k_r54_40, k_r54_41, k_r54_42, k_r54_43, k_r54_44, k_r54_46, k_r54_47, k_n55, k_a55, k_n56, k_a56, k_n57, k_a57, k_n58, k_a58, k_n59, k_a59, k_n60, k_a60, k_n61, k_a61, k_n62, k_a62, k_n63, k_a63, k_n64, k_a64, k_n65, k_a65, k_n66, k_a66, k_n67, k_a67, k_n68, k_a68, k_n69, k_a69, k_n70, k_a70, k_n71, k_a71, k_n72, k_a72, k_n73, k_a73, k_n74, k_a74, k_n75, k_a75, k_n76, k_a76, k_n77, k_a77, k_n78, k_a78, k_n79, k_a79, k_n80, k_a80, k_n81, k_a81, k_n82, k_a82, Option.toList_some, Option.toList_none, List.cons_append, List.nil_append, ite10, ite10n, ite01, ite11, nem, and_true, true_and, eq_self, true_or, or_true, not_true_eq_false, not_false_eq_true, ne_eq, false_and, and_false, Int.reduceEq, Int.reduceNe, Int.reduceLT, Int.reduceLE, Int.reduceToNat, Int.reduceNeg, Nat.reduceEqDiff, Nat.reduceAdd, ↓reduceIte, q2, wg]
    simp only [s166_0, s166_1, s166_2, s166_5, s166_6, s166_9, s166_12, s166_13, s166_15, s166_18, s166_19, s166_20, s166_21, s166_24, s166_25, s166_28, s166_29, s166_32, k_o0, k_r0_0, k_r0_1, k_r0_3, k_r0_4, k_r0_5, k_r0_6, k_r0_7, k_r0_8, k_r0_9, k_r0_10, k_r0_12, k_o1, k_r1_1, k_r1_5, k_r1_6, k_r1_7, k_r1_9, k_r1_10, k_r1_11, k_n2, k_a2, k_n3, k_a3, k_n4, k_a4, k_n5, k_a5, k_n6, k_a6, k_n7, k_a7, k_n8, k_a8, k_o9, k_r9_1, k_r9_5, k_r9_6, k_r9_7, k_r9_9, k_r9_10, k_r9_11, k_n10, k_a10, k_n11, k_a11, k_n12, k_a12, k_n13, k_a13, k_n14, k_a14, k_n15, k_a15, k_n16, k_a16, k_o17, k_r17_0, k_r17_2, k_n18, k_a18, k_o19, k_r19_1, k_r19_5, k_r19_6, k_r19_7, k_r19_9, k_r19_10, k_r19_11, k_n20, k_a20, k_n21, k_a21, k_n22, k_a22, k_n23, k_a23, k_n24, k_a24, k_n25, k_a25, k_n26, k_a26, k_o27, k_r27_1, k_r27_2, k_r27_3, k_n28, k_a28, k_n29, k_a29, k_n30, k_a30, k_o31, k_r31_2, k_r31_3, k_r31_4, k_r31_5, k_r31_6, k_n32, k_a32, k_n33, k_a33, k_n34, k_a34, k_n35, k_a35, k_n36, k_a36, k_o37, k_r37_0, k_r37_3, k_r37_5, k_r37_6, k_r37_7, k_r37_8, k_n38, k_a38, k_n39, k_a39, k_n40, k_a40, k_n41, k_a41, k_n42, k_a42, k_n43, k_a43, k_o44, k_r44_0, k_r44_1, k_n45, k_a45, k_n46, k_a46, k_o47, k_r47_1, k_r47_2, k_n48, k_a48, k_n49, k_a49, k_o50, k_r50_0, k_n51, k_a51, k_n52, k_a52, k_n53, k_a53, k_o54, k_r54_5, k_r54_6, k_r54_7, k_r54_8, k_r54_9, k_r54_10, k_r54_11, k_r54_13, k_r54_14, k_r54_19, k_r54_20, k_r54_21, k_r54_22, k_r54_23, k_r54_28, k_r54_29, k_r54_32, k_r54_33, k_r54_34, k_r54_37, k_r54_38, k_r54_40, k_r54_41, k_r54_42, k_r54_43, k_r54_44, k_r54_46, k_r54_47, k_n55, k_a55, k_n56, k_a56, k_n57, k_a57, k_n58, k_a58, k_n59, k_a59, k_n60, k_a60, k_n61, k_a61, k_n62, k_a62, k_n63, k_a63, k_n64, k_a64, k_n65, k_a65, k_n66, k_a66, k_n67, k_a67, k_n68, k_a68, k_n69, k_a69, k_n70, k_a70, k_n71, k_a71, k_n72, k_a72, k_n73, k_a73, k_n74, k_a74, k_n75, k_a75, k_n76, k_a76, k_n77, k_a77, k_n78, k_a78, k_n79, k_a79, k_n80, k_a80, k_n81, k_a81, k_n82, k_a82, Option.toList_some, Option.toList_none, List.cons_append, List.nil_append, ite10, ite10n, ite01, ite11, nem, and_true, true_and, eq_self, true_or, or_true, not_true_eq_false, not_false_eq_true, ne_eq, false_and, and_false, Int.reduceEq, Int.reduceNe, Int.reduceLT, Int.reduceLE, Int.reduceToNat, Int.reduceNeg, Nat.reduceEqDiff, Nat.reduceAdd, ↓reduceIte, tq, e24, w2, e3]
    exact ⟨_, rfl, rfl, hr, hk⟩
end IMG
