/-! barn: all statements read by the reference -/
def stF (U : Nat → Nat) (N : Nat) : Nat → Nat
  | 0 => 0
  | k + 1 => sq U N (stF U N k) + 1
def TD (U : Nat → Nat) (N j : Nat) (pl lo tl : Nat → Int) : Prop := sOK U N (stF U N j) = true ∧ pl j = (stF U N j : Int) ∧ lo j = (U (stF U N j) : Int) ∧ tl (3 * j) = dgt U (stF U N j + 1) ∧ (U (stF U N j) ≠ 110 → tl (3 * j + 1) = wV U N (stF U N j)) ∧ (U (stF U N j) = 98 → tl (3 * j + 2) = dgt U (stF U N j + 1 + 1 + 1))
def RD (U : Nat → Nat) (N k p : Nat) (pl lo tl : Nat → Int) : Prop := p = stF U N k ∧ 3 * k ≤ p ∧ p ≤ N ∧ ∀ j, j < k → TD U N j pl lo tl
section BNF
variable {d : Nat} {G h : HH} {Q : Option AV → HH → Prop} {U : Nat → Nat} {N p k : Nat} {b : Int} {pl lo tl : Nat → Int} {V : Int}
theorem RD_next {tl' : Nat → Int} (h : RD U N k p pl lo tl) (hs : sOK U N p = true) (st : ST U N p k tl tl') : RD U N (k + 1) (sq U N p + 1) (rput pl k (p : Int)) (rput lo k (U p : Int)) tl' := by
  obtain ⟨h1, h2, h3, h4⟩ := h
  obtain ⟨s1, s2, s3, s4⟩ := st
  have hq := sOK_sq hs
  refine ⟨by rw [h1]; rfl, by omega, by omega, fun j hj => ?_⟩
  by_cases e : j = k
  · subst e
    unfold TD
    rw [← h1, rput_same, rput_same]
    exact ⟨hs, rfl, rfl, s2, s3, s4⟩
  · obtain ⟨t1, t2, t3, t4, t5, t6⟩ := h4 j (by omega)
    unfold TD
    rw [rput_ne e, rput_ne e, s1 (3 * j) (by omega), s1 (3 * j + 1) (by omega), s1 (3 * j + 2) (by omega)]
    exact ⟨t1, t2, t3, t4, t5, t6⟩
theorem m_read (hN : N ≤ 96) (hn : G 54 15 = (N : Int)) (hU : ∀ j, j < N → G 63 j = (U j : Int)) (hend : V = 0 → ∀ K pl lo tl, RD U N K N pl lo tl → 1 ≤ K → wp K0 (d + 3) 162 52 [vR 54, vU] [] (BH G N 0 K pl lo tl) Q) (hbad : ∀ (p' k' : Nat) (pl lo tl : Nat → Int), V = -1000 - (p' : Int) → p' ≤ 96 → wp K0 (d + 3) 162 52 [vR 54, vU] [] (BH G p' 1 k' pl lo tl) Q) : ∀ (f k p : Nat) (pl lo tl : Nat → Int), RD U N k p pl lo tl → N - p < f → (if p < N then frF U N f p else if k = 0 then -1000 else 0) = V → wp K0 (d + 3) 162 20 [vR 54, vU] [] (BH G p 0 k pl lo tl) Q := by
  intro f
  induction f with
  | zero =>
    intro k p pl lo tl hR hf
    omega
  | succ f ih =>
    intro k p pl lo tl hR hf hV
    obtain ⟨r1, r2, r3, r4⟩ := hR
    have zo : ((1 : Int) = 0) = False := eq_false (by decide)
    have step : (k = 0 ∨ p < N) → wp K0 (d + 2) 157 0 [vR 54, vU, vU, vU] [] (BH G p 0 k pl lo tl) (fun r h' => wp K0 (d + 3) 162 49 [vR 54, vU] (r.toList ++ []) h' Q) := by
      intro hkp
      refine m_st r3 hN (by omega) hn hU (fun hs tl' st => ?_) (fun hs pl' lo' tl' => ?_)
      · have hq := sOK_sq hs
        have nx := ih (k + 1) (sq U N p + 1) _ _ tl' (RD_next ⟨r1, r2, r3, r4⟩ hs st) (by omega) (by
          rw [← hV, if_pos (show p < N by omega), if_neg (show ¬ k + 1 = 0 by omega)]
          have e1 : frF U N (f + 1) p = frF U N f (sq U N p + 1) := by
            conv => lhs; unfold frF
            rw [if_pos (by omega), if_pos hs]
          rw [e1]
          by_cases c : sq U N p + 1 < N
          · rw [if_pos c]
          · rw [if_neg c]
            cases f with
            | zero => rfl
            | succ f => unfold frF; rw [if_neg c])
        simp only [s162_49, Option.toList_some, Option.toList_none, List.cons_append, List.nil_append, ite10, ite10n, ite01, ite11, nem, and_true, true_and, eq_self, true_or, or_true, not_true_eq_false, not_false_eq_true, ne_eq, false_and, and_false, Int.reduceEq, Int.reduceNe, Int.reduceLT, Int.reduceLE, Int.reduceToNat, Int.reduceNeg, Nat.reduceEqDiff, Nat.reduceAdd, ↓reduceIte]
        exact nx
      · simp only [s162_49, Option.toList_some, Option.toList_none, List.cons_append, List.nil_append, ite10, ite10n, ite01, ite11, nem, and_true, true_and, eq_self, true_or, or_true, not_true_eq_false, not_false_eq_true, ne_eq, false_and, and_false, Int.reduceEq, Int.reduceNe, Int.reduceLT, Int.reduceLE, Int.reduceToNat, Int.reduceNeg, Nat.reduceEqDiff, Nat.reduceAdd, ↓reduceIte]
        have vv : V = -1000 - (fPl U N p : Int) := by
          rw [← hV]
          unfold fPl
          by_cases c : p < N
          · rw [if_pos c, if_pos c]
            unfold frF
            rw [if_pos c, if_neg (by rw [hs]; exact Bool.false_ne_true)]
          · have k0 : k = 0 := by omega
            have p0 : p = 0 := by
              rw [r1, k0]
              rfl
            have n0 : N = 0 := by omega
            rw [if_neg c, if_neg c, if_pos k0, n0]
            rfl
        have fl : fPl U N p ≤ 96 := by
          unfold fPl
          by_cases c : p < N
          · rw [if_pos c]
            unfold fAt
            have := nd_le (U := U) (N := N) (mD (U p)) (p + 1) (by omega)
            have e : sq U N p = p + 1 + nd U N (mD (U p)) (p + 1) := rfl
            split <;> omega
          · rw [if_neg c]
            exact hN
        have fin := hbad (fPl U N p) (k + 1) pl' lo' tl' vv fl
        rw [s162_20]
        simp only [s162_21, s162_24, k_o0, k_r0_0, k_r0_1, k_r0_3, k_r0_4, k_r0_5, k_r0_6, k_r0_7, k_r0_8, k_r0_9, k_r0_10, k_r0_12, k_o1, k_r1_1, k_r1_5, k_r1_6, k_r1_7, k_r1_9, k_r1_10, k_r1_11, k_n2, k_a2, k_n3, k_a3, k_n4, k_a4, k_n5, k_a5, k_n6, k_a6, k_n7, k_a7, k_n8, k_a8, k_o9, k_r9_1, k_r9_5, k_r9_6, k_r9_7, k_r9_9, k_r9_10, k_r9_11, k_n10, k_a10, k_n11, k_a11, k_n12, k_a12, k_n13, k_a13, k_n14, k_a14, k_n15, k_a15, k_n16, k_a16, k_o17, k_r17_0, k_r17_2, k_n18, k_a18, k_o19, k_r19_1, k_r19_5, k_r19_6, k_r19_7, k_r19_9, k_r19_10, k_r19_11, k_n20, k_a20, k_n21, k_a21, k_n22, k_a22, k_n23, k_a23, k_n24, k_a24, k_n25, k_a25, k_n26, k_a26, k_o27, k_r27_1, k_r27_2, k_r27_3, k_n28, k_a28, k_n29, k_a29, k_n30, k_a30, k_o31, k_r31_2, k_r31_3, k_r31_4, k_r31_5, k_r31_6, k_n32, k_a32, k_n33, k_a33, k_n34, k_a34, k_n35, k_a35, k_n36, k_a36, k_o37, k_r37_0, k_r37_3, k_r37_5, k_r37_6, k_r37_7, k_r37_8, k_n38, k_a38, k_n39, k_a39, k_n40, k_a40, k_n41, k_a41, k_n42, k_a42, k_n43, k_a43, k_o44, k_r44_0, k_r44_1, k_n45, k_a45, k_n46, k_a46, k_o47, k_r47_1, k_r47_2, k_n48, k_a48, k_n49, k_a49, k_o50, k_r50_0, k_n51, k_a51, k_n52, k_a52, k_n53, k_a53, k_o54, k_r54_5, k_r54_6, k_r54_7, k_r54_8, k_r54_9, k_r54_10, k_r54_11, k_r54_13, k_r54_14, k_r54_19, k_r54_20, k_r54_21, k_r54_22, k_r54_23, k_r54_28, k_r54_29, k_r54_32, k_r54_33, k_r54_34, k_r54_37, k_r54_38, k_r54_40, k_r54_41, k_r54_42, k_r54_43, k_r54_44, k_r54_46, k_r54_47, k_n55, k_a55, k_n56, k_a56, k_n57, k_a57, k_n58, k_a58, k_n59, k_a59, k_n60, k_a60, k_n61, k_a61, k_n62, k_a62, k_n63, k_a63, k_n64, k_a64, k_n65, k_a65, k_n66, k_a66, k_n67, k_a67, k_n68, k_a68, k_n69, k_a69, k_n70, k_a70, k_n71, k_a71, k_n72, k_a72, k_n73, k_a73, k_n74, k_a74, k_n75, k_a75, k_n76, k_a76, k_n77, k_a77, k_n78, k_a78, k_n79, k_a79, k_n80, k_a80, k_n81, k_a81, k_n82, k_a82, Option.toList_some, Option.toList_none, List.cons_append, List.nil_append, ite10, ite10n, ite01, ite11, nem, and_true, true_and, eq_self, true_or, or_true, not_true_eq_false, not_false_eq_true, ne_eq, false_and, and_false, Int.reduceEq, Int.reduceNe, Int.reduceLT, Int.reduceLE, Int.reduceToNat, Int.reduceNeg, Nat.reduceEqDiff, Nat.reduceAdd, ↓reduceIte, BH_17, ne_eq, zo, not_false_eq_true, if_true]
        exact fin
    rw [s162_20]
    by_cases hk0 : k = 0
    · have ek : ((k : Int) = 0) = True := eq_true (by omega)
      simp only [s162_21, s162_24, s162_27, s162_28, s162_31, s162_45, s162_46, k_o0, k_r0_0, k_r0_1, k_r0_3, k_r0_4, k_r0_5, k_r0_6, k_r0_7, k_r0_8, k_r0_9, k_r0_10, k_r0_12, k_o1, k_r1_1, k_r1_5, k_r1_6, k_r1_7, k_r1_9, k_r1_10, k_r1_11, k_n2, k_a2, k_n3, k_a3, k_n4, k_a4, k_n5, k_a5, k_n6, k_a6, k_n7, k_a7, k_n8, k_a8, k_o9, k_r9_1, k_r9_5, k_r9_6, k_r9_7, k_r9_9, k_r9_10, k_r9_11, k_n10, k_a10, k_n11, k_a11, k_n12, k_a12, k_n13, k_a13, k_n14, k_a14, k_n15, k_a15, k_n16, k_a16, k_o17, k_r17_0, k_r17_2, k_n18, k_a18, k_o19, k_r19_1, k_r19_5, k_r19_6, k_r19_7, k_r19_9, k_r19_10, k_r19_11, k_n20, k_a20, k_n21, k_a21, k_n22, k_a22, k_n23, k_a23, k_n24, k_a24, k_n25, k_a25, k_n26, k_a26, k_o27, k_r27_1, k_r27_2, k_r27_3, k_n28, k_a28, k_n29, k_a29, k_n30, k_a30, k_o31, k_r31_2, k_r31_3, k_r31_4, k_r31_5, k_r31_6, k_n32, k_a32, k_n33, k_a33, k_n34, k_a34, k_n35, k_a35, k_n36, k_a36, k_o37, k_r37_0, k_r37_3, k_r37_5, k_r37_6, k_r37_7, k_r37_8, k_n38, k_a38, k_n39, k_a39, k_n40, k_a40, k_n41, k_a41, k_n42, k_a42, k_n43, k_a43, k_o44, k_r44_0, k_r44_1, k_n45, k_a45, k_n46, k_a46, k_o47, k_r47_1, k_r47_2, k_n48, k_a48, k_n49, k_a49, k_o50, k_r50_0, k_n51, k_a51, k_n52, k_a52, k_n53, k_a53, k_o54, k_r54_5, k_r54_6, k_r54_7, k_r54_8, k_r54_9, k_r54_10, k_r54_11, k_r54_13, k_r54_14, k_r54_19, k_r54_20, k_r54_21, k_r54_22, k_r54_23, k_r54_28, k_r54_29, k_r54_32, k_r54_33, k_r54_34, k_r54_37, k_r54_38, k_r54_40, k_r54_41, k_r54_42, k_r54_43, k_r54_44, k_r54_46, k_r54_47, k_n55, k_a55, k_n56, k_a56, k_n57, k_a57, k_n58, k_a58, k_n59, k_a59, k_n60, k_a60, k_n61, k_a61, k_n62, k_a62, k_n63, k_a63, k_n64, k_a64, k_n65, k_a65, k_n66, k_a66, k_n67, k_a67, k_n68, k_a68, k_n69, k_a69, k_n70, k_a70, k_n71, k_a71, k_n72, k_a72, k_n73, k_a73, k_n74, k_a74, k_n75, k_a75, k_n76, k_a76, k_n77, k_a77, k_n78, k_a78, k_n79, k_a79, k_n80, k_a80, k_n81, k_a81, k_n82, k_a82, Option.toList_some, Option.toList_none, List.cons_append, List.nil_append, ite10, ite10n, ite01, ite11, nem, and_true, true_and, eq_self, true_or, or_true, not_true_eq_false, not_false_eq_true, ne_eq, false_and, and_false, Int.reduceEq, Int.reduceNe, Int.reduceLT, Int.reduceLE, Int.reduceToNat, Int.reduceNeg, Nat.reduceEqDiff, Nat.reduceAdd, ↓reduceIte, BH_17, BH_18, ne_eq, ek, not_true_eq_false, if_true, if_false]
      exact step (Or.inl hk0)
    · have ek : ((k : Int) = 0) = False := eq_false (by omega)
      by_cases hpN : p < N
      · simp (disch := omega) only [s162_21, s162_24, s162_27, s162_28, s162_31, s162_34, s162_35, s162_38, s162_39, s162_42, s162_45, s162_46, k_o0, k_r0_0, k_r0_1, k_r0_3, k_r0_4, k_r0_5, k_r0_6, k_r0_7, k_r0_8, k_r0_9, k_r0_10, k_r0_12, k_o1, k_r1_1, k_r1_5, k_r1_6, k_r1_7, k_r1_9, k_r1_10, k_r1_11, k_n2, k_a2, k_n3, k_a3, k_n4, k_a4, k_n5, k_a5, k_n6, k_a6, k_n7, k_a7, k_n8, k_a8, k_o9, k_r9_1, k_r9_5, k_r9_6, k_r9_7, k_r9_9, k_r9_10, k_r9_11, k_n10, k_a10, k_n11, k_a11, k_n12, k_a12, k_n13, k_a13, k_n14, k_a14, k_n15, k_a15, k_n16, k_a16, k_o17, k_r17_0, k_r17_2, k_n18, k_a18, k_o19, k_r19_1, k_r19_5, k_r19_6, k_r19_7, k_r19_9, k_r19_10, k_r19_11, k_n20, k_a20, k_n21, k_a21, k_n22, k_a22, k_n23, k_a23, k_n24, k_a24, k_n25, k_a25, k_n26, k_a26, k_o27, k_r27_1, k_r27_2, k_r27_3, k_n28, k_a28, k_n29, k_a29, k_n30, k_a30, k_o31, k_r31_2, k_r31_3, k_r31_4, k_r31_5, k_r31_6, k_n32, k_a32, k_n33, k_a33, k_n34, k_a34, k_n35, k_a35, k_n36, k_a36, k_o37, k_r37_0, k_r37_3, k_r37_5, k_r37_6, k_r37_7, k_r37_8, k_n38, k_a38, k_n39, k_a39, k_n40, k_a40, k_n41, k_a41, k_n42, k_a42, k_n43, k_a43, k_o44, k_r44_0, k_r44_1, k_n45, k_a45, k_n46, k_a46, k_o47, k_r47_1, k_r47_2, k_n48, k_a48, k_n49, k_a49, k_o50, k_r50_0, k_n51, k_a51, k_n52, k_a52, k_n53, k_a53, k_o54, k_r54_5, k_r54_6, k_r54_7, k_r54_8, k_r54_9, k_r54_10, k_r54_11, k_r54_13, k_r54_14, k_r54_19, k_r54_20, k_r54_21, k_r54_22, k_r54_23, k_r54_28, k_r54_29, k_r54_32, k_r54_33, k_r54_34, k_r54_37, k_r54_38, k_r54_40, k_r54_41, k_r54_42, k_r54_43, k_r54_44, k_r54_46, k_r54_47, k_n55, k_a55, k_n56, k_a56, k_n57, k_a57, k_n58, k_a58, k_n59, k_a59, k_n60, k_a60, k_n61, k_a61, k_n62, k_a62, k_n63, k_a63, k_n64, k_a64, k_n65, k_a65, k_n66, k_a66, k_n67, k_a67, k_n68, k_a68, k_n69, k_a69, k_n70, k_a70, k_n71, k_a71, k_n72, k_a72, k_n73, k_a73, k_n74, k_a74, k_n75, k_a75, k_n76, k_a76, k_n77, k_a77, k_n78, k_a78, k_n79, k_a79, k_n80, k_a80, k_n81, k_a81, k_n82, k_a82, Option.toList_some, Option.toList_none, List.cons_append, List.nil_append, ite10, ite10n, ite01, ite11, nem, and_true, true_and, eq_self, true_or, or_true, not_true_eq_false, not_false_eq_true, ne_eq, false_and, and_false, Int.reduceEq, Int.reduceNe, Int.reduceLT, Int.reduceLE, Int.reduceToNat, Int.reduceNeg, Nat.reduceEqDiff, Nat.reduceAdd, ↓reduceIte, BH_16, BH_15, hn, leF, BH_17, BH_18, ne_eq, ek, not_true_eq_false, if_true, if_false]
        exact step (Or.inr hpN)
      · have e : p = N := by omega
        subst e
        have vv : V = 0 := by
          rw [← hV, if_neg hpN, if_neg hk0]
        have fin := hend vv k pl lo tl ⟨r1, r2, r3, r4⟩ (by omega)
        simp (disch := omega) only [s162_21, s162_24, s162_27, s162_28, s162_31, s162_34, s162_35, s162_38, s162_39, s162_42, k_o0, k_r0_0, k_r0_1, k_r0_3, k_r0_4, k_r0_5, k_r0_6, k_r0_7, k_r0_8, k_r0_9, k_r0_10, k_r0_12, k_o1, k_r1_1, k_r1_5, k_r1_6, k_r1_7, k_r1_9, k_r1_10, k_r1_11, k_n2, k_a2, k_n3, k_a3, k_n4, k_a4, k_n5, k_a5, k_n6, k_a6, k_n7, k_a7, k_n8, k_a8, k_o9, k_r9_1, k_r9_5, k_r9_6, k_r9_7, k_r9_9, k_r9_10, k_r9_11, k_n10, k_a10, k_n11, k_a11, k_n12, k_a12, k_n13, k_a13, k_n14, k_a14, k_n15, k_a15, k_n16, k_a16, k_o17, k_r17_0, k_r17_2, k_n18, k_a18, k_o19, k_r19_1, k_r19_5, k_r19_6, k_r19_7, k_r19_9, k_r19_10, k_r19_11, k_n20, k_a20, k_n21, k_a21, k_n22, k_a22, k_n23, k_a23, k_n24, k_a24, k_n25, k_a25, k_n26, k_a26, k_o27, k_r27_1, k_r27_2, k_r27_3, k_n28, k_a28, k_n29, k_a29, k_n30, k_a30, k_o31, k_r31_2, k_r31_3, k_r31_4, k_r31_5, k_r31_6, k_n32, k_a32, k_n33, k_a33, k_n34, k_a34, k_n35, k_a35, k_n36, k_a36, k_o37, k_r37_0, k_r37_3, k_r37_5, k_r37_6, k_r37_7, k_r37_8, k_n38, k_a38, k_n39, k_a39, k_n40, k_a40, k_n41, k_a41, k_n42, k_a42, k_n43, k_a43, k_o44, k_r44_0, k_r44_1, k_n45, k_a45, k_n46, k_a46, k_o47, k_r47_1, k_r47_2, k_n48, k_a48, k_n49, k_a49, k_o50, k_r50_0, k_n51, k_a51, k_n52, k_a52, k_n53, k_a53, k_o54, k_r54_5, k_r54_6, k_r54_7, k_r54_8, k_r54_9, k_r54_10, k_r54_11, k_r54_13, k_r54_14, k_r54_19, k_r54_20, k_r54_21, k_r54_22, k_r54_23, k_r54_28, k_r54_29, k_r54_32, k_r54_33, k_r54_34, k_r54_37, k_r54_38, k_r54_40, k_r54_41, k_r54_42, k_r54_43, k_r54_44, k_r54_46, k_r54_47, k_n55, k_a55, k_n56, k_a56, k_n57, k_a57, k_n58, k_a58, k_n59, k_a59, k_n60, k_a60, k_n61, k_a61, k_n62, k_a62, k_n63, k_a63, k_n64, k_a64, k_n65, k_a65, k_n66, k_a66, k_n67, k_a67, k_n68, k_a68, k_n69, k_a69, k_n70, k_a70, k_n71, k_a71, k_n72, k_a72, k_n73, k_a73, k_n74, k_a74, k_n75, k_a75, k_n76, k_a76, k_n77, k_a77, k_n78, k_a78, k_n79, k_a79, k_n80, k_a80, k_n81, k_a81, k_n82, k_a82, Option.toList_some, Option.toList_none, List.cons_append, List.nil_append, ite10, ite10n, ite01, ite11, nem, and_true, true_and, eq_self, true_or, or_true, not_true_eq_false, not_false_eq_true, ne_eq, false_and, and_false, Int.reduceEq, Int.reduceNe, Int.reduceLT, Int.reduceLE, Int.reduceToNat, Int.reduceNeg, Nat.reduceEqDiff, Nat.reduceAdd, ↓reduceIte, BH_16, BH_15, hn, leT, BH_17, BH_18, ne_eq, ek, not_true_eq_false, if_true, if_false]
        exact fin
end BNF
