/-! barn: the loop of all statements, both; barn -/
theorem frF_or {U : Nat → Nat} {N : Nat} : ∀ f p, frF U N f p = 0 ∨ frF U N f p ≤ -1000
  | 0, _ => Or.inl rfl
  | f + 1, p => by
    unfold frF
    split
    · split
      · exact frF_or f _
      · right
        omega
    · exact Or.inl rfl
theorem formF_or {U : Nat → Nat} {N : Nat} : formF U N = 0 ∨ formF U N ≤ -1000 := by
  unfold formF
  split
  · right
    omega
  · exact frF_or _ _
theorem frF_ok {U : Nat → Nat} {N : Nat} : ∀ f k, stF U N k ≤ N → N - stF U N k < f → frF U N f (stF U N k) = 0 → ∃ K, k ≤ K ∧ stF U N K = N ∧ ∀ j, k ≤ j → j < K → sOK U N (stF U N j) = true
  | 0, _, _, h, _ => absurd h (Nat.not_lt_zero _)
  | f + 1, k, h1, h2, h3 => by
    unfold frF at h3
    by_cases c : stF U N k < N
    · rw [if_pos c] at h3
      by_cases hs : sOK U N (stF U N k) = true
      · rw [if_pos hs] at h3
        have q := sOK_sq hs
        obtain ⟨K, i1, i2, i3⟩ := frF_ok f (k + 1) (show sq U N (stF U N k) + 1 ≤ N by omega) (show N - (sq U N (stF U N k) + 1) < f by omega) h3
        refine ⟨K, by omega, i2, fun j a b => ?_⟩
        by_cases e : j = k
        · rw [e]
          exact hs
        · exact i3 j (by omega) b
      · rw [if_neg hs] at h3
        omega
    · exact ⟨k, Nat.le_refl k, by omega, fun j a b => by omega⟩
theorem formF_ok {U : Nat → Nat} {N : Nat} (hN : N ≤ 96) (h : formF U N = 0) : ∃ K, stF U N K = N ∧ ∀ j, j < K → sOK U N (stF U N j) = true := by
  unfold formF at h
  split at h
  · omega
  · obtain ⟨K, _, h2, h3⟩ := frF_ok (U := U) (N := N) 97 0 (Nat.zero_le N) (show N - 0 < 97 by omega) h
    exact ⟨K, h2, fun j hj => h3 j (Nat.zero_le j) hj⟩
theorem stF_up {U : Nat → Nat} {N : Nat} : ∀ k j, j < k → stF U N j < stF U N k
  | 0, _, h => absurd h (Nat.not_lt_zero _)
  | k + 1, j, h => by
    have e : stF U N (k + 1) = sq U N (stF U N k) + 1 := rfl
    have e2 : sq U N (stF U N k) = stF U N k + 1 + nd U N (mD (U (stF U N k))) (stF U N k + 1) := rfl
    by_cases c : j = k
    · rw [c]
      omega
    · have := stF_up (U := U) (N := N) k j (by omega)
      omega
theorem stF_inj {U : Nat → Nat} {N j k : Nat} (h : stF U N j = stF U N k) : j = k := by
  rcases Nat.lt_trichotomy j k with c | c | c
  · have := stF_up (U := U) (N := N) k j c
    omega
  · exact c
  · have := stF_up (U := U) (N := N) j k c
    omega
section BNM
variable {d : Nat} {x h g : HH} {Q : Option AV → HH → Prop} {a b v : Int} {k : Nat} {U : Nat → Nat} {N p K : Nat}
theorem UG.r6 (u : UG h g) {i : Nat} (hi : i < 54 ∨ 61 < i) : g i = h i := u.row hi
theorem UG.k54 (u : UG h g) {k : Nat} (hk : 5 ≤ k) (h2 : k ≠ 25 ∧ k ≠ 26 ∧ k ≠ 27) : g 54 k = h 54 k := u 54 k (by omega) (by omega) (by omega) (by omega)
theorem b_run (hN : N ≤ 96) (hK : stF U N K = N) (hK32 : K ≤ 32) (hT : ∀ j, j < K → sOK U N (stF U N j) = true) : ∀ (k j : Nat) (x : HH), j + k = K → VB x 19 → (∀ i, i < 96 → x 18 i = (U i : Int) ∧ U i ≤ 255) → ∃ (R : Option Nat) (x' : HH),
    (R = none → ∀ d Q, wp K0 (d + 6) 72 39 [vR 17, vR 1, vI (N : Int), vI 0, vI (j : Int), vI (stF U N j : Int), vI (stF U N j : Int)] [] x Q = wp K0 (d + 6) 72 39 [vR 17, vR 1, vI (N : Int), vI 0, vI (K : Int), vI (N : Int), vI (N : Int)] [] x' Q) ∧
    (∀ p, R = some p → p ≤ 96 ∧ ∀ d Q, wp K0 (d + 6) 72 39 [vR 17, vR 1, vI (N : Int), vI 0, vI (j : Int), vI (stF U N j : Int), vI (stF U N j : Int)] [] x Q = Q (some (vI (-2000 - (p : Int)))) x') ∧
    VB x' 19 ∧ (∀ i, i < 19 ∨ 26 < i → x' i = x i) ∧
    ∀ g, EX x g → g 54 18 = (K : Int) → (∀ i, i < K → TD U N i (g 64) (g 65) (g 66)) → ∃ g', UG g g' ∧
      (R = none → EX x' g' ∧ ∀ d Q, wp K0 (d + 5) 162 84 [vR 54, vI (j : Int)] [] g Q = wp K0 (d + 5) 162 84 [vR 54, vI (K : Int)] [] g' Q) ∧
      (∀ p, R = some p → ∃ j', j' < K ∧ stF U N j' = p ∧ ∀ d Q, wp K0 (d + 5) 162 84 [vR 54, vI (j : Int)] [] g Q = wp K0 (d + 5) 162 100 [vR 54, vI (j' : Int)] [] g' Q) := by
  intro k
  induction k with
  | zero =>
    intro j x hj w hU
    have e : j = K := by omega
    subst e
    rw [hK]
    exact ⟨none, x, fun _ _ _ => rfl, fun p z => (by cases z), w, fun _ _ => rfl, fun g e _ _ => ⟨g, UG.rf, fun _ => ⟨e, fun _ _ => rfl⟩, fun p z => (by cases z)⟩⟩
  | succ k ih =>
    intro j x hj w hU
    have hs := hT j (by omega)
    have hq := sOK_sq hs
    have hnx : stF U N (j + 1) = sq U N (stF U N j) + 1 := rfl
    have sk := fun d Q => c_skip (d := d) (h := x) (Q := Q) (U := U) (N := N) (a1 := vR 1) (a3 := vI 0) (st := (j : Int)) (s := (stF U N j : Int)) (q := sq U N (stF U N j)) hN hq.2.1 (fun i hi => (hU i (by omega)).1) (sq U N (stF U N j) - stF U N j) (stF U N j) (by omega) (fun i h1 h2 => sOK_in hs h1 h2)
    obtain ⟨o, x1, f1, f2, f3⟩ := c_car hN hU hs w
    try dsimp only at f1
    have u := (hU (sq U N (stF U N j)) (by omega)).1
    have e59 : ((U (sq U N (stF U N j)) : Int) = 59) = True := eq_true (by omega)
    have ref : ∀ g, EX x g → g 54 18 = (K : Int) → (∀ i, i < K → TD U N i (g 64) (g 65) (g 66)) → ∃ g', UG g g' ∧ (o = true → EX x1 g') ∧ ∀ d Q, wp K0 (d + 5) 162 84 [vR 54, vI (j : Int)] [] g Q = if o = true then wp K0 (d + 5) 162 84 [vR 54, vI ((j + 1 : Nat) : Int)] [] g' Q else wp K0 (d + 5) 162 100 [vR 54, vI (j : Int)] [] g' Q := by
      intro g eg g18 tg
      obtain ⟨t1, t2, t3, t4, t5, t6⟩ := tg j (by omega)
      obtain ⟨g', u1, u2, u3⟩ := f3 g j eg (by omega) t3 t4 (fun z => t5 (by omega)) (fun z => t6 (by omega))
      refine ⟨g', u1, u2, fun d Q => ?_⟩
      clear ih f1 f3 sk hU tg
      rw [s162_84]
      cases o
      · simp (disch := omega) only [s162_85, s162_86, s162_89, s162_92, s162_93, s162_94, s162_97, k_o0, k_r0_0, k_r0_1, k_r0_3, k_r0_4, k_r0_5, k_r0_6, k_r0_7, k_r0_8, k_r0_9, k_r0_10, k_r0_12, k_o1, k_r1_1, k_r1_5, k_r1_6, k_r1_7, k_r1_9, k_r1_10, k_r1_11, k_n2, k_a2, k_n3, k_a3, k_n4, k_a4, k_n5, k_a5, k_n6, k_a6, k_n7, k_a7, k_n8, k_a8, k_o9, k_r9_1, k_r9_5, k_r9_6, k_r9_7, k_r9_9, k_r9_10, k_r9_11, k_n10, k_a10, k_n11, k_a11, k_n12, k_a12, k_n13, k_a13, k_n14, k_a14, k_n15, k_a15, k_n16, k_a16, k_o17, k_r17_0, k_r17_2, k_n18, k_a18, k_o19, k_r19_1, k_r19_5, k_r19_6, k_r19_7, k_r19_9, k_r19_10, k_r19_11, k_n20, k_a20, k_n21, k_a21, k_n22, k_a22, k_n23, k_a23, k_n24, k_a24, k_n25, k_a25, k_n26, k_a26, k_o27, k_r27_1, k_r27_2, k_r27_3, k_n28, k_a28, k_n29, k_a29, k_n30, k_a30, k_o31, k_r31_2, k_r31_3, k_r31_4, k_r31_5, k_r31_6, k_n32, k_a32, k_n33, k_a33, k_n34, k_a34, k_n35, k_a35, k_n36, k_a36, k_o37, k_r37_0, k_r37_3, k_r37_5, k_r37_6, k_r37_7, k_r37_8, k_n38, k_a38, k_n39, k_a39, k_n40, k_a40, k_n41, k_a41, k_n42, k_a42, k_n43, k_a43, k_o44, k_r44_0, k_r44_1, k_n45, k_a45, k_n46, k_a46, k_o47, k_r47_1, k_r47_2, k_n48, k_a48, k_n49, k_a49, k_o50, k_r50_0, k_n51, k_a51, k_n52, k_a52, k_n53, k_a53, k_o54, k_r54_5, k_r54_6, k_r54_7, k_r54_8, k_r54_9, k_r54_10, k_r54_11, k_r54_13, k_r54_14, k_r54_19, k_r54_20, k_r54_21, k_r54_22, k_r54_23, k_r54_28, k_r54_29, k_r54_32, k_r54_33, k_r54_34, k_r54_37, k_r54_38, k_r54_40, k_r54_41, k_r54_42, k_r54_43, k_r54_44, k_r54_46, k_r54_47, k_n55, k_a55, k_n56, k_a56, k_n57, k_a57, k_n58, k_a58, k_n59, k_a59, k_n60, k_a60, k_n61, k_a61, k_n62, k_a62, k_n63, k_a63, k_n64, k_a64, k_n65, k_a65, k_n66, k_a66, k_n67, k_a67, k_n68, k_a68, k_n69, k_a69, k_n70, k_a70, k_n71, k_a71, k_n72, k_a72, k_n73, k_a73, k_n74, k_a74, k_n75, k_a75, k_n76, k_a76, k_n77, k_a77, k_n78, k_a78, k_n79, k_a79, k_n80, k_a80, k_n81, k_a81, k_n82, k_a82, Option.toList_some, Option.toList_none, List.cons_append, List.nil_append, ite10, ite10n, ite01, ite11, nem, and_true, true_and, eq_self, true_or, or_true, not_true_eq_false, not_false_eq_true, ne_eq, false_and, and_false, Int.reduceEq, Int.reduceNe, Int.reduceLT, Int.reduceLE, Int.reduceToNat, Int.reduceNeg, Nat.reduceEqDiff, Nat.reduceAdd, ↓reduceIte, g18, leF, u3, Bool.false_eq_true]
      · simp (disch := omega) only [s162_85, s162_86, s162_89, s162_92, s162_93, s162_94, s162_97, s162_120, s162_123, k_o0, k_r0_0, k_r0_1, k_r0_3, k_r0_4, k_r0_5, k_r0_6, k_r0_7, k_r0_8, k_r0_9, k_r0_10, k_r0_12, k_o1, k_r1_1, k_r1_5, k_r1_6, k_r1_7, k_r1_9, k_r1_10, k_r1_11, k_n2, k_a2, k_n3, k_a3, k_n4, k_a4, k_n5, k_a5, k_n6, k_a6, k_n7, k_a7, k_n8, k_a8, k_o9, k_r9_1, k_r9_5, k_r9_6, k_r9_7, k_r9_9, k_r9_10, k_r9_11, k_n10, k_a10, k_n11, k_a11, k_n12, k_a12, k_n13, k_a13, k_n14, k_a14, k_n15, k_a15, k_n16, k_a16, k_o17, k_r17_0, k_r17_2, k_n18, k_a18, k_o19, k_r19_1, k_r19_5, k_r19_6, k_r19_7, k_r19_9, k_r19_10, k_r19_11, k_n20, k_a20, k_n21, k_a21, k_n22, k_a22, k_n23, k_a23, k_n24, k_a24, k_n25, k_a25, k_n26, k_a26, k_o27, k_r27_1, k_r27_2, k_r27_3, k_n28, k_a28, k_n29, k_a29, k_n30, k_a30, k_o31, k_r31_2, k_r31_3, k_r31_4, k_r31_5, k_r31_6, k_n32, k_a32, k_n33, k_a33, k_n34, k_a34, k_n35, k_a35, k_n36, k_a36, k_o37, k_r37_0, k_r37_3, k_r37_5, k_r37_6, k_r37_7, k_r37_8, k_n38, k_a38, k_n39, k_a39, k_n40, k_a40, k_n41, k_a41, k_n42, k_a42, k_n43, k_a43, k_o44, k_r44_0, k_r44_1, k_n45, k_a45, k_n46, k_a46, k_o47, k_r47_1, k_r47_2, k_n48, k_a48, k_n49, k_a49, k_o50, k_r50_0, k_n51, k_a51, k_n52, k_a52, k_n53, k_a53, k_o54, k_r54_5, k_r54_6, k_r54_7, k_r54_8, k_r54_9, k_r54_10, k_r54_11, k_r54_13, k_r54_14, k_r54_19, k_r54_20, k_r54_21, k_r54_22, k_r54_23, k_r54_28, k_r54_29, k_r54_32, k_r54_33, k_r54_34, k_r54_37, k_r54_38, k_r54_40, k_r54_41, k_r54_42, k_r54_43, k_r54_44, k_r54_46, k_r54_47, k_n55, k_a55, k_n56, k_a56, k_n57, k_a57, k_n58, k_a58, k_n59, k_a59, k_n60, k_a60, k_n61, k_a61, k_n62, k_a62, k_n63, k_a63, k_n64, k_a64, k_n65, k_a65, k_n66, k_a66, k_n67, k_a67, k_n68, k_a68, k_n69, k_a69, k_n70, k_a70, k_n71, k_a71, k_n72, k_a72, k_n73, k_a73, k_n74, k_a74, k_n75, k_a75, k_n76, k_a76, k_n77, k_a77, k_n78, k_a78, k_n79, k_a79, k_n80, k_a80, k_n81, k_a81, k_n82, k_a82, Option.toList_some, Option.toList_none, List.cons_append, List.nil_append, ite10, ite10n, ite01, ite11, nem, and_true, true_and, eq_self, true_or, or_true, not_true_eq_false, not_false_eq_true, ne_eq, false_and, and_false, Int.reduceEq, Int.reduceNe, Int.reduceLT, Int.reduceLE, Int.reduceToNat, Int.reduceNeg, Nat.reduceEqDiff, Nat.reduceAdd, ↓reduceIte, g18, leF, u3, nc1, w32_id]
    cases ho : o
    · rw [ho] at f1 ref
      refine ⟨some (stF U N j), x, fun z => (by cases z), fun p z => ?_, w, fun _ _ => rfl, fun g eg g18 tg => ?_⟩
      · cases z
        refine ⟨by omega, fun d Q => ?_⟩
        rw [sk]
        clear ih f3 sk hU ref
        have e5 : w32 (-2000 - (stF U N j : Int)) = -2000 - (stF U N j : Int) := w32_id (by omega) (by omega)
        rw [s72_39]
        simp (disch := omega) only [s72_0, s72_1, s72_4, s72_5, s72_6, s72_7, s72_10, s72_11, s72_12, s72_15, s72_16, s72_17, s72_20, s72_21, s72_22, s72_23, s72_26, s72_27, s72_30, s72_31, s72_33, s72_34, s72_36, s72_37, s72_41, s72_42, s72_45, s72_46, s72_49, s72_51, s72_52, s72_54, s72_57, s72_58, s72_60, s72_62, s72_65, s72_68, s72_71, s72_73, s72_74, s72_75, s72_78, s72_80, s72_81, s72_82, s72_84, s72_87, s72_90, s72_91, s72_92, s72_95, s72_98, s72_100, k_o0, k_r0_0, k_r0_1, k_r0_3, k_r0_4, k_r0_5, k_r0_6, k_r0_7, k_r0_8, k_r0_9, k_r0_10, k_r0_12, k_o1, k_r1_1, k_r1_5, k_r1_6, k_r1_7, k_r1_9, k_r1_10, k_r1_11, k_n2, k_a2, k_n3, k_a3, k_n4, k_a4, k_n5, k_a5, k_n6, k_a6, k_n7, k_a7, k_n8, k_a8, k_o9, k_r9_1, k_r9_5, k_r9_6, k_r9_7, k_r9_9, k_r9_10, k_r9_11, k_n10, k_a10, k_n11, k_a11, k_n12, k_a12, k_n13, k_a13, k_n14, k_a14, k_n15, k_a15, k_n16, k_a16, k_o17, k_r17_0, k_r17_2, k_n18, k_a18, k_o19, k_r19_1, k_r19_5, k_r19_6, k_r19_7, k_r19_9, k_r19_10, k_r19_11, k_n20, k_a20, k_n21, k_a21, k_n22, k_a22, k_n23, k_a23, k_n24, k_a24, k_n25, k_a25, k_n26, k_a26, k_o27, k_r27_1, k_r27_2, k_r27_3, k_n28, k_a28, k_n29, k_a29, k_n30, k_a30, k_o31, k_r31_2, k_r31_3, k_r31_4, k_r31_5, k_r31_6, k_n32, k_a32, k_n33, k_a33, k_n34, k_a34, k_n35, k_a35, k_n36, k_a36, k_o37, k_r37_0, k_r37_3, k_r37_5, k_r37_6, k_r37_7, k_r37_8, k_n38, k_a38, k_n39, k_a39, k_n40, k_a40, k_n41, k_a41, k_n42, k_a42, k_n43, k_a43, k_o44, k_r44_0, k_r44_1, k_n45, k_a45, k_n46, k_a46, k_o47, k_r47_1, k_r47_2, k_n48, k_a48, k_n49, k_a49, k_o50, k_r50_0, k_n51, k_a51, k_n52, k_a52, k_n53, k_a53, k_o54, k_r54_5, k_r54_6, k_r54_7, k_r54_8, k_r54_9, k_r54_10, k_r54_11, k_r54_13, k_r54_14, k_r54_19, k_r54_20, k_r54_21, k_r54_22, k_r54_23, k_r54_28, k_r54_29, k_r54_32, k_r54_33, k_r54_34, k_r54_37, k_r54_38, k_r54_40, k_r54_41, k_r54_42, k_r54_43, k_r54_44, k_r54_46, k_r54_47, k_n55, k_a55, k_n56, k_a56, k_n57, k_a57, k_n58, k_a58, k_n59, k_a59, k_n60, k_a60, k_n61, k_a61, k_n62, k_a62, k_n63, k_a63, k_n64, k_a64, k_n65, k_a65, k_n66, k_a66, k_n67, k_a67, k_n68, k_a68, k_n69, k_a69, k_n70, k_a70, k_n71, k_a71, k_n72, k_a72, k_n73, k_a73, k_n74, k_a74, k_n75, k_a75, k_n76, k_a76, k_n77, k_a77, k_n78, k_a78, k_n79, k_a79, k_n80, k_a80, k_n81, k_a81, k_n82, k_a82, Option.toList_some, Option.toList_none, List.cons_append, List.nil_append, ite10, ite10n, ite01, ite11, nem, and_true, true_and, eq_self, true_or, or_true, not_true_eq_false, not_false_eq_true, ne_eq, false_and, and_false, Int.reduceEq, Int.reduceNe, Int.reduceLT, Int.reduceLE, Int.reduceToNat, Int.reduceNeg, Nat.reduceEqDiff, Nat.reduceAdd, ↓reduceIte, u, e59, leF, leT, ltT, Int.toNat_natCast, f1, Bool.false_eq_true, e5]
      · obtain ⟨g', u1, u2, u3⟩ := ref g eg g18 tg
        refine ⟨g', u1, fun z => (by cases z), fun p z => ?_⟩
        cases z
        exact ⟨j, by omega, rfl, fun d Q => by rw [u3]; exact if_neg Bool.false_ne_true⟩
    · rw [ho] at f1 f2 ref
      obtain ⟨v1, r1⟩ := f2 rfl
      obtain ⟨R, x2, i1, i2, i3, i4, i5⟩ := ih (j + 1) x1 (by omega) v1 (fun i hi => by rw [r1 18 (by omega)]; exact hU i hi)
      have st : ∀ d Q, wp K0 (d + 6) 72 39 [vR 17, vR 1, vI (N : Int), vI 0, vI (j : Int), vI (stF U N j : Int), vI (stF U N j : Int)] [] x Q = wp K0 (d + 6) 72 39 [vR 17, vR 1, vI (N : Int), vI 0, vI ((j + 1 : Nat) : Int), vI (stF U N (j + 1) : Int), vI (stF U N (j + 1) : Int)] [] x1 Q := by
        intro d Q
        rw [sk, hnx]
        clear ih f3 sk hU ref i1 i2 i5
        rw [s72_39]
        simp (disch := omega) only [s72_0, s72_1, s72_4, s72_5, s72_6, s72_7, s72_10, s72_11, s72_12, s72_15, s72_16, s72_17, s72_20, s72_21, s72_22, s72_23, s72_26, s72_27, s72_30, s72_31, s72_33, s72_34, s72_36, s72_37, s72_41, s72_42, s72_45, s72_46, s72_49, s72_51, s72_52, s72_54, s72_57, s72_58, s72_60, s72_62, s72_65, s72_68, s72_71, s72_73, s72_74, s72_75, s72_78, s72_80, s72_81, s72_82, s72_84, s72_87, s72_90, s72_91, s72_92, s72_95, s72_98, s72_100, k_o0, k_r0_0, k_r0_1, k_r0_3, k_r0_4, k_r0_5, k_r0_6, k_r0_7, k_r0_8, k_r0_9, k_r0_10, k_r0_12, k_o1, k_r1_1, k_r1_5, k_r1_6, k_r1_7, k_r1_9, k_r1_10, k_r1_11, k_n2, k_a2, k_n3, k_a3, k_n4, k_a4, k_n5, k_a5, k_n6, k_a6, k_n7, k_a7, k_n8, k_a8, k_o9, k_r9_1, k_r9_5, k_r9_6, k_r9_7, k_r9_9, k_r9_10, k_r9_11, k_n10, k_a10, k_n11, k_a11, k_n12, k_a12, k_n13, k_a13, k_n14, k_a14, k_n15, k_a15, k_n16, k_a16, k_o17, k_r17_0, k_r17_2, k_n18, k_a18, k_o19, k_r19_1, k_r19_5, k_r19_6, k_r19_7, k_r19_9, k_r19_10, k_r19_11, k_n20, k_a20, k_n21, k_a21, k_n22, k_a22, k_n23, k_a23, k_n24, k_a24, k_n25, k_a25, k_n26, k_a26, k_o27, k_r27_1, k_r27_2, k_r27_3, k_n28, k_a28, k_n29, k_a29, k_n30, k_a30, k_o31, k_r31_2, k_r31_3, k_r31_4, k_r31_5, k_r31_6, k_n32, k_a32, k_n33, k_a33, k_n34, k_a34, k_n35, k_a35, k_n36, k_a36, k_o37, k_r37_0, k_r37_3, k_r37_5, k_r37_6, k_r37_7, k_r37_8, k_n38, k_a38, k_n39, k_a39, k_n40, k_a40, k_n41, k_a41, k_n42, k_a42, k_n43, k_a43, k_o44, k_r44_0, k_r44_1, k_n45, k_a45, k_n46, k_a46, k_o47, k_r47_1, k_r47_2, k_n48, k_a48, k_n49, k_a49, k_o50, k_r50_0, k_n51, k_a51, k_n52, k_a52, k_n53, k_a53, k_o54, k_r54_5, k_r54_6, k_r54_7, k_r54_8, k_r54_9, k_r54_10, k_r54_11, k_r54_13, k_r54_14, k_r54_19, k_r54_20, k_r54_21, k_r54_22, k_r54_23, k_r54_28, k_r54_29, k_r54_32, k_r54_33, k_r54_34, k_r54_37, k_r54_38, k_r54_40, k_r54_41, k_r54_42, k_r54_43, k_r54_44, k_r54_46, k_r54_47, k_n55, k_a55, k_n56, k_a56, k_n57, k_a57, k_n58, k_a58, k_n59, k_a59, k_n60, k_a60, k_n61, k_a61, k_n62, k_a62, k_n63, k_a63, k_n64, k_a64, k_n65, k_a65, k_n66, k_a66, k_n67, k_a67, k_n68, k_a68, k_n69, k_a69, k_n70, k_a70, k_n71, k_a71, k_n72, k_a72, k_n73, k_a73, k_n74, k_a74, k_n75, k_a75, k_n76, k_a76, k_n77, k_a77, k_n78, k_a78, k_n79, k_a79, k_n80, k_a80, k_n81, k_a81, k_n82, k_a82, Option.toList_some, Option.toList_none, List.cons_append, List.nil_append, ite10, ite10n, ite01, ite11, nem, and_true, true_and, eq_self, true_or, or_true, not_true_eq_false, not_false_eq_true, ne_eq, false_and, and_false, Int.reduceEq, Int.reduceNe, Int.reduceLT, Int.reduceLE, Int.reduceToNat, Int.reduceNeg, Nat.reduceEqDiff, Nat.reduceAdd, ↓reduceIte, u, e59, leF, leT, ltT, Int.toNat_natCast, f1, nc1, w32_id]
      refine ⟨R, x2, fun z d Q => (st d Q).trans (i1 z d Q), fun p z => ⟨(i2 p z).1, fun d Q => (st d Q).trans ((i2 p z).2 d Q)⟩, i3, fun i hi => (i4 i hi).trans (r1 i hi), fun g eg g18 tg => ?_⟩
      obtain ⟨g1, u1, u2, u3⟩ := ref g eg g18 tg
      obtain ⟨g', y1, y2, y3⟩ := i5 g1 (u2 rfl) (by rw [u1.k54 (by decide) (by decide)]; exact g18) (fun i hi => by rw [u1.r6 (by decide), u1.r6 (by decide), u1.r6 (by decide)]; exact tg i hi)
      have u4 : ∀ d Q, wp K0 (d + 5) 162 84 [vR 54, vI (j : Int)] [] g Q = wp K0 (d + 5) 162 84 [vR 54, vI ((j + 1 : Nat) : Int)] [] g1 Q := fun d Q => (u3 d Q).trans (if_pos rfl)
      refine ⟨g', u1.tr y1, fun z => ⟨(y2 z).1, fun d Q => (u4 d Q).trans ((y2 z).2 d Q)⟩, fun p z => ?_⟩
      obtain ⟨j', a1, a2, a3⟩ := y3 p z
      exact ⟨j', a1, a2, fun d Q => (u4 d Q).trans (a3 d Q)⟩
end BNM
