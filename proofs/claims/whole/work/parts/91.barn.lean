/-! barn: both -/
section BNN
variable {d : Nat} {x h g : HH} {Q : Option AV → HH → Prop} {a b v : Int} {k : Nat} {U : Nat → Nat} {N p K : Nat}
theorem RE.barn (v : RE h) (hr : ∀ i, (i = 0 ∨ (9 ≤ i ∧ i ≤ 16) ∨ i = 18 ∨ i = 52 ∨ i = 53 ∨ i = 62 ∨ i = 63 ∨ i = 68 ∨ i = 82) → g i = h i) (s17 : g 17 1 = 0) (c15 : g 54 15 = 0) (c24 : g 54 24 = h 54 24) (c48 : g 54 48 = h 54 48) (V : VB g 1) (E : EB g) : RE g := by
  refine ⟨V, E, ?_⟩
  obtain ⟨_, _, x1, x2, x3, x4, x5, x6, x7, x8, x9⟩ := v
  unfold XB
  rw [c24, c15, c48, s17, hr 0 (by omega), hr 18 (by omega), hr 63 (by omega), hr 52 (by omega), hr 82 (by omega), hr 62 (by omega), hr 53 (by omega)]
  refine ⟨x1, ?_, rfl, ⟨by omega, by omega⟩, x5, x6, x7, x8, x9⟩
  rcases x2 with z | ⟨z1, z2, z3⟩
  · exact Or.inl z
  · refine Or.inr ⟨z1, z2.rows (fun i h1 h2 => hr i (by omega)), ?_⟩
    unfold IB at *
    rw [hr 68 (by omega), hr 9 (by omega), hr (9 + 1) (by omega), hr (9 + 2) (by omega), hr (9 + 3) (by omega), hr (9 + 4) (by omega), hr (9 + 5) (by omega), hr (9 + 6) (by omega), hr (9 + 7) (by omega)]
    exact z3
theorem BH_self {G : HH} : hput (hput (hput G 54 16 0) 54 17 0) 54 18 0 = BH G 0 0 0 (G 64) (G 65) (G 66) := by
  unfold BH
  have e64 : hput (hput (hput G 54 16 ((0 : Nat) : Int)) 54 17 0) 54 18 ((0 : Nat) : Int) 64 = G 64 := by simp (disch := omega) only [hput_row]
  have e65 : hput (hput (hput G 54 16 ((0 : Nat) : Int)) 54 17 0) 54 18 ((0 : Nat) : Int) 65 = G 65 := by simp (disch := omega) only [hput_row]
  have e66 : hput (hput (hput G 54 16 ((0 : Nat) : Int)) 54 17 0) 54 18 ((0 : Nat) : Int) 66 = G 66 := by simp (disch := omega) only [hput_row]
  rw [← e64, hset_self, ← e65, hset_self, ← e66, hset_self]
  rfl
theorem BH_row {G : HH} {b : Int} {pl lo tl : Nat → Int} {i : Nat} (h1 : i ≠ 54) (h2 : i ≠ 64 ∧ i ≠ 65 ∧ i ≠ 66) : BH G p b k pl lo tl i = G i := by
  unfold BH
  simp (disch := omega) only [hset_row, hput_row]
theorem BH_k {G : HH} {b : Int} {pl lo tl : Nat → Int} {i : Nat} (h2 : i ≠ 16 ∧ i ≠ 17 ∧ i ≠ 18) : BH G p b k pl lo tl 54 i = G 54 i := by
  unfold BH
  simp (disch := omega) only [hset_row, hput_ne]
theorem BH_64 {G : HH} {b : Int} {pl lo tl : Nat → Int} : BH G p b k pl lo tl 64 = pl := by
  unfold BH
  simp (disch := omega) only [hset_row, hset_same]
theorem BH_65 {G : HH} {b : Int} {pl lo tl : Nat → Int} : BH G p b k pl lo tl 65 = lo := by
  unfold BH
  simp (disch := omega) only [hset_row, hset_same]
theorem EX.of (e : EB h) (c : CB h x 19 1) (hg : ∀ k, k ≤ 4 → g 54 k = h 54 k) (hr : ∀ i, 55 ≤ i → i ≤ 61 → g i = h i) : EX x g := by
  obtain ⟨_, ⟨c0, c2, c3, c4, c8⟩, r1, r2, r3, r4, r5, r6, r7⟩ := c
  obtain ⟨b1, b2, b3, b4, b5, b6, b7, b8, b9⟩ := e
  unfold EX
  rw [hg 0 (by decide), hg 1 (by decide), hg 2 (by decide), hg 3 (by decide), hg 4 (by decide), hr 55 (by decide) (by decide), hr 56 (by decide) (by decide), hr 57 (by decide) (by decide), hr 58 (by decide) (by decide), hr 59 (by decide) (by decide), hr 60 (by decide) (by decide), hr 61 (by decide) (by decide), c0, c2, c3, c4, c8]
  exact ⟨b1, b2, b3, b4, b5, fun j hj => (b6 j hj).trans (r1 j hj).symm, fun j hj => ⟨(b7 j hj).1.trans (r2 j hj).symm, (b7 j hj).2.1.trans (r3 j hj).symm, (b7 j hj).2.2.trans (r4 j hj).symm⟩, fun j hj => ⟨(b8 j hj).1.trans (r5 j hj).symm, (b8 j hj).2.trans (r6 j hj).symm⟩, fun j hj => (b9 j hj).trans (r7 j hj).symm⟩
theorem EB.of (e : EX x g) (c : CB x h 1 19) (hr : ∀ i, 1 ≤ i → i ≤ 8 → g i = h i) : EB g := by
  obtain ⟨_, ⟨c0, c2, c3, c4, c8⟩, r1, r2, r3, r4, r5, r6, r7⟩ := c
  obtain ⟨b1, b2, b3, b4, b5, b6, b7, b8, b9⟩ := e
  unfold EB
  rw [hr 1 (by decide) (by decide), hr 2 (by decide) (by decide), hr 3 (by decide) (by decide), hr 4 (by decide) (by decide), hr 5 (by decide) (by decide), hr 6 (by decide) (by decide), hr 7 (by decide) (by decide), hr 8 (by decide) (by decide), c0, c2, c3, c4, c8]
  exact ⟨b1, b2, b3, b4, b5, fun j hj => (b6 j hj).trans (r1 j hj).symm, fun j hj => ⟨(b7 j hj).1.trans (r2 j hj).symm, (b7 j hj).2.1.trans (r3 j hj).symm, (b7 j hj).2.2.trans (r4 j hj).symm⟩, fun j hj => ⟨(b8 j hj).1.trans (r5 j hj).symm, (b8 j hj).2.trans (r6 j hj).symm⟩, fun j hj => (b9 j hj).trans (r7 j hj).symm⟩
theorem EB.tk {t : HH} (e : EB h) (t1 : TK t 67 h) (t2 : TK t 67 g) (hr : ∀ i, 1 ≤ i → i ≤ 8 → g i = h i) : EB g := by
  obtain ⟨⟨a0, a1, a2, a3, a4⟩, aA, aB, aC⟩ := t1
  obtain ⟨⟨d0, d1, d2, d3, d4⟩, dA, dB, dC⟩ := t2
  obtain ⟨b1, b2, b3, b4, b5, b6, b7, b8, b9⟩ := e
  unfold EB
  rw [hr 1 (by decide) (by decide), hr 2 (by decide) (by decide), hr 3 (by decide) (by decide), hr 4 (by decide) (by decide), hr 5 (by decide) (by decide), hr 6 (by decide) (by decide), hr 7 (by decide) (by decide), hr 8 (by decide) (by decide), ← d0, ← d1, ← d2, ← d3, ← d4, a0, a1, a2, a3, a4]
  exact ⟨b1, b2, b3, b4, b5, fun j hj => by rw [← (dA j hj).1, (aA j hj).1]; exact b6 j hj, fun j hj => by rw [← (dB j hj).1, (aB j hj).1, ← (dB j hj).2.1, (aB j hj).2.1, ← (dB j hj).2.2, (aB j hj).2.2]; exact b7 j hj, fun j hj => by rw [← (dC j hj).1, (aC j hj).1, ← (dC j hj).2, (aC j hj).2]; exact b8 j hj, fun j hj => by rw [← (dA j hj).2, (aA j hj).2]; exact b9 j hj⟩
theorem pr_barn (v : RE h) : PR (d + 9) 102 162 [vR 0] [vR 54, vU] h := by
  have v0 := v
  obtain ⟨v1, v2, v3⟩ := v
  obtain ⟨x1, x2, x3, x4, x5, x6, x7, x8, x9⟩ := v3
  obtain ⟨N, e17⟩ : ∃ N : Nat, h 17 1 = N := ⟨(h 17 1).toNat, by omega⟩
  have hN : N ≤ 96 := by omega
  have e15 : h 54 15 = (N : Int) := x3.trans e17
  obtain ⟨U, hU18⟩ : ∃ U : Nat → Nat, ∀ j, j < 96 → h 18 j = (U j : Int) ∧ U j ≤ 255 := ⟨fun j => (h 18 j).toNat, fun j hj => by have := x5 j hj; dsimp only; omega⟩
  have hU63 : ∀ j, j < N → h 63 j = (U j : Int) := fun j hj => by rw [(x5 j (by omega)).1, (hU18 j (by omega)).1]
  generalize hx0 : hput h 17 1 0 = x0
  have r0 : ∀ i, i ≠ 17 → x0 i = h i := fun i hi => by rw [← hx0, hput_row hi]
  have s0 : x0 17 1 = 0 := by rw [← hx0, hput_same]
  have cf := fun d Q => c_form (d := d) (h := x0) (Q := Q) (U := U) hN (fun j hj => by rw [r0 18 (by decide)]; exact (hU18 j (by omega)).1)
  -- the reference, up to the end of reading
  have rd : ∀ (gx : HH) (Q : Option AV → HH → Prop), (∀ i, (i = 54 ∨ i = 63) → gx i = h i) → (formF U N = 0 → ∀ K pl lo tl, RD U N K N pl lo tl → 1 ≤ K → wp K0 (d + 9) 162 52 [vR 54, vU] [] (BH (th gx) N 0 K pl lo tl) Q) → (∀ (p' k' : Nat) (pl lo tl : Nat → Int), formF U N = -1000 - (p' : Int) → p' ≤ 96 → wp K0 (d + 9) 162 52 [vR 54, vU] [] (BH (th gx) p' 1 k' pl lo tl) Q) → wp K0 (d + 9) 162 0 [vR 54, vU] [] gx Q := by
    intro gx Q hgx h1 h2
    have g15 : th gx 54 15 = (N : Int) := by rw [th_k (by decide), hgx 54 (by omega)]; exact e15
    have g63 : ∀ j, j < N → th gx 63 j = (U j : Int) := fun j hj => by rw [th_r (by decide), hgx 63 (by omega)]; exact hU63 j hj
    have mr := m_read (d := d + 6) (G := th gx) (Q := Q) (U := U) (V := formF U N) hN g15 g63 h1 h2 97 0 0 (th gx 64) (th gx 65) (th gx 66) ⟨rfl, Nat.le_refl _, Nat.zero_le _, fun j hj => absurd hj (Nat.not_lt_zero j)⟩ (by omega) (by
      unfold formF
      by_cases c : 0 < N
      · rw [if_pos c, if_neg (by omega)]
      · rw [if_neg c, if_pos rfl, if_pos (by omega)])
    simp only [s162_0, s162_1, s162_2, s162_5, s162_6, s162_7, s162_10, s162_11, s162_12, s162_15, s162_16, s162_17, s162_21, s162_24, s162_27, s162_28, s162_31, s162_34, s162_35, s162_38, s162_39, s162_42, s162_45, s162_46, s162_49, s162_52, s162_53, s162_54, s162_57, s162_58, s162_61, s162_64, s162_67, s162_68, s162_71, s162_72, s162_73, s162_74, s162_75, s162_78, s162_79, s162_82, s162_83, s162_85, s162_86, s162_89, s162_92, s162_93, s162_94, s162_97, s162_100, s162_101, s162_102, s162_105, s162_106, s162_109, s162_112, s162_113, s162_116, s162_117, s162_118, s162_119, s162_120, s162_123, s162_126, s162_127, s162_130, k_o0, k_r0_0, k_r0_1, k_r0_3, k_r0_4, k_r0_5, k_r0_6, k_r0_7, k_r0_8, k_r0_9, k_r0_10, k_r0_12, k_o1, k_r1_1, k_r1_5, k_r1_6, k_r1_7, k_r1_9, k_r1_10, k_r1_11, k_n2, k_a2, k_n3, k_a3, k_n4, k_a4, k_n5, k_a5, k_n6, k_a6, k_n7, k_a7, k_n8, k_a8, k_o9, k_r9_1, k_r9_5, k_r9_6, k_r9_7, k_r9_9, k_r9_10, k_r9_11, k_n10, k_a10, k_n11, k_a11, k_n12, k_a12, k_n13, k_a13, k_n14, k_a14, k_n15, k_a15, k_n16, k_a16, k_o17, k_r17_0, k_r17_2, k_n18, k_a18, k_o19, k_r19_1, k_r19_5, k_r19_6, k_r19_7, k_r19_9, k_r19_10, k_r19_11, k_n20, k_a20, k_n21, k_a21, k_n22, k_a22, k_n23, k_a23, k_n24, k_a24, k_n25, k_a25, k_n26, k_a26, k_o27, k_r27_1, k_r27_2, k_r27_3, k_n28, k_a28, k_n29, k_a29, k_n30, k_a30, k_o31, k_r31_2, k_r31_3, k_r31_4, k_r31_5, k_r31_6, k_n32, k_a32, k_n33, k_a33, k_n34, k_a34, k_n35, k_a35, k_n36, k_a36, k_o37, k_r37_0, k_r37_3, k_r37_5, k_r37_6, k_r37_7, k_r37_8, k_n38, k_a38, k_n39, k_a39, k_n40, k_a40, k_n41, k_a41, k_n42, k_a42, k_n43, k_a43, k_o44, k_r44_0, k_r44_1, k_n45, k_a45, k_n46, k_a46, k_o47, k_r47_1, k_r47_2, k_n48, k_a48, k_n49, k_a49, k_o50, k_r50_0, k_n51, k_a51, k_n52, k_a52, k_n53, k_a53, k_o54, k_r54_5, k_r54_6, k_r54_7, k_r54_8, k_r54_9, k_r54_10, k_r54_11, k_r54_13, k_r54_14, k_r54_19, k_r54_20, k_r54_21, k_r54_22, k_r54_23, k_r54_28, k_r54_29, k_r54_32, k_r54_33, k_r54_34, k_r54_37, k_r54_38, k_r54_40, k_r54_41, k_r54_42, k_r54_43, k_r54_44, k_r54_46, k_r54_47, k_n55, k_a55, k_n56, k_a56, k_n57, k_a57, k_n58, k_a58, k_n59, k_a59, k_n60, k_a60, k_n61, k_a61, k_n62, k_a62, k_n63, k_a63, k_n64, k_a64, k_n65, k_a65, k_n66, k_a66, k_n67, k_a67, k_n68, k_a68, k_n69, k_a69, k_n70, k_a70, k_n71, k_a71, k_n72, k_a72, k_n73, k_a73, k_n74, k_a74, k_n75, k_a75, k_n76, k_a76, k_n77, k_a77, k_n78, k_a78, k_n79, k_a79, k_n80, k_a80, k_n81, k_a81, k_n82, k_a82, Option.toList_some, Option.toList_none, List.cons_append, List.nil_append, ite10, ite10n, ite01, ite11, nem, and_true, true_and, eq_self, true_or, or_true, not_true_eq_false, not_false_eq_true, ne_eq, false_and, and_false, Int.reduceEq, Int.reduceNe, Int.reduceLT, Int.reduceLE, Int.reduceToNat, Int.reduceNeg, Nat.reduceEqDiff, Nat.reduceAdd, ↓reduceIte, tq]
    rw [BH_self]
    exact mr
  unfold PR
  rcases formF_or (U := U) (N := N) with hV | hV
  · obtain ⟨K, hK, hT⟩ := formF_ok hN hV
    have hK3 : ∀ k, 3 * k ≤ 96 + 3 → k ≤ 33 := fun k hk => by omega
    have grow : ∀ k, k ≤ K → 3 * k ≤ stF U N k := by
      intro k
      induction k with
      | zero => intro _; exact Nat.zero_le _
      | succ k ih =>
        intro hk
        have i1 := ih (by omega)
        have q := sOK_sq (hT k (by omega))
        have e : stF U N (k + 1) = sq U N (stF U N k) + 1 := rfl
        omega
    have hK32 : K ≤ 32 := by
      have := grow K (Nat.le_refl K)
      omega
    obtain ⟨x1', w1, c1⟩ := c_tf_19_1 (h := x0)
    have V19 : VB x1' 19 := VB.cb c1 (v1.rows (fun i h1 h2 => r0 i (by omega)))
    have rx1 : ∀ i, i ≠ 17 → (i < 19 ∨ 26 < i) → x1' i = h i := fun i hi h2 => (c1.1 i h2).trans (r0 i hi)
    have sx1 : x1' 17 1 = 0 := by rw [c1.1 17 (by omega)]; exact s0
    obtain ⟨R, x2', i1, i2, i3, i4, i5⟩ := b_run hN hK hK32 hT K 0 x1' (by omega) V19 (fun i hi => by rw [rx1 18 (by decide) (by omega)]; exact hU18 i hi)
    have rx2 : ∀ i, i ≠ 17 → (i < 19 ∨ 26 < i) → x2' i = h i := fun i hi h2 => (i4 i h2).trans (rx1 i hi h2)
    have sx2 : x2' 17 1 = 0 := by rw [i4 17 (by omega)]; exact sx1
    have e00 : stF U N 0 = 0 := rfl
    rw [e00] at i1 i2
    have eN0 : ((0 : Nat) : Int) = 0 := rfl
    rw [eN0] at i1 i2 i5
    have cls : ∀ Q, wp K0 (d + 9) 102 0 [vR 0] [] h Q = wp K0 (d + 8) 72 39 [vR 17, vR 1, vI (N : Int), vI 0, vI 0, vI 0, vI 0] [] x1' (fun r h' => wp K0 (d + 9) 102 11 [vR 0] (r.toList ++ []) h' Q) := by
      intro Q
      clear i1 i2 i5 rd
      simp (disch := omega) only [s102_0, s102_1, s102_4, s102_5, s102_8, s102_11, s72_0, s72_1, s72_4, s72_5, s72_6, s72_7, s72_10, s72_11, s72_12, s72_15, s72_16, s72_17, s72_20, s72_21, s72_22, s72_23, s72_26, s72_27, s72_30, s72_31, s72_33, s72_34, s72_36, s72_37, s72_41, s72_42, s72_45, s72_46, s72_49, s72_51, s72_52, s72_54, s72_57, s72_58, s72_60, s72_62, s72_65, s72_68, s72_71, s72_73, s72_74, s72_75, s72_78, s72_80, s72_81, s72_82, s72_84, s72_87, s72_90, s72_91, s72_92, s72_95, s72_98, s72_100, k_o0, k_r0_0, k_r0_1, k_r0_3, k_r0_4, k_r0_5, k_r0_6, k_r0_7, k_r0_8, k_r0_9, k_r0_10, k_r0_12, k_o1, k_r1_1, k_r1_5, k_r1_6, k_r1_7, k_r1_9, k_r1_10, k_r1_11, k_n2, k_a2, k_n3, k_a3, k_n4, k_a4, k_n5, k_a5, k_n6, k_a6, k_n7, k_a7, k_n8, k_a8, k_o9, k_r9_1, k_r9_5, k_r9_6, k_r9_7, k_r9_9, k_r9_10, k_r9_11, k_n10, k_a10, k_n11, k_a11, k_n12, k_a12, k_n13, k_a13, k_n14, k_a14, k_n15, k_a15, k_n16, k_a16, k_o17, k_r17_0, k_r17_2, k_n18, k_a18, k_o19, k_r19_1, k_r19_5, k_r19_6, k_r19_7, k_r19_9, k_r19_10, k_r19_11, k_n20, k_a20, k_n21, k_a21, k_n22, k_a22, k_n23, k_a23, k_n24, k_a24, k_n25, k_a25, k_n26, k_a26, k_o27, k_r27_1, k_r27_2, k_r27_3, k_n28, k_a28, k_n29, k_a29, k_n30, k_a30, k_o31, k_r31_2, k_r31_3, k_r31_4, k_r31_5, k_r31_6, k_n32, k_a32, k_n33, k_a33, k_n34, k_a34, k_n35, k_a35, k_n36, k_a36, k_o37, k_r37_0, k_r37_3, k_r37_5, k_r37_6, k_r37_7, k_r37_8, k_n38, k_a38, k_n39, k_a39, k_n40, k_a40, k_n41, k_a41, k_n42, k_a42, k_n43, k_a43, k_o44, k_r44_0, k_r44_1, k_n45, k_a45, k_n46, k_a46, k_o47, k_r47_1, k_r47_2, k_n48, k_a48, k_n49, k_a49, k_o50, k_r50_0, k_n51, k_a51, k_n52, k_a52, k_n53, k_a53, k_o54, k_r54_5, k_r54_6, k_r54_7, k_r54_8, k_r54_9, k_r54_10, k_r54_11, k_r54_13, k_r54_14, k_r54_19, k_r54_20, k_r54_21, k_r54_22, k_r54_23, k_r54_28, k_r54_29, k_r54_32, k_r54_33, k_r54_34, k_r54_37, k_r54_38, k_r54_40, k_r54_41, k_r54_42, k_r54_43, k_r54_44, k_r54_46, k_r54_47, k_n55, k_a55, k_n56, k_a56, k_n57, k_a57, k_n58, k_a58, k_n59, k_a59, k_n60, k_a60, k_n61, k_a61, k_n62, k_a62, k_n63, k_a63, k_n64, k_a64, k_n65, k_a65, k_n66, k_a66, k_n67, k_a67, k_n68, k_a68, k_n69, k_a69, k_n70, k_a70, k_n71, k_a71, k_n72, k_a72, k_n73, k_a73, k_n74, k_a74, k_n75, k_a75, k_n76, k_a76, k_n77, k_a77, k_n78, k_a78, k_n79, k_a79, k_n80, k_a80, k_n81, k_a81, k_n82, k_a82, Option.toList_some, Option.toList_none, List.cons_append, List.nil_append, ite10, ite10n, ite01, ite11, nem, and_true, true_and, eq_self, true_or, or_true, not_true_eq_false, not_false_eq_true, ne_eq, false_and, and_false, Int.reduceEq, Int.reduceNe, Int.reduceLT, Int.reduceLE, Int.reduceToNat, Int.reduceNeg, Nat.reduceEqDiff, Nat.reduceAdd, ↓reduceIte, e17, hx0, cf, hV, w1, leT]
    rw [cls]
    -- the reference behind the class's heap
    have rest : ∀ (gx : HH) (r : Int), (∀ i, i ≠ 17 → (i < 1 ∨ 8 < i) → (i < 19 ∨ 26 < i) → gx i = h i) → gx 17 1 = 0 → (R = none → r = (K : Int) ∧ CB x2' gx 1 19) → (∀ p, R = some p → r = -2000 - (p : Int) ∧ ∀ i, 1 ≤ i → i ≤ 8 → gx i = h i) → wp K0 (d + 9) 162 0 [vR 54, vU] [] gx (fun r2 h2 => ∃ v : Int, some (vI r) = some (vI v) ∧ r2 = some (vI v) ∧ RE h2 ∧ KW h h2) := by
      intro gx r hgx g17 hok hbad
      refine rd gx _ (fun i hi => hgx i (by omega) (by omega) (by omega)) (fun _ K' pl lo tl hR hK1 => ?_) (fun p' k' pl lo tl hz _ => by omega)
      obtain ⟨q1, q2, q3, q4⟩ := hR
      have eK : K' = K := stF_inj (q1.symm.trans hK.symm)
      subst eK
      generalize hb1 : hput (BH (th gx) N 0 K' pl lo tl) 54 15 0 = b1
      obtain ⟨g2, w2, u2, t2⟩ := m_ct_67 (h := b1)
      have bR : ∀ i, i ≠ 54 → i ≠ 64 ∧ i ≠ 65 ∧ i ≠ 66 → b1 i = gx i := fun i h1 h2 => by rw [← hb1, hput_row h1, BH_row h1 h2, th_r h1]
      have bK : ∀ k, k ≠ 12 → k ≠ 15 → k ≠ 16 ∧ k ≠ 17 ∧ k ≠ 18 → b1 54 k = gx 54 k := fun k h1 h2 h3 => by rw [← hb1, hput_ne (Or.inr h2), BH_k h3, th_k h1]
      have b15 : b1 54 15 = 0 := by rw [← hb1, hput_same]
      have b17 : b1 54 17 = 0 := by rw [← hb1, hput_ne (Or.inr (by decide)), BH_17]
      have b18 : b1 54 18 = (K' : Int) := by rw [← hb1, hput_ne (Or.inr (by decide)), BH_18]
      have b64 : b1 64 = pl := by rw [← hb1, hput_row (by decide), BH_64]
      have b65 : b1 65 = lo := by rw [← hb1, hput_row (by decide), BH_65]
      have b66 : b1 66 = tl := by rw [← hb1, hput_row (by decide), BH_66]
      have g54 : gx 54 = h 54 := hgx 54 (by omega) (by omega) (by omega)
      have ex2 : EX x1' g2 := EX.of (h := x0) (g := g2) (by
        obtain ⟨z1, z2, z3, z4, z5, z6, z7, z8, z9⟩ := v2
        unfold EB
        rw [r0 54 (by decide), r0 1 (by decide), r0 2 (by decide), r0 3 (by decide), r0 4 (by decide), r0 5 (by decide), r0 6 (by decide), r0 7 (by decide), r0 8 (by decide), r0 55 (by decide), r0 56 (by decide), r0 57 (by decide), r0 58 (by decide), r0 59 (by decide), r0 60 (by decide), r0 61 (by decide)]
        exact ⟨z1, z2, z3, z4, z5, z6, z7, z8, z9⟩) c1 (fun k hk => by rw [u2 54 k (by decide) (by omega), bK k (by omega) (by omega) (by omega), g54, r0 54 (by decide)]) (fun i h1 h2 => by rw [u2.row (by omega) (by omega), bR i (by omega) (by omega), hgx i (by omega) (by omega) (by omega), r0 i (by omega)])
      obtain ⟨g3, y1, y2, y3⟩ := i5 g2 ex2 (by rw [u2 54 18 (by decide) (by omega)]; exact b18) (fun i hi => by rw [u2.row (by decide) (by decide), u2.row (by decide) (by decide), u2.row (by decide) (by decide), b64, b65, b66]; exact q4 i hi)
      have f2 : ∀ i, i ≠ 54 → i ≠ 67 → i ≠ 64 ∧ i ≠ 65 ∧ i ≠ 66 → g2 i = gx i := fun i h1 h2 h3 => by rw [u2.row h2 h1, bR i h1 h3]
      have k2 : ∀ k, k ≠ 12 → k ≠ 15 → k ≠ 16 ∧ k ≠ 17 ∧ k ≠ 18 → k ≠ 25 ∧ k ≠ 26 ∧ k ≠ 27 → g2 54 k = gx 54 k := fun k h1 h2 h3 h4 => by rw [u2 54 k (by decide) (by omega), bK k h1 h2 h3]
      have n15 : g2 54 15 = 0 := by rw [u2 54 15 (by decide) (by omega)]; exact b15
      have head : ∀ Q, wp K0 (d + 9) 162 52 [vR 54, vU] [] (BH (th gx) N 0 K' pl lo tl) Q = wp K0 (d + 9) 162 84 [vR 54, vI 0] [] g2 Q := by
        intro Q
        clear i1 i2 i5 rd y2 y3 hok hbad cls cf
        simp (disch := omega) only [s162_0, s162_1, s162_2, s162_5, s162_6, s162_7, s162_10, s162_11, s162_12, s162_15, s162_16, s162_17, s162_21, s162_24, s162_27, s162_28, s162_31, s162_34, s162_35, s162_38, s162_39, s162_42, s162_45, s162_46, s162_49, s162_52, s162_53, s162_54, s162_57, s162_58, s162_61, s162_64, s162_67, s162_68, s162_71, s162_72, s162_73, s162_74, s162_75, s162_78, s162_79, s162_82, s162_83, s162_85, s162_86, s162_89, s162_92, s162_93, s162_94, s162_97, s162_100, s162_101, s162_102, s162_105, s162_106, s162_109, s162_112, s162_113, s162_116, s162_117, s162_118, s162_119, s162_120, s162_123, s162_126, s162_127, s162_130, k_o0, k_r0_0, k_r0_1, k_r0_3, k_r0_4, k_r0_5, k_r0_6, k_r0_7, k_r0_8, k_r0_9, k_r0_10, k_r0_12, k_o1, k_r1_1, k_r1_5, k_r1_6, k_r1_7, k_r1_9, k_r1_10, k_r1_11, k_n2, k_a2, k_n3, k_a3, k_n4, k_a4, k_n5, k_a5, k_n6, k_a6, k_n7, k_a7, k_n8, k_a8, k_o9, k_r9_1, k_r9_5, k_r9_6, k_r9_7, k_r9_9, k_r9_10, k_r9_11, k_n10, k_a10, k_n11, k_a11, k_n12, k_a12, k_n13, k_a13, k_n14, k_a14, k_n15, k_a15, k_n16, k_a16, k_o17, k_r17_0, k_r17_2, k_n18, k_a18, k_o19, k_r19_1, k_r19_5, k_r19_6, k_r19_7, k_r19_9, k_r19_10, k_r19_11, k_n20, k_a20, k_n21, k_a21, k_n22, k_a22, k_n23, k_a23, k_n24, k_a24, k_n25, k_a25, k_n26, k_a26, k_o27, k_r27_1, k_r27_2, k_r27_3, k_n28, k_a28, k_n29, k_a29, k_n30, k_a30, k_o31, k_r31_2, k_r31_3, k_r31_4, k_r31_5, k_r31_6, k_n32, k_a32, k_n33, k_a33, k_n34, k_a34, k_n35, k_a35, k_n36, k_a36, k_o37, k_r37_0, k_r37_3, k_r37_5, k_r37_6, k_r37_7, k_r37_8, k_n38, k_a38, k_n39, k_a39, k_n40, k_a40, k_n41, k_a41, k_n42, k_a42, k_n43, k_a43, k_o44, k_r44_0, k_r44_1, k_n45, k_a45, k_n46, k_a46, k_o47, k_r47_1, k_r47_2, k_n48, k_a48, k_n49, k_a49, k_o50, k_r50_0, k_n51, k_a51, k_n52, k_a52, k_n53, k_a53, k_o54, k_r54_5, k_r54_6, k_r54_7, k_r54_8, k_r54_9, k_r54_10, k_r54_11, k_r54_13, k_r54_14, k_r54_19, k_r54_20, k_r54_21, k_r54_22, k_r54_23, k_r54_28, k_r54_29, k_r54_32, k_r54_33, k_r54_34, k_r54_37, k_r54_38, k_r54_40, k_r54_41, k_r54_42, k_r54_43, k_r54_44, k_r54_46, k_r54_47, k_n55, k_a55, k_n56, k_a56, k_n57, k_a57, k_n58, k_a58, k_n59, k_a59, k_n60, k_a60, k_n61, k_a61, k_n62, k_a62, k_n63, k_a63, k_n64, k_a64, k_n65, k_a65, k_n66, k_a66, k_n67, k_a67, k_n68, k_a68, k_n69, k_a69, k_n70, k_a70, k_n71, k_a71, k_n72, k_a72, k_n73, k_a73, k_n74, k_a74, k_n75, k_a75, k_n76, k_a76, k_n77, k_a77, k_n78, k_a78, k_n79, k_a79, k_n80, k_a80, k_n81, k_a81, k_n82, k_a82, Option.toList_some, Option.toList_none, List.cons_append, List.nil_append, ite10, ite10n, ite01, ite11, nem, and_true, true_and, eq_self, true_or, or_true, not_true_eq_false, not_false_eq_true, ne_eq, false_and, and_false, Int.reduceEq, Int.reduceNe, Int.reduceLT, Int.reduceLE, Int.reduceToNat, Int.reduceNeg, Nat.reduceEqDiff, Nat.reduceAdd, ↓reduceIte, hb1, b17, w2, ne_eq, not_true_eq_false]
      rw [head]
      cases hR : R with
      | none =>
        obtain ⟨er, cb⟩ := hok hR
        obtain ⟨ex3, st⟩ := y2 hR
        rw [st]
        have n18 : g3 54 18 = (K' : Int) := by rw [y1.k54 (by decide) (by decide), u2 54 18 (by decide) (by omega)]; exact b18
        rw [s162_84]
        simp (disch := omega) only [s162_0, s162_1, s162_2, s162_5, s162_6, s162_7, s162_10, s162_11, s162_12, s162_15, s162_16, s162_17, s162_21, s162_24, s162_27, s162_28, s162_31, s162_34, s162_35, s162_38, s162_39, s162_42, s162_45, s162_46, s162_49, s162_52, s162_53, s162_54, s162_57, s162_58, s162_61, s162_64, s162_67, s162_68, s162_71, s162_72, s162_73, s162_74, s162_75, s162_78, s162_79, s162_82, s162_83, s162_85, s162_86, s162_89, s162_92, s162_93, s162_94, s162_97, s162_100, s162_101, s162_102, s162_105, s162_106, s162_109, s162_112, s162_113, s162_116, s162_117, s162_118, s162_119, s162_120, s162_123, s162_126, s162_127, s162_130, k_o0, k_r0_0, k_r0_1, k_r0_3, k_r0_4, k_r0_5, k_r0_6, k_r0_7, k_r0_8, k_r0_9, k_r0_10, k_r0_12, k_o1, k_r1_1, k_r1_5, k_r1_6, k_r1_7, k_r1_9, k_r1_10, k_r1_11, k_n2, k_a2, k_n3, k_a3, k_n4, k_a4, k_n5, k_a5, k_n6, k_a6, k_n7, k_a7, k_n8, k_a8, k_o9, k_r9_1, k_r9_5, k_r9_6, k_r9_7, k_r9_9, k_r9_10, k_r9_11, k_n10, k_a10, k_n11, k_a11, k_n12, k_a12, k_n13, k_a13, k_n14, k_a14, k_n15, k_a15, k_n16, k_a16, k_o17, k_r17_0, k_r17_2, k_n18, k_a18, k_o19, k_r19_1, k_r19_5, k_r19_6, k_r19_7, k_r19_9, k_r19_10, k_r19_11, k_n20, k_a20, k_n21, k_a21, k_n22, k_a22, k_n23, k_a23, k_n24, k_a24, k_n25, k_a25, k_n26, k_a26, k_o27, k_r27_1, k_r27_2, k_r27_3, k_n28, k_a28, k_n29, k_a29, k_n30, k_a30, k_o31, k_r31_2, k_r31_3, k_r31_4, k_r31_5, k_r31_6, k_n32, k_a32, k_n33, k_a33, k_n34, k_a34, k_n35, k_a35, k_n36, k_a36, k_o37, k_r37_0, k_r37_3, k_r37_5, k_r37_6, k_r37_7, k_r37_8, k_n38, k_a38, k_n39, k_a39, k_n40, k_a40, k_n41, k_a41, k_n42, k_a42, k_n43, k_a43, k_o44, k_r44_0, k_r44_1, k_n45, k_a45, k_n46, k_a46, k_o47, k_r47_1, k_r47_2, k_n48, k_a48, k_n49, k_a49, k_o50, k_r50_0, k_n51, k_a51, k_n52, k_a52, k_n53, k_a53, k_o54, k_r54_5, k_r54_6, k_r54_7, k_r54_8, k_r54_9, k_r54_10, k_r54_11, k_r54_13, k_r54_14, k_r54_19, k_r54_20, k_r54_21, k_r54_22, k_r54_23, k_r54_28, k_r54_29, k_r54_32, k_r54_33, k_r54_34, k_r54_37, k_r54_38, k_r54_40, k_r54_41, k_r54_42, k_r54_43, k_r54_44, k_r54_46, k_r54_47, k_n55, k_a55, k_n56, k_a56, k_n57, k_a57, k_n58, k_a58, k_n59, k_a59, k_n60, k_a60, k_n61, k_a61, k_n62, k_a62, k_n63, k_a63, k_n64, k_a64, k_n65, k_a65, k_n66, k_a66, k_n67, k_a67, k_n68, k_a68, k_n69, k_a69, k_n70, k_a70, k_n71, k_a71, k_n72, k_a72, k_n73, k_a73, k_n74, k_a74, k_n75, k_a75, k_n76, k_a76, k_n77, k_a77, k_n78, k_a78, k_n79, k_a79, k_n80, k_a80, k_n81, k_a81, k_n82, k_a82, Option.toList_some, Option.toList_none, List.cons_append, List.nil_append, ite10, ite10n, ite01, ite11, nem, and_true, true_and, eq_self, true_or, or_true, not_true_eq_false, not_false_eq_true, ne_eq, false_and, and_false, Int.reduceEq, Int.reduceNe, Int.reduceLT, Int.reduceLE, Int.reduceToNat, Int.reduceNeg, Nat.reduceEqDiff, Nat.reduceAdd, ↓reduceIte, n18, leT]
        have r3 : ∀ i, i < 54 → g3 i = gx i := fun i hi => by rw [y1.r6 (by omega), f2 i (by omega) (by omega) (by omega)]
        refine ⟨K', by rw [er], rfl, ?_, ?_⟩
        · refine RE.barn v0 (fun i hi => ?_) ?_ ?_ ?_ ?_ ?_ ?_
          · rw [y1.r6 (by omega), f2 i (by omega) (by omega) (by omega), hgx i (by omega) (by omega) (by omega)]
          · rw [r3 17 (by decide)]
            exact g17
          · rw [y1.k54 (by decide) (by decide)]
            exact n15
          · rw [y1.k54 (by decide) (by decide), k2 24 (by decide) (by decide) (by decide) (by decide), g54]
          · rw [y1.k54 (by decide) (by decide), k2 48 (by decide) (by decide) (by decide) (by decide), g54]
          · exact (VB.cb cb i3).rows (fun i h1 h2 => r3 i (by omega))
          · exact EB.of ex3 cb (fun i h1 h2 => r3 i (by omega))
        · intro i hi
          rw [y1.r6 (by omega), f2 i (by omega) (by omega) (by omega), hgx i (by omega) (by omega) (by omega)]
      | some p =>
        obtain ⟨er, hb⟩ := hbad p hR
        obtain ⟨j', a1, a2, st⟩ := y3 p hR
        rw [st]
        obtain ⟨g4, w4, u4, t4⟩ := m_cg_67 (h := g3)
        have pj : g4 64 j' = (p : Int) := by
          rw [u4.row (by decide), y1.r6 (by decide), u2.row (by decide) (by decide), b64, (q4 j' a1).2.1, a2]
        have e5 : w32 (-2000 - (p : Int)) = -2000 - (p : Int) := by
          have := (i2 p hR).1
          exact w32_id (by omega) (by omega)
        have r4 : ∀ i, i < 54 → g4 i = gx i := fun i hi => by rw [u4.row (by omega), y1.r6 (by omega), f2 i (by omega) (by omega) (by omega)]
        have fin : RE g4 ∧ KW h g4 := by
          refine ⟨RE.barn v0 (fun i hi => ?_) ?_ ?_ ?_ ?_ ?_ ?_, fun i hi => ?_⟩
          · rw [u4.row (by omega), y1.r6 (by omega), f2 i (by omega) (by omega) (by omega), hgx i (by omega) (by omega) (by omega)]
          · rw [r4 17 (by decide)]
            exact g17
          · rw [u4.k54 (by decide) (by decide), y1.k54 (by decide) (by decide)]
            exact n15
          · rw [u4.k54 (by decide) (by decide), y1.k54 (by decide) (by decide), k2 24 (by decide) (by decide) (by decide) (by decide), g54]
          · rw [u4.k54 (by decide) (by decide), y1.k54 (by decide) (by decide), k2 48 (by decide) (by decide) (by decide) (by decide), g54]
          · exact v1.rows (fun i h1 h2 => by rw [r4 i (by omega)]; exact hb i (by omega) (by omega))
          · refine EB.tk (h := h) (t := g3) v2 ?_ t4 (fun i h1 h2 => by rw [r4 i (by omega)]; exact hb i h1 h2)
            have e67 : g3 67 = g2 67 := y1.r6 (by decide)
            have q0 : ∀ k, k ≤ 4 → b1 54 k = h 54 k := fun k hk => by rw [bK k (by omega) (by omega) (by omega), g54]
            have qr : ∀ i, 55 ≤ i → i ≤ 61 → b1 i = h i := fun i h1 h2 => by rw [bR i (by omega) (by omega), hgx i (by omega) (by omega) (by omega)]
            unfold TK at t2 ⊢
            rw [e67]
            rw [q0 0 (by decide), q0 1 (by decide), q0 2 (by decide), q0 3 (by decide), q0 4 (by decide), qr 55 (by decide) (by decide), qr 56 (by decide) (by decide), qr 57 (by decide) (by decide), qr 58 (by decide) (by decide), qr 59 (by decide) (by decide), qr 60 (by decide) (by decide), qr 61 (by decide) (by decide)] at t2
            exact t2
          · rw [u4.row (by omega), y1.r6 (by omega), f2 i (by omega) (by omega) (by omega), hgx i (by omega) (by omega) (by omega)]
        clear i1 i2 i5 rd y2 y3 hok hbad cls cf head st q4 hT
        simp (disch := omega) only [s162_0, s162_1, s162_2, s162_5, s162_6, s162_7, s162_10, s162_11, s162_12, s162_15, s162_16, s162_17, s162_21, s162_24, s162_27, s162_28, s162_31, s162_34, s162_35, s162_38, s162_39, s162_42, s162_45, s162_46, s162_49, s162_52, s162_53, s162_54, s162_57, s162_58, s162_61, s162_64, s162_67, s162_68, s162_71, s162_72, s162_73, s162_74, s162_75, s162_78, s162_79, s162_82, s162_83, s162_85, s162_86, s162_89, s162_92, s162_93, s162_94, s162_97, s162_100, s162_101, s162_102, s162_105, s162_106, s162_109, s162_112, s162_113, s162_116, s162_117, s162_118, s162_119, s162_120, s162_123, s162_126, s162_127, s162_130, k_o0, k_r0_0, k_r0_1, k_r0_3, k_r0_4, k_r0_5, k_r0_6, k_r0_7, k_r0_8, k_r0_9, k_r0_10, k_r0_12, k_o1, k_r1_1, k_r1_5, k_r1_6, k_r1_7, k_r1_9, k_r1_10, k_r1_11, k_n2, k_a2, k_n3, k_a3, k_n4, k_a4, k_n5, k_a5, k_n6, k_a6, k_n7, k_a7, k_n8, k_a8, k_o9, k_r9_1, k_r9_5, k_r9_6, k_r9_7, k_r9_9, k_r9_10, k_r9_11, k_n10, k_a10, k_n11, k_a11, k_n12, k_a12, k_n13, k_a13, k_n14, k_a14, k_n15, k_a15, k_n16, k_a16, k_o17, k_r17_0, k_r17_2, k_n18, k_a18, k_o19, k_r19_1, k_r19_5, k_r19_6, k_r19_7, k_r19_9, k_r19_10, k_r19_11, k_n20, k_a20, k_n21, k_a21, k_n22, k_a22, k_n23, k_a23, k_n24, k_a24, k_n25, k_a25, k_n26, k_a26, k_o27, k_r27_1, k_r27_2, k_r27_3, k_n28, k_a28, k_n29, k_a29, k_n30, k_a30, k_o31, k_r31_2, k_r31_3, k_r31_4, k_r31_5, k_r31_6, k_n32, k_a32, k_n33, k_a33, k_n34, k_a34, k_n35, k_a35, k_n36, k_a36, k_o37, k_r37_0, k_r37_3, k_r37_5, k_r37_6, k_r37_7, k_r37_8, k_n38, k_a38, k_n39, k_a39, k_n40, k_a40, k_n41, k_a41, k_n42, k_a42, k_n43, k_a43, k_o44, k_r44_0, k_r44_1, k_n45, k_a45, k_n46, k_a46, k_o47, k_r47_1, k_r47_2, k_n48, k_a48, k_n49, k_a49, k_o50, k_r50_0, k_n51, k_a51, k_n52, k_a52, k_n53, k_a53, k_o54, k_r54_5, k_r54_6, k_r54_7, k_r54_8, k_r54_9, k_r54_10, k_r54_11, k_r54_13, k_r54_14, k_r54_19, k_r54_20, k_r54_21, k_r54_22, k_r54_23, k_r54_28, k_r54_29, k_r54_32, k_r54_33, k_r54_34, k_r54_37, k_r54_38, k_r54_40, k_r54_41, k_r54_42, k_r54_43, k_r54_44, k_r54_46, k_r54_47, k_n55, k_a55, k_n56, k_a56, k_n57, k_a57, k_n58, k_a58, k_n59, k_a59, k_n60, k_a60, k_n61, k_a61, k_n62, k_a62, k_n63, k_a63, k_n64, k_a64, k_n65, k_a65, k_n66, k_a66, k_n67, k_a67, k_n68, k_a68, k_n69, k_a69, k_n70, k_a70, k_n71, k_a71, k_n72, k_a72, k_n73, k_a73, k_n74, k_a74, k_n75, k_a75, k_n76, k_a76, k_n77, k_a77, k_n78, k_a78, k_n79, k_a79, k_n80, k_a80, k_n81, k_a81, k_n82, k_a82, Option.toList_some, Option.toList_none, List.cons_append, List.nil_append, ite10, ite10n, ite01, ite11, nem, and_true, true_and, eq_self, true_or, or_true, not_true_eq_false, not_false_eq_true, ne_eq, false_and, and_false, Int.reduceEq, Int.reduceNe, Int.reduceLT, Int.reduceLE, Int.reduceToNat, Int.reduceNeg, Nat.reduceEqDiff, Nat.reduceAdd, ↓reduceIte, w4, pj, e5, leT, ltT, Int.toNat_natCast]
        exact ⟨_, by rw [er], rfl, fin.1, fin.2⟩
    cases hR : R with
    | none =>
      obtain ⟨xf, w3, c3⟩ := c_tf_1_19 (h := x2')
      rw [i1 hR]
      rw [s72_39]
      have q := rest xf (K : Int) (fun i a1 a2 a3 => by rw [c3.1 i (by omega)]; exact rx2 i a1 a3) (by rw [c3.1 17 (by omega)]; exact sx2) (fun _ => ⟨rfl, c3⟩) (fun p z => by rw [hR] at z; cases z)
      clear rest rd i1 i2 i5 cls cf hT
      simp (disch := omega) only [s72_0, s72_1, s72_4, s72_5, s72_6, s72_7, s72_10, s72_11, s72_12, s72_15, s72_16, s72_17, s72_20, s72_21, s72_22, s72_23, s72_26, s72_27, s72_30, s72_31, s72_33, s72_34, s72_36, s72_37, s72_41, s72_42, s72_45, s72_46, s72_49, s72_51, s72_52, s72_54, s72_57, s72_58, s72_60, s72_62, s72_65, s72_68, s72_71, s72_73, s72_74, s72_75, s72_78, s72_80, s72_81, s72_82, s72_84, s72_87, s72_90, s72_91, s72_92, s72_95, s72_98, s72_100, s102_0, s102_1, s102_4, s102_5, s102_8, s102_11, k_o0, k_r0_0, k_r0_1, k_r0_3, k_r0_4, k_r0_5, k_r0_6, k_r0_7, k_r0_8, k_r0_9, k_r0_10, k_r0_12, k_o1, k_r1_1, k_r1_5, k_r1_6, k_r1_7, k_r1_9, k_r1_10, k_r1_11, k_n2, k_a2, k_n3, k_a3, k_n4, k_a4, k_n5, k_a5, k_n6, k_a6, k_n7, k_a7, k_n8, k_a8, k_o9, k_r9_1, k_r9_5, k_r9_6, k_r9_7, k_r9_9, k_r9_10, k_r9_11, k_n10, k_a10, k_n11, k_a11, k_n12, k_a12, k_n13, k_a13, k_n14, k_a14, k_n15, k_a15, k_n16, k_a16, k_o17, k_r17_0, k_r17_2, k_n18, k_a18, k_o19, k_r19_1, k_r19_5, k_r19_6, k_r19_7, k_r19_9, k_r19_10, k_r19_11, k_n20, k_a20, k_n21, k_a21, k_n22, k_a22, k_n23, k_a23, k_n24, k_a24, k_n25, k_a25, k_n26, k_a26, k_o27, k_r27_1, k_r27_2, k_r27_3, k_n28, k_a28, k_n29, k_a29, k_n30, k_a30, k_o31, k_r31_2, k_r31_3, k_r31_4, k_r31_5, k_r31_6, k_n32, k_a32, k_n33, k_a33, k_n34, k_a34, k_n35, k_a35, k_n36, k_a36, k_o37, k_r37_0, k_r37_3, k_r37_5, k_r37_6, k_r37_7, k_r37_8, k_n38, k_a38, k_n39, k_a39, k_n40, k_a40, k_n41, k_a41, k_n42, k_a42, k_n43, k_a43, k_o44, k_r44_0, k_r44_1, k_n45, k_a45, k_n46, k_a46, k_o47, k_r47_1, k_r47_2, k_n48, k_a48, k_n49, k_a49, k_o50, k_r50_0, k_n51, k_a51, k_n52, k_a52, k_n53, k_a53, k_o54, k_r54_5, k_r54_6, k_r54_7, k_r54_8, k_r54_9, k_r54_10, k_r54_11, k_r54_13, k_r54_14, k_r54_19, k_r54_20, k_r54_21, k_r54_22, k_r54_23, k_r54_28, k_r54_29, k_r54_32, k_r54_33, k_r54_34, k_r54_37, k_r54_38, k_r54_40, k_r54_41, k_r54_42, k_r54_43, k_r54_44, k_r54_46, k_r54_47, k_n55, k_a55, k_n56, k_a56, k_n57, k_a57, k_n58, k_a58, k_n59, k_a59, k_n60, k_a60, k_n61, k_a61, k_n62, k_a62, k_n63, k_a63, k_n64, k_a64, k_n65, k_a65, k_n66, k_a66, k_n67, k_a67, k_n68, k_a68, k_n69, k_a69, k_n70, k_a70, k_n71, k_a71, k_n72, k_a72, k_n73, k_a73, k_n74, k_a74, k_n75, k_a75, k_n76, k_a76, k_n77, k_a77, k_n78, k_a78, k_n79, k_a79, k_n80, k_a80, k_n81, k_a81, k_n82, k_a82, Option.toList_some, Option.toList_none, List.cons_append, List.nil_append, ite10, ite10n, ite01, ite11, nem, and_true, true_and, eq_self, true_or, or_true, not_true_eq_false, not_false_eq_true, ne_eq, false_and, and_false, Int.reduceEq, Int.reduceNe, Int.reduceLT, Int.reduceLE, Int.reduceToNat, Int.reduceNeg, Nat.reduceEqDiff, Nat.reduceAdd, ↓reduceIte, leT, w3]
      exact q
    | some p =>
      rw [(i2 p hR).2]
      have q := rest x2' (-2000 - (p : Int)) (fun i a1 a2 a3 => rx2 i a1 a3) sx2 (fun z => by rw [hR] at z; cases z) (fun p' z => by
        rw [hR] at z
        cases z
        exact ⟨rfl, fun i h1 h2 => rx2 i (by omega) (by omega)⟩)
      clear rest rd i1 i2 i5 cls cf hT
      simp (disch := omega) only [s102_0, s102_1, s102_4, s102_5, s102_8, s102_11, k_o0, k_r0_0, k_r0_1, k_r0_3, k_r0_4, k_r0_5, k_r0_6, k_r0_7, k_r0_8, k_r0_9, k_r0_10, k_r0_12, k_o1, k_r1_1, k_r1_5, k_r1_6, k_r1_7, k_r1_9, k_r1_10, k_r1_11, k_n2, k_a2, k_n3, k_a3, k_n4, k_a4, k_n5, k_a5, k_n6, k_a6, k_n7, k_a7, k_n8, k_a8, k_o9, k_r9_1, k_r9_5, k_r9_6, k_r9_7, k_r9_9, k_r9_10, k_r9_11, k_n10, k_a10, k_n11, k_a11, k_n12, k_a12, k_n13, k_a13, k_n14, k_a14, k_n15, k_a15, k_n16, k_a16, k_o17, k_r17_0, k_r17_2, k_n18, k_a18, k_o19, k_r19_1, k_r19_5, k_r19_6, k_r19_7, k_r19_9, k_r19_10, k_r19_11, k_n20, k_a20, k_n21, k_a21, k_n22, k_a22, k_n23, k_a23, k_n24, k_a24, k_n25, k_a25, k_n26, k_a26, k_o27, k_r27_1, k_r27_2, k_r27_3, k_n28, k_a28, k_n29, k_a29, k_n30, k_a30, k_o31, k_r31_2, k_r31_3, k_r31_4, k_r31_5, k_r31_6, k_n32, k_a32, k_n33, k_a33, k_n34, k_a34, k_n35, k_a35, k_n36, k_a36, k_o37, k_r37_0, k_r37_3, k_r37_5, k_r37_6, k_r37_7, k_r37_8, k_n38, k_a38, k_n39, k_a39, k_n40, k_a40, k_n41, k_a41, k_n42, k_a42, k_n43, k_a43, k_o44, k_r44_0, k_r44_1, k_n45, k_a45, k_n46, k_a46, k_o47, k_r47_1, k_r47_2, k_n48, k_a48, k_n49, k_a49, k_o50, k_r50_0, k_n51, k_a51, k_n52, k_a52, k_n53, k_a53, k_o54, k_r54_5, k_r54_6, k_r54_7, k_r54_8, k_r54_9, k_r54_10, k_r54_11, k_r54_13, k_r54_14, k_r54_19, k_r54_20, k_r54_21, k_r54_22, k_r54_23, k_r54_28, k_r54_29, k_r54_32, k_r54_33, k_r54_34, k_r54_37, k_r54_38, k_r54_40, k_r54_41, k_r54_42, k_r54_43, k_r54_44, k_r54_46, k_r54_47, k_n55, k_a55, k_n56, k_a56, k_n57, k_a57, k_n58, k_a58, k_n59, k_a59, k_n60, k_a60, k_n61, k_a61, k_n62, k_a62, k_n63, k_a63, k_n64, k_a64, k_n65, k_a65, k_n66, k_a66, k_n67, k_a67, k_n68, k_a68, k_n69, k_a69, k_n70, k_a70, k_n71, k_a71, k_n72, k_a72, k_n73, k_a73, k_n74, k_a74, k_n75, k_a75, k_n76, k_a76, k_n77, k_a77, k_n78, k_a78, k_n79, k_a79, k_n80, k_a80, k_n81, k_a81, k_n82, k_a82, Option.toList_some, Option.toList_none, List.cons_append, List.nil_append, ite10, ite10n, ite01, ite11, nem, and_true, true_and, eq_self, true_or, or_true, not_true_eq_false, not_false_eq_true, ne_eq, false_and, and_false, Int.reduceEq, Int.reduceNe, Int.reduceLT, Int.reduceLE, Int.reduceToNat, Int.reduceNeg, Nat.reduceEqDiff, Nat.reduceAdd, ↓reduceIte]
      exact q
  · have q := rd x0 (fun r2 h2 => ∃ v : Int, some (vI (formF U N)) = some (vI v) ∧ r2 = some (vI v) ∧ RE h2 ∧ KW h h2) (fun i hi => r0 i (by omega)) (fun z => by omega) (fun p' k' pl lo tl hz hp => by
      have e5 : w32 (-1000 - (p' : Int)) = -1000 - (p' : Int) := w32_id (by omega) (by omega)
      have fin : RE (hput (BH (th x0) p' 1 k' pl lo tl) 54 15 0) ∧ KW h (hput (BH (th x0) p' 1 k' pl lo tl) 54 15 0) := by
        have gr : ∀ i, i ≠ 54 → i ≠ 64 ∧ i ≠ 65 ∧ i ≠ 66 → hput (BH (th x0) p' 1 k' pl lo tl) 54 15 0 i = x0 i := fun i h1 h2 => by rw [hput_row h1, BH_row h1 h2, th_r h1]
        have gk : ∀ k, k ≠ 12 → k ≠ 15 → k ≠ 16 ∧ k ≠ 17 ∧ k ≠ 18 → hput (BH (th x0) p' 1 k' pl lo tl) 54 15 0 54 k = h 54 k := fun k h1 h2 h3 => by rw [hput_ne (Or.inr h2), BH_k h3, th_k h1, r0 54 (by decide)]
        refine ⟨RE.barn v0 (fun i hi => ?_) ?_ ?_ ?_ ?_ ?_ ?_, fun i hi => ?_⟩
        · rw [gr i (by omega) (by omega), r0 i (by omega)]
        · rw [gr 17 (by decide) (by decide)]
          exact s0
        · rw [hput_same]
        · exact gk 24 (by decide) (by decide) (by decide)
        · exact gk 48 (by decide) (by decide) (by decide)
        · exact v1.rows (fun i h1 h2 => by rw [gr i (by omega) (by omega), r0 i (by omega)])
        · obtain ⟨z1, z2, z3, z4, z5, z6, z7, z8, z9⟩ := v2
          have rr : ∀ i, i ≠ 54 → i ≠ 17 → i ≠ 64 ∧ i ≠ 65 ∧ i ≠ 66 → hput (BH (th x0) p' 1 k' pl lo tl) 54 15 0 i = h i := fun i h1 h2 h3 => by rw [gr i h1 h3, r0 i h2]
          unfold EB
          rw [gk 0 (by decide) (by decide) (by decide), gk 1 (by decide) (by decide) (by decide), gk 2 (by decide) (by decide) (by decide), gk 3 (by decide) (by decide) (by decide), gk 4 (by decide) (by decide) (by decide), rr 1 (by decide) (by decide) (by decide), rr 2 (by decide) (by decide) (by decide), rr 3 (by decide) (by decide) (by decide), rr 4 (by decide) (by decide) (by decide), rr 5 (by decide) (by decide) (by decide), rr 6 (by decide) (by decide) (by decide), rr 7 (by decide) (by decide) (by decide), rr 8 (by decide) (by decide) (by decide), rr 55 (by decide) (by decide) (by decide), rr 56 (by decide) (by decide) (by decide), rr 57 (by decide) (by decide) (by decide), rr 58 (by decide) (by decide) (by decide), rr 59 (by decide) (by decide) (by decide), rr 60 (by decide) (by decide) (by decide), rr 61 (by decide) (by decide) (by decide)]
          exact ⟨z1, z2, z3, z4, z5, z6, z7, z8, z9⟩
        · rw [gr i (by omega) (by omega), r0 i (by omega)]
      have zo : ((1 : Int) = 0) = False := eq_false (by decide)
      have b17 : hput (BH (th x0) p' 1 k' pl lo tl) 54 15 0 54 17 = 1 := by rw [hput_ne (Or.inr (by decide)), BH_17]
      have b16 : hput (BH (th x0) p' 1 k' pl lo tl) 54 15 0 54 16 = (p' : Int) := by rw [hput_ne (Or.inr (by decide)), BH_16]
      clear rd
      simp (disch := omega) only [s162_0, s162_1, s162_2, s162_5, s162_6, s162_7, s162_10, s162_11, s162_12, s162_15, s162_16, s162_17, s162_21, s162_24, s162_27, s162_28, s162_31, s162_34, s162_35, s162_38, s162_39, s162_42, s162_45, s162_46, s162_49, s162_52, s162_53, s162_54, s162_57, s162_58, s162_61, s162_64, s162_67, s162_68, s162_71, s162_72, s162_73, s162_74, s162_75, s162_78, s162_79, s162_82, s162_83, s162_85, s162_86, s162_89, s162_92, s162_93, s162_94, s162_97, s162_100, s162_101, s162_102, s162_105, s162_106, s162_109, s162_112, s162_113, s162_116, s162_117, s162_118, s162_119, s162_120, s162_123, s162_126, s162_127, s162_130, k_o0, k_r0_0, k_r0_1, k_r0_3, k_r0_4, k_r0_5, k_r0_6, k_r0_7, k_r0_8, k_r0_9, k_r0_10, k_r0_12, k_o1, k_r1_1, k_r1_5, k_r1_6, k_r1_7, k_r1_9, k_r1_10, k_r1_11, k_n2, k_a2, k_n3, k_a3, k_n4, k_a4, k_n5, k_a5, k_n6, k_a6, k_n7, k_a7, k_n8, k_a8, k_o9, k_r9_1, k_r9_5, k_r9_6, k_r9_7, k_r9_9, k_r9_10, k_r9_11, k_n10, k_a10, k_n11, k_a11, k_n12, k_a12, k_n13, k_a13, k_n14, k_a14, k_n15, k_a15, k_n16, k_a16, k_o17, k_r17_0, k_r17_2, k_n18, k_a18, k_o19, k_r19_1, k_r19_5, k_r19_6, k_r19_7, k_r19_9, k_r19_10, k_r19_11, k_n20, k_a20, k_n21, k_a21, k_n22, k_a22, k_n23, k_a23, k_n24, k_a24, k_n25, k_a25, k_n26, k_a26, k_o27, k_r27_1, k_r27_2, k_r27_3, k_n28, k_a28, k_n29, k_a29, k_n30, k_a30, k_o31, k_r31_2, k_r31_3, k_r31_4, k_r31_5, k_r31_6, k_n32, k_a32, k_n33, k_a33, k_n34, k_a34, k_n35, k_a35, k_n36, k_a36, k_o37, k_r37_0, k_r37_3, k_r37_5, k_r37_6, k_r37_7, k_r37_8, k_n38, k_a38, k_n39, k_a39, k_n40, k_a40, k_n41, k_a41, k_n42, k_a42, k_n43, k_a43, k_o44, k_r44_0, k_r44_1, k_n45, k_a45, k_n46, k_a46, k_o47, k_r47_1, k_r47_2, k_n48, k_a48, k_n49, k_a49, k_o50, k_r50_0, k_n51, k_a51, k_n52, k_a52, k_n53, k_a53, k_o54, k_r54_5, k_r54_6, k_r54_7, k_r54_8, k_r54_9, k_r54_10, k_r54_11, k_r54_13, k_r54_14, k_r54_19, k_r54_20, k_r54_21, k_r54_22, k_r54_23, k_r54_28, k_r54_29, k_r54_32, k_r54_33, k_r54_34, k_r54_37, k_r54_38, k_r54_40, k_r54_41, k_r54_42, k_r54_43, k_r54_44, k_r54_46, k_r54_47, k_n55, k_a55, k_n56, k_a56, k_n57, k_a57, k_n58, k_a58, k_n59, k_a59, k_n60, k_a60, k_n61, k_a61, k_n62, k_a62, k_n63, k_a63, k_n64, k_a64, k_n65, k_a65, k_n66, k_a66, k_n67, k_a67, k_n68, k_a68, k_n69, k_a69, k_n70, k_a70, k_n71, k_a71, k_n72, k_a72, k_n73, k_a73, k_n74, k_a74, k_n75, k_a75, k_n76, k_a76, k_n77, k_a77, k_n78, k_a78, k_n79, k_a79, k_n80, k_a80, k_n81, k_a81, k_n82, k_a82, Option.toList_some, Option.toList_none, List.cons_append, List.nil_append, ite10, ite10n, ite01, ite11, nem, and_true, true_and, eq_self, true_or, or_true, not_true_eq_false, not_false_eq_true, ne_eq, false_and, and_false, Int.reduceEq, Int.reduceNe, Int.reduceLT, Int.reduceLE, Int.reduceToNat, Int.reduceNeg, Nat.reduceEqDiff, Nat.reduceAdd, ↓reduceIte, b17, b16, zo, ne_eq, not_false_eq_true, e5]
      exact ⟨_, by rw [hz], rfl, fin.1, fin.2⟩)
    clear rd
    simp (disch := omega) only [s102_0, s102_1, s102_4, s102_5, s102_8, s102_11, s72_0, s72_1, s72_4, s72_5, s72_6, s72_7, s72_10, s72_11, s72_12, s72_15, s72_16, s72_17, s72_20, s72_21, s72_22, s72_23, s72_26, s72_27, s72_30, s72_31, s72_33, s72_34, s72_36, s72_37, s72_41, s72_42, s72_45, s72_46, s72_49, s72_51, s72_52, s72_54, s72_57, s72_58, s72_60, s72_62, s72_65, s72_68, s72_71, s72_73, s72_74, s72_75, s72_78, s72_80, s72_81, s72_82, s72_84, s72_87, s72_90, s72_91, s72_92, s72_95, s72_98, s72_100, k_o0, k_r0_0, k_r0_1, k_r0_3, k_r0_4, k_r0_5, k_r0_6, k_r0_7, k_r0_8, k_r0_9, k_r0_10, k_r0_12, k_o1, k_r1_1, k_r1_5, k_r1_6, k_r1_7, k_r1_9, k_r1_10, k_r1_11, k_n2, k_a2, k_n3, k_a3, k_n4, k_a4, k_n5, k_a5, k_n6, k_a6, k_n7, k_a7, k_n8, k_a8, k_o9, k_r9_1, k_r9_5, k_r9_6, k_r9_7, k_r9_9, k_r9_10, k_r9_11, k_n10, k_a10, k_n11, k_a11, k_n12, k_a12, k_n13, k_a13, k_n14, k_a14, k_n15, k_a15, k_n16, k_a16, k_o17, k_r17_0, k_r17_2, k_n18, k_a18, k_o19, k_r19_1, k_r19_5, k_r19_6, k_r19_7, k_r19_9, k_r19_10, k_r19_11, k_n20, k_a20, k_n21, k_a21, k_n22, k_a22, k_n23, k_a23, k_n24, k_a24, k_n25, k_a25, k_n26, k_a26, k_o27, k_r27_1, k_r27_2, k_r27_3, k_n28, k_a28, k_n29, k_a29, k_n30, k_a30, k_o31, k_r31_2, k_r31_3, k_r31_4, k_r31_5, k_r31_6, k_n32, k_a32, k_n33, k_a33, k_n34, k_a34, k_n35, k_a35, k_n36, k_a36, k_o37, k_r37_0, k_r37_3, k_r37_5, k_r37_6, k_r37_7, k_r37_8, k_n38, k_a38, k_n39, k_a39, k_n40, k_a40, k_n41, k_a41, k_n42, k_a42, k_n43, k_a43, k_o44, k_r44_0, k_r44_1, k_n45, k_a45, k_n46, k_a46, k_o47, k_r47_1, k_r47_2, k_n48, k_a48, k_n49, k_a49, k_o50, k_r50_0, k_n51, k_a51, k_n52, k_a52, k_n53, k_a53, k_o54, k_r54_5, k_r54_6, k_r54_7, k_r54_8, k_r54_9, k_r54_10, k_r54_11, k_r54_13, k_r54_14, k_r54_19, k_r54_20, k_r54_21, k_r54_22, k_r54_23, k_r54_28, k_r54_29, k_r54_32, k_r54_33, k_r54_34, k_r54_37, k_r54_38, k_r54_40, k_r54_41, k_r54_42, k_r54_43, k_r54_44, k_r54_46, k_r54_47, k_n55, k_a55, k_n56, k_a56, k_n57, k_a57, k_n58, k_a58, k_n59, k_a59, k_n60, k_a60, k_n61, k_a61, k_n62, k_a62, k_n63, k_a63, k_n64, k_a64, k_n65, k_a65, k_n66, k_a66, k_n67, k_a67, k_n68, k_a68, k_n69, k_a69, k_n70, k_a70, k_n71, k_a71, k_n72, k_a72, k_n73, k_a73, k_n74, k_a74, k_n75, k_a75, k_n76, k_a76, k_n77, k_a77, k_n78, k_a78, k_n79, k_a79, k_n80, k_a80, k_n81, k_a81, k_n82, k_a82, Option.toList_some, Option.toList_none, List.cons_append, List.nil_append, ite10, ite10n, ite01, ite11, nem, and_true, true_and, eq_self, true_or, or_true, not_true_eq_false, not_false_eq_true, ne_eq, false_and, and_false, Int.reduceEq, Int.reduceNe, Int.reduceLT, Int.reduceLE, Int.reduceToNat, Int.reduceNeg, Nat.reduceEqDiff, Nat.reduceAdd, ↓reduceIte, e17, hx0, cf, ltF, leF]
    exact q
end BNN
