/-! the cells that the law makes, in the order of making -/
def K0 : KK := [.inr (8, [1, 9, 0, 17, 27, 31, 37, 44, 47, 50, 52, 0, 53]), .inr (0, [0, 2, 0, 0, 0, 3, 4, 5, 0, 6, 7, 8]), .inl 6, .inl 24, .inl 24, .inl 24, .inl 12, .inl 12, .inl 6, .inr (0, [0, 10, 0, 0, 0, 11, 12, 13, 0, 14, 15, 16]), .inl 6, .inl 24, .inl 24, .inl 24, .inl 12, .inl 12, .inl 6, .inr (5, [18, 0, 19]), .inl 96, .inr (0, [0, 20, 0, 0, 0, 21, 22, 23, 0, 24, 25, 26]), .inl 6, .inl 24, .inl 24, .inl 24, .inl 12, .inl 12, .inl 6, .inr (1, [0, 28, 29, 30]), .inl 6, .inl 6, .inl 64, .inr (7, [0, 0, 32, 33, 34, 35, 36]), .inl 4, .inl 16, .inl 144, .inl 4554, .inl 4554, .inr (4, [38, 0, 0, 39, 0, 40, 41, 42, 43, 0]), .inl 6, .inl 6, .inl 6, .inl 6, .inl 6, .inl 6, .inr (3, [45, 46]), .inl 6, .inl 64, .inr (2, [0, 48, 49]), .inl 6, .inl 64, .inr (6, [51, 0]), .inl 6, .inl 12, .inl 7, .inr (9, [0, 0, 0, 0, 0, 55, 56, 57, 58, 59, 60, 61, 0, 62, 63, 0, 0, 0, 0, 64, 65, 66, 67, 68, 0, 0, 0, 0, 69, 70, 0, 0, 71, 72, 73, 0, 0, 74, 75, 0, 76, 77, 78, 79, 80, 0, 81, 82, 0]), .inl 6, .inl 25, .inl 25, .inl 25, .inl 6, .inl 13, .inl 13, .inl 7, .inl 96, .inl 33, .inl 33, .inl 99, .inl 113, .inl 113, .inl 6, .inl 6, .inl 36, .inl 4096, .inl 4096, .inl 6, .inl 6, .inl 6, .inl 6, .inl 6, .inl 16, .inl 16, .inl 6, .inl 12]
theorem k_o0 : isO K0 0 8 = True := eq_true (by decide +kernel)
theorem k_r0_0 : rT K0 0 0 = 1 := by decide +kernel
theorem k_r0_1 : rT K0 0 1 = 9 := by decide +kernel
theorem k_r0_3 : rT K0 0 3 = 17 := by decide +kernel
theorem k_r0_4 : rT K0 0 4 = 27 := by decide +kernel
theorem k_r0_5 : rT K0 0 5 = 31 := by decide +kernel
theorem k_r0_6 : rT K0 0 6 = 37 := by decide +kernel
theorem k_r0_7 : rT K0 0 7 = 44 := by decide +kernel
theorem k_r0_8 : rT K0 0 8 = 47 := by decide +kernel
theorem k_r0_9 : rT K0 0 9 = 50 := by decide +kernel
theorem k_r0_10 : rT K0 0 10 = 52 := by decide +kernel
theorem k_r0_12 : rT K0 0 12 = 53 := by decide +kernel
theorem k_o1 : isO K0 1 0 = True := eq_true (by decide +kernel)
theorem k_r1_1 : rT K0 1 1 = 2 := by decide +kernel
theorem k_r1_5 : rT K0 1 5 = 3 := by decide +kernel
theorem k_r1_6 : rT K0 1 6 = 4 := by decide +kernel
theorem k_r1_7 : rT K0 1 7 = 5 := by decide +kernel
theorem k_r1_9 : rT K0 1 9 = 6 := by decide +kernel
theorem k_r1_10 : rT K0 1 10 = 7 := by decide +kernel
theorem k_r1_11 : rT K0 1 11 = 8 := by decide +kernel
theorem k_n2 : aln K0 2 = 6 := by decide +kernel
theorem k_a2 {h : HH} : alen K0 h 2 = 6 := by unfold alen; rw [if_neg (by decide), k_n2]
theorem k_n3 : aln K0 3 = 24 := by decide +kernel
theorem k_a3 {h : HH} : alen K0 h 3 = 24 := by unfold alen; rw [if_neg (by decide), k_n3]
theorem k_n4 : aln K0 4 = 24 := by decide +kernel
theorem k_a4 {h : HH} : alen K0 h 4 = 24 := by unfold alen; rw [if_neg (by decide), k_n4]
theorem k_n5 : aln K0 5 = 24 := by decide +kernel
theorem k_a5 {h : HH} : alen K0 h 5 = 24 := by unfold alen; rw [if_neg (by decide), k_n5]
theorem k_n6 : aln K0 6 = 12 := by decide +kernel
theorem k_a6 {h : HH} : alen K0 h 6 = 12 := by unfold alen; rw [if_neg (by decide), k_n6]
theorem k_n7 : aln K0 7 = 12 := by decide +kernel
theorem k_a7 {h : HH} : alen K0 h 7 = 12 := by unfold alen; rw [if_neg (by decide), k_n7]
theorem k_n8 : aln K0 8 = 6 := by decide +kernel
theorem k_a8 {h : HH} : alen K0 h 8 = 6 := by unfold alen; rw [if_neg (by decide), k_n8]
theorem k_o9 : isO K0 9 0 = True := eq_true (by decide +kernel)
theorem k_r9_1 : rT K0 9 1 = 10 := by decide +kernel
theorem k_r9_5 : rT K0 9 5 = 11 := by decide +kernel
theorem k_r9_6 : rT K0 9 6 = 12 := by decide +kernel
theorem k_r9_7 : rT K0 9 7 = 13 := by decide +kernel
theorem k_r9_9 : rT K0 9 9 = 14 := by decide +kernel
theorem k_r9_10 : rT K0 9 10 = 15 := by decide +kernel
theorem k_r9_11 : rT K0 9 11 = 16 := by decide +kernel
theorem k_n10 : aln K0 10 = 6 := by decide +kernel
theorem k_a10 {h : HH} : alen K0 h 10 = 6 := by unfold alen; rw [if_neg (by decide), k_n10]
theorem k_n11 : aln K0 11 = 24 := by decide +kernel
theorem k_a11 {h : HH} : alen K0 h 11 = 24 := by unfold alen; rw [if_neg (by decide), k_n11]
theorem k_n12 : aln K0 12 = 24 := by decide +kernel
theorem k_a12 {h : HH} : alen K0 h 12 = 24 := by unfold alen; rw [if_neg (by decide), k_n12]
theorem k_n13 : aln K0 13 = 24 := by decide +kernel
theorem k_a13 {h : HH} : alen K0 h 13 = 24 := by unfold alen; rw [if_neg (by decide), k_n13]
theorem k_n14 : aln K0 14 = 12 := by decide +kernel
theorem k_a14 {h : HH} : alen K0 h 14 = 12 := by unfold alen; rw [if_neg (by decide), k_n14]
theorem k_n15 : aln K0 15 = 12 := by decide +kernel
theorem k_a15 {h : HH} : alen K0 h 15 = 12 := by unfold alen; rw [if_neg (by decide), k_n15]
theorem k_n16 : aln K0 16 = 6 := by decide +kernel
theorem k_a16 {h : HH} : alen K0 h 16 = 6 := by unfold alen; rw [if_neg (by decide), k_n16]
theorem k_o17 : isO K0 17 5 = True := eq_true (by decide +kernel)
theorem k_r17_0 : rT K0 17 0 = 18 := by decide +kernel
theorem k_r17_2 : rT K0 17 2 = 19 := by decide +kernel
theorem k_n18 : aln K0 18 = 96 := by decide +kernel
theorem k_a18 {h : HH} : alen K0 h 18 = 96 := by unfold alen; rw [if_neg (by decide), k_n18]
theorem k_o19 : isO K0 19 0 = True := eq_true (by decide +kernel)
theorem k_r19_1 : rT K0 19 1 = 20 := by decide +kernel
theorem k_r19_5 : rT K0 19 5 = 21 := by decide +kernel
theorem k_r19_6 : rT K0 19 6 = 22 := by decide +kernel
theorem k_r19_7 : rT K0 19 7 = 23 := by decide +kernel
theorem k_r19_9 : rT K0 19 9 = 24 := by decide +kernel
theorem k_r19_10 : rT K0 19 10 = 25 := by decide +kernel
theorem k_r19_11 : rT K0 19 11 = 26 := by decide +kernel
theorem k_n20 : aln K0 20 = 6 := by decide +kernel
theorem k_a20 {h : HH} : alen K0 h 20 = 6 := by unfold alen; rw [if_neg (by decide), k_n20]
theorem k_n21 : aln K0 21 = 24 := by decide +kernel
theorem k_a21 {h : HH} : alen K0 h 21 = 24 := by unfold alen; rw [if_neg (by decide), k_n21]
theorem k_n22 : aln K0 22 = 24 := by decide +kernel
theorem k_a22 {h : HH} : alen K0 h 22 = 24 := by unfold alen; rw [if_neg (by decide), k_n22]
theorem k_n23 : aln K0 23 = 24 := by decide +kernel
theorem k_a23 {h : HH} : alen K0 h 23 = 24 := by unfold alen; rw [if_neg (by decide), k_n23]
theorem k_n24 : aln K0 24 = 12 := by decide +kernel
theorem k_a24 {h : HH} : alen K0 h 24 = 12 := by unfold alen; rw [if_neg (by decide), k_n24]
theorem k_n25 : aln K0 25 = 12 := by decide +kernel
theorem k_a25 {h : HH} : alen K0 h 25 = 12 := by unfold alen; rw [if_neg (by decide), k_n25]
theorem k_n26 : aln K0 26 = 6 := by decide +kernel
theorem k_a26 {h : HH} : alen K0 h 26 = 6 := by unfold alen; rw [if_neg (by decide), k_n26]
theorem k_o27 : isO K0 27 1 = True := eq_true (by decide +kernel)
theorem k_r27_1 : rT K0 27 1 = 28 := by decide +kernel
theorem k_r27_2 : rT K0 27 2 = 29 := by decide +kernel
theorem k_r27_3 : rT K0 27 3 = 30 := by decide +kernel
theorem k_n28 : aln K0 28 = 6 := by decide +kernel
theorem k_a28 {h : HH} : alen K0 h 28 = 6 := by unfold alen; rw [if_neg (by decide), k_n28]
theorem k_n29 : aln K0 29 = 6 := by decide +kernel
theorem k_a29 {h : HH} : alen K0 h 29 = 6 := by unfold alen; rw [if_neg (by decide), k_n29]
theorem k_n30 : aln K0 30 = 64 := by decide +kernel
theorem k_a30 {h : HH} : alen K0 h 30 = 64 := by unfold alen; rw [if_neg (by decide), k_n30]
theorem k_o31 : isO K0 31 7 = True := eq_true (by decide +kernel)
theorem k_r31_2 : rT K0 31 2 = 32 := by decide +kernel
theorem k_r31_3 : rT K0 31 3 = 33 := by decide +kernel
theorem k_r31_4 : rT K0 31 4 = 34 := by decide +kernel
theorem k_r31_5 : rT K0 31 5 = 35 := by decide +kernel
theorem k_r31_6 : rT K0 31 6 = 36 := by decide +kernel
theorem k_n32 : aln K0 32 = 4 := by decide +kernel
theorem k_a32 {h : HH} : alen K0 h 32 = 4 := by unfold alen; rw [if_neg (by decide), k_n32]
theorem k_n33 : aln K0 33 = 16 := by decide +kernel
theorem k_a33 {h : HH} : alen K0 h 33 = 16 := by unfold alen; rw [if_neg (by decide), k_n33]
theorem k_n34 : aln K0 34 = 144 := by decide +kernel
theorem k_a34 {h : HH} : alen K0 h 34 = 144 := by unfold alen; rw [if_neg (by decide), k_n34]
theorem k_n35 : aln K0 35 = 4554 := by decide +kernel
theorem k_a35 {h : HH} : alen K0 h 35 = 4554 := by unfold alen; rw [if_neg (by decide), k_n35]
theorem k_n36 : aln K0 36 = 4554 := by decide +kernel
theorem k_a36 {h : HH} : alen K0 h 36 = 4554 := by unfold alen; rw [if_neg (by decide), k_n36]
theorem k_o37 : isO K0 37 4 = True := eq_true (by decide +kernel)
theorem k_r37_0 : rT K0 37 0 = 38 := by decide +kernel
theorem k_r37_3 : rT K0 37 3 = 39 := by decide +kernel
theorem k_r37_5 : rT K0 37 5 = 40 := by decide +kernel
theorem k_r37_6 : rT K0 37 6 = 41 := by decide +kernel
theorem k_r37_7 : rT K0 37 7 = 42 := by decide +kernel
theorem k_r37_8 : rT K0 37 8 = 43 := by decide +kernel
theorem k_n38 : aln K0 38 = 6 := by decide +kernel
theorem k_a38 {h : HH} : alen K0 h 38 = 6 := by unfold alen; rw [if_neg (by decide), k_n38]
theorem k_n39 : aln K0 39 = 6 := by decide +kernel
theorem k_a39 {h : HH} : alen K0 h 39 = 6 := by unfold alen; rw [if_neg (by decide), k_n39]
theorem k_n40 : aln K0 40 = 6 := by decide +kernel
theorem k_a40 {h : HH} : alen K0 h 40 = 6 := by unfold alen; rw [if_neg (by decide), k_n40]
theorem k_n41 : aln K0 41 = 6 := by decide +kernel
theorem k_a41 {h : HH} : alen K0 h 41 = 6 := by unfold alen; rw [if_neg (by decide), k_n41]
theorem k_n42 : aln K0 42 = 6 := by decide +kernel
theorem k_a42 {h : HH} : alen K0 h 42 = 6 := by unfold alen; rw [if_neg (by decide), k_n42]
theorem k_n43 : aln K0 43 = 6 := by decide +kernel
theorem k_a43 {h : HH} : alen K0 h 43 = 6 := by unfold alen; rw [if_neg (by decide), k_n43]
theorem k_o44 : isO K0 44 3 = True := eq_true (by decide +kernel)
theorem k_r44_0 : rT K0 44 0 = 45 := by decide +kernel
theorem k_r44_1 : rT K0 44 1 = 46 := by decide +kernel
theorem k_n45 : aln K0 45 = 6 := by decide +kernel
theorem k_a45 {h : HH} : alen K0 h 45 = 6 := by unfold alen; rw [if_neg (by decide), k_n45]
theorem k_n46 : aln K0 46 = 64 := by decide +kernel
theorem k_a46 {h : HH} : alen K0 h 46 = 64 := by unfold alen; rw [if_neg (by decide), k_n46]
theorem k_o47 : isO K0 47 2 = True := eq_true (by decide +kernel)
theorem k_r47_1 : rT K0 47 1 = 48 := by decide +kernel
theorem k_r47_2 : rT K0 47 2 = 49 := by decide +kernel
theorem k_n48 : aln K0 48 = 6 := by decide +kernel
theorem k_a48 {h : HH} : alen K0 h 48 = 6 := by unfold alen; rw [if_neg (by decide), k_n48]
theorem k_n49 : aln K0 49 = 64 := by decide +kernel
theorem k_a49 {h : HH} : alen K0 h 49 = 64 := by unfold alen; rw [if_neg (by decide), k_n49]
theorem k_o50 : isO K0 50 6 = True := eq_true (by decide +kernel)
theorem k_r50_0 : rT K0 50 0 = 51 := by decide +kernel
theorem k_n51 : aln K0 51 = 6 := by decide +kernel
theorem k_a51 {h : HH} : alen K0 h 51 = 6 := by unfold alen; rw [if_neg (by decide), k_n51]
theorem k_n52 : aln K0 52 = 12 := by decide +kernel
theorem k_a52 {h : HH} : alen K0 h 52 = 12 := by unfold alen; rw [if_neg (by decide), k_n52]
theorem k_n53 : aln K0 53 = 7 := by decide +kernel
theorem k_a53 {h : HH} : alen K0 h 53 = 7 := by unfold alen; rw [if_neg (by decide), k_n53]
theorem k_o54 : isO K0 54 9 = True := eq_true (by decide +kernel)
theorem k_r54_5 : rT K0 54 5 = 55 := by decide +kernel
theorem k_r54_6 : rT K0 54 6 = 56 := by decide +kernel
theorem k_r54_7 : rT K0 54 7 = 57 := by decide +kernel
theorem k_r54_8 : rT K0 54 8 = 58 := by decide +kernel
theorem k_r54_9 : rT K0 54 9 = 59 := by decide +kernel
theorem k_r54_10 : rT K0 54 10 = 60 := by decide +kernel
theorem k_r54_11 : rT K0 54 11 = 61 := by decide +kernel
theorem k_r54_13 : rT K0 54 13 = 62 := by decide +kernel
theorem k_r54_14 : rT K0 54 14 = 63 := by decide +kernel
theorem k_r54_19 : rT K0 54 19 = 64 := by decide +kernel
theorem k_r54_20 : rT K0 54 20 = 65 := by decide +kernel
theorem k_r54_21 : rT K0 54 21 = 66 := by decide +kernel
theorem k_r54_22 : rT K0 54 22 = 67 := by decide +kernel
theorem k_r54_23 : rT K0 54 23 = 68 := by decide +kernel
theorem k_r54_28 : rT K0 54 28 = 69 := by decide +kernel
theorem k_r54_29 : rT K0 54 29 = 70 := by decide +kernel
theorem k_r54_32 : rT K0 54 32 = 71 := by decide +kernel
theorem k_r54_33 : rT K0 54 33 = 72 := by decide +kernel
theorem k_r54_34 : rT K0 54 34 = 73 := by decide +kernel
theorem k_r54_37 : rT K0 54 37 = 74 := by decide +kernel
theorem k_r54_38 : rT K0 54 38 = 75 := by decide +kernel
theorem k_r54_40 : rT K0 54 40 = 76 := by decide +kernel
theorem k_r54_41 : rT K0 54 41 = 77 := by decide +kernel
theorem k_r54_42 : rT K0 54 42 = 78 := by decide +kernel
theorem k_r54_43 : rT K0 54 43 = 79 := by decide +kernel
theorem k_r54_44 : rT K0 54 44 = 80 := by decide +kernel
theorem k_r54_46 : rT K0 54 46 = 81 := by decide +kernel
theorem k_r54_47 : rT K0 54 47 = 82 := by decide +kernel
theorem k_n55 : aln K0 55 = 6 := by decide +kernel
theorem k_a55 {h : HH} : alen K0 h 55 = 6 := by unfold alen; rw [if_neg (by decide), k_n55]
theorem k_n56 : aln K0 56 = 25 := by decide +kernel
theorem k_a56 {h : HH} : alen K0 h 56 = 25 := by unfold alen; rw [if_neg (by decide), k_n56]
theorem k_n57 : aln K0 57 = 25 := by decide +kernel
theorem k_a57 {h : HH} : alen K0 h 57 = 25 := by unfold alen; rw [if_neg (by decide), k_n57]
theorem k_n58 : aln K0 58 = 25 := by decide +kernel
theorem k_a58 {h : HH} : alen K0 h 58 = 25 := by unfold alen; rw [if_neg (by decide), k_n58]
theorem k_n59 : aln K0 59 = 6 := by decide +kernel
theorem k_a59 {h : HH} : alen K0 h 59 = 6 := by unfold alen; rw [if_neg (by decide), k_n59]
theorem k_n60 : aln K0 60 = 13 := by decide +kernel
theorem k_a60 {h : HH} : alen K0 h 60 = 13 := by unfold alen; rw [if_neg (by decide), k_n60]
theorem k_n61 : aln K0 61 = 13 := by decide +kernel
theorem k_a61 {h : HH} : alen K0 h 61 = 13 := by unfold alen; rw [if_neg (by decide), k_n61]
theorem k_n62 : aln K0 62 = 7 := by decide +kernel
theorem k_a62 {h : HH} : alen K0 h 62 = 7 := by unfold alen; rw [if_neg (by decide), k_n62]
theorem k_n63 : aln K0 63 = 96 := by decide +kernel
theorem k_a63 {h : HH} : alen K0 h 63 = 96 := by unfold alen; rw [if_neg (by decide), k_n63]
theorem k_n64 : aln K0 64 = 33 := by decide +kernel
theorem k_a64 {h : HH} : alen K0 h 64 = 33 := by unfold alen; rw [if_neg (by decide), k_n64]
theorem k_n65 : aln K0 65 = 33 := by decide +kernel
theorem k_a65 {h : HH} : alen K0 h 65 = 33 := by unfold alen; rw [if_neg (by decide), k_n65]
theorem k_n66 : aln K0 66 = 99 := by decide +kernel
theorem k_a66 {h : HH} : alen K0 h 66 = 99 := by unfold alen; rw [if_neg (by decide), k_n66]
theorem k_n67 : aln K0 67 = 113 := by decide +kernel
theorem k_a67 {h : HH} : alen K0 h 67 = 113 := by unfold alen; rw [if_neg (by decide), k_n67]
theorem k_n68 : aln K0 68 = 113 := by decide +kernel
theorem k_a68 {h : HH} : alen K0 h 68 = 113 := by unfold alen; rw [if_neg (by decide), k_n68]
theorem k_n69 : aln K0 69 = 6 := by decide +kernel
theorem k_a69 {h : HH} : alen K0 h 69 = 6 := by unfold alen; rw [if_neg (by decide), k_n69]
theorem k_n70 : aln K0 70 = 6 := by decide +kernel
theorem k_a70 {h : HH} : alen K0 h 70 = 6 := by unfold alen; rw [if_neg (by decide), k_n70]
theorem k_n71 : aln K0 71 = 36 := by decide +kernel
theorem k_a71 {h : HH} : alen K0 h 71 = 36 := by unfold alen; rw [if_neg (by decide), k_n71]
theorem k_n72 : aln K0 72 = 4096 := by decide +kernel
theorem k_a72 {h : HH} : alen K0 h 72 = 4096 := by unfold alen; rw [if_neg (by decide), k_n72]
theorem k_n73 : aln K0 73 = 4096 := by decide +kernel
theorem k_a73 {h : HH} : alen K0 h 73 = 4096 := by unfold alen; rw [if_neg (by decide), k_n73]
theorem k_n74 : aln K0 74 = 6 := by decide +kernel
theorem k_a74 {h : HH} : alen K0 h 74 = 6 := by unfold alen; rw [if_neg (by decide), k_n74]
theorem k_n75 : aln K0 75 = 6 := by decide +kernel
theorem k_a75 {h : HH} : alen K0 h 75 = 6 := by unfold alen; rw [if_neg (by decide), k_n75]
theorem k_n76 : aln K0 76 = 6 := by decide +kernel
theorem k_a76 {h : HH} : alen K0 h 76 = 6 := by unfold alen; rw [if_neg (by decide), k_n76]
theorem k_n77 : aln K0 77 = 6 := by decide +kernel
theorem k_a77 {h : HH} : alen K0 h 77 = 6 := by unfold alen; rw [if_neg (by decide), k_n77]
theorem k_n78 : aln K0 78 = 6 := by decide +kernel
theorem k_a78 {h : HH} : alen K0 h 78 = 6 := by unfold alen; rw [if_neg (by decide), k_n78]
theorem k_n79 : aln K0 79 = 16 := by decide +kernel
theorem k_a79 {h : HH} : alen K0 h 79 = 16 := by unfold alen; rw [if_neg (by decide), k_n79]
theorem k_n80 : aln K0 80 = 16 := by decide +kernel
theorem k_a80 {h : HH} : alen K0 h 80 = 16 := by unfold alen; rw [if_neg (by decide), k_n80]
theorem k_n81 : aln K0 81 = 6 := by decide +kernel
theorem k_a81 {h : HH} : alen K0 h 81 = 6 := by unfold alen; rw [if_neg (by decide), k_n81]
theorem k_n82 : aln K0 82 = 12 := by decide +kernel
theorem k_a82 {h : HH} : alen K0 h 82 = 12 := by unfold alen; rw [if_neg (by decide), k_n82]
theorem K0_len : K0.length ≤ 10000 := by decide +kernel
