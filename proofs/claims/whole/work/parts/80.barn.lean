/-! barn: one statement by the reference -/
section BNE
variable {d : Nat} {G h : HH} {Q : Option AV → HH → Prop} {U : Nat → Nat} {N p k : Nat} {b : Int} {pl lo tl : Nat → Int}
theorem m_st_x {c : Int} (hh : ∀ d Q b k pl lo tl, wp K0 d 155 0 [vR 54] [] (BH G p b k pl lo tl) Q = Q (some (vI c)) (BH G p b k pl lo tl)) (ec : (c = 110) = False ∧ (c = 119) = False ∧ (c = 115) = False ∧ (c = 98) = False ∧ (c = 108) = False ∧ (c = 99) = False) (hp : p ≤ 96) (hk : k ≤ 32) (hbad : ∀ pl' lo' tl', Q none (BH G p 1 (k + 1) pl' lo' tl')) : wp K0 (d + 2) 157 0 [vR 54, vU, vU, vU] [] (BH G p 0 k pl lo tl) Q := by
  obtain ⟨e1, e2, e3, e4, e5, e6⟩ := ec
  have rb := fun d Q p k pl lo tl => m_rdB (d := d) (G := G) (Q := Q) (p := p) (k := k) (pl := pl) (lo := lo) (tl := tl)
  have zo : ((1 : Int) = 0) = False := eq_false (by decide)
  simp (disch := omega) only [s157_0, s157_1, s157_4, s157_5, s157_6, s157_9, s157_10, s157_11, s157_14, s157_15, s157_16, s157_19, s157_20, s157_21, s157_24, s157_25, s157_26, s157_27, s157_28, s157_29, s157_32, s157_35, s157_36, s157_38, s157_41, s157_42, s157_44, s157_47, s157_48, s157_50, s157_53, s157_54, s157_56, s157_59, s157_60, s157_62, s157_65, s157_66, s157_68, s157_71, s157_72, s157_75, s157_76, s157_79, s157_80, s157_81, s157_84, s157_85, s157_88, s157_91, s157_92, s157_95, s157_96, s157_97, s157_100, s157_101, s157_102, s157_103, s157_104, s157_105, s157_108, s157_109, s157_110, s157_113, s157_114, s157_115, s157_117, s157_120, s157_121, s157_124, s157_125, s157_126, s157_127, s157_128, s157_131, s157_132, s157_133, s157_135, s157_138, s157_139, s157_142, s157_143, s157_144, s157_145, s157_146, s157_149, s157_150, s157_151, s157_153, s157_156, s157_157, s157_160, s157_163, s157_164, s157_167, s157_168, s157_171, s157_174, s157_177, s157_180, s157_181, s157_184, s157_185, s157_186, s157_187, s157_189, s157_190, s157_193, s157_194, s157_195, s157_196, s157_197, s157_198, s157_199, s157_202, s157_203, s157_204, s157_205, s157_206, s157_209, s157_212, s157_213, s157_216, s157_218, s157_221, s157_222, s157_225, s157_226, s157_229, s157_230, s157_231, s157_234, s157_235, s157_238, s157_241, s157_242, s157_245, s157_246, s157_247, s157_250, s157_251, s157_252, s157_255, s157_256, s157_257, s157_260, k_o0, k_r0_0, k_r0_1, k_r0_3, k_r0_4, k_r0_5, k_r0_6, k_r0_7, k_r0_8, k_r0_9, k_r0_10, k_r0_12, k_o1, k_r1_1, k_r1_5, k_r1_6, k_r1_7, k_r1_9, k_r1_10, k_r1_11, k_n2, k_a2, k_n3, k_a3, k_n4, k_a4, k_n5, k_a5, k_n6, k_a6, k_n7, k_a7, k_n8, k_a8, k_o9, k_r9_1, k_r9_5, k_r9_6, k_r9_7, k_r9_9, k_r9_10, k_r9_11, k_n10, k_a10, k_n11, k_a11, k_n12, k_a12, k_n13, k_a13, k_n14, k_a14, k_n15, k_a15, k_n16, k_a16, k_o17, k_r17_0, k_r17_2, k_n18, k_a18, k_o19, k_r19_1, k_r19_5, k_r19_6, k_r19_7, k_r19_9, k_r19_10, k_r19_11, k_n20, k_a20, k_n21, k_a21, k_n22, k_a22, k_n23, k_a23, k_n24, k_a24, k_n25, k_a25, k_n26, k_a26, k_o27, k_r27_1, k_r27_2, k_r27_3, k_n28, k_a28, k_n29, k_a29, k_n30, k_a30, k_o31, k_r31_2, k_r31_3, k_r31_4, k_r31_5, k_r31_6, k_n32, k_a32, k_n33, k_a33, k_n34, k_a34, k_n35, k_a35, k_n36, k_a36, k_o37, k_r37_0, k_r37_3, k_r37_5, k_r37_6, k_r37_7, k_r37_8, k_n38, k_a38, k_n39, k_a39, k_n40, k_a40, k_n41, k_a41, k_n42, k_a42, k_n43, k_a43, k_o44, k_r44_0, k_r44_1, k_n45, k_a45, k_n46, k_a46, k_o47, k_r47_1, k_r47_2, k_n48, k_a48, k_n49, k_a49, k_o50, k_r50_0, k_n51, k_a51, k_n52, k_a52, k_n53, k_a53, k_o54, k_r54_5, k_r54_6, k_r54_7, k_r54_8, k_r54_9, k_r54_10, k_r54_11, k_r54_13, k_r54_14, k_r54_19, k_r54_20, k_r54_21, k_r54_22, k_r54_23, k_r54_28, k_r54_29, k_r54_32, k_r54_33, k_r54_34, k_r54_37, k_r54_38, k_r54_40, k_r54_41, k_r54_42, k_r54_43, k_r54_44, k_r54_46, k_r54_47, k_n55, k_a55, k_n56, k_a56, k_n57, k_a57, k_n58, k_a58, k_n59, k_a59, k_n60, k_a60, k_n61, k_a61, k_n62, k_a62, k_n63, k_a63, k_n64, k_a64, k_n65, k_a65, k_n66, k_a66, k_n67, k_a67, k_n68, k_a68, k_n69, k_a69, k_n70, k_a70, k_n71, k_a71, k_n72, k_a72, k_n73, k_a73, k_n74, k_a74, k_n75, k_a75, k_n76, k_a76, k_n77, k_a77, k_n78, k_a78, k_n79, k_a79, k_n80, k_a80, k_n81, k_a81, k_n82, k_a82, Option.toList_some, Option.toList_none, List.cons_append, List.nil_append, ite10, ite10n, ite01, ite11, nem, and_true, true_and, eq_self, true_or, or_true, not_true_eq_false, not_false_eq_true, ne_eq, false_and, and_false, Int.reduceEq, Int.reduceNe, Int.reduceLT, Int.reduceLE, Int.reduceToNat, Int.reduceNeg, Nat.reduceEqDiff, Nat.reduceAdd, ↓reduceIte, BH_16, BH_17, BH_18, BH_66, BH_p16, BH_p17, BH_p18, BH_p64, BH_p65, BH_p66, hh, rb, e1, e2, e3, e4, e5, e6, ne_eq, not_true_eq_false, not_false_eq_true, zo, Int.add_zero, mul3, nc1, nc2, w32_id, leT, leF, ltT, Int.toNat_natCast, m_in_eq, if_true, if_false, true_and, rput_same]
  exact hbad _ _ _
theorem sOK_lt (h : sOK U N p = true) : p < N := by
  have z : 0 < mD (U p) ∧ sq U N p < N ∧ U (sq U N p) = 59 ∧ lD (U p) ≤ nd U N (mD (U p)) (p + 1) := of_decide_eq_true h
  have e : sq U N p = p + 1 + nd U N (mD (U p)) (p + 1) := rfl
  omega
theorem lD_pos {c : Nat} (h : 0 < mD c) : 1 ≤ lD c := by
  unfold lD
  split <;> omega
theorem sOK_sq (h : sOK U N p = true) : p + 2 ≤ sq U N p ∧ sq U N p < N ∧ U (sq U N p) = 59 := by
  have z : 0 < mD (U p) ∧ sq U N p < N ∧ U (sq U N p) = 59 ∧ lD (U p) ≤ nd U N (mD (U p)) (p + 1) := of_decide_eq_true h
  have e : sq U N p = p + 1 + nd U N (mD (U p)) (p + 1) := rfl
  have := lD_pos z.1
  exact ⟨by omega, z.2.1, z.2.2.1⟩
def fPl (U : Nat → Nat) (N p : Nat) : Nat := if p < N then fAt U N p else N
theorem m_st (hpN : p ≤ N) (hN : N ≤ 96) (hk : k ≤ 32) (hn : G 54 15 = (N : Int)) (hU : ∀ j, j < N → G 63 j = (U j : Int)) (hok : sOK U N p = true → ∀ tl', ST U N p k tl tl' → Q none (BH G (sq U N p + 1) 0 (k + 1) (rput pl k (p : Int)) (rput lo k (U p : Int)) tl')) (hbad : sOK U N p = false → ∀ pl' lo' tl', Q none (BH G (fPl U N p) 1 (k + 1) pl' lo' tl')) : wp K0 (d + 2) 157 0 [vR 54, vU, vU, vU] [] (BH G p 0 k pl lo tl) Q := by
  unfold fPl at hbad
  by_cases hp : p < N
  · rw [if_pos hp] at hbad
    by_cases h1 : U p = 110
    · exact m_st_n h1 hp hN hk hn hU hok hbad
    · by_cases h2 : U p = 119
      · exact m_st_w h2 hp hN hk hn hU hok hbad
      · by_cases h3 : U p = 115
        · exact m_st_s h3 hp hN hk hn hU hok hbad
        · by_cases h4 : U p = 98
          · exact m_st_b h4 hp hN hk hn hU hok hbad
          · by_cases h5 : U p = 108
            · exact m_st_l h5 hp hN hk hn hU hok hbad
            · by_cases h6 : U p = 99
              · exact m_st_c h6 hp hN hk hn hU hok hbad
              · have m0 : mD (U p) = 0 := by
                  unfold mD
                  rw [if_neg h4, if_neg h6, if_neg h5, if_neg h1, if_neg h3, if_neg h2]
                have hf : fAt U N p = p := if_neg (by omega)
                have hs : sOK U N p = false := decide_eq_false (fun z => by omega)
                rw [hf] at hbad
                exact m_st_x (c := (U p : Int)) (fun d Q b k pl lo tl => m_here1 hN hn hU hp) ⟨eq_false (by omega), eq_false (by omega), eq_false (by omega), eq_false (by omega), eq_false (by omega), eq_false (by omega)⟩ (by omega) hk (hbad hs)
  · rw [if_neg hp] at hbad
    have e : N = p := by omega
    have hs : sOK U N p = false := by
      cases hh : sOK U N p
      · rfl
      · exact absurd (sOK_lt hh) hp
    have hb := hbad hs
    rw [e] at hb
    exact m_st_x (c := -1) (fun d Q b k pl lo tl => m_here0 hn (by omega) (by omega)) ⟨eq_false (by decide), eq_false (by decide), eq_false (by decide), eq_false (by decide), eq_false (by decide), eq_false (by decide)⟩ (by omega) hk hb
end BNE
