/-! finding all orders: the reference -/
def mixN (k : Nat) (f : Nat → Nat) (r : Nat → Int) : Nat → Int := fun j => if j < k then (f j : Int) else r j
theorem mixN_at {k : Nat} {f : Nat → Nat} {r : Nat → Int} {j : Nat} (h : j < k) : mixN k f r j = (f j : Int) := if_pos h
theorem rput_mixN {n : Nat} {f : Nat → Nat} {r : Nat → Int} {k v : Nat} (h : k < n) : rput (mixN n f r) k (v : Int) = mixN n (nput f k v) r := by
  funext j
  unfold rput mixN nput
  by_cases h1 : j = k
  · subst h1
    simp [h]
  · simp [h1]
theorem mixN_self {n : Nat} {f : Nat → Nat} {s : Nat → Int} (h : ∀ j, j < n → s j = (f j : Int)) : s = mixN n f s := by
  funext j
  unfold mixN
  split
  · next hj => exact h j hj
  · rfl
theorem hset_in {h : HH} {a b : Nat} {x y z : Nat → Int} (hn : ¬ a = b) : hset (hset (hset h a x) b y) a z = hset (hset h a z) b y := by
  funext i
  unfold hset
  by_cases h1 : i = a
  · subst h1; simp [hn]
  · simp [h1]
theorem hput_sw {h : HH} {a k j : Nat} {x y z : Int} (hn : ¬ k = j) : hput (hput (hput h a k x) a j y) a k z = hput (hput h a k z) a j y := by
  funext i l
  simp only [hput_at]
  by_cases h1 : l = k
  · subst h1
    by_cases h2 : i = a <;> simp [h2, hn]
  · simp [h1]
def adI (n c k i : Nat) (A : Nat → Nat) : Nat → Nat := nput A (6 * po n c k + po n c i) (A (6 * po n c k + po n c i) + 1)
def adK (n c k : Nat) (A : Nat → Nat) : Nat → Nat := itn (adI n c k) (n - (k + 1)) (k + 1) A
def adF (n c : Nat) (A : Nat → Nat) : Nat → Nat := itn (adK n c) n 0 A
theorem adI_row {n c k y : Nat} : ∀ l i A, (itn (adI n c k) l i A) y = A y + sN (fun t => if 6 * po n c k + po n c (i + t) = y then 1 else 0) l
  | 0, _, _ => rfl
  | l + 1, i, A => by
    rw [itn_e, sN, ← Nat.add_assoc, ← adI_row l i A]
    have e := fun y => adI_row (n := n) (c := c) (k := k) (y := y) l i A
    generalize itn (adI n c k) l i A = B
    unfold adI
    by_cases h : 6 * po n c k + po n c (i + l) = y
    · rw [if_pos h, h, nput_same]
    · rw [if_neg h, nput_ne (fun z => h z.symm), Nat.add_zero]
def bfN (n c y : Nat) : Nat := sN (fun k => sN (fun t => if 6 * po n c k + po n c (k + 1 + t) = y then 1 else 0) (n - (k + 1))) n
theorem adF_row {n c y : Nat} {A : Nat → Nat} : adF n c A y = A y + bfN n c y := by
  unfold adF bfN
  have key : ∀ m, (itn (adK n c) m 0 A) y = A y + sN (fun k => sN (fun t => if 6 * po n c k + po n c (k + 1 + t) = y then 1 else 0) (n - (k + 1))) m := by
    intro m
    induction m with
    | zero => rfl
    | succ m ih =>
      rw [itn_e, Nat.zero_add]
      unfold adK
      rw [adI_row, sN]
      unfold adK at ih
      rw [ih, Nat.add_assoc]
  exact key n
theorem bfN_is {n c a b : Nat} (hn : 0 < n) (hn6 : n ≤ 6) (h : px n c n = 2 ^ n - 1) (ha : a < n) (hb : b < n) : ((∃ p q, p < q ∧ q < n ∧ po n c p = a ∧ po n c q = b) ∧ bfN n c (6 * a + b) = 1) ∨ ((¬ ∃ p q, p < q ∧ q < n ∧ po n c p = a ∧ po n c q = b) ∧ bfN n c (6 * a + b) = 0) := by
  obtain ⟨p, hp, ep⟩ := px_all h ha
  obtain ⟨q, hq, eq⟩ := px_all h hb
  have hlt : ∀ j, po n c j < 6 := fun j => by have := po_lt (n := n) (c := c) (j := j) hn; omega
  have out : bfN n c (6 * a + b) = sN (fun t => if 6 * po n c p + po n c (p + 1 + t) = 6 * a + b then 1 else 0) (n - (p + 1)) := by
    unfold bfN
    refine sN_one hp (fun k hk hne => sN_z _ (fun t ht => ?_))
    rw [if_neg]
    intro z
    have h1 := hlt (k + 1 + t)
    have h2 := hlt k
    have e2 : po n c k = po n c p := by omega
    exact hne (po_ne hn h hk hp e2)
  rw [out]
  have no : ∀ t, t < n - (p + 1) → ¬ p + 1 + t = q → ¬ 6 * po n c p + po n c (p + 1 + t) = 6 * a + b := by
    intro t ht hne z
    have h1 := hlt (p + 1 + t)
    have e2 : po n c (p + 1 + t) = po n c q := by rw [ep] at z; omega
    exact hne (po_ne hn h (by omega) hq e2)
  by_cases hpq : p < q
  · refine Or.inl ⟨⟨p, q, hpq, hq, ep, eq⟩, ?_⟩
    rw [sN_one (p := q - p - 1) (by omega) (fun t ht hne => if_neg (no t ht (by omega)))]
    rw [show p + 1 + (q - p - 1) = q by omega, ep, eq, if_pos rfl]
  · refine Or.inr ⟨?_, sN_z _ (fun t ht => if_neg (no t ht (by omega)))⟩
    rintro ⟨p2, q2, h1, h2, h3, h4⟩
    have e1 := po_ne hn h (by omega) hp (h3.trans ep.symm)
    have e2 := po_ne hn h h2 hq (h4.trans eq.symm)
    omega
def fdI (f : Nat → Nat) (n c : Nat) (s : Nat × Int × (Nat → Nat)) : Nat × Int × (Nat → Nat) := if vl f n c then (s.1 + 1, if s.1 = 0 then (c : Int) else s.2.1, adF n c s.2.2) else s
def fdF (f : Nat → Nat) (n N : Nat) : Nat × Int × (Nat → Nat) := itn (fdI f n) N 0 (0, -1, fun _ => 0)
theorem fdF_1 {f : Nat → Nat} {n : Nat} : ∀ N, (fdF f n N).1 = sN (fun c => if vl f n c then 1 else 0) N
  | 0 => rfl
  | N + 1 => by
    have ih := fdF_1 (f := f) (n := n) N
    unfold fdF at ih ⊢
    rw [itn_e, Nat.zero_add, sN, ← ih]
    unfold fdI
    split <;> rfl
theorem fdF_2 {f : Nat → Nat} {n : Nat} : ∀ N, ((fdF f n N).1 = 0 ∧ (fdF f n N).2.1 = -1 ∧ ∀ c, c < N → vl f n c = false) ∨ (0 < (fdF f n N).1 ∧ ∃ c : Nat, c < N ∧ (fdF f n N).2.1 = c ∧ vl f n c = true ∧ ∀ c2, c2 < c → vl f n c2 = false)
  | 0 => Or.inl ⟨rfl, rfl, fun c h => absurd h (Nat.not_lt_zero c)⟩
  | N + 1 => by
    have ih := fdF_2 (f := f) (n := n) N
    unfold fdF at ih ⊢
    rw [itn_e, Nat.zero_add]
    generalize itn (fdI f n) N 0 (0, -1, fun _ => 0) = S at ih
    unfold fdI
    cases hv : vl f n N
    · simp only [Bool.false_eq_true, if_false]
      rcases ih with ⟨h1, h2, h3⟩ | ⟨h1, c, h2, h3⟩
      · refine Or.inl ⟨h1, h2, fun c hc => ?_⟩
        by_cases e : c = N
        · subst e; exact hv
        · exact h3 c (by omega)
      · exact Or.inr ⟨h1, c, by omega, h3⟩
    · simp only [if_true]
      rcases ih with ⟨h1, h2, h3⟩ | ⟨h1, c, h2, h3, h4⟩
      · refine Or.inr ⟨by omega, N, by omega, ?_, hv, h3⟩
        rw [if_pos h1]
      · refine Or.inr ⟨by omega, c, by omega, ?_, h4⟩
        rw [if_neg (by omega)]
        exact h3
theorem fdF_3 {f : Nat → Nat} {n y : Nat} : ∀ N, (fdF f n N).2.2 y = sN (fun c => if vl f n c then bfN n c y else 0) N
  | 0 => rfl
  | N + 1 => by
    have ih := fdF_3 (f := f) (n := n) (y := y) N
    unfold fdF at ih ⊢
    rw [itn_e, Nat.zero_add, sN, ← ih]
    generalize itn (fdI f n) N 0 (0, -1, fun _ => 0) = S
    unfold fdI
    cases hv : vl f n N
    · simp
    · simp only [if_true]
      exact adF_row
section ORF
variable {d : Nat} {g : HH} {Q : Option AV → HH → Prop} {U f : Nat → Nat} {n N c : Nat}
theorem m_countAhead {A : Nat → Nat} {r : Nat → Int} {M : Nat} (hn : g 54 0 = n) (hn2 : 2 ≤ n) (hn6 : n ≤ 6) (ho : ∀ j, j < n → g 70 j = (po n c j : Int)) (hA : ∀ y, A y ≤ M) (hM : M ≤ 2000000) : wp K0 d 186 0 [vR 54, vU, vU] [] (hset g 71 (mixN 36 A r)) Q = Q none (hset g 71 (mixN 36 (adF n c A) r)) ∧ ∀ y, adF n c A y ≤ M + 36 := by
  have inner := fun (k : Nat) (hk : k < n) (A : Nat → Nat) (hA : ∀ y, A y ≤ M + 6 * k) => loopN (S := Nat → Nat) (K := K0) (d := d) (mi := 186) (head := 14) (Q := Q) (fun i _ => [vR 54, vI (k : Int), vI (i : Int)]) (fun A => hset g 71 (mixN 36 A r)) (adI n c k) (fun i A => ∀ y, A y ≤ M + 6 * k + i) n (by
    intro i A hA hi
    have q1 := ho k hk
    have q2 := ho i hi
    have p1 := po_lt (n := n) (c := c) (j := k) (by omega)
    have p2 := po_lt (n := n) (c := c) (j := i) (by omega)
    have e1 : (6 : Int) * (po n c k : Int) + (po n c i : Int) = ((6 * po n c k + po n c i : Nat) : Int) := by omega
    have e9 : 6 * po n c k + po n c i < 36 := by omega
    have b := hA (6 * po n c k + po n c i)
    refine ⟨?_, fun y => ?_⟩
    · unfold adI
      try dsimp only
      rw [s186_14]
      simp (disch := omega) only [s186_0, s186_1, s186_3, s186_4, s186_7, s186_10, s186_11, s186_12, s186_13, s186_15, s186_16, s186_19, s186_22, s186_23, s186_26, s186_28, s186_29, s186_32, s186_33, s186_34, s186_35, s186_36, s186_39, s186_40, s186_41, s186_42, s186_43, s186_44, s186_45, s186_46, s186_47, s186_50, s186_53, s186_56, s186_59, k_o0, k_r0_0, k_r0_1, k_r0_3, k_r0_4, k_r0_5, k_r0_6, k_r0_7, k_r0_8, k_r0_9, k_r0_10, k_r0_12, k_o1, k_r1_1, k_r1_5, k_r1_6, k_r1_7, k_r1_9, k_r1_10, k_r1_11, k_n2, k_a2, k_n3, k_a3, k_n4, k_a4, k_n5, k_a5, k_n6, k_a6, k_n7, k_a7, k_n8, k_a8, k_o9, k_r9_1, k_r9_5, k_r9_6, k_r9_7, k_r9_9, k_r9_10, k_r9_11, k_n10, k_a10, k_n11, k_a11, k_n12, k_a12, k_n13, k_a13, k_n14, k_a14, k_n15, k_a15, k_n16, k_a16, k_o17, k_r17_0, k_r17_2, k_n18, k_a18, k_o19, k_r19_1, k_r19_5, k_r19_6, k_r19_7, k_r19_9, k_r19_10, k_r19_11, k_n20, k_a20, k_n21, k_a21, k_n22, k_a22, k_n23, k_a23, k_n24, k_a24, k_n25, k_a25, k_n26, k_a26, k_o27, k_r27_1, k_r27_2, k_r27_3, k_n28, k_a28, k_n29, k_a29, k_n30, k_a30, k_o31, k_r31_2, k_r31_3, k_r31_4, k_r31_5, k_r31_6, k_n32, k_a32, k_n33, k_a33, k_n34, k_a34, k_n35, k_a35, k_n36, k_a36, k_o37, k_r37_0, k_r37_3, k_r37_5, k_r37_6, k_r37_7, k_r37_8, k_n38, k_a38, k_n39, k_a39, k_n40, k_a40, k_n41, k_a41, k_n42, k_a42, k_n43, k_a43, k_o44, k_r44_0, k_r44_1, k_n45, k_a45, k_n46, k_a46, k_o47, k_r47_1, k_r47_2, k_n48, k_a48, k_n49, k_a49, k_o50, k_r50_0, k_n51, k_a51, k_n52, k_a52, k_n53, k_a53, k_o54, k_r54_5, k_r54_6, k_r54_7, k_r54_8, k_r54_9, k_r54_10, k_r54_11, k_r54_13, k_r54_14, k_r54_19, k_r54_20, k_r54_21, k_r54_22, k_r54_23, k_r54_28, k_r54_29, k_r54_32, k_r54_33, k_r54_34, k_r54_37, k_r54_38, k_r54_40, k_r54_41, k_r54_42, k_r54_43, k_r54_44, k_r54_46, k_r54_47, k_n55, k_a55, k_n56, k_a56, k_n57, k_a57, k_n58, k_a58, k_n59, k_a59, k_n60, k_a60, k_n61, k_a61, k_n62, k_a62, k_n63, k_a63, k_n64, k_a64, k_n65, k_a65, k_n66, k_a66, k_n67, k_a67, k_n68, k_a68, k_n69, k_a69, k_n70, k_a70, k_n71, k_a71, k_n72, k_a72, k_n73, k_a73, k_n74, k_a74, k_n75, k_a75, k_n76, k_a76, k_n77, k_a77, k_n78, k_a78, k_n79, k_a79, k_n80, k_a80, k_n81, k_a81, k_n82, k_a82, Option.toList_some, Option.toList_none, List.cons_append, List.nil_append, ite10, ite10n, ite01, ite11, nem, and_true, true_and, eq_self, true_or, or_true, not_true_eq_false, not_false_eq_true, ne_eq, false_and, and_false, Int.reduceEq, Int.reduceNe, Int.reduceLT, Int.reduceLE, Int.reduceToNat, Int.reduceNeg, Nat.reduceEqDiff, Nat.reduceAdd, ↓reduceIte, hset_row, hset_same, hput_hset, hn, q1, q2, w32_id, e1, nc1, leT, leF, ltT, ltF, Int.toNat_natCast, mixN_at, rput_mixN]
    · unfold adI nput
      split
      · omega
      · have := hA y
        omega) (n - (k + 1)) (k + 1) A (by omega) (fun y => by have := hA y; omega)
  have lp := loopJ (S := Nat → Nat) (J := AV) (K := K0) (d := d) (mi := 186) (head := 2) (Q := Q) (fun k _ j => [vR 54, vI (k : Int), j]) (fun A => hset g 71 (mixN 36 A r)) (adK n c) (fun k A => ∀ y, A y ≤ M + 6 * k) n (by
    intro k A j hA hk
    obtain ⟨l1, l2⟩ := inner k hk A hA
    refine ⟨⟨vI (n : Int), ?_⟩, fun y => ?_⟩
    · try dsimp only at l1
      rw [s186_2]
      simp (disch := omega) only [s186_0, s186_1, s186_3, s186_4, s186_7, s186_10, s186_11, s186_12, s186_13, s186_15, s186_16, s186_19, s186_22, s186_23, s186_26, s186_28, s186_29, s186_32, s186_33, s186_34, s186_35, s186_36, s186_39, s186_40, s186_41, s186_42, s186_43, s186_44, s186_45, s186_46, s186_47, s186_50, s186_53, s186_56, s186_59, k_o0, k_r0_0, k_r0_1, k_r0_3, k_r0_4, k_r0_5, k_r0_6, k_r0_7, k_r0_8, k_r0_9, k_r0_10, k_r0_12, k_o1, k_r1_1, k_r1_5, k_r1_6, k_r1_7, k_r1_9, k_r1_10, k_r1_11, k_n2, k_a2, k_n3, k_a3, k_n4, k_a4, k_n5, k_a5, k_n6, k_a6, k_n7, k_a7, k_n8, k_a8, k_o9, k_r9_1, k_r9_5, k_r9_6, k_r9_7, k_r9_9, k_r9_10, k_r9_11, k_n10, k_a10, k_n11, k_a11, k_n12, k_a12, k_n13, k_a13, k_n14, k_a14, k_n15, k_a15, k_n16, k_a16, k_o17, k_r17_0, k_r17_2, k_n18, k_a18, k_o19, k_r19_1, k_r19_5, k_r19_6, k_r19_7, k_r19_9, k_r19_10, k_r19_11, k_n20, k_a20, k_n21, k_a21, k_n22, k_a22, k_n23, k_a23, k_n24, k_a24, k_n25, k_a25, k_n26, k_a26, k_o27, k_r27_1, k_r27_2, k_r27_3, k_n28, k_a28, k_n29, k_a29, k_n30, k_a30, k_o31, k_r31_2, k_r31_3, k_r31_4, k_r31_5, k_r31_6, k_n32, k_a32, k_n33, k_a33, k_n34, k_a34, k_n35, k_a35, k_n36, k_a36, k_o37, k_r37_0, k_r37_3, k_r37_5, k_r37_6, k_r37_7, k_r37_8, k_n38, k_a38, k_n39, k_a39, k_n40, k_a40, k_n41, k_a41, k_n42, k_a42, k_n43, k_a43, k_o44, k_r44_0, k_r44_1, k_n45, k_a45, k_n46, k_a46, k_o47, k_r47_1, k_r47_2, k_n48, k_a48, k_n49, k_a49, k_o50, k_r50_0, k_n51, k_a51, k_n52, k_a52, k_n53, k_a53, k_o54, k_r54_5, k_r54_6, k_r54_7, k_r54_8, k_r54_9, k_r54_10, k_r54_11, k_r54_13, k_r54_14, k_r54_19, k_r54_20, k_r54_21, k_r54_22, k_r54_23, k_r54_28, k_r54_29, k_r54_32, k_r54_33, k_r54_34, k_r54_37, k_r54_38, k_r54_40, k_r54_41, k_r54_42, k_r54_43, k_r54_44, k_r54_46, k_r54_47, k_n55, k_a55, k_n56, k_a56, k_n57, k_a57, k_n58, k_a58, k_n59, k_a59, k_n60, k_a60, k_n61, k_a61, k_n62, k_a62, k_n63, k_a63, k_n64, k_a64, k_n65, k_a65, k_n66, k_a66, k_n67, k_a67, k_n68, k_a68, k_n69, k_a69, k_n70, k_a70, k_n71, k_a71, k_n72, k_a72, k_n73, k_a73, k_n74, k_a74, k_n75, k_a75, k_n76, k_a76, k_n77, k_a77, k_n78, k_a78, k_n79, k_a79, k_n80, k_a80, k_n81, k_a81, k_n82, k_a82, Option.toList_some, Option.toList_none, List.cons_append, List.nil_append, ite10, ite10n, ite01, ite11, nem, and_true, true_and, eq_self, true_or, or_true, not_true_eq_false, not_false_eq_true, ne_eq, false_and, and_false, Int.reduceEq, Int.reduceNe, Int.reduceLT, Int.reduceLE, Int.reduceToNat, Int.reduceNeg, Nat.reduceEqDiff, Nat.reduceAdd, ↓reduceIte, w32_id, nc1, leT, leF, ltT, ltF, eqT, eqF, nleT, nleF, nltT, nltF, neqT, neqF, Int.toNat_natCast, shlN, bitN, hbN, bOrP, bAndP, bNotP, bSwpP, Bool.false_eq_true, Bool.true_eq_false, hset_row, hset_same, hput_hset, hput_hset_ne, rput_same, rput_ne, hput_row, hput_same, hput_ne, if_true, if_false, hn]
      refine l1.trans ?_
      rw [s186_14]
      simp (disch := omega) only [s186_0, s186_1, s186_3, s186_4, s186_7, s186_10, s186_11, s186_12, s186_13, s186_15, s186_16, s186_19, s186_22, s186_23, s186_26, s186_28, s186_29, s186_32, s186_33, s186_34, s186_35, s186_36, s186_39, s186_40, s186_41, s186_42, s186_43, s186_44, s186_45, s186_46, s186_47, s186_50, s186_53, s186_56, s186_59, k_o0, k_r0_0, k_r0_1, k_r0_3, k_r0_4, k_r0_5, k_r0_6, k_r0_7, k_r0_8, k_r0_9, k_r0_10, k_r0_12, k_o1, k_r1_1, k_r1_5, k_r1_6, k_r1_7, k_r1_9, k_r1_10, k_r1_11, k_n2, k_a2, k_n3, k_a3, k_n4, k_a4, k_n5, k_a5, k_n6, k_a6, k_n7, k_a7, k_n8, k_a8, k_o9, k_r9_1, k_r9_5, k_r9_6, k_r9_7, k_r9_9, k_r9_10, k_r9_11, k_n10, k_a10, k_n11, k_a11, k_n12, k_a12, k_n13, k_a13, k_n14, k_a14, k_n15, k_a15, k_n16, k_a16, k_o17, k_r17_0, k_r17_2, k_n18, k_a18, k_o19, k_r19_1, k_r19_5, k_r19_6, k_r19_7, k_r19_9, k_r19_10, k_r19_11, k_n20, k_a20, k_n21, k_a21, k_n22, k_a22, k_n23, k_a23, k_n24, k_a24, k_n25, k_a25, k_n26, k_a26, k_o27, k_r27_1, k_r27_2, k_r27_3, k_n28, k_a28, k_n29, k_a29, k_n30, k_a30, k_o31, k_r31_2, k_r31_3, k_r31_4, k_r31_5, k_r31_6, k_n32, k_a32, k_n33, k_a33, k_n34, k_a34, k_n35, k_a35, k_n36, k_a36, k_o37, k_r37_0, k_r37_3, k_r37_5, k_r37_6, k_r37_7, k_r37_8, k_n38, k_a38, k_n39, k_a39, k_n40, k_a40, k_n41, k_a41, k_n42, k_a42, k_n43, k_a43, k_o44, k_r44_0, k_r44_1, k_n45, k_a45, k_n46, k_a46, k_o47, k_r47_1, k_r47_2, k_n48, k_a48, k_n49, k_a49, k_o50, k_r50_0, k_n51, k_a51, k_n52, k_a52, k_n53, k_a53, k_o54, k_r54_5, k_r54_6, k_r54_7, k_r54_8, k_r54_9, k_r54_10, k_r54_11, k_r54_13, k_r54_14, k_r54_19, k_r54_20, k_r54_21, k_r54_22, k_r54_23, k_r54_28, k_r54_29, k_r54_32, k_r54_33, k_r54_34, k_r54_37, k_r54_38, k_r54_40, k_r54_41, k_r54_42, k_r54_43, k_r54_44, k_r54_46, k_r54_47, k_n55, k_a55, k_n56, k_a56, k_n57, k_a57, k_n58, k_a58, k_n59, k_a59, k_n60, k_a60, k_n61, k_a61, k_n62, k_a62, k_n63, k_a63, k_n64, k_a64, k_n65, k_a65, k_n66, k_a66, k_n67, k_a67, k_n68, k_a68, k_n69, k_a69, k_n70, k_a70, k_n71, k_a71, k_n72, k_a72, k_n73, k_a73, k_n74, k_a74, k_n75, k_a75, k_n76, k_a76, k_n77, k_a77, k_n78, k_a78, k_n79, k_a79, k_n80, k_a80, k_n81, k_a81, k_n82, k_a82, Option.toList_some, Option.toList_none, List.cons_append, List.nil_append, ite10, ite10n, ite01, ite11, nem, and_true, true_and, eq_self, true_or, or_true, not_true_eq_false, not_false_eq_true, ne_eq, false_and, and_false, Int.reduceEq, Int.reduceNe, Int.reduceLT, Int.reduceLE, Int.reduceToNat, Int.reduceNeg, Nat.reduceEqDiff, Nat.reduceAdd, ↓reduceIte, w32_id, nc1, leT, leF, ltT, ltF, eqT, eqF, nleT, nleF, nltT, nltF, neqT, neqF, Int.toNat_natCast, shlN, bitN, hbN, bOrP, bAndP, bNotP, bSwpP, Bool.false_eq_true, Bool.true_eq_false, hset_row, hset_same, hput_hset, hput_hset_ne, rput_same, rput_ne, hput_row, hput_same, hput_ne, if_true, if_false, hn]
      rfl
    · have := l2 y
      unfold adK
      omega) n 0 A vU (by omega) (fun y => by have := hA y; omega)
  obtain ⟨⟨j', l1⟩, l2⟩ := lp
  refine ⟨?_, fun y => ?_⟩
  · try dsimp only at l1
    simp (disch := omega) only [s186_0, s186_1, s186_3, s186_4, s186_7, s186_10, s186_11, s186_12, s186_13, s186_15, s186_16, s186_19, s186_22, s186_23, s186_26, s186_28, s186_29, s186_32, s186_33, s186_34, s186_35, s186_36, s186_39, s186_40, s186_41, s186_42, s186_43, s186_44, s186_45, s186_46, s186_47, s186_50, s186_53, s186_56, s186_59, k_o0, k_r0_0, k_r0_1, k_r0_3, k_r0_4, k_r0_5, k_r0_6, k_r0_7, k_r0_8, k_r0_9, k_r0_10, k_r0_12, k_o1, k_r1_1, k_r1_5, k_r1_6, k_r1_7, k_r1_9, k_r1_10, k_r1_11, k_n2, k_a2, k_n3, k_a3, k_n4, k_a4, k_n5, k_a5, k_n6, k_a6, k_n7, k_a7, k_n8, k_a8, k_o9, k_r9_1, k_r9_5, k_r9_6, k_r9_7, k_r9_9, k_r9_10, k_r9_11, k_n10, k_a10, k_n11, k_a11, k_n12, k_a12, k_n13, k_a13, k_n14, k_a14, k_n15, k_a15, k_n16, k_a16, k_o17, k_r17_0, k_r17_2, k_n18, k_a18, k_o19, k_r19_1, k_r19_5, k_r19_6, k_r19_7, k_r19_9, k_r19_10, k_r19_11, k_n20, k_a20, k_n21, k_a21, k_n22, k_a22, k_n23, k_a23, k_n24, k_a24, k_n25, k_a25, k_n26, k_a26, k_o27, k_r27_1, k_r27_2, k_r27_3, k_n28, k_a28, k_n29, k_a29, k_n30, k_a30, k_o31, k_r31_2, k_r31_3, k_r31_4, k_r31_5, k_r31_6, k_n32, k_a32, k_n33, k_a33, k_n34, k_a34, k_n35, k_a35, k_n36, k_a36, k_o37, k_r37_0, k_r37_3, k_r37_5, k_r37_6, k_r37_7, k_r37_8, k_n38, k_a38, k_n39, k_a39, k_n40, k_a40, k_n41, k_a41, k_n42, k_a42, k_n43, k_a43, k_o44, k_r44_0, k_r44_1, k_n45, k_a45, k_n46, k_a46, k_o47, k_r47_1, k_r47_2, k_n48, k_a48, k_n49, k_a49, k_o50, k_r50_0, k_n51, k_a51, k_n52, k_a52, k_n53, k_a53, k_o54, k_r54_5, k_r54_6, k_r54_7, k_r54_8, k_r54_9, k_r54_10, k_r54_11, k_r54_13, k_r54_14, k_r54_19, k_r54_20, k_r54_21, k_r54_22, k_r54_23, k_r54_28, k_r54_29, k_r54_32, k_r54_33, k_r54_34, k_r54_37, k_r54_38, k_r54_40, k_r54_41, k_r54_42, k_r54_43, k_r54_44, k_r54_46, k_r54_47, k_n55, k_a55, k_n56, k_a56, k_n57, k_a57, k_n58, k_a58, k_n59, k_a59, k_n60, k_a60, k_n61, k_a61, k_n62, k_a62, k_n63, k_a63, k_n64, k_a64, k_n65, k_a65, k_n66, k_a66, k_n67, k_a67, k_n68, k_a68, k_n69, k_a69, k_n70, k_a70, k_n71, k_a71, k_n72, k_a72, k_n73, k_a73, k_n74, k_a74, k_n75, k_a75, k_n76, k_a76, k_n77, k_a77, k_n78, k_a78, k_n79, k_a79, k_n80, k_a80, k_n81, k_a81, k_n82, k_a82, Option.toList_some, Option.toList_none, List.cons_append, List.nil_append, ite10, ite10n, ite01, ite11, nem, and_true, true_and, eq_self, true_or, or_true, not_true_eq_false, not_false_eq_true, ne_eq, false_and, and_false, Int.reduceEq, Int.reduceNe, Int.reduceLT, Int.reduceLE, Int.reduceToNat, Int.reduceNeg, Nat.reduceEqDiff, Nat.reduceAdd, ↓reduceIte, w32_id, nc1, leT, leF, ltT, ltF, eqT, eqF, nleT, nleF, nltT, nltF, neqT, neqF, Int.toNat_natCast, shlN, bitN, hbN, bOrP, bAndP, bNotP, bSwpP, Bool.false_eq_true, Bool.true_eq_false, hset_row, hset_same, hput_hset, hput_hset_ne, rput_same, rput_ne, hput_row, hput_same, hput_ne, if_true, if_false]
    refine l1.trans ?_
    rw [s186_2]
    simp (disch := omega) only [s186_0, s186_1, s186_3, s186_4, s186_7, s186_10, s186_11, s186_12, s186_13, s186_15, s186_16, s186_19, s186_22, s186_23, s186_26, s186_28, s186_29, s186_32, s186_33, s186_34, s186_35, s186_36, s186_39, s186_40, s186_41, s186_42, s186_43, s186_44, s186_45, s186_46, s186_47, s186_50, s186_53, s186_56, s186_59, k_o0, k_r0_0, k_r0_1, k_r0_3, k_r0_4, k_r0_5, k_r0_6, k_r0_7, k_r0_8, k_r0_9, k_r0_10, k_r0_12, k_o1, k_r1_1, k_r1_5, k_r1_6, k_r1_7, k_r1_9, k_r1_10, k_r1_11, k_n2, k_a2, k_n3, k_a3, k_n4, k_a4, k_n5, k_a5, k_n6, k_a6, k_n7, k_a7, k_n8, k_a8, k_o9, k_r9_1, k_r9_5, k_r9_6, k_r9_7, k_r9_9, k_r9_10, k_r9_11, k_n10, k_a10, k_n11, k_a11, k_n12, k_a12, k_n13, k_a13, k_n14, k_a14, k_n15, k_a15, k_n16, k_a16, k_o17, k_r17_0, k_r17_2, k_n18, k_a18, k_o19, k_r19_1, k_r19_5, k_r19_6, k_r19_7, k_r19_9, k_r19_10, k_r19_11, k_n20, k_a20, k_n21, k_a21, k_n22, k_a22, k_n23, k_a23, k_n24, k_a24, k_n25, k_a25, k_n26, k_a26, k_o27, k_r27_1, k_r27_2, k_r27_3, k_n28, k_a28, k_n29, k_a29, k_n30, k_a30, k_o31, k_r31_2, k_r31_3, k_r31_4, k_r31_5, k_r31_6, k_n32, k_a32, k_n33, k_a33, k_n34, k_a34, k_n35, k_a35, k_n36, k_a36, k_o37, k_r37_0, k_r37_3, k_r37_5, k_r37_6, k_r37_7, k_r37_8, k_n38, k_a38, k_n39, k_a39, k_n40, k_a40, k_n41, k_a41, k_n42, k_a42, k_n43, k_a43, k_o44, k_r44_0, k_r44_1, k_n45, k_a45, k_n46, k_a46, k_o47, k_r47_1, k_r47_2, k_n48, k_a48, k_n49, k_a49, k_o50, k_r50_0, k_n51, k_a51, k_n52, k_a52, k_n53, k_a53, k_o54, k_r54_5, k_r54_6, k_r54_7, k_r54_8, k_r54_9, k_r54_10, k_r54_11, k_r54_13, k_r54_14, k_r54_19, k_r54_20, k_r54_21, k_r54_22, k_r54_23, k_r54_28, k_r54_29, k_r54_32, k_r54_33, k_r54_34, k_r54_37, k_r54_38, k_r54_40, k_r54_41, k_r54_42, k_r54_43, k_r54_44, k_r54_46, k_r54_47, k_n55, k_a55, k_n56, k_a56, k_n57, k_a57, k_n58, k_a58, k_n59, k_a59, k_n60, k_a60, k_n61, k_a61, k_n62, k_a62, k_n63, k_a63, k_n64, k_a64, k_n65, k_a65, k_n66, k_a66, k_n67, k_a67, k_n68, k_a68, k_n69, k_a69, k_n70, k_a70, k_n71, k_a71, k_n72, k_a72, k_n73, k_a73, k_n74, k_a74, k_n75, k_a75, k_n76, k_a76, k_n77, k_a77, k_n78, k_a78, k_n79, k_a79, k_n80, k_a80, k_n81, k_a81, k_n82, k_a82, Option.toList_some, Option.toList_none, List.cons_append, List.nil_append, ite10, ite10n, ite01, ite11, nem, and_true, true_and, eq_self, true_or, or_true, not_true_eq_false, not_false_eq_true, ne_eq, false_and, and_false, Int.reduceEq, Int.reduceNe, Int.reduceLT, Int.reduceLE, Int.reduceToNat, Int.reduceNeg, Nat.reduceEqDiff, Nat.reduceAdd, ↓reduceIte, w32_id, nc1, leT, leF, ltT, ltF, eqT, eqF, nleT, nleF, nltT, nltF, neqT, neqF, Int.toNat_natCast, shlN, bitN, hbN, bOrP, bAndP, bNotP, bSwpP, Bool.false_eq_true, Bool.true_eq_false, hset_row, hset_same, hput_hset, hput_hset_ne, rput_same, rput_ne, hput_row, hput_same, hput_ne, if_true, if_false, hn]
    rfl
  · have := l2 y
    unfold adF
    omega
/-- what findOrders leaves -/
def FD (f : Nat → Nat) (n : Nat) (g g2 : HH) : Prop := (∀ i, i ≠ 54 → i ≠ 70 → i ≠ 71 → g2 i = g i) ∧ (∀ k, k ≠ 30 → k ≠ 31 → g2 54 k = g 54 k) ∧ g2 54 30 = ((fdF f n (n ^ n)).1 : Int) ∧ g2 54 31 = (fdF f n (n ^ n)).2.1 ∧ ∀ j, j < 36 → g2 71 j = ((fdF f n (n ^ n)).2.2 j : Int)
theorem m_find (hn : g 54 0 = n) (hn2 : 2 ≤ n) (hn6 : n ≤ 6) (hf : MS n f) (hR : RV (g 69) f) (hQ : ∀ g2, FD f n g g2 → Q none g2) : wp K0 (d + 2) 185 0 [vR 54, vU, vU] [] g Q := by
  have hNN := pow_six (n := n) (k := n) hn6 hn6
  have lz := loopN (S := Nat → Int) (K := K0) (d := d + 2) (mi := 185) (head := 12) (Q := Q) (fun c _ => [vR 54, vI (c : Int), vU]) (fun s => hset (hput (hput g 54 30 0) 54 31 (-1)) 71 s) (fun c s => rput s c 0) (fun c s => ∀ j, j < c → s j = ((0 : Nat) : Int)) 36 (by
    intro c s hs hc
    refine ⟨?_, fun j hj => ?_⟩
    · try dsimp only
      rw [s185_12]
      simp (disch := omega) only [s185_0, s185_1, s185_2, s185_5, s185_6, s185_7, s185_10, s185_11, s185_13, s185_15, s185_18, s185_19, s185_22, s185_23, s185_24, s185_25, s185_28, s185_31, s185_32, s185_35, s185_36, s185_37, s185_39, s185_40, s185_43, s185_44, s185_45, s185_48, s185_51, s185_52, s185_55, s185_58, s185_59, s185_60, s185_63, s185_66, s185_67, s185_70, s185_71, s185_74, s185_77, s185_78, s185_79, s185_82, s185_83, s185_84, s185_87, s185_88, s185_91, s185_94, s185_97, k_o0, k_r0_0, k_r0_1, k_r0_3, k_r0_4, k_r0_5, k_r0_6, k_r0_7, k_r0_8, k_r0_9, k_r0_10, k_r0_12, k_o1, k_r1_1, k_r1_5, k_r1_6, k_r1_7, k_r1_9, k_r1_10, k_r1_11, k_n2, k_a2, k_n3, k_a3, k_n4, k_a4, k_n5, k_a5, k_n6, k_a6, k_n7, k_a7, k_n8, k_a8, k_o9, k_r9_1, k_r9_5, k_r9_6, k_r9_7, k_r9_9, k_r9_10, k_r9_11, k_n10, k_a10, k_n11, k_a11, k_n12, k_a12, k_n13, k_a13, k_n14, k_a14, k_n15, k_a15, k_n16, k_a16, k_o17, k_r17_0, k_r17_2, k_n18, k_a18, k_o19, k_r19_1, k_r19_5, k_r19_6, k_r19_7, k_r19_9, k_r19_10, k_r19_11, k_n20, k_a20, k_n21, k_a21, k_n22, k_a22, k_n23, k_a23, k_n24, k_a24, k_n25, k_a25, k_n26, k_a26, k_o27, k_r27_1, k_r27_2, k_r27_3, k_n28, k_a28, k_n29, k_a29, k_n30, k_a30, k_o31, k_r31_2, k_r31_3, k_r31_4, k_r31_5, k_r31_6, k_n32, k_a32, k_n33, k_a33, k_n34, k_a34, k_n35, k_a35, k_n36, k_a36, k_o37, k_r37_0, k_r37_3, k_r37_5, k_r37_6, k_r37_7, k_r37_8, k_n38, k_a38, k_n39, k_a39, k_n40, k_a40, k_n41, k_a41, k_n42, k_a42, k_n43, k_a43, k_o44, k_r44_0, k_r44_1, k_n45, k_a45, k_n46, k_a46, k_o47, k_r47_1, k_r47_2, k_n48, k_a48, k_n49, k_a49, k_o50, k_r50_0, k_n51, k_a51, k_n52, k_a52, k_n53, k_a53, k_o54, k_r54_5, k_r54_6, k_r54_7, k_r54_8, k_r54_9, k_r54_10, k_r54_11, k_r54_13, k_r54_14, k_r54_19, k_r54_20, k_r54_21, k_r54_22, k_r54_23, k_r54_28, k_r54_29, k_r54_32, k_r54_33, k_r54_34, k_r54_37, k_r54_38, k_r54_40, k_r54_41, k_r54_42, k_r54_43, k_r54_44, k_r54_46, k_r54_47, k_n55, k_a55, k_n56, k_a56, k_n57, k_a57, k_n58, k_a58, k_n59, k_a59, k_n60, k_a60, k_n61, k_a61, k_n62, k_a62, k_n63, k_a63, k_n64, k_a64, k_n65, k_a65, k_n66, k_a66, k_n67, k_a67, k_n68, k_a68, k_n69, k_a69, k_n70, k_a70, k_n71, k_a71, k_n72, k_a72, k_n73, k_a73, k_n74, k_a74, k_n75, k_a75, k_n76, k_a76, k_n77, k_a77, k_n78, k_a78, k_n79, k_a79, k_n80, k_a80, k_n81, k_a81, k_n82, k_a82, Option.toList_some, Option.toList_none, List.cons_append, List.nil_append, ite10, ite10n, ite01, ite11, nem, and_true, true_and, eq_self, true_or, or_true, not_true_eq_false, not_false_eq_true, ne_eq, false_and, and_false, Int.reduceEq, Int.reduceNe, Int.reduceLT, Int.reduceLE, Int.reduceToNat, Int.reduceNeg, Nat.reduceEqDiff, Nat.reduceAdd, ↓reduceIte, w32_id, nc1, leT, leF, ltT, ltF, eqT, eqF, nleT, nleF, nltT, nltF, neqT, neqF, Int.toNat_natCast, shlN, bitN, hbN, bOrP, bAndP, bNotP, bSwpP, Bool.false_eq_true, Bool.true_eq_false, hset_row, hset_same, hput_hset, hput_hset_ne, rput_same, rput_ne, hput_row, hput_same, hput_ne, if_true, if_false]
    · by_cases hjc : j = c
      · subst hjc
        exact rput_same
      · try dsimp only
        rw [rput_ne hjc]
        exact hs j (by omega)) 36 0 (g 71) (by omega) (fun j hj => absurd hj (Nat.not_lt_zero j))
  generalize itn (fun (c : Nat) (s : Nat → Int) => rput s c 0) 36 0 (g 71) = Z at lz
  obtain ⟨l0, hz⟩ := lz
  have z1 : Z = mixN 36 (fun _ => 0) Z := mixN_self hz
  have e71 : hput (hput g 54 30 0) 54 31 (-1) 71 = g 71 := by rw [hput_row (by decide), hput_row (by decide)]
  have e0 : hset (hput (hput g 54 30 0) 54 31 (-1)) 71 (g 71) = hput (hput g 54 30 0) 54 31 (-1) := by rw [← e71, hset_self]
  have lp := loopX (S := Nat × Int × (Nat → Nat)) (X := Nat → Int) (K := K0) (d := d + 2) (mi := 185) (head := 38) (Q := Q) (fun c _ _ => [vR 54, vI ((n ^ n : Nat) : Int), vI (c : Int)]) (fun s x => hset (hset (hput (hput g 54 30 (s.1 : Int)) 54 31 s.2.1) 70 x) 71 (mixN 36 s.2.2 Z)) (fdI f n) (fun c s _ => s.1 ≤ c ∧ ∀ y, s.2.2 y ≤ 36 * c) (n ^ n) (by
    intro c s x hs hc
    obtain ⟨h1, h2⟩ := hs
    obtain ⟨s2, o1, o2⟩ := m_lay (g := hset (hset (hput (hput g 54 30 (s.1 : Int)) 54 31 s.2.1) 70 x) 71 (mixN 36 s.2.2 Z)) (n := n) (c := c) (by simp (disch := omega) only [hset_row, hput_ne]; exact hn) hn2 hn6 (by omega)
    have eh : hset (hset (hset (hput (hput g 54 30 (s.1 : Int)) 54 31 s.2.1) 70 x) 71 (mixN 36 s.2.2 Z)) 70 s2 = hset (hset (hput (hput g 54 30 (s.1 : Int)) 54 31 s.2.1) 70 s2) 71 (mixN 36 s.2.2 Z) := hset_in (by decide)
    have o3 := fun d Q => o2 d Q
    rw [eh] at o3
    refine ⟨s2, ?_, ?_⟩
    · try dsimp only
      rw [s185_38]
      by_cases hp : px n c n = 2 ^ n - 1
      · have hft := fun d Q => m_fits (d := d) (Q := Q) (c := c) (f := f) (n := n) (g := hset (hset (hput (hput g 54 30 (s.1 : Int)) 54 31 s.2.1) 70 s2) 71 (mixN 36 s.2.2 Z)) (by simp (disch := omega) only [hset_row, hput_ne]; exact hn) hn2 hn6 hf (by simp (disch := omega) only [hset_row, hput_row]; exact hR) (by simp (disch := omega) only [hset_row, hset_same]; exact o1)
        cases hF : ftF f n c
        · have hv : vl f n c = false := by
            cases hv : vl f n c
            · rfl
            · rw [((vl_iff (by omega) hf).mp hv).2] at hF
              cases hF
          unfold fdI
          simp (disch := omega) only [s185_0, s185_1, s185_2, s185_5, s185_6, s185_7, s185_10, s185_11, s185_13, s185_15, s185_18, s185_19, s185_22, s185_23, s185_24, s185_25, s185_28, s185_31, s185_32, s185_35, s185_36, s185_37, s185_39, s185_40, s185_43, s185_44, s185_45, s185_48, s185_51, s185_52, s185_55, s185_58, s185_59, s185_60, s185_63, s185_66, s185_67, s185_70, s185_71, s185_74, s185_77, s185_78, s185_79, s185_82, s185_83, s185_84, s185_87, s185_88, s185_91, s185_94, s185_97, k_o0, k_r0_0, k_r0_1, k_r0_3, k_r0_4, k_r0_5, k_r0_6, k_r0_7, k_r0_8, k_r0_9, k_r0_10, k_r0_12, k_o1, k_r1_1, k_r1_5, k_r1_6, k_r1_7, k_r1_9, k_r1_10, k_r1_11, k_n2, k_a2, k_n3, k_a3, k_n4, k_a4, k_n5, k_a5, k_n6, k_a6, k_n7, k_a7, k_n8, k_a8, k_o9, k_r9_1, k_r9_5, k_r9_6, k_r9_7, k_r9_9, k_r9_10, k_r9_11, k_n10, k_a10, k_n11, k_a11, k_n12, k_a12, k_n13, k_a13, k_n14, k_a14, k_n15, k_a15, k_n16, k_a16, k_o17, k_r17_0, k_r17_2, k_n18, k_a18, k_o19, k_r19_1, k_r19_5, k_r19_6, k_r19_7, k_r19_9, k_r19_10, k_r19_11, k_n20, k_a20, k_n21, k_a21, k_n22, k_a22, k_n23, k_a23, k_n24, k_a24, k_n25, k_a25, k_n26, k_a26, k_o27, k_r27_1, k_r27_2, k_r27_3, k_n28, k_a28, k_n29, k_a29, k_n30, k_a30, k_o31, k_r31_2, k_r31_3, k_r31_4, k_r31_5, k_r31_6, k_n32, k_a32, k_n33, k_a33, k_n34, k_a34, k_n35, k_a35, k_n36, k_a36, k_o37, k_r37_0, k_r37_3, k_r37_5, k_r37_6, k_r37_7, k_r37_8, k_n38, k_a38, k_n39, k_a39, k_n40, k_a40, k_n41, k_a41, k_n42, k_a42, k_n43, k_a43, k_o44, k_r44_0, k_r44_1, k_n45, k_a45, k_n46, k_a46, k_o47, k_r47_1, k_r47_2, k_n48, k_a48, k_n49, k_a49, k_o50, k_r50_0, k_n51, k_a51, k_n52, k_a52, k_n53, k_a53, k_o54, k_r54_5, k_r54_6, k_r54_7, k_r54_8, k_r54_9, k_r54_10, k_r54_11, k_r54_13, k_r54_14, k_r54_19, k_r54_20, k_r54_21, k_r54_22, k_r54_23, k_r54_28, k_r54_29, k_r54_32, k_r54_33, k_r54_34, k_r54_37, k_r54_38, k_r54_40, k_r54_41, k_r54_42, k_r54_43, k_r54_44, k_r54_46, k_r54_47, k_n55, k_a55, k_n56, k_a56, k_n57, k_a57, k_n58, k_a58, k_n59, k_a59, k_n60, k_a60, k_n61, k_a61, k_n62, k_a62, k_n63, k_a63, k_n64, k_a64, k_n65, k_a65, k_n66, k_a66, k_n67, k_a67, k_n68, k_a68, k_n69, k_a69, k_n70, k_a70, k_n71, k_a71, k_n72, k_a72, k_n73, k_a73, k_n74, k_a74, k_n75, k_a75, k_n76, k_a76, k_n77, k_a77, k_n78, k_a78, k_n79, k_a79, k_n80, k_a80, k_n81, k_a81, k_n82, k_a82, Option.toList_some, Option.toList_none, List.cons_append, List.nil_append, ite10, ite10n, ite01, ite11, nem, and_true, true_and, eq_self, true_or, or_true, not_true_eq_false, not_false_eq_true, ne_eq, false_and, and_false, Int.reduceEq, Int.reduceNe, Int.reduceLT, Int.reduceLE, Int.reduceToNat, Int.reduceNeg, Nat.reduceEqDiff, Nat.reduceAdd, ↓reduceIte, nc1, w32_id, leT, leF, ltT, ltF, o3, hp, hft, hF, hv, if_true, Bool.false_eq_true, if_false]
        · have hv : vl f n c = true := (vl_iff (by omega) hf).mpr ⟨hp, hF⟩
          have e1 : w32 ((s.1 : Int) + 1) = ((s.1 + 1 : Nat) : Int) := by rw [w32_id (by omega) (by omega)]; omega
          have hca := fun (many : Int) (first : Int) d Q => (m_countAhead (d := d) (Q := Q) (A := s.2.2) (r := Z) (M := 36 * c) (c := c) (n := n) (g := hset (hput (hput g 54 30 many) 54 31 first) 70 s2) (by simp (disch := omega) only [hset_row, hput_ne]; exact hn) hn2 hn6 (by simp (disch := omega) only [hset_row, hset_same]; exact o1) h2 (by omega)).1
          unfold fdI
          by_cases hs0 : s.1 = 0
          · have hs0' : (((s.1 : Nat) : Int) = 0) = True := eq_true (by omega)
            have hs1 : (s.1 = 0) = True := eq_true hs0
            simp (disch := omega) only [s185_0, s185_1, s185_2, s185_5, s185_6, s185_7, s185_10, s185_11, s185_13, s185_15, s185_18, s185_19, s185_22, s185_23, s185_24, s185_25, s185_28, s185_31, s185_32, s185_35, s185_36, s185_37, s185_39, s185_40, s185_43, s185_44, s185_45, s185_48, s185_51, s185_52, s185_55, s185_58, s185_59, s185_60, s185_63, s185_66, s185_67, s185_70, s185_71, s185_74, s185_77, s185_78, s185_79, s185_82, s185_83, s185_84, s185_87, s185_88, s185_91, s185_94, s185_97, k_o0, k_r0_0, k_r0_1, k_r0_3, k_r0_4, k_r0_5, k_r0_6, k_r0_7, k_r0_8, k_r0_9, k_r0_10, k_r0_12, k_o1, k_r1_1, k_r1_5, k_r1_6, k_r1_7, k_r1_9, k_r1_10, k_r1_11, k_n2, k_a2, k_n3, k_a3, k_n4, k_a4, k_n5, k_a5, k_n6, k_a6, k_n7, k_a7, k_n8, k_a8, k_o9, k_r9_1, k_r9_5, k_r9_6, k_r9_7, k_r9_9, k_r9_10, k_r9_11, k_n10, k_a10, k_n11, k_a11, k_n12, k_a12, k_n13, k_a13, k_n14, k_a14, k_n15, k_a15, k_n16, k_a16, k_o17, k_r17_0, k_r17_2, k_n18, k_a18, k_o19, k_r19_1, k_r19_5, k_r19_6, k_r19_7, k_r19_9, k_r19_10, k_r19_11, k_n20, k_a20, k_n21, k_a21, k_n22, k_a22, k_n23, k_a23, k_n24, k_a24, k_n25, k_a25, k_n26, k_a26, k_o27, k_r27_1, k_r27_2, k_r27_3, k_n28, k_a28, k_n29, k_a29, k_n30, k_a30, k_o31, k_r31_2, k_r31_3, k_r31_4, k_r31_5, k_r31_6, k_n32, k_a32, k_n33, k_a33, k_n34, k_a34, k_n35, k_a35, k_n36, k_a36, k_o37, k_r37_0, k_r37_3, k_r37_5, k_r37_6, k_r37_7, k_r37_8, k_n38, k_a38, k_n39, k_a39, k_n40, k_a40, k_n41, k_a41, k_n42, k_a42, k_n43, k_a43, k_o44, k_r44_0, k_r44_1, k_n45, k_a45, k_n46, k_a46, k_o47, k_r47_1, k_r47_2, k_n48, k_a48, k_n49, k_a49, k_o50, k_r50_0, k_n51, k_a51, k_n52, k_a52, k_n53, k_a53, k_o54, k_r54_5, k_r54_6, k_r54_7, k_r54_8, k_r54_9, k_r54_10, k_r54_11, k_r54_13, k_r54_14, k_r54_19, k_r54_20, k_r54_21, k_r54_22, k_r54_23, k_r54_28, k_r54_29, k_r54_32, k_r54_33, k_r54_34, k_r54_37, k_r54_38, k_r54_40, k_r54_41, k_r54_42, k_r54_43, k_r54_44, k_r54_46, k_r54_47, k_n55, k_a55, k_n56, k_a56, k_n57, k_a57, k_n58, k_a58, k_n59, k_a59, k_n60, k_a60, k_n61, k_a61, k_n62, k_a62, k_n63, k_a63, k_n64, k_a64, k_n65, k_a65, k_n66, k_a66, k_n67, k_a67, k_n68, k_a68, k_n69, k_a69, k_n70, k_a70, k_n71, k_a71, k_n72, k_a72, k_n73, k_a73, k_n74, k_a74, k_n75, k_a75, k_n76, k_a76, k_n77, k_a77, k_n78, k_a78, k_n79, k_a79, k_n80, k_a80, k_n81, k_a81, k_n82, k_a82, Option.toList_some, Option.toList_none, List.cons_append, List.nil_append, ite10, ite10n, ite01, ite11, nem, and_true, true_and, eq_self, true_or, or_true, not_true_eq_false, not_false_eq_true, ne_eq, false_and, and_false, Int.reduceEq, Int.reduceNe, Int.reduceLT, Int.reduceLE, Int.reduceToNat, Int.reduceNeg, Nat.reduceEqDiff, Nat.reduceAdd, ↓reduceIte, leT, leF, ltT, ltF, o3, hp, hft, hF, hv, if_true, hset_row, hput_hset_ne, hput_same, hput_ne, hput_hput, hput_sw, hs0', hs1, e1, hca, w32_id, nc1]
            try rfl
          · have hs0' : (((s.1 : Nat) : Int) = 0) = False := eq_false (by omega)
            simp (disch := omega) only [s185_0, s185_1, s185_2, s185_5, s185_6, s185_7, s185_10, s185_11, s185_13, s185_15, s185_18, s185_19, s185_22, s185_23, s185_24, s185_25, s185_28, s185_31, s185_32, s185_35, s185_36, s185_37, s185_39, s185_40, s185_43, s185_44, s185_45, s185_48, s185_51, s185_52, s185_55, s185_58, s185_59, s185_60, s185_63, s185_66, s185_67, s185_70, s185_71, s185_74, s185_77, s185_78, s185_79, s185_82, s185_83, s185_84, s185_87, s185_88, s185_91, s185_94, s185_97, k_o0, k_r0_0, k_r0_1, k_r0_3, k_r0_4, k_r0_5, k_r0_6, k_r0_7, k_r0_8, k_r0_9, k_r0_10, k_r0_12, k_o1, k_r1_1, k_r1_5, k_r1_6, k_r1_7, k_r1_9, k_r1_10, k_r1_11, k_n2, k_a2, k_n3, k_a3, k_n4, k_a4, k_n5, k_a5, k_n6, k_a6, k_n7, k_a7, k_n8, k_a8, k_o9, k_r9_1, k_r9_5, k_r9_6, k_r9_7, k_r9_9, k_r9_10, k_r9_11, k_n10, k_a10, k_n11, k_a11, k_n12, k_a12, k_n13, k_a13, k_n14, k_a14, k_n15, k_a15, k_n16, k_a16, k_o17, k_r17_0, k_r17_2, k_n18, k_a18, k_o19, k_r19_1, k_r19_5, k_r19_6, k_r19_7, k_r19_9, k_r19_10, k_r19_11, k_n20, k_a20, k_n21, k_a21, k_n22, k_a22, k_n23, k_a23, k_n24, k_a24, k_n25, k_a25, k_n26, k_a26, k_o27, k_r27_1, k_r27_2, k_r27_3, k_n28, k_a28, k_n29, k_a29, k_n30, k_a30, k_o31, k_r31_2, k_r31_3, k_r31_4, k_r31_5, k_r31_6, k_n32, k_a32, k_n33, k_a33, k_n34, k_a34, k_n35, k_a35, k_n36, k_a36, k_o37, k_r37_0, k_r37_3, k_r37_5, k_r37_6, k_r37_7, k_r37_8, k_n38, k_a38, k_n39, k_a39, k_n40, k_a40, k_n41, k_a41, k_n42, k_a42, k_n43, k_a43, k_o44, k_r44_0, k_r44_1, k_n45, k_a45, k_n46, k_a46, k_o47, k_r47_1, k_r47_2, k_n48, k_a48, k_n49, k_a49, k_o50, k_r50_0, k_n51, k_a51, k_n52, k_a52, k_n53, k_a53, k_o54, k_r54_5, k_r54_6, k_r54_7, k_r54_8, k_r54_9, k_r54_10, k_r54_11, k_r54_13, k_r54_14, k_r54_19, k_r54_20, k_r54_21, k_r54_22, k_r54_23, k_r54_28, k_r54_29, k_r54_32, k_r54_33, k_r54_34, k_r54_37, k_r54_38, k_r54_40, k_r54_41, k_r54_42, k_r54_43, k_r54_44, k_r54_46, k_r54_47, k_n55, k_a55, k_n56, k_a56, k_n57, k_a57, k_n58, k_a58, k_n59, k_a59, k_n60, k_a60, k_n61, k_a61, k_n62, k_a62, k_n63, k_a63, k_n64, k_a64, k_n65, k_a65, k_n66, k_a66, k_n67, k_a67, k_n68, k_a68, k_n69, k_a69, k_n70, k_a70, k_n71, k_a71, k_n72, k_a72, k_n73, k_a73, k_n74, k_a74, k_n75, k_a75, k_n76, k_a76, k_n77, k_a77, k_n78, k_a78, k_n79, k_a79, k_n80, k_a80, k_n81, k_a81, k_n82, k_a82, Option.toList_some, Option.toList_none, List.cons_append, List.nil_append, ite10, ite10n, ite01, ite11, nem, and_true, true_and, eq_self, true_or, or_true, not_true_eq_false, not_false_eq_true, ne_eq, false_and, and_false, Int.reduceEq, Int.reduceNe, Int.reduceLT, Int.reduceLE, Int.reduceToNat, Int.reduceNeg, Nat.reduceEqDiff, Nat.reduceAdd, ↓reduceIte, leT, leF, ltT, ltF, o3, hp, hft, hF, hv, if_true, hset_row, hput_hset_ne, hput_same, hput_ne, hput_hput, hput_sw, hs0', hs0, e1, hca, w32_id, nc1]
            try rfl
      · have hv : vl f n c = false := by
          cases hv : vl f n c
          · rfl
          · exact absurd ((vl_iff (by omega) hf).mp hv).1 hp
        unfold fdI
        simp (disch := omega) only [s185_0, s185_1, s185_2, s185_5, s185_6, s185_7, s185_10, s185_11, s185_13, s185_15, s185_18, s185_19, s185_22, s185_23, s185_24, s185_25, s185_28, s185_31, s185_32, s185_35, s185_36, s185_37, s185_39, s185_40, s185_43, s185_44, s185_45, s185_48, s185_51, s185_52, s185_55, s185_58, s185_59, s185_60, s185_63, s185_66, s185_67, s185_70, s185_71, s185_74, s185_77, s185_78, s185_79, s185_82, s185_83, s185_84, s185_87, s185_88, s185_91, s185_94, s185_97, k_o0, k_r0_0, k_r0_1, k_r0_3, k_r0_4, k_r0_5, k_r0_6, k_r0_7, k_r0_8, k_r0_9, k_r0_10, k_r0_12, k_o1, k_r1_1, k_r1_5, k_r1_6, k_r1_7, k_r1_9, k_r1_10, k_r1_11, k_n2, k_a2, k_n3, k_a3, k_n4, k_a4, k_n5, k_a5, k_n6, k_a6, k_n7, k_a7, k_n8, k_a8, k_o9, k_r9_1, k_r9_5, k_r9_6, k_r9_7, k_r9_9, k_r9_10, k_r9_11, k_n10, k_a10, k_n11, k_a11, k_n12, k_a12, k_n13, k_a13, k_n14, k_a14, k_n15, k_a15, k_n16, k_a16, k_o17, k_r17_0, k_r17_2, k_n18, k_a18, k_o19, k_r19_1, k_r19_5, k_r19_6, k_r19_7, k_r19_9, k_r19_10, k_r19_11, k_n20, k_a20, k_n21, k_a21, k_n22, k_a22, k_n23, k_a23, k_n24, k_a24, k_n25, k_a25, k_n26, k_a26, k_o27, k_r27_1, k_r27_2, k_r27_3, k_n28, k_a28, k_n29, k_a29, k_n30, k_a30, k_o31, k_r31_2, k_r31_3, k_r31_4, k_r31_5, k_r31_6, k_n32, k_a32, k_n33, k_a33, k_n34, k_a34, k_n35, k_a35, k_n36, k_a36, k_o37, k_r37_0, k_r37_3, k_r37_5, k_r37_6, k_r37_7, k_r37_8, k_n38, k_a38, k_n39, k_a39, k_n40, k_a40, k_n41, k_a41, k_n42, k_a42, k_n43, k_a43, k_o44, k_r44_0, k_r44_1, k_n45, k_a45, k_n46, k_a46, k_o47, k_r47_1, k_r47_2, k_n48, k_a48, k_n49, k_a49, k_o50, k_r50_0, k_n51, k_a51, k_n52, k_a52, k_n53, k_a53, k_o54, k_r54_5, k_r54_6, k_r54_7, k_r54_8, k_r54_9, k_r54_10, k_r54_11, k_r54_13, k_r54_14, k_r54_19, k_r54_20, k_r54_21, k_r54_22, k_r54_23, k_r54_28, k_r54_29, k_r54_32, k_r54_33, k_r54_34, k_r54_37, k_r54_38, k_r54_40, k_r54_41, k_r54_42, k_r54_43, k_r54_44, k_r54_46, k_r54_47, k_n55, k_a55, k_n56, k_a56, k_n57, k_a57, k_n58, k_a58, k_n59, k_a59, k_n60, k_a60, k_n61, k_a61, k_n62, k_a62, k_n63, k_a63, k_n64, k_a64, k_n65, k_a65, k_n66, k_a66, k_n67, k_a67, k_n68, k_a68, k_n69, k_a69, k_n70, k_a70, k_n71, k_a71, k_n72, k_a72, k_n73, k_a73, k_n74, k_a74, k_n75, k_a75, k_n76, k_a76, k_n77, k_a77, k_n78, k_a78, k_n79, k_a79, k_n80, k_a80, k_n81, k_a81, k_n82, k_a82, Option.toList_some, Option.toList_none, List.cons_append, List.nil_append, ite10, ite10n, ite01, ite11, nem, and_true, true_and, eq_self, true_or, or_true, not_true_eq_false, not_false_eq_true, ne_eq, false_and, and_false, Int.reduceEq, Int.reduceNe, Int.reduceLT, Int.reduceLE, Int.reduceToNat, Int.reduceNeg, Nat.reduceEqDiff, Nat.reduceAdd, ↓reduceIte, nc1, w32_id, leT, leF, ltT, ltF, o3, hp, hv, if_true, Bool.false_eq_true, if_false]
    · unfold fdI
      split
      · have hq := (m_countAhead (d := 0) (Q := fun _ _ => True) (A := s.2.2) (r := Z) (M := 36 * c) (c := c) (n := n) (g := hset g 70 s2) (by rw [hset_row (by decide)]; exact hn) hn2 hn6 (by rw [hset_same]; exact o1) h2 (by omega)).2
        exact ⟨by omega, fun y => by have := hq y; omega⟩
      · exact ⟨by omega, fun y => by have := h2 y; omega⟩) (n ^ n) 0 (0, -1, fun _ => 0) (g 70) (by omega) ⟨Nat.le_refl 0, fun _ => Nat.le_refl 0⟩
  obtain ⟨x, l1, l2, l3⟩ := lp
  have hc := fun d Q => m_codes (d := d) (Q := Q) (n := n) (g := hset (hput (hput g 54 30 0) 54 31 (-1)) 71 Z) (by simp (disch := omega) only [hset_row, hput_ne]; exact hn) hn6
  have e70 : hset (hput (hput g 54 30 0) 54 31 (-1)) 70 (g 70) = hput (hput g 54 30 0) 54 31 (-1) := by
    have : hput (hput g 54 30 0) 54 31 (-1) 70 = g 70 := by rw [hput_row (by decide), hput_row (by decide)]
    rw [← this, hset_self]
  have e00 : ((0 : Nat) : Int) = 0 := rfl
  try dsimp only at l0 l1
  rw [e00, e70, ← z1] at l1
  rw [e0] at l0
  simp only [s185_0, s185_1, s185_2, s185_5, s185_6, s185_7, s185_10, s185_11, s185_13, s185_15, s185_18, s185_19, s185_22, s185_23, s185_24, s185_25, s185_28, s185_31, s185_32, s185_35, s185_36, s185_37, s185_39, s185_40, s185_43, s185_44, s185_45, s185_48, s185_51, s185_52, s185_55, s185_58, s185_59, s185_60, s185_63, s185_66, s185_67, s185_70, s185_71, s185_74, s185_77, s185_78, s185_79, s185_82, s185_83, s185_84, s185_87, s185_88, s185_91, s185_94, s185_97, k_o0, k_r0_0, k_r0_1, k_r0_3, k_r0_4, k_r0_5, k_r0_6, k_r0_7, k_r0_8, k_r0_9, k_r0_10, k_r0_12, k_o1, k_r1_1, k_r1_5, k_r1_6, k_r1_7, k_r1_9, k_r1_10, k_r1_11, k_n2, k_a2, k_n3, k_a3, k_n4, k_a4, k_n5, k_a5, k_n6, k_a6, k_n7, k_a7, k_n8, k_a8, k_o9, k_r9_1, k_r9_5, k_r9_6, k_r9_7, k_r9_9, k_r9_10, k_r9_11, k_n10, k_a10, k_n11, k_a11, k_n12, k_a12, k_n13, k_a13, k_n14, k_a14, k_n15, k_a15, k_n16, k_a16, k_o17, k_r17_0, k_r17_2, k_n18, k_a18, k_o19, k_r19_1, k_r19_5, k_r19_6, k_r19_7, k_r19_9, k_r19_10, k_r19_11, k_n20, k_a20, k_n21, k_a21, k_n22, k_a22, k_n23, k_a23, k_n24, k_a24, k_n25, k_a25, k_n26, k_a26, k_o27, k_r27_1, k_r27_2, k_r27_3, k_n28, k_a28, k_n29, k_a29, k_n30, k_a30, k_o31, k_r31_2, k_r31_3, k_r31_4, k_r31_5, k_r31_6, k_n32, k_a32, k_n33, k_a33, k_n34, k_a34, k_n35, k_a35, k_n36, k_a36, k_o37, k_r37_0, k_r37_3, k_r37_5, k_r37_6, k_r37_7, k_r37_8, k_n38, k_a38, k_n39, k_a39, k_n40, k_a40, k_n41, k_a41, k_n42, k_a42, k_n43, k_a43, k_o44, k_r44_0, k_r44_1, k_n45, k_a45, k_n46, k_a46, k_o47, k_r47_1, k_r47_2, k_n48, k_a48, k_n49, k_a49, k_o50, k_r50_0, k_n51, k_a51, k_n52, k_a52, k_n53, k_a53, k_o54, k_r54_5, k_r54_6, k_r54_7, k_r54_8, k_r54_9, k_r54_10, k_r54_11, k_r54_13, k_r54_14, k_r54_19, k_r54_20, k_r54_21, k_r54_22, k_r54_23, k_r54_28, k_r54_29, k_r54_32, k_r54_33, k_r54_34, k_r54_37, k_r54_38, k_r54_40, k_r54_41, k_r54_42, k_r54_43, k_r54_44, k_r54_46, k_r54_47, k_n55, k_a55, k_n56, k_a56, k_n57, k_a57, k_n58, k_a58, k_n59, k_a59, k_n60, k_a60, k_n61, k_a61, k_n62, k_a62, k_n63, k_a63, k_n64, k_a64, k_n65, k_a65, k_n66, k_a66, k_n67, k_a67, k_n68, k_a68, k_n69, k_a69, k_n70, k_a70, k_n71, k_a71, k_n72, k_a72, k_n73, k_a73, k_n74, k_a74, k_n75, k_a75, k_n76, k_a76, k_n77, k_a77, k_n78, k_a78, k_n79, k_a79, k_n80, k_a80, k_n81, k_a81, k_n82, k_a82, Option.toList_some, Option.toList_none, List.cons_append, List.nil_append, ite10, ite10n, ite01, ite11, nem, and_true, true_and, eq_self, true_or, or_true, not_true_eq_false, not_false_eq_true, ne_eq, false_and, and_false, Int.reduceEq, Int.reduceNe, Int.reduceLT, Int.reduceLE, Int.reduceToNat, Int.reduceNeg, Nat.reduceEqDiff, Nat.reduceAdd, ↓reduceIte]
  refine l0.mpr ?_
  rw [s185_12]
  simp (disch := omega) only [s185_0, s185_1, s185_2, s185_5, s185_6, s185_7, s185_10, s185_11, s185_13, s185_15, s185_18, s185_19, s185_22, s185_23, s185_24, s185_25, s185_28, s185_31, s185_32, s185_35, s185_36, s185_37, s185_39, s185_40, s185_43, s185_44, s185_45, s185_48, s185_51, s185_52, s185_55, s185_58, s185_59, s185_60, s185_63, s185_66, s185_67, s185_70, s185_71, s185_74, s185_77, s185_78, s185_79, s185_82, s185_83, s185_84, s185_87, s185_88, s185_91, s185_94, s185_97, k_o0, k_r0_0, k_r0_1, k_r0_3, k_r0_4, k_r0_5, k_r0_6, k_r0_7, k_r0_8, k_r0_9, k_r0_10, k_r0_12, k_o1, k_r1_1, k_r1_5, k_r1_6, k_r1_7, k_r1_9, k_r1_10, k_r1_11, k_n2, k_a2, k_n3, k_a3, k_n4, k_a4, k_n5, k_a5, k_n6, k_a6, k_n7, k_a7, k_n8, k_a8, k_o9, k_r9_1, k_r9_5, k_r9_6, k_r9_7, k_r9_9, k_r9_10, k_r9_11, k_n10, k_a10, k_n11, k_a11, k_n12, k_a12, k_n13, k_a13, k_n14, k_a14, k_n15, k_a15, k_n16, k_a16, k_o17, k_r17_0, k_r17_2, k_n18, k_a18, k_o19, k_r19_1, k_r19_5, k_r19_6, k_r19_7, k_r19_9, k_r19_10, k_r19_11, k_n20, k_a20, k_n21, k_a21, k_n22, k_a22, k_n23, k_a23, k_n24, k_a24, k_n25, k_a25, k_n26, k_a26, k_o27, k_r27_1, k_r27_2, k_r27_3, k_n28, k_a28, k_n29, k_a29, k_n30, k_a30, k_o31, k_r31_2, k_r31_3, k_r31_4, k_r31_5, k_r31_6, k_n32, k_a32, k_n33, k_a33, k_n34, k_a34, k_n35, k_a35, k_n36, k_a36, k_o37, k_r37_0, k_r37_3, k_r37_5, k_r37_6, k_r37_7, k_r37_8, k_n38, k_a38, k_n39, k_a39, k_n40, k_a40, k_n41, k_a41, k_n42, k_a42, k_n43, k_a43, k_o44, k_r44_0, k_r44_1, k_n45, k_a45, k_n46, k_a46, k_o47, k_r47_1, k_r47_2, k_n48, k_a48, k_n49, k_a49, k_o50, k_r50_0, k_n51, k_a51, k_n52, k_a52, k_n53, k_a53, k_o54, k_r54_5, k_r54_6, k_r54_7, k_r54_8, k_r54_9, k_r54_10, k_r54_11, k_r54_13, k_r54_14, k_r54_19, k_r54_20, k_r54_21, k_r54_22, k_r54_23, k_r54_28, k_r54_29, k_r54_32, k_r54_33, k_r54_34, k_r54_37, k_r54_38, k_r54_40, k_r54_41, k_r54_42, k_r54_43, k_r54_44, k_r54_46, k_r54_47, k_n55, k_a55, k_n56, k_a56, k_n57, k_a57, k_n58, k_a58, k_n59, k_a59, k_n60, k_a60, k_n61, k_a61, k_n62, k_a62, k_n63, k_a63, k_n64, k_a64, k_n65, k_a65, k_n66, k_a66, k_n67, k_a67, k_n68, k_a68, k_n69, k_a69, k_n70, k_a70, k_n71, k_a71, k_n72, k_a72, k_n73, k_a73, k_n74, k_a74, k_n75, k_a75, k_n76, k_a76, k_n77, k_a77, k_n78, k_a78, k_n79, k_a79, k_n80, k_a80, k_n81, k_a81, k_n82, k_a82, Option.toList_some, Option.toList_none, List.cons_append, List.nil_append, ite10, ite10n, ite01, ite11, nem, and_true, true_and, eq_self, true_or, or_true, not_true_eq_false, not_false_eq_true, ne_eq, false_and, and_false, Int.reduceEq, Int.reduceNe, Int.reduceLT, Int.reduceLE, Int.reduceToNat, Int.reduceNeg, Nat.reduceEqDiff, Nat.reduceAdd, ↓reduceIte, leT, hc]
  refine l1.mpr ?_
  rw [s185_38]
  simp (disch := omega) only [s185_0, s185_1, s185_2, s185_5, s185_6, s185_7, s185_10, s185_11, s185_13, s185_15, s185_18, s185_19, s185_22, s185_23, s185_24, s185_25, s185_28, s185_31, s185_32, s185_35, s185_36, s185_37, s185_39, s185_40, s185_43, s185_44, s185_45, s185_48, s185_51, s185_52, s185_55, s185_58, s185_59, s185_60, s185_63, s185_66, s185_67, s185_70, s185_71, s185_74, s185_77, s185_78, s185_79, s185_82, s185_83, s185_84, s185_87, s185_88, s185_91, s185_94, s185_97, k_o0, k_r0_0, k_r0_1, k_r0_3, k_r0_4, k_r0_5, k_r0_6, k_r0_7, k_r0_8, k_r0_9, k_r0_10, k_r0_12, k_o1, k_r1_1, k_r1_5, k_r1_6, k_r1_7, k_r1_9, k_r1_10, k_r1_11, k_n2, k_a2, k_n3, k_a3, k_n4, k_a4, k_n5, k_a5, k_n6, k_a6, k_n7, k_a7, k_n8, k_a8, k_o9, k_r9_1, k_r9_5, k_r9_6, k_r9_7, k_r9_9, k_r9_10, k_r9_11, k_n10, k_a10, k_n11, k_a11, k_n12, k_a12, k_n13, k_a13, k_n14, k_a14, k_n15, k_a15, k_n16, k_a16, k_o17, k_r17_0, k_r17_2, k_n18, k_a18, k_o19, k_r19_1, k_r19_5, k_r19_6, k_r19_7, k_r19_9, k_r19_10, k_r19_11, k_n20, k_a20, k_n21, k_a21, k_n22, k_a22, k_n23, k_a23, k_n24, k_a24, k_n25, k_a25, k_n26, k_a26, k_o27, k_r27_1, k_r27_2, k_r27_3, k_n28, k_a28, k_n29, k_a29, k_n30, k_a30, k_o31, k_r31_2, k_r31_3, k_r31_4, k_r31_5, k_r31_6, k_n32, k_a32, k_n33, k_a33, k_n34, k_a34, k_n35, k_a35, k_n36, k_a36, k_o37, k_r37_0, k_r37_3, k_r37_5, k_r37_6, k_r37_7, k_r37_8, k_n38, k_a38, k_n39, k_a39, k_n40, k_a40, k_n41, k_a41, k_n42, k_a42, k_n43, k_a43, k_o44, k_r44_0, k_r44_1, k_n45, k_a45, k_n46, k_a46, k_o47, k_r47_1, k_r47_2, k_n48, k_a48, k_n49, k_a49, k_o50, k_r50_0, k_n51, k_a51, k_n52, k_a52, k_n53, k_a53, k_o54, k_r54_5, k_r54_6, k_r54_7, k_r54_8, k_r54_9, k_r54_10, k_r54_11, k_r54_13, k_r54_14, k_r54_19, k_r54_20, k_r54_21, k_r54_22, k_r54_23, k_r54_28, k_r54_29, k_r54_32, k_r54_33, k_r54_34, k_r54_37, k_r54_38, k_r54_40, k_r54_41, k_r54_42, k_r54_43, k_r54_44, k_r54_46, k_r54_47, k_n55, k_a55, k_n56, k_a56, k_n57, k_a57, k_n58, k_a58, k_n59, k_a59, k_n60, k_a60, k_n61, k_a61, k_n62, k_a62, k_n63, k_a63, k_n64, k_a64, k_n65, k_a65, k_n66, k_a66, k_n67, k_a67, k_n68, k_a68, k_n69, k_a69, k_n70, k_a70, k_n71, k_a71, k_n72, k_a72, k_n73, k_a73, k_n74, k_a74, k_n75, k_a75, k_n76, k_a76, k_n77, k_a77, k_n78, k_a78, k_n79, k_a79, k_n80, k_a80, k_n81, k_a81, k_n82, k_a82, Option.toList_some, Option.toList_none, List.cons_append, List.nil_append, ite10, ite10n, ite01, ite11, nem, and_true, true_and, eq_self, true_or, or_true, not_true_eq_false, not_false_eq_true, ne_eq, false_and, and_false, Int.reduceEq, Int.reduceNe, Int.reduceLT, Int.reduceLE, Int.reduceToNat, Int.reduceNeg, Nat.reduceEqDiff, Nat.reduceAdd, ↓reduceIte, leT]
  refine hQ _ ⟨fun i h1 h2 h3 => ?_, fun k h1 h2 => ?_, ?_, ?_, fun j hj => ?_⟩
  · rw [hset_row h3, hset_row h2, hput_row h1, hput_row h1]
  · rw [hset_row (by decide), hset_row (by decide), hput_ne (Or.inr h2), hput_ne (Or.inr h1)]
  · rw [hset_row (by decide), hset_row (by decide), hput_ne (by decide), hput_same]
    rfl
  · rw [hset_row (by decide), hset_row (by decide), hput_same]
    rfl
  · rw [hset_same, mixN_at hj]
    rfl
end ORF
