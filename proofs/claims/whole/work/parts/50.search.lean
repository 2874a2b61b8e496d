/-! an order by its places; which orders fit; how many -/
def po (n c j : Nat) : Nat := dg n (n - 1 - j) c
def px (n c : Nat) : Nat → Nat
  | 0 => 0
  | i + 1 => px n c i ||| 2 ^ po n c i
theorem po_lt {n c j : Nat} (hn : 0 < n) : po n c j < n := dg_lt hn
theorem px_lt {n c : Nat} (hn : 0 < n) : ∀ i, px n c i < 2 ^ n
  | 0 => Nat.two_pow_pos n
  | i + 1 => or_lt (px_lt hn i) (po_lt hn)
theorem px_bit {n c b : Nat} : ∀ i, (px n c i).testBit b = true ↔ ∃ j, j < i ∧ po n c j = b
  | 0 => by
    rw [px, Nat.zero_testBit]
    constructor
    · intro z; cases z
    · rintro ⟨j, h, _⟩; omega
  | i + 1 => by
    rw [px, Nat.testBit_or, Bool.or_eq_true, px_bit i, bit_pow, decide_eq_true_eq]
    constructor
    · rintro (⟨j, h1, h2⟩ | h)
      · exact ⟨j, by omega, h2⟩
      · exact ⟨i, by omega, h⟩
    · rintro ⟨j, h1, h2⟩
      by_cases hj : j = i
      · subst hj; exact Or.inr h2
      · exact Or.inl ⟨j, by omega, h2⟩
theorem px_in {n c i j : Nat} (h : j < i) : (px n c i).testBit (po n c j) = true := (px_bit i).mpr ⟨j, h, rfl⟩
theorem px_pc {n c : Nat} (hn : 0 < n) : ∀ i, pc n (px n c i) ≤ i
  | 0 => by rw [px, pc_zero]; exact Nat.le_refl _
  | i + 1 => by
    have ih := px_pc (c := c) hn i
    rw [px]
    cases hb : (px n c i).testBit (po n c i)
    · rw [pc_put (po_lt hn) hb]; omega
    · rw [put_in hb]; omega
theorem px_dup {n c j : Nat} (hn : 0 < n) (h : (px n c j).testBit (po n c j) = true) : ∀ i, j < i → pc n (px n c i) + 1 ≤ i
  | 0, h1 => absurd h1 (Nat.not_lt_zero j)
  | i + 1, h1 => by
    rw [px]
    by_cases hj : j = i
    · subst hj
      rw [put_in h]
      have := px_pc (c := c) hn j
      omega
    · have ih := px_dup hn h i (by omega)
      cases hb : (px n c i).testBit (po n c i)
      · rw [pc_put (po_lt hn) hb]; omega
      · rw [put_in hb]; omega
theorem px_inj {n c j : Nat} (hn : 0 < n) (h : px n c n = 2 ^ n - 1) (hj : j < n) : (px n c j).testBit (po n c j) = false := by
  cases hb : (px n c j).testBit (po n c j)
  · rfl
  · have := px_dup hn hb n hj
    rw [h, pc_full] at this
    omega
theorem px_all {n c a : Nat} (h : px n c n = 2 ^ n - 1) (ha : a < n) : ∃ k, k < n ∧ po n c k = a := (px_bit n).mp (by rw [h, full_bit, decide_eq_true ha])
theorem po_ne {n c i j : Nat} (hn : 0 < n) (h : px n c n = 2 ^ n - 1) (hi : i < n) (hj : j < n) (he : po n c i = po n c j) : i = j := by
  rcases Nat.lt_trichotomy i j with q | q | q
  · have := px_inj hn h hj
    rw [← he, px_in q] at this
    cases this
  · exact q
  · have := px_inj hn h hi
    rw [he, px_in q] at this
    cases this
theorem pv_px {n c : Nat} : ∀ k i, k + i = n → (pv n k (px n c i) c = true ↔ (∀ j, i ≤ j → j < n → (px n c j).testBit (po n c j) = false) ∧ px n c n = 2 ^ n - 1)
  | 0, i, h => by
    have : i = n := by omega
    subst this
    rw [pv, beq_iff_eq]
    exact ⟨fun z => ⟨fun j h1 h2 => by omega, z⟩, fun z => z.2⟩
  | k + 1, i, h => by
    have e : dg n k c = po n c i := by unfold po; congr 1; omega
    rw [pv, e, show px n c i ||| 2 ^ po n c i = px n c (i + 1) from rfl, Bool.and_eq_true, pv_px k (i + 1) (by omega), Bool.not_eq_true']
    constructor
    · rintro ⟨h1, h2, h3⟩
      refine ⟨fun j h4 h5 => ?_, h3⟩
      by_cases hj : j = i
      · subst hj; exact h1
      · exact h2 j (by omega) h5
    · rintro ⟨h1, h2⟩
      exact ⟨h1 i (Nat.le_refl i) (by omega), fun j h3 h4 => h1 j (by omega) h4, h2⟩
theorem pv_full {n c : Nat} (hn : 0 < n) : pv n n 0 c = true ↔ px n c n = 2 ^ n - 1 := by
  have := pv_px (n := n) (c := c) n 0 (by omega)
  rw [show px n c 0 = 0 from rfl] at this
  rw [this]
  exact ⟨fun z => z.2, fun z => ⟨fun j _ h2 => px_inj hn z h2, z⟩⟩
theorem ct_px {w : Nat → Nat → Nat} {n c : Nat} : ∀ k i, k + i = n → ct w n k (px n c i) c = sN (fun j => w (po n c (i + j)) (px n c (i + j))) k
  | 0, _, _ => rfl
  | k + 1, i, h => by
    have e : dg n k c = po n c i := by unfold po; congr 1; omega
    rw [ct, e, show px n c i ||| 2 ^ po n c i = px n c (i + 1) from rfl, ct_px k (i + 1) (by omega), Nat.add_comm k 1, sN_split]
    have e1 : sN (fun j => w (po n c (i + j)) (px n c (i + j))) 1 = w (po n c i) (px n c i) := by
      rw [sN, sN, Nat.zero_add, Nat.add_zero]
    rw [e1]
    congr 1
    exact sN_cong k (fun j _ => by rw [Nat.add_assoc])
theorem ct_sum {w : Nat → Nat → Nat} {n c : Nat} : ct w n n 0 c = sN (fun j => w (po n c j) (px n c j)) n := by
  have := ct_px (w := w) (n := n) (c := c) n 0 (by omega)
  rw [show px n c 0 = 0 from rfl] at this
  rw [this]
  exact sN_cong n (fun j _ => by rw [Nat.zero_add])
theorem sN_zero {f : Nat → Nat} : ∀ n, sN f n = 0 ↔ ∀ i, i < n → f i = 0
  | 0 => ⟨fun _ i hi => absurd hi (Nat.not_lt_zero i), fun _ => rfl⟩
  | n + 1 => by
    rw [sN, Nat.add_eq_zero_iff, sN_zero n]
    constructor
    · rintro ⟨h1, h2⟩ i hi
      by_cases e : i = n
      · subst e; exact h2
      · exact h1 i (by omega)
    · intro h
      exact ⟨fun i hi => h i (by omega), h n (by omega)⟩
def wU (U : Nat → Nat) (s P : Nat) : Nat := if anot (U s) P = 0 then 0 else 1
theorem wU_le {U : Nat → Nat} {s P : Nat} : wU U s P ≤ 1 := by unfold wU; split <;> omega
theorem anot_zero {a b : Nat} : anot a b = 0 ↔ ∀ i, a.testBit i = true → b.testBit i = true := by
  constructor
  · intro h i hi
    have : (anot a b).testBit i = false := by rw [h, Nat.zero_testBit]
    rw [anot_bit, hi] at this
    cases hb : b.testBit i
    · rw [hb] at this; cases this
    · rfl
  · intro h
    apply Nat.eq_of_testBit_eq
    intro i
    rw [anot_bit, Nat.zero_testBit]
    cases ha : a.testBit i
    · rfl
    · rw [h i ha]; rfl
theorem wU_zero {U : Nat → Nat} {s P : Nat} : wU U s P = 0 ↔ ∀ i, (U s).testBit i = true → P.testBit i = true := by
  rw [← anot_zero]
  unfold wU
  constructor
  · intro h
    by_cases hz : anot (U s) P = 0
    · exact hz
    · rw [if_neg hz] at h; cases h
  · intro h; rw [if_pos h]
theorem ct_zero {U : Nat → Nat} {n c : Nat} : ct (wU U) n n 0 c = 0 ↔ ∀ j, j < n → ∀ i, (U (po n c j)).testBit i = true → (px n c j).testBit i = true := by
  rw [ct_sum, sN_zero]
  exact ⟨fun h j hj => wU_zero.mp (h j hj), fun h j hj => wU_zero.mpr (h j hj)⟩
theorem fits_iff {f : Nat → Nat} {n c : Nat} (hn : 0 < n) (hf : MS n f) (h : px n c n = 2 ^ n - 1) : (∀ k, k < n → ∀ b, (f (po n c k)).testBit b = true → (px n c (k + 1)).testBit b = false) ↔ ct (wU (unF n f)) n n 0 c = 0 := by
  rw [ct_zero]
  constructor
  · intro h1 j hj a ha
    rw [unF_bit hf] at ha
    have han : a < n := by
      rcases Nat.lt_or_ge a n with q | q
      · exact q
      · rw [hf.bit (Or.inl q)] at ha; cases ha
    obtain ⟨k, hk, rfl⟩ := px_all h han
    rcases Nat.lt_or_ge k j with q | q
    · exact px_in q
    · have := h1 k hk _ ha
      rw [px_in (by omega)] at this
      cases this
  · intro h1 k hk b hb
    cases hx : (px n c (k + 1)).testBit b
    · rfl
    · obtain ⟨i, hi, rfl⟩ := (px_bit _).mp hx
      have := h1 i (by omega) (po n c k) (by rw [unF_bit hf]; exact hb)
      obtain ⟨i2, h2, h3⟩ := (px_bit _).mp this
      have := po_ne hn h (by omega) hk h3
      omega
theorem ahead_iff {U : Nat → Nat} {n c a b : Nat} (hn : 0 < n) (h : px n c n = 2 ^ n - 1) (hb : b < n) : ct (wU (nput U b (U b ||| 2 ^ a))) n n 0 c = 0 ↔ (ct (wU U) n n 0 c = 0 ∧ ∃ p q, p < q ∧ q < n ∧ po n c p = a ∧ po n c q = b) := by
  rw [ct_zero, ct_zero]
  constructor
  · intro h1
    refine ⟨fun j hj i hi => h1 j hj i ?_, ?_⟩
    · by_cases e : po n c j = b
      · rw [e, nput_same, Nat.testBit_or, ← e, hi]; rfl
      · rw [nput_ne e]; exact hi
    · obtain ⟨q, hq, e⟩ := px_all h hb
      have := h1 q hq a (by rw [e, nput_same, Nat.testBit_or, bit_pow]; simp)
      obtain ⟨p, hp, e2⟩ := (px_bit _).mp this
      exact ⟨p, q, hp, hq, e2, e⟩
  · rintro ⟨h1, p, q, h2, h3, h4, h5⟩ j hj i hi
    by_cases e : po n c j = b
    · rw [e, nput_same, Nat.testBit_or, Bool.or_eq_true] at hi
      rcases hi with hi | hi
      · exact h1 j hj i (by rw [e]; exact hi)
      · rw [bit_pow, decide_eq_true_eq] at hi
        subst hi
        have : j = q := po_ne hn h hj h3 (by rw [e, h5])
        subst this
        rw [← h4]
        exact px_in h2
    · rw [nput_ne e] at hi
      exact h1 j hj i hi
/-! how many orders fit: forth by codes, back by sets -/
def cn (U : Nat → Nat) (n k P : Nat) : Nat := sN (fun c => if pv n k P c && ct (wU U) n k P c == 0 then 1 else 0) (n ^ k)
def pF (U : Nat → Nat) (n : Nat) : Nat → Nat → Nat
  | 0, P => if P = 0 then 1 else 0
  | j + 1, R => sN (fun l => if R.testBit l && wU U l (anot R (2 ^ l)) == 0 then pF U n j (anot R (2 ^ l)) else 0) n
theorem cn_s {U : Nat → Nat} {n k P : Nat} : cn U n (k + 1) P = sN (fun d => if !P.testBit d && wU U d P == 0 then cn U n k (P ||| 2 ^ d) else 0) n := by
  unfold cn
  rw [Nat.pow_succ, Nat.mul_comm, sN_prod]
  refine sN_cong n (fun d hd => ?_)
  by_cases hz : (!P.testBit d && wU U d P == 0) = true
  · rw [if_pos hz]
    rw [Bool.and_eq_true, beq_iff_eq] at hz
    refine sN_cong _ (fun c hc => ?_)
    rw [pv_s hc hd, ct_s hc hd, hz.1, hz.2, Nat.zero_add, Bool.true_and]
  · rw [if_neg hz]
    refine sN_z _ (fun c hc => ?_)
    rw [if_neg]
    intro z
    rw [pv_s hc hd, ct_s hc hd, Bool.and_eq_true, Bool.and_eq_true, beq_iff_eq, Nat.add_eq_zero_iff] at z
    exact hz (by rw [z.1.1, z.2.1]; rfl)
theorem add_pow {P n : Nat} (h : P < 2 ^ n) : 2 ^ n + P = P ||| 2 ^ n := by rw [Nat.or_two_pow_eq_add_of_lt h, Nat.add_comm]
theorem bij {d : Nat} : ∀ (n : Nat) (φ : Nat → Nat → Nat), d < n → sN (fun P => if P.testBit d then 0 else φ P (P ||| 2 ^ d)) (2 ^ n) = sN (fun R => if R.testBit d then φ (anot R (2 ^ d)) R else 0) (2 ^ n)
  | 0, _, h => absurd h (Nat.not_lt_zero d)
  | n + 1, φ, h => by
    rw [Nat.pow_succ, Nat.mul_two, sN_split, sN_split]
    by_cases hd : d = n
    · subst hd
      have e1 : sN (fun i => if (2 ^ d + i).testBit d then 0 else φ (2 ^ d + i) ((2 ^ d + i) ||| 2 ^ d)) (2 ^ d) = 0 := sN_z _ (fun i hi => by rw [add_pow hi, Nat.testBit_or, bit_pow, decide_eq_true rfl, Bool.or_true]; rfl)
      have e2 : sN (fun R => if R.testBit d then φ (anot R (2 ^ d)) R else 0) (2 ^ d) = 0 := sN_z _ (fun i hi => by rw [Nat.testBit_lt_two_pow hi]; rfl)
      rw [e1, e2, Nat.add_zero, Nat.zero_add]
      refine sN_cong _ (fun i hi => ?_)
      have e3 : i.testBit d = false := Nat.testBit_lt_two_pow hi
      have e4 : anot (i ||| 2 ^ d) (2 ^ d) = i := by
        apply Nat.eq_of_testBit_eq
        intro j
        rw [anot_bit, Nat.testBit_or, bit_pow]
        by_cases hj : d = j
        · subst hj; simp [e3]
        · simp [hj]
      rw [e3, add_pow hi, Nat.testBit_or, e3, bit_pow, decide_eq_true rfl, e4]
      rfl
    · have hdn : d < n := by omega
      rw [bij n φ hdn]
      congr 1
      rw [sN_cong (g := fun P => if P.testBit d then 0 else (fun A B => φ (2 ^ n + A) (2 ^ n + B)) P (P ||| 2 ^ d)) (2 ^ n) (fun i hi => ?_), bij n (fun A B => φ (2 ^ n + A) (2 ^ n + B)) hdn]
      · refine sN_cong _ (fun i hi => ?_)
        have e5 : 2 ^ n + anot i (2 ^ d) = anot (2 ^ n + i) (2 ^ d) := by
          rw [add_pow hi, add_pow (anot_le i (2 ^ d) hi)]
          apply Nat.eq_of_testBit_eq
          intro j
          rw [anot_bit, Nat.testBit_or, Nat.testBit_or, anot_bit, bit_pow, bit_pow]
          by_cases hj : d = j
          · subst hj
            have : ¬ n = d := fun z => hd z.symm
            simp [this]
          · simp [hj]
        have e6 : (2 ^ n + i).testBit d = i.testBit d := by
          rw [add_pow hi, Nat.testBit_or, bit_pow, decide_eq_false (fun z => hd z.symm), Bool.or_false]
        try dsimp only
        rw [e5, e6]
      · have e6 : (2 ^ n + i).testBit d = i.testBit d := by
          rw [add_pow hi, Nat.testBit_or, bit_pow, decide_eq_false (fun z => hd z.symm), Bool.or_false]
        have e7 : (2 ^ n + i) ||| 2 ^ d = 2 ^ n + (i ||| 2 ^ d) := by
          rw [add_pow hi, add_pow (or_lt hi hdn), Nat.or_assoc, Nat.or_assoc, Nat.or_comm (2 ^ n)]
        try dsimp only
        rw [e6, e7]
theorem exch {U : Nat → Nat} {n j k : Nat} : sN (fun P => pF U n j P * cn U n (k + 1) P) (2 ^ n) = sN (fun R => pF U n (j + 1) R * cn U n k R) (2 ^ n) := by
  have e1 : sN (fun P => pF U n j P * cn U n (k + 1) P) (2 ^ n) = sN (fun d => sN (fun P => if P.testBit d then 0 else (fun A B => if wU U d A == 0 then pF U n j A * cn U n k B else 0) P (P ||| 2 ^ d)) (2 ^ n)) n := by
    rw [← sN_swap]
    refine sN_cong _ (fun P _ => ?_)
    rw [cn_s, ← sN_mull]
    refine sN_cong _ (fun d _ => ?_)
    cases hb : P.testBit d <;> by_cases hw : wU U d P = 0 <;> simp [hw]
  have e2 : sN (fun R => pF U n (j + 1) R * cn U n k R) (2 ^ n) = sN (fun d => sN (fun R => if R.testBit d then (fun A B => if wU U d A == 0 then pF U n j A * cn U n k B else 0) (anot R (2 ^ d)) R else 0) (2 ^ n)) n := by
    rw [← sN_swap]
    refine sN_cong _ (fun R _ => ?_)
    rw [pF, ← sN_mulr]
    refine sN_cong _ (fun d _ => ?_)
    cases hb : R.testBit d <;> by_cases hw : wU U d (anot R (2 ^ d)) = 0 <;> simp [hw]
  rw [e1, e2]
  exact sN_cong n (fun d hd => bij n (fun A B => if wU U d A == 0 then pF U n j A * cn U n k B else 0) hd)
theorem cn_all {U : Nat → Nat} {n : Nat} : ∀ j k, j + k = n → sN (fun P => pF U n j P * cn U n k P) (2 ^ n) = cn U n n 0
  | 0, k, h => by
    have : k = n := by omega
    subst this
    rw [sN_one (p := 0) (Nat.two_pow_pos k) (fun i _ hi => by rw [pF, if_neg hi, Nat.zero_mul]), pF, if_pos rfl, Nat.one_mul]
  | j + 1, k, h => by
    rw [← exch]
    exact cn_all j (k + 1) (by omega)
theorem cn_pF {U : Nat → Nat} {n : Nat} : cn U n n 0 = pF U n n (2 ^ n - 1) := by
  have hp := Nat.two_pow_pos n
  have h0 : ∀ P, cn U n 0 P = if P = 2 ^ n - 1 then 1 else 0 := by
    intro P
    unfold cn
    rw [Nat.pow_zero, sN, sN, Nat.zero_add, pv, ct]
    by_cases e : P = 2 ^ n - 1
    · rw [if_pos e, e]; simp
    · rw [if_neg e]; simp [e]
  rw [← cn_all n 0 (by omega), sN_one (p := 2 ^ n - 1) (by omega) (fun i _ hi => by rw [h0, if_neg hi, Nat.mul_zero]), h0, if_pos rfl, Nat.mul_one]
/-- ways of a set -/
def wy (U : Nat → Nat) (n P : Nat) : Nat := pF U n (pc n P) P
theorem wy_zero {U : Nat → Nat} {n : Nat} : wy U n 0 = 1 := by unfold wy; rw [pc_zero, pF, if_pos rfl]
theorem wy_s {U : Nat → Nat} {n P : Nat} (hP : P < 2 ^ n) (h0 : ¬ P = 0) : wy U n P = sN (fun l => if P.testBit l && wU U l (anot P (2 ^ l)) == 0 then wy U n (anot P (2 ^ l)) else 0) n := by
  obtain ⟨j, hj⟩ : ∃ j, pc n P = j + 1 := ⟨pc n P - 1, by have : ¬ pc n P = 0 := fun z => h0 (pc_pos hP z); omega⟩
  unfold wy
  rw [hj, pF]
  refine sN_cong n (fun l hl => ?_)
  cases hb : P.testBit l
  · rfl
  · have := pc_out hl hb
    rw [show pc n (anot P (2 ^ l)) = j by omega]
theorem wy_full {U : Nat → Nat} {n : Nat} : wy U n (2 ^ n - 1) = cn U n n 0 := by unfold wy; rw [pc_full, cn_pF]
theorem pF_le {U : Nat → Nat} {n : Nat} (hn : n ≤ 6) : ∀ j P, pF U n j P ≤ 6 ^ j
  | 0, P => by rw [pF]; split <;> simp
  | j + 1, P => by
    rw [pF]
    have h1 := sN_le (f := fun l => if P.testBit l && wU U l (anot P (2 ^ l)) == 0 then pF U n j (anot P (2 ^ l)) else 0) (g := fun _ => 6 ^ j) n (fun l _ => by
      try dsimp only
      split
      · exact pF_le hn j _
      · exact Nat.zero_le _)
    rw [sN_const] at h1
    have h2 : n * 6 ^ j ≤ 6 * 6 ^ j := Nat.mul_le_mul_right _ hn
    rw [Nat.pow_succ, Nat.mul_comm (6 ^ j) 6]
    omega
theorem wy_le {U : Nat → Nat} {n P : Nat} (hn : n ≤ 6) : wy U n P ≤ 46656 := by
  have h1 := pF_le (U := U) hn (pc n P) P
  have h2 : (6 : Nat) ^ pc n P ≤ 6 ^ 6 := Nat.pow_le_pow_right (by decide) (Nat.le_trans pc_le hn)
  have h3 : (6 : Nat) ^ 6 = 46656 := by decide
  unfold wy
  omega
