/-! searching orders: sums, digits, how many bits -/
def sN (f : Nat → Nat) : Nat → Nat
  | 0 => 0
  | k + 1 => sN f k + f k
theorem sN_cong {f g : Nat → Nat} : ∀ n, (∀ i, i < n → f i = g i) → sN f n = sN g n
  | 0, _ => rfl
  | n + 1, h => by rw [sN, sN, sN_cong n (fun i hi => h i (by omega)), h n (by omega)]
theorem sN_z {f : Nat → Nat} (n : Nat) (h : ∀ i, i < n → f i = 0) : sN f n = 0 := by
  induction n with
  | zero => rfl
  | succ n ih => rw [sN, ih (fun i hi => h i (by omega)), h n (by omega)]
theorem sN_add {f g : Nat → Nat} : ∀ n, sN (fun i => f i + g i) n = sN f n + sN g n
  | 0 => rfl
  | n + 1 => by rw [sN, sN, sN, sN_add n]; omega
theorem sN_mulr {f : Nat → Nat} {a : Nat} : ∀ n, sN (fun i => f i * a) n = sN f n * a
  | 0 => by simp [sN]
  | n + 1 => by rw [sN, sN, sN_mulr n, Nat.add_mul]
theorem sN_mull {f : Nat → Nat} {a : Nat} : ∀ n, sN (fun i => a * f i) n = a * sN f n
  | 0 => by simp [sN]
  | n + 1 => by rw [sN, sN, sN_mull n, Nat.mul_add]
theorem sN_split {f : Nat → Nat} {a : Nat} : ∀ b, sN f (a + b) = sN f a + sN (fun i => f (a + i)) b
  | 0 => by simp [sN]
  | b + 1 => by rw [← Nat.add_assoc, sN, sN, sN_split b, Nat.add_assoc]
theorem sN_swap {f : Nat → Nat → Nat} {m : Nat} : ∀ n, sN (fun i => sN (fun j => f i j) m) n = sN (fun j => sN (fun i => f i j) n) m
  | 0 => by
    rw [sN]
    exact (sN_z m (fun _ _ => rfl)).symm
  | n + 1 => by
    rw [sN, sN_swap n, ← sN_add]
    rfl
theorem sN_prod {f : Nat → Nat} {b : Nat} : ∀ a, sN f (a * b) = sN (fun d => sN (fun c => f (d * b + c)) b) a
  | 0 => by simp [sN]
  | a + 1 => by rw [Nat.add_mul, Nat.one_mul, sN_split, sN_prod a, sN]
theorem sN_le {f g : Nat → Nat} : ∀ n, (∀ i, i < n → f i ≤ g i) → sN f n ≤ sN g n
  | 0, _ => Nat.le_refl _
  | n + 1, h => by
    rw [sN, sN]
    exact Nat.add_le_add (sN_le n (fun i hi => h i (by omega))) (h n (by omega))
theorem sN_const {a : Nat} : ∀ n, sN (fun _ => a) n = n * a
  | 0 => by simp [sN]
  | n + 1 => by rw [sN, sN_const n, Nat.add_mul, Nat.one_mul]
/-- at one place one more -/
theorem sN_upd {f g : Nat → Nat} {s x : Nat} : ∀ n, s < n → (∀ i, i < n → ¬ i = s → g i = f i) → g s = f s + x → sN g n = sN f n + x
  | 0, h, _, _ => absurd h (Nat.not_lt_zero s)
  | n + 1, h, h1, h2 => by
    rw [sN, sN]
    by_cases hs : s = n
    · subst hs
      rw [sN_cong s (fun i hi => h1 i (by omega) (by omega)), h2, Nat.add_assoc]
    · rw [sN_upd n (by omega) (fun i hi => h1 i (by omega)) h2, h1 n (by omega) (fun z => hs z.symm)]
      omega
theorem sN_one {f : Nat → Nat} {p n : Nat} (hp : p < n) (h : ∀ i, i < n → ¬ i = p → f i = 0) : sN f n = f p := by
  have e := sN_upd (f := fun _ => 0) (g := f) (s := p) (x := f p) n hp (fun i hi hne => h i hi hne) (by simp)
  rw [e, sN_z n (fun _ _ => rfl), Nat.zero_add]
def pc (n P : Nat) : Nat := sN (fun i => if P.testBit i then 1 else 0) n
theorem pc_le {n P : Nat} : pc n P ≤ n := by
  unfold pc
  have := sN_le (f := fun i => if P.testBit i then 1 else 0) (g := fun _ => 1) n (fun i _ => by split <;> omega)
  rw [sN_const] at this
  omega
theorem pc_put {n P s : Nat} (hs : s < n) (h : P.testBit s = false) : pc n (P ||| 2 ^ s) = pc n P + 1 := by
  unfold pc
  refine sN_upd n hs (fun i _ hne => ?_) ?_
  · rw [Nat.testBit_or, bit_pow]
    have : decide (s = i) = false := decide_eq_false (fun z => hne z.symm)
    rw [this, Bool.or_false]
  · rw [Nat.testBit_or, bit_pow, h]
    simp
theorem put_in {P s : Nat} (h : P.testBit s = true) : P ||| 2 ^ s = P := by
  apply Nat.eq_of_testBit_eq
  intro i
  rw [Nat.testBit_or, bit_pow]
  by_cases hi : s = i
  · subst hi; simp [h]
  · simp [hi]
theorem pc_out {n P s : Nat} (hs : s < n) (h : P.testBit s = true) : pc n P = pc n (anot P (2 ^ s)) + 1 := by
  unfold pc
  refine sN_upd n hs (fun i _ hne => ?_) ?_
  · rw [anot_bit, bit_pow]
    have : decide (s = i) = false := decide_eq_false (fun z => hne z.symm)
    rw [this, Bool.not_false, Bool.and_true]
  · rw [anot_bit, bit_pow, h]
    simp
theorem pc_zero {n : Nat} : pc n 0 = 0 := sN_z n (fun i _ => by rw [Nat.zero_testBit]; rfl)
theorem full_bit {n i : Nat} : (2 ^ n - 1).testBit i = decide (i < n) := Nat.testBit_two_pow_sub_one n i
theorem pc_full {n : Nat} : pc n (2 ^ n - 1) = n := by
  unfold pc
  rw [sN_cong (g := fun _ => 1) n (fun i hi => by rw [full_bit, decide_eq_true hi]; rfl), sN_const, Nat.mul_one]
theorem pc_gap {P : Nat} : ∀ n, pc n P < n → ∃ s, s < n ∧ P.testBit s = false
  | 0, h => absurd h (Nat.not_lt_zero _)
  | n + 1, h => by
    cases hb : P.testBit n
    · exact ⟨n, by omega, hb⟩
    · have : pc n P < n := by
        unfold pc at h ⊢
        rw [sN, hb] at h
        simp only [if_true] at h
        omega
      obtain ⟨s, h1, h2⟩ := pc_gap n this
      exact ⟨s, by omega, h2⟩
theorem pc_eq {n P : Nat} (hP : P < 2 ^ n) (h : pc n P = n) : P = 2 ^ n - 1 := by
  apply Nat.eq_of_testBit_eq
  intro i
  rw [full_bit]
  by_cases hi : i < n
  · rw [decide_eq_true hi]
    cases hb : P.testBit i
    · have := pc_put hi hb
      have := pc_le (n := n) (P := P ||| 2 ^ i)
      omega
    · rfl
  · rw [decide_eq_false hi]
    exact Nat.testBit_lt_two_pow (Nat.lt_of_lt_of_le hP (Nat.pow_le_pow_right (by decide) (by omega)))
theorem pc_pos {n P : Nat} (hP : P < 2 ^ n) (h : pc n P = 0) : P = 0 := by
  apply Nat.eq_of_testBit_eq
  intro i
  rw [Nat.zero_testBit]
  by_cases hi : i < n
  · cases hb : P.testBit i
    · rfl
    · have := pc_out hi hb
      omega
  · exact Nat.testBit_lt_two_pow (Nat.lt_of_lt_of_le hP (Nat.pow_le_pow_right (by decide) (by omega)))
theorem or_lt {n P s : Nat} (hP : P < 2 ^ n) (hs : s < n) : P ||| 2 ^ s < 2 ^ n := Nat.or_lt_two_pow hP (pow_lt hs)
/-! digits of a code; orders that a code may be -/
def dg (n k c : Nat) : Nat := c / n ^ k % n
theorem dg_lt {n k c : Nat} (hn : 0 < n) : dg n k c < n := Nat.mod_lt _ hn
theorem dg_lo {n j k d c : Nat} (hn : 0 < n) (hj : j < k) : dg n j (d * n ^ k + c) = dg n j c := by
  unfold dg
  have e : n ^ k = n ^ j * (n * n ^ (k - j - 1)) := by
    rw [← Nat.mul_assoc, ← Nat.pow_succ, ← Nat.pow_add]
    congr 1
    omega
  rw [e, show d * (n ^ j * (n * n ^ (k - j - 1))) = n ^ j * (d * n ^ (k - j - 1) * n) by
    rw [Nat.mul_left_comm, Nat.mul_assoc, Nat.mul_comm n (n ^ (k - j - 1))]]
  rw [Nat.mul_add_div (Nat.pow_pos hn), Nat.add_comm, Nat.add_mul_mod_self_right]
theorem dg_hi {n k d c : Nat} (hc : c < n ^ k) (hd : d < n) : dg n k (d * n ^ k + c) = d := by
  unfold dg
  have hp : 0 < n ^ k := by omega
  rw [Nat.mul_comm, Nat.mul_add_div hp, Nat.div_eq_of_lt hc, Nat.add_zero, Nat.mod_eq_of_lt hd]
def pv (n : Nat) : Nat → Nat → Nat → Bool
  | 0, P, _ => P == 2 ^ n - 1
  | k + 1, P, c => !P.testBit (dg n k c) && pv n k (P ||| 2 ^ dg n k c) c
def ct (w : Nat → Nat → Nat) (n : Nat) : Nat → Nat → Nat → Nat
  | 0, _, _ => 0
  | k + 1, P, c => w (dg n k c) P + ct w n k (P ||| 2 ^ dg n k c) c
theorem pv_lo {n d c m : Nat} (hn : 0 < n) : ∀ k P, k ≤ m → pv n k P (d * n ^ m + c) = pv n k P c
  | 0, _, _ => rfl
  | k + 1, P, h => by rw [pv, pv, dg_lo hn (by omega), pv_lo hn k _ (by omega)]
theorem ct_lo {w : Nat → Nat → Nat} {n d c m : Nat} (hn : 0 < n) : ∀ k P, k ≤ m → ct w n k P (d * n ^ m + c) = ct w n k P c
  | 0, _, _ => rfl
  | k + 1, P, h => by rw [ct, ct, dg_lo hn (by omega), ct_lo hn k _ (by omega)]
theorem pv_s {n k P d c : Nat} (hc : c < n ^ k) (hd : d < n) : pv n (k + 1) P (d * n ^ k + c) = (!P.testBit d && pv n k (P ||| 2 ^ d) c) := by
  rw [pv, dg_hi hc hd, pv_lo (by omega) k _ (Nat.le_refl k)]
theorem ct_s {w : Nat → Nat → Nat} {n k P d c : Nat} (hc : c < n ^ k) (hd : d < n) : ct w n (k + 1) P (d * n ^ k + c) = w d P + ct w n k (P ||| 2 ^ d) c := by
  rw [ct, dg_hi hc hd, ct_lo (by omega) k _ (Nat.le_refl k)]
theorem code_split {n k c : Nat} (hc : c < n ^ (k + 1)) : ∃ d c', d < n ∧ c' < n ^ k ∧ c = d * n ^ k + c' := by
  have hp : 0 < n ^ k := by
    rcases Nat.eq_zero_or_pos (n ^ k) with h | h
    · rw [Nat.pow_succ, h, Nat.zero_mul] at hc
      omega
    · exact h
  refine ⟨c / n ^ k, c % n ^ k, ?_, Nat.mod_lt _ hp, ?_⟩
  · rw [Nat.div_lt_iff_lt_mul hp, Nat.mul_comm, ← Nat.pow_succ]
    exact hc
  · rw [Nat.mul_comm]
    exact (Nat.div_add_mod c (n ^ k)).symm
/-- the least that an order's rest costs -/
def Tm (w : Nat → Nat → Nat) (n : Nat) : Nat → Nat → Nat
  | 0, _ => 0
  | k + 1, P => itn (fun s acc => if P.testBit s then acc else min acc (w s P + Tm w n k (P ||| 2 ^ s))) n 0 64
theorem mn_le {p : Nat → Bool} {g : Nat → Nat} {s : Nat} : ∀ (k : Nat) (a : Nat), s < k → p s = false → itn (fun s acc => if p s then acc else min acc (g s)) k 0 a ≤ g s
  | 0, _, h, _ => absurd h (Nat.not_lt_zero s)
  | k + 1, a, h, hp => by
    rw [itn_e, Nat.zero_add]
    by_cases hs : s = k
    · subst hs
      rw [hp]
      exact Nat.min_le_right _ _
    · have ih := mn_le (p := p) (g := g) k a (by omega) hp
      try dsimp only
      split
      · exact ih
      · exact Nat.le_trans (Nat.min_le_left _ _) ih
theorem mn_is {p : Nat → Bool} {g : Nat → Nat} : ∀ (k : Nat) (a : Nat), itn (fun s acc => if p s then acc else min acc (g s)) k 0 a = a ∨ ∃ s, s < k ∧ p s = false ∧ itn (fun s acc => if p s then acc else min acc (g s)) k 0 a = g s
  | 0, _ => Or.inl rfl
  | k + 1, a => by
    rw [itn_e, Nat.zero_add]
    have ih := mn_is (p := p) (g := g) k a
    generalize itn (fun s acc => if p s then acc else min acc (g s)) k 0 a = v at ih
    cases hp : p k
    · simp only [Bool.false_eq_true, if_false]
      rcases Nat.le_total v (g k) with h | h
      · rw [Nat.min_eq_left h]
        rcases ih with h1 | ⟨s, h1, h2, h3⟩
        · exact Or.inl h1
        · exact Or.inr ⟨s, by omega, h2, h3⟩
      · rw [Nat.min_eq_right h]
        exact Or.inr ⟨k, by omega, hp, rfl⟩
    · simp only [if_true]
      rcases ih with h1 | ⟨s, h1, h2, h3⟩
      · exact Or.inl h1
      · exact Or.inr ⟨s, by omega, h2, h3⟩
theorem Tm_le {w : Nat → Nat → Nat} {n k P s : Nat} (hs : s < n) (h : P.testBit s = false) : Tm w n (k + 1) P ≤ w s P + Tm w n k (P ||| 2 ^ s) := mn_le (p := fun s => P.testBit s) (g := fun s => w s P + Tm w n k (P ||| 2 ^ s)) n 64 hs h
theorem Tm_b {w : Nat → Nat → Nat} {n : Nat} (hw : ∀ s P, w s P ≤ 6) : ∀ k P, k + pc n P = n → Tm w n k P ≤ 6 * k
  | 0, _, _ => Nat.le_refl _
  | k + 1, P, h => by
    obtain ⟨s, h1, h2⟩ := pc_gap (P := P) n (by omega)
    have e := pc_put h1 h2
    have q := Tm_b (n := n) hw k (P ||| 2 ^ s) (by omega)
    have q2 := Tm_le (w := w) (k := k) h1 h2
    have q3 := hw s P
    omega
theorem Tm_is {w : Nat → Nat → Nat} {n k P : Nat} (hw : ∀ s P, w s P ≤ 6) (hn : n ≤ 6) (h : k + 1 + pc n P = n) : ∃ s, s < n ∧ P.testBit s = false ∧ Tm w n (k + 1) P = w s P + Tm w n k (P ||| 2 ^ s) := by
  have hb := Tm_b hw (k + 1) P h
  rcases mn_is (p := fun s => P.testBit s) (g := fun s => w s P + Tm w n k (P ||| 2 ^ s)) n 64 with h1 | h1
  · have : Tm w n (k + 1) P = 64 := h1
    omega
  · exact h1
theorem Tm_ct {w : Nat → Nat → Nat} {n : Nat} : ∀ k P c, c < n ^ k → pv n k P c = true → Tm w n k P ≤ ct w n k P c
  | 0, _, _, _, _ => Nat.le_refl _
  | k + 1, P, c, hc, hp => by
    obtain ⟨d, c', h1, h2, rfl⟩ := code_split hc
    rw [pv_s h2 h1, Bool.and_eq_true, Bool.not_eq_true'] at hp
    rw [ct_s h2 h1]
    have q := Tm_le (w := w) (k := k) h1 hp.1
    have q2 := Tm_ct (w := w) k _ c' h2 hp.2
    omega
/-- the first that is so; 0 if none -/
def fst1 (p : Nat → Bool) : Nat → Nat → Nat
  | 0, _ => 0
  | k + 1, s => if p s then s else fst1 p k (s + 1)
theorem fst1_is {p : Nat → Bool} : ∀ k s t, s ≤ t → t < s + k → p t = true → p (fst1 p k s) = true ∧ s ≤ fst1 p k s ∧ fst1 p k s ≤ t
  | 0, _, _, _, _, _ => by omega
  | k + 1, s, t, h1, h2, h3 => by
    unfold fst1
    by_cases hs : p s = true
    · rw [if_pos hs]
      exact ⟨hs, Nat.le_refl _, h1⟩
    · rw [if_neg hs]
      have hne : ¬ s = t := fun z => hs (by rw [z]; exact h3)
      have := fst1_is (p := p) k (s + 1) t (by omega) (by omega) h3
      exact ⟨this.1, by omega, this.2.2⟩
theorem fst1_lt {p : Nat → Bool} {n : Nat} (hn : 0 < n) : ∀ k s, s + k ≤ n → fst1 p k s < n
  | 0, _, _ => hn
  | k + 1, s, h => by
    unfold fst1
    split
    · omega
    · exact fst1_lt hn k (s + 1) (by omega)
def bst (w : Nat → Nat → Nat) (n k P s : Nat) : Bool := !P.testBit s && (w s P + Tm w n k (P ||| 2 ^ s) == Tm w n (k + 1) P)
/-- the code of the first order that costs least -/
def gc (w : Nat → Nat → Nat) (n : Nat) : Nat → Nat → Nat
  | 0, _ => 0
  | k + 1, P => fst1 (bst w n k P) n 0 * n ^ k + gc w n k (P ||| 2 ^ fst1 (bst w n k P) n 0)
theorem bst_is {w : Nat → Nat → Nat} {n k P : Nat} (hw : ∀ s P, w s P ≤ 6) (hn : n ≤ 6) (h : k + 1 + pc n P = n) : fst1 (bst w n k P) n 0 < n ∧ P.testBit (fst1 (bst w n k P) n 0) = false ∧ Tm w n (k + 1) P = w (fst1 (bst w n k P) n 0) P + Tm w n k (P ||| 2 ^ fst1 (bst w n k P) n 0) ∧ ∀ s, s < n → P.testBit s = false → Tm w n (k + 1) P = w s P + Tm w n k (P ||| 2 ^ s) → fst1 (bst w n k P) n 0 ≤ s := by
  obtain ⟨s, h1, h2, h3⟩ := Tm_is hw hn h
  have q := fst1_is (p := bst w n k P) n 0 s (by omega) (by omega) (by unfold bst; rw [h2, h3]; simp)
  have q1 := q.1
  unfold bst at q1
  rw [Bool.and_eq_true, Bool.not_eq_true', beq_iff_eq] at q1
  refine ⟨fst1_lt (by omega) n 0 (by omega), q1.1, q1.2.symm, fun t t1 t2 t3 => ?_⟩
  exact (fst1_is (p := bst w n k P) n 0 t (by omega) (by omega) (by unfold bst; rw [t2, t3]; simp)).2.2
theorem gc_is {w : Nat → Nat → Nat} {n : Nat} (hw : ∀ s P, w s P ≤ 6) (hn : n ≤ 6) : ∀ k P, P < 2 ^ n → k + pc n P = n → gc w n k P < n ^ k ∧ pv n k P (gc w n k P) = true ∧ ct w n k P (gc w n k P) = Tm w n k P ∧ ∀ c, c < n ^ k → pv n k P c = true → ct w n k P c = Tm w n k P → gc w n k P ≤ c
  | 0, P, hP, h => by
    refine ⟨by simp [gc], ?_, rfl, fun c _ _ _ => Nat.zero_le _⟩
    rw [pv, pc_eq hP (by omega)]
    simp
  | k + 1, P, hP, h => by
    obtain ⟨b1, b2, b3, b4⟩ := bst_is hw hn h
    have e := pc_put b1 b2
    obtain ⟨i1, i2, i3, i4⟩ := gc_is hw hn k (P ||| 2 ^ fst1 (bst w n k P) n 0) (or_lt hP b1) (by omega)
    have eg : gc w n (k + 1) P = fst1 (bst w n k P) n 0 * n ^ k + gc w n k (P ||| 2 ^ fst1 (bst w n k P) n 0) := rfl
    generalize fst1 (bst w n k P) n 0 = s at b1 b2 b3 b4 i1 i2 i3 i4 eg e
    rw [eg]
    generalize gc w n k (P ||| 2 ^ s) = g at i1 i2 i3 i4
    refine ⟨?_, ?_, ?_, ?_⟩
    · have : (s + 1) * n ^ k ≤ n * n ^ k := Nat.mul_le_mul_right _ b1
      rw [Nat.add_mul, Nat.one_mul] at this
      rw [Nat.pow_succ, Nat.mul_comm (n ^ k) n]
      omega
    · rw [pv_s i1 b1, b2, i2]
      rfl
    · rw [ct_s i1 b1, i3, b3]
    · intro c hc hp hq
      obtain ⟨d, c', h1, h2, rfl⟩ := code_split hc
      rw [pv_s h2 h1, Bool.and_eq_true, Bool.not_eq_true'] at hp
      rw [ct_s h2 h1] at hq
      have q := Tm_le (w := w) (k := k) h1 hp.1
      have q2 := Tm_ct (w := w) k _ c' h2 hp.2
      have q3 := b4 d h1 hp.1 (by omega)
      by_cases hds : d = s
      · subst hds
        have := i4 c' h2 hp.2 (by omega)
        omega
      · have : (s + 1) * n ^ k ≤ d * n ^ k := Nat.mul_le_mul_right _ (by omega)
        rw [Nat.add_mul, Nat.one_mul] at this
        omega
