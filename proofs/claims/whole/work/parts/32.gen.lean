/-! tools: loops by folds, masks of numbers -/
def itn {S : Type} (f : Nat → S → S) : Nat → Nat → S → S
  | 0, _, s => s
  | k + 1, i, s => itn f k (i + 1) (f i s)
theorem loopN {S : Type} {K : KK} {d mi head : Nat} {Q : Option AV → HH → Prop} (L : Nat → S → List AV) (H : S → HH) (f : Nat → S → S) (P : Nat → S → Prop) (n : Nat) (step : ∀ i s, P i s → i < n → wp K d mi head (L i s) [] (H s) Q = wp K d mi head (L (i + 1) (f i s)) [] (H (f i s)) Q ∧ P (i + 1) (f i s)) : ∀ (k i : Nat) (s : S), i + k = n → P i s → wp K d mi head (L i s) [] (H s) Q = wp K d mi head (L n (itn f k i s)) [] (H (itn f k i s)) Q ∧ P n (itn f k i s) := by
  intro k
  induction k with
  | zero =>
    intro i s hk hP
    have e : i = n := by omega
    subst e
    exact ⟨rfl, hP⟩
  | succ k ih =>
    intro i s hk hP
    obtain ⟨h1, h2⟩ := step i s hP (by omega)
    obtain ⟨h3, h4⟩ := ih (i + 1) (f i s) (by omega) h2
    exact ⟨h1.trans h3, h4⟩
theorem itn_e {S : Type} (f : Nat → S → S) : ∀ (k i : Nat) (s : S), itn f (k + 1) i s = f (i + k) (itn f k i s)
  | 0, _, _ => rfl
  | k + 1, i, s => by
    rw [itn, itn_e f k (i + 1) (f i s)]
    have e : i + 1 + k = i + (k + 1) := by omega
    rw [e]
    rfl
theorem itn_cong {S : Type} {f g : Nat → S → S} : ∀ (k i : Nat) (s : S), (∀ j, i ≤ j → j < i + k → ∀ t, f j t = g j t) → itn f k i s = itn g k i s
  | 0, _, _, _ => rfl
  | k + 1, i, s, hh => by
    rw [itn, itn, hh i (by omega) (by omega), itn_cong k (i + 1) _ (fun j h1 h2 => hh j (by omega) (by omega))]
theorem itn_inv {S : Type} (f : Nat → S → S) (P : Nat → S → Prop) (n : Nat) (step : ∀ i s, P i s → i < n → P (i + 1) (f i s)) : ∀ (k i : Nat) (s : S), i + k = n → P i s → P n (itn f k i s)
  | 0, i, s, hk, hP => by
    have e : i = n := by omega
    subst e
    exact hP
  | k + 1, i, s, hk, hP => itn_inv f P n step k (i + 1) (f i s) (by omega) (step i s hP (by omega))
theorem sumF_e {f : Nat → Int} : ∀ (k s : Nat), sumF f s (k + 1) = sumF f s k + f (s + k)
  | 0, s => by simp [sumF]
  | k + 1, s => by
    rw [sumF, sumF_e k (s + 1), sumF]
    have e : s + 1 + k = s + (k + 1) := by omega
    rw [e, Int.add_assoc]
theorem nc1 {i : Nat} : ((i : Int) + 1) = ((i + 1 : Nat) : Int) := rfl
theorem gP {P X : Prop} (hp : P) : (P ∧ X) = X := propext ⟨fun z => z.2, fun z => ⟨hp, z⟩⟩
theorem shlN {i : Nat} (hi : i < 31) : w32 (1 * 2 ^ i) = ((2 ^ i : Nat) : Int) := by
  have := shl1 (k := (i : Int)) (by omega) (by omega)
  rw [Int.toNat_natCast] at this
  exact this
theorem bitN {z i : Nat} (hz : z < 2147483648) : bAnd ((z : Int) / 2 ^ i) 1 = if z.testBit i then 1 else 0 := by
  have := bit1 (z := (z : Int)) (k := i) (by omega) (by omega)
  rw [Int.toNat_natCast] at this
  exact this
theorem hbN {K : KK} {d : Nat} {h : HH} {Q : Option AV → HH → Prop} {z i : Nat} (hz : z < 2147483648) (hi : i < 31) : wp K d 142 0 [vI (z : Int), vI (i : Int)] [] h Q = Q (some (vI (if z.testBit i then 1 else 0))) h := by
  rw [hasBit_eq (by omega) (by omega) (by omega) (by omega)]
  rw [Int.toNat_natCast, Int.toNat_natCast]
theorem bOrP {z i : Nat} (hz : z < 2147483648) (hi : i < 31) : bOr (z : Int) ((2 ^ i : Nat) : Int) = ((z ||| 2 ^ i : Nat) : Int) := bOr_nat hz (pow_small hi)
theorem bAndP {z i : Nat} (hz : z < 2147483648) (hi : i < 31) : bAnd (z : Int) ((2 ^ i : Nat) : Int) = ((z &&& 2 ^ i : Nat) : Int) := bAnd_nat hz (pow_small hi)
theorem bNotP {z i : Nat} (hz : z < 2147483648) (hi : i < 31) : bAnd (z : Int) (bXor ((2 ^ i : Nat) : Int) (-1)) = ((anot z (2 ^ i) : Nat) : Int) := bNot_nat hz (pow_small hi)
theorem bSwpP {z i j : Nat} (hz : z < 2147483648) (hi : i < 31) (hj : j < 31) : bXor (z : Int) (bOr ((2 ^ i : Nat) : Int) ((2 ^ j : Nat) : Int)) = ((z ^^^ (2 ^ i ||| 2 ^ j) : Nat) : Int) := by
  rw [bOr_nat (pow_small hi) (pow_small hj), bXor_nat hz]
  have := Nat.or_lt_two_pow (n := 31) (x := 2 ^ i) (y := 2 ^ j) (Nat.pow_lt_pow_right (by decide) hi) (Nat.pow_lt_pow_right (by decide) hj)
  omega
theorem anot_lt {a b : Nat} : anot a b ≤ a := Nat.le_of_testBit (fun i hi => by
  rw [anot_bit] at hi
  cases h : a.testBit i
  · rw [h] at hi; exact hi
  · rfl)
theorem hset_row {h : HH} {a i : Nat} {f : Nat → Int} (hn : ¬ i = a) : hset h a f i = h i := by
  unfold hset
  rw [if_neg hn]
theorem hset_same {h : HH} {a : Nat} {f : Nat → Int} : hset h a f a = f := by
  unfold hset
  rw [if_pos rfl]
theorem hput_hset {h : HH} {a k : Nat} {f : Nat → Int} {v : Int} : hput (hset h a f) a k v = hset h a (rput f k v) := by
  unfold hput
  rw [hset_same]
  funext i
  unfold hset
  split <;> rfl
theorem hput_hset_ne {h : HH} {a b k : Nat} {f : Nat → Int} {v : Int} (hn : ¬ b = a) : hput (hset h a f) b k v = hset (hput h b k v) a f := by
  unfold hput
  rw [hset_row hn]
  funext i
  unfold hset
  by_cases h1 : i = a
  · subst h1
    simp only [if_true]
    rw [if_neg (fun z => hn z.symm)]
  · by_cases h2 : i = b
    · simp [h1, h2, hn]
    · simp [h1, h2]
theorem hset_self {h : HH} {a : Nat} : hset h a (h a) = h := by
  funext i
  unfold hset
  split
  · next e => rw [e]
  · rfl
theorem hset_hset {h : HH} {a : Nat} {f g : Nat → Int} : hset (hset h a f) a g = hset h a g := by
  funext i
  unfold hset
  split <;> rfl
theorem rput_same {f : Nat → Int} {k : Nat} {v : Int} : rput f k v k = v := by
  unfold rput
  rw [if_pos rfl]
theorem rput_ne {f : Nat → Int} {k j : Nat} {v : Int} (hn : ¬ j = k) : rput f k v j = f j := by
  unfold rput
  rw [if_neg hn]
theorem leT {a b : Int} (h : a ≤ b) : (a ≤ b) = True := eq_true h
theorem leF {a b : Int} (h : b < a) : (a ≤ b) = False := eq_false (by omega)
theorem ltT {a b : Int} (h : a < b) : (a < b) = True := eq_true h
theorem ltF {a b : Int} (h : b ≤ a) : (a < b) = False := eq_false (by omega)
theorem eqT {a b : Int} (h : a = b) : (a = b) = True := eq_true h
theorem eqF {a b : Int} (h : ¬ a = b) : (a = b) = False := eq_false h
theorem nleT {a b : Nat} (h : a ≤ b) : (a ≤ b) = True := eq_true h
theorem nleF {a b : Nat} (h : b < a) : (a ≤ b) = False := eq_false (by omega)
theorem nltT {a b : Nat} (h : a < b) : (a < b) = True := eq_true h
theorem nltF {a b : Nat} (h : b ≤ a) : (a < b) = False := eq_false (by omega)
theorem neqT {a b : Nat} (h : a = b) : (a = b) = True := eq_true h
theorem neqF {a b : Nat} (h : ¬ a = b) : (a = b) = False := eq_false h
theorem loopJ {S J : Type} {K : KK} {d mi head : Nat} {Q : Option AV → HH → Prop} (L : Nat → S → J → List AV) (H : S → HH) (f : Nat → S → S) (P : Nat → S → Prop) (n : Nat) (step : ∀ i s j, P i s → i < n → (∃ j', wp K d mi head (L i s j) [] (H s) Q = wp K d mi head (L (i + 1) (f i s) j') [] (H (f i s)) Q) ∧ P (i + 1) (f i s)) : ∀ (k i : Nat) (s : S) (j : J), i + k = n → P i s → (∃ j', wp K d mi head (L i s j) [] (H s) Q = wp K d mi head (L n (itn f k i s) j') [] (H (itn f k i s)) Q) ∧ P n (itn f k i s) := by
  intro k
  induction k with
  | zero =>
    intro i s j hk hP
    have e : i = n := by omega
    subst e
    exact ⟨⟨j, rfl⟩, hP⟩
  | succ k ih =>
    intro i s j hk hP
    obtain ⟨⟨j1, h1⟩, h2⟩ := step i s j hP (by omega)
    obtain ⟨⟨j2, h3⟩, h4⟩ := ih (i + 1) (f i s) j1 (by omega) h2
    exact ⟨⟨j2, h1.trans h3⟩, h4⟩
theorem itn_hom {S T : Type} (p : S → T) (f : Nat → S → S) (g : Nat → T → T) (hh : ∀ i s, p (f i s) = g i (p s)) : ∀ (k i : Nat) (s : S), p (itn f k i s) = itn g k i (p s)
  | 0, _, _ => rfl
  | k + 1, i, s => by
    rw [itn, itn, itn_hom p f g hh k (i + 1) (f i s), hh]
theorem hput_self {h : HH} {a k : Nat} : hput h a k (h a k) = h := by
  funext i
  unfold hput hset
  split
  · next e =>
    subst e
    funext j
    unfold rput
    split
    · next e => rw [e]
    · rfl
  · rfl
theorem hput_hput {h : HH} {a k : Nat} {x y : Int} : hput (hput h a k x) a k y = hput h a k y := by
  funext i j
  simp only [hput_at]
  split <;> rfl
theorem bOr0 {z : Nat} (hz : z < 2147483648) : bOr (z : Int) 0 = (z : Int) := by
  have := bOr_nat (a := z) (b := 0) hz (by decide)
  rw [Nat.or_zero] at this
  exact this
theorem itn_rel {S T : Type} (R : S → T → Prop) (f : Nat → S → S) (g : Nat → T → T) (n : Nat) (hh : ∀ i s t, i < n → R s t → R (f i s) (g i t)) : ∀ (k i : Nat) (s : S) (t : T), i + k = n → R s t → R (itn f k i s) (itn g k i t)
  | 0, _, _, _, _, h => h
  | k + 1, i, s, t, hk, h => itn_rel R f g n hh k (i + 1) (f i s) (g i t) (by omega) (hh i s t (by omega) h)
theorem chain6 {h : HH} {a : Nat} {v0 v1 v2 v3 v4 v5 : Int} : hput (hput (hput (hput (hput (hput h a 0 v0) a 1 v1) a 2 v2) a 3 v3) a 4 v4) a 5 v5 = hset h a (rput (rput (rput (rput (rput (rput (h a) 0 v0) 1 v1) 2 v2) 3 v3) 4 v4) 5 v5) := by
  rw [show hput h a 0 v0 = hset h a (rput (h a) 0 v0) from rfl]
  simp only [hput_hset]
theorem rput_self {f : Nat → Int} {k : Nat} : rput f k (f k) = f := by
  funext j
  unfold rput
  split
  · next e => rw [e]
  · rfl
