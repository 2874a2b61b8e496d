/-! masks: what and, or, xor, shifts do to numbers that are not below nothing -/
theorem i32_nat {n : Nat} (h : n < 4294967296) : (Int32.ofInt (n : Int)).toBitVec.toNat = n := by
  show (BitVec.ofInt 32 (n : Int)).toNat = n
  rw [BitVec.toNat_ofInt]
  show ((n : Int) % 4294967296).toNat = n
  omega
theorem i32_int {x : Int32} (h : x.toBitVec.toNat < 2147483648) : x.toInt = (x.toBitVec.toNat : Int) := by
  show x.toBitVec.toInt = _
  rw [BitVec.toInt_eq_toNat_cond]
  rw [if_pos (by omega)]
theorem and_lt {a b : Nat} {k : Nat} (h : a < 2 ^ k) : a &&& b < 2 ^ k := Nat.lt_of_le_of_lt Nat.and_le_left h
theorem bAnd_nat {a b : Nat} (ha : a < 2147483648) (hb : b < 2147483648) : bAnd (a : Int) (b : Int) = ((a &&& b : Nat) : Int) := by
  unfold bAnd
  have e : (Int32.ofInt (a : Int) &&& Int32.ofInt (b : Int)).toBitVec.toNat = a &&& b := by
    rw [Int32.toBitVec_and, BitVec.toNat_and, i32_nat (by omega), i32_nat (by omega)]
  have hl : a &&& b < 2147483648 := Nat.lt_of_le_of_lt Nat.and_le_left ha
  rw [i32_int (by rw [e]; exact hl), e]
theorem bOr_nat {a b : Nat} (ha : a < 2147483648) (hb : b < 2147483648) : bOr (a : Int) (b : Int) = ((a ||| b : Nat) : Int) := by
  unfold bOr
  have e : (Int32.ofInt (a : Int) ||| Int32.ofInt (b : Int)).toBitVec.toNat = a ||| b := by
    rw [Int32.toBitVec_or, BitVec.toNat_or, i32_nat (by omega), i32_nat (by omega)]
  have hl : a ||| b < 2 ^ 31 := Nat.or_lt_two_pow (by omega) (by omega)
  rw [i32_int (by rw [e]; omega), e]
theorem bXor_nat {a b : Nat} (ha : a < 2147483648) (hb : b < 2147483648) : bXor (a : Int) (b : Int) = ((a ^^^ b : Nat) : Int) := by
  unfold bXor
  have e : (Int32.ofInt (a : Int) ^^^ Int32.ofInt (b : Int)).toBitVec.toNat = a ^^^ b := by
    rw [Int32.toBitVec_xor, BitVec.toNat_xor, i32_nat (by omega), i32_nat (by omega)]
  have hl : a ^^^ b < 2 ^ 31 := Nat.xor_lt_two_pow (by omega) (by omega)
  rw [i32_int (by rw [e]; omega), e]
/-- and not -/
def anot (a b : Nat) : Nat := a ^^^ (a &&& b)
theorem anot_bit (a b i : Nat) : (anot a b).testBit i = (a.testBit i && !b.testBit i) := by
  unfold anot
  rw [Nat.testBit_xor, Nat.testBit_and]
  cases a.testBit i <;> cases b.testBit i <;> rfl
theorem anot_le (a b : Nat) {k : Nat} (h : a < 2 ^ k) : anot a b < 2 ^ k := Nat.xor_lt_two_pow h (and_lt h)
theorem bNot_nat {a b : Nat} (ha : a < 2147483648) (hb : b < 2147483648) : bAnd (a : Int) (bXor (b : Int) (-1)) = ((anot a b : Nat) : Int) := by
  unfold bAnd
  have e0 : Int32.ofInt (bXor (b : Int) (-1)) = Int32.ofInt (b : Int) ^^^ Int32.ofInt (-1) := by
    unfold bXor
    exact Int32.ofInt_toInt _
  have e : (Int32.ofInt (a : Int) &&& Int32.ofInt (bXor (b : Int) (-1))).toBitVec.toNat = anot a b := by
    rw [e0, Int32.toBitVec_and, Int32.toBitVec_xor, BitVec.toNat_and, BitVec.toNat_xor, i32_nat (by omega), i32_nat (by omega)]
    have e1 : (Int32.ofInt (-1)).toBitVec.toNat = 2 ^ 32 - 1 := by decide +kernel
    rw [e1]
    apply Nat.eq_of_testBit_eq
    intro i
    rw [anot_bit, Nat.testBit_and, Nat.testBit_xor, Nat.testBit_two_pow_sub_one]
    by_cases hi : i < 32
    · simp [hi]
    · have h2 : a.testBit i = false := Nat.testBit_lt_two_pow (Nat.lt_of_lt_of_le (show a < 2 ^ 31 by omega) (Nat.pow_le_pow_right (by decide) (by omega)))
      simp [h2]
  have hl : anot a b < 2 ^ 31 := anot_le a b (by omega)
  rw [i32_int (by rw [e]; omega), e]
theorem bit1 {z : Int} {k : Nat} (h0 : 0 ≤ z) (h1 : z < 2147483648) : bAnd (z / 2 ^ k) 1 = if z.toNat.testBit k then 1 else 0 := by
  obtain ⟨n, rfl⟩ := Int.eq_ofNat_of_zero_le h0
  have e1 : ((n : Int) / 2 ^ k) = ((n / 2 ^ k : Nat) : Int) := by
    rw [Int.natCast_ediv]
    simp
  have hle : n / 2 ^ k ≤ n := Nat.div_le_self _ _
  rw [e1, show (1 : Int) = ((1 : Nat) : Int) from rfl, bAnd_nat (by omega) (by decide), Int.toNat_natCast, Nat.and_one_is_mod, ← Nat.shiftRight_eq_div_pow]
  rw [Nat.testBit]
  have h2 : (1 &&& n >>> k) = (n >>> k) % 2 := by rw [Nat.and_comm, Nat.and_one_is_mod]
  rw [h2]
  have h3 : (n >>> k) % 2 = 0 ∨ (n >>> k) % 2 = 1 := by omega
  rcases h3 with h3 | h3 <;> rw [h3] <;> simp
theorem shl1 {k : Int} (h0 : 0 ≤ k) (h1 : k < 31) : w32 (1 * 2 ^ k.toNat) = ((2 ^ k.toNat : Nat) : Int) := by
  have e1 : (1 : Int) * 2 ^ k.toNat = ((2 ^ k.toNat : Nat) : Int) := by simp
  rw [e1]
  have h2 : 2 ^ k.toNat ≤ 2 ^ 30 := Nat.pow_le_pow_right (by decide) (by omega)
  generalize 2 ^ k.toNat = P at h2 ⊢
  exact w32_id (by omega) (by omega)
theorem pow_small {k : Nat} (h : k < 31) : 2 ^ k < 2147483648 := Nat.lt_of_lt_of_le (Nat.pow_lt_pow_right (by decide) h) (by decide)
theorem bit_pow (k i : Nat) : (2 ^ k).testBit i = decide (k = i) := Nat.testBit_two_pow
theorem lt_bits {n k : Nat} (h : ∀ i, k ≤ i → n.testBit i = false) : n < 2 ^ k := Nat.lt_pow_two_of_testBit n h
