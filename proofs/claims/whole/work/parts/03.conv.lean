/-! numbers: what the words of 32 and 64 bits do, told of Int -/
def wfI (x : Int) : Prop := -2147483648 ≤ x ∧ x ≤ 2147483647
def wfJ (x : Int) : Prop := -9223372036854775808 ≤ x ∧ x ≤ 9223372036854775807
theorem w32_wf (z : Int) : wfI (w32 z) := by
  unfold wfI w32
  have h1 := @Int.le_bmod z 4294967296 (by decide)
  have h2 := @Int.bmod_lt z 4294967296 (by decide)
  omega
theorem w64_wf (z : Int) : wfJ (w64 z) := by
  unfold wfJ w64
  have h1 := @Int.le_bmod z 18446744073709551616 (by decide)
  have h2 := @Int.bmod_lt z 18446744073709551616 (by decide)
  omega
theorem w32_id {z : Int} (h1 : -2147483648 ≤ z) (h2 : z ≤ 2147483647) : w32 z = z := by
  unfold w32
  exact Int.bmod_eq_of_le (by omega) (by omega)
theorem w64_id {z : Int} (h1 : -9223372036854775808 ≤ z) (h2 : z ≤ 9223372036854775807) : w64 z = z := by
  unfold w64
  exact Int.bmod_eq_of_le (by omega) (by omega)
theorem o_wf (x : Int32) : wfI x.toInt := by
  have h1 := x.minValue_le_toInt
  have h2 := x.toInt_le
  have e1 : Int32.minValue.toInt = -2147483648 := by decide
  have e2 : Int32.maxValue.toInt = 2147483647 := by decide
  unfold wfI
  omega
theorem o_ti {x : Int} (h : wfI x) : (Int32.ofInt x).toInt = x := by
  rw [Int32.toInt_ofInt]
  exact Int.bmod_eq_of_le (by have := h.1; simp [Int32.size]; omega) (by have := h.2; simp [Int32.size]; omega)
theorem o_inj {x y : Int32} (h : x.toInt = y.toInt) : x = y := Int32.toInt_inj.mp h
theorem o_w (z : Int) : Int32.ofInt (w32 z) = Int32.ofInt z := by
  apply o_inj
  rw [Int32.toInt_ofInt, Int32.toInt_ofInt]
  unfold w32
  exact Int.bmod_bmod
theorem o_add (x y : Int) : Int32.ofInt x + Int32.ofInt y = Int32.ofInt (w32 (x + y)) := by rw [o_w, Int32.ofInt_add]
theorem o_sub (x y : Int) : Int32.ofInt x - Int32.ofInt y = Int32.ofInt (w32 (x - y)) := by rw [o_w, Int32.ofInt_sub]
theorem o_mul (x y : Int) : Int32.ofInt x * Int32.ofInt y = Int32.ofInt (w32 (x * y)) := by rw [o_w, Int32.ofInt_mul]
theorem o_neg (x : Int) : -Int32.ofInt x = Int32.ofInt (w32 (-x)) := by rw [o_w, Int32.ofInt_neg]
theorem o_and (x y : Int) : Int32.ofInt x &&& Int32.ofInt y = Int32.ofInt (bAnd x y) := (Int32.ofInt_toInt _).symm
theorem o_or (x y : Int) : Int32.ofInt x ||| Int32.ofInt y = Int32.ofInt (bOr x y) := (Int32.ofInt_toInt _).symm
theorem o_xor (x y : Int) : Int32.ofInt x ^^^ Int32.ofInt y = Int32.ofInt (bXor x y) := (Int32.ofInt_toInt _).symm
theorem o_lt {x y : Int} (hx : wfI x) (hy : wfI y) : Int32.ofInt x < Int32.ofInt y ↔ x < y := by rw [Int32.lt_iff_toInt_lt, o_ti hx, o_ti hy]
theorem o_le {x y : Int} (hx : wfI x) (hy : wfI y) : Int32.ofInt x ≤ Int32.ofInt y ↔ x ≤ y := by rw [Int32.le_iff_toInt_le, o_ti hx, o_ti hy]
theorem o_eq {x y : Int} (hx : wfI x) (hy : wfI y) : Int32.ofInt x = Int32.ofInt y ↔ x = y := by rw [← Int32.toInt_inj, o_ti hx, o_ti hy]
theorem o_0 : Int32.ofInt 0 = 0 := rfl
theorem wf0 : wfI 0 := by unfold wfI; omega
theorem o_div {x y : Int} (hx : wfI x) (hy : wfI y) : Int32.ofInt x / Int32.ofInt y = Int32.ofInt (w32 (x.tdiv y)) := by
  apply o_inj
  rw [Int32.toInt_div, o_ti hx, o_ti hy, o_ti (w32_wf _)]
  rfl
theorem o_rem {x y : Int} (hx : wfI x) (hy : wfI y) : Int32.ofInt x - Int32.ofInt x / Int32.ofInt y * Int32.ofInt y = Int32.ofInt (x.tmod y) := by
  rw [o_div hx hy, o_w, ← Int32.ofInt_mul, ← Int32.ofInt_sub, Int.tmod_def, Int.mul_comm y]
theorem tmod_wf {x y : Int} (hx : wfI x) : wfI (x.tmod y) := by
  obtain ⟨h1, h2⟩ := hx
  have h3 := Int.natAbs_tmod x y
  have h4 : x.natAbs % y.natAbs ≤ x.natAbs := Nat.mod_le _ _
  unfold wfI
  rcases Int.le_total 0 x with h | h
  · have := Int.tmod_nonneg y h
    omega
  · have h4 : x.tmod y ≤ 0 := by
      have := Int.tmod_nonneg (a := -x) y (by omega)
      rw [Int.neg_tmod] at this
      omega
    omega
theorem o_and31 : ∀ k : Nat, k < 32 → Int32.ofInt (k : Int) &&& 31 = Int32.ofInt (k : Int) := by decide +kernel
theorem o_smod : ∀ k : Nat, k < 32 → ((Int32.ofInt (k : Int)).toBitVec.smod 32).toNat = k := by decide +kernel
theorem o_umod : ∀ k : Nat, k < 32 → (((Int32.ofInt (k : Int)).toUInt32 &&& Int32.toUInt32 31).toBitVec % 32).toNat = k := by decide +kernel
theorem o_cong {x y : Int} (h : x % 4294967296 = y % 4294967296) : Int32.ofInt x = Int32.ofInt y := by
  apply o_inj
  rw [Int32.toInt_ofInt, Int32.toInt_ofInt]
  show Int.bmod x 4294967296 = Int.bmod y 4294967296
  have h1 : (x % ((4294967296 : Nat) : Int)).bmod 4294967296 = x.bmod 4294967296 := Int.emod_bmod x 4294967296
  have h2 : (y % ((4294967296 : Nat) : Int)).bmod 4294967296 = y.bmod 4294967296 := Int.emod_bmod y 4294967296
  rw [← h1, ← h2]
  exact congrArg (fun z => Int.bmod z 4294967296) h
theorem modmul (x : Int) (P M : Nat) (hM : 0 < M) : (x % (M : Int)).toNat * P % M = (x * (P : Int) % (M : Int)).toNat := by
  have h0 : 0 ≤ x % (M : Int) := Int.emod_nonneg _ (by omega)
  have e1 : (((x % (M : Int)).toNat : Nat) : Int) = x % (M : Int) := Int.toNat_of_nonneg h0
  have e2 : (((x % (M : Int)).toNat * P % M : Nat) : Int) = x * (P : Int) % (M : Int) := by
    rw [Int.natCast_emod, Int.natCast_mul, e1, Int.mul_emod (x % (M : Int)), Int.emod_emod_of_dvd _ (Int.dvd_refl _), ← Int.mul_emod]
  omega
theorem o_shl (x : Int) {y : Int} (h0 : 0 ≤ y) (h1 : y < 32) : Int32.ofInt x <<< (Int32.ofInt y &&& 31) = Int32.ofInt (w32 (x * 2 ^ y.toNat)) := by
  obtain ⟨k, rfl⟩ := Int.eq_ofNat_of_zero_le h0
  have hk : k < 32 := by omega
  rw [o_and31 k hk, o_w]
  have h := pk_shl (Int32.ofInt x) (Int32.ofInt (k : Int)) k (o_smod k hk)
  have e : (Int32.ofInt x).toBitVec.toNat = (x % ((4294967296 : Nat) : Int)).toNat := by
    show (BitVec.ofInt 32 x).toNat = _
    rw [BitVec.toNat_ofInt]
  rw [e] at h
  apply Int32.toBitVec_inj.mp
  apply BitVec.eq_of_toNat_eq
  rw [h]
  show _ = (BitVec.ofInt 32 (x * 2 ^ (Int.toNat (k : Int)))).toNat
  rw [BitVec.toNat_ofInt, Int.toNat_natCast]
  have e2 : ((2 : Int) ^ k) = ((2 ^ k : Nat) : Int) := by simp
  rw [e2]
  exact modmul x (2 ^ k) (2 ^ 32) (by decide)
theorem o_shr {x y : Int} (hx : wfI x) (h0 : 0 ≤ y) (h1 : y < 32) : Int32.ofInt x >>> (Int32.ofInt y &&& 31) = Int32.ofInt (x / 2 ^ y.toNat) := by
  obtain ⟨k, rfl⟩ := Int.eq_ofNat_of_zero_le h0
  have hk : k < 32 := by omega
  rw [o_and31 k hk]
  have h := pk_shr (Int32.ofInt x) (Int32.ofInt (k : Int)) k (o_smod k hk)
  rw [o_ti hx, Int.shiftRight_eq_div_pow] at h
  apply o_inj
  have e2 : ((2 ^ k : Nat) : Int) = (2 : Int) ^ k := by simp
  rw [e2] at h
  rw [h, Int.toNat_natCast]
  rw [← h]
  exact (o_ti (o_wf _)).symm
theorem div_wf {x : Int} (hx : wfI x) (k : Nat) : wfI (x / 2 ^ k) := by
  obtain ⟨h1, h2⟩ := hx
  have hp : (0 : Int) < 2 ^ k := Int.pow_pos (by decide)
  have e2 : (2 : Int) ^ k = ((2 ^ k : Nat) : Int) := by simp
  unfold wfI
  have h3 : (1 : Int) ≤ 2 ^ k := by omega
  constructor
  · apply Int.le_ediv_of_mul_le hp
    omega
  · rcases Int.le_total 0 x with h | h
    · have := Int.ediv_le_self (a := x) (2 ^ k) h
      omega
    · have : x / 2 ^ k ≤ 0 := by
        have := Int.ediv_le_ediv hp h
        simpa using this
      omega
theorem o_ushr {x y : Int} (hx : wfI x) (hx0 : 0 ≤ x) (h0 : 0 ≤ y) (h1 : y < 32) : ((Int32.ofInt x).toUInt32 >>> ((Int32.ofInt y).toUInt32 &&& Int32.toUInt32 31)).toInt32 = Int32.ofInt (x / 2 ^ y.toNat) := by
  obtain ⟨k, rfl⟩ := Int.eq_ofNat_of_zero_le h0
  obtain ⟨n, rfl⟩ := Int.eq_ofNat_of_zero_le hx0
  have hk : k < 32 := by omega
  have h := pk_ushr (Int32.ofInt (n : Int)) (Int32.ofInt (k : Int)) k (o_umod k hk)
  have hn : n < 2147483648 := by have := hx.2; omega
  have e : (Int32.ofInt (n : Int)).toBitVec.toNat = n := by
    show (BitVec.ofInt 32 (n : Int)).toNat = _
    rw [BitVec.toNat_ofInt]
    show ((n : Int) % 4294967296).toNat = n
    omega
  rw [e] at h
  apply Int32.toBitVec_inj.mp
  apply BitVec.eq_of_toNat_eq
  rw [h]
  show _ = (BitVec.ofInt 32 ((n : Int) / 2 ^ (Int.toNat (k : Int)))).toNat
  have e2 : ((2 : Int) ^ k) = ((2 ^ k : Nat) : Int) := by simp
  rw [Int.toNat_natCast, e2, ← Int.natCast_ediv, BitVec.toNat_ofInt]
  have hle : n / 2 ^ k ≤ n := Nat.div_le_self _ _
  generalize n / 2 ^ k = z at *
  show z = ((z : Int) % 4294967296).toNat
  omega
theorem o_bi {z : Int} (h1 : -128 ≤ z) (h2 : z ≤ 127) : (Int8.ofInt z).toInt32 = Int32.ofInt z := by
  apply o_inj
  rw [Int8.toInt_toInt32, Int8.toInt_ofInt, o_ti (by unfold wfI; omega)]
  exact Int.bmod_eq_of_le (by simp [Int8.size]; omega) (by simp [Int8.size]; omega)
theorem o_si {z : Int} (h1 : -32768 ≤ z) (h2 : z ≤ 32767) : (Int16.ofInt z).toInt32 = Int32.ofInt z := by
  apply o_inj
  rw [Int16.toInt_toInt32, Int16.toInt_ofInt, o_ti (by unfold wfI; omega)]
  exact Int.bmod_eq_of_le (by simp [Int16.size]; omega) (by simp [Int16.size]; omega)
theorem o_cl {i : Int} (h : wfI i) : (Int32.ofInt i).toNatClampNeg = i.toNat := by
  show (Int32.ofInt i).toInt.toNat = i.toNat
  rw [o_ti h]
theorem o_in {i : Int} {n : Nat} (h : wfI i) (h0 : 0 ≤ i) (h1 : i < n) : vp_in (Int32.ofInt i) n := by
  rw [vp_in_iff, o_ti h]
  exact ⟨h0, h1⟩
/-! words of 64 bits -/
theorem j_inj {x y : Int64} (h : x.toInt = y.toInt) : x = y := Int64.toInt_inj.mp h
theorem j_ti {x : Int} (h : wfJ x) : (Int64.ofInt x).toInt = x := by
  rw [Int64.toInt_ofInt]
  exact Int.bmod_eq_of_le (by have := h.1; simp [Int64.size]; omega) (by have := h.2; simp [Int64.size]; omega)
theorem j_w (z : Int) : Int64.ofInt (w64 z) = Int64.ofInt z := by
  apply j_inj
  rw [Int64.toInt_ofInt, Int64.toInt_ofInt]
  unfold w64
  exact Int.bmod_bmod
theorem j_sub (x y : Int) : Int64.ofInt x - Int64.ofInt y = Int64.ofInt (w64 (x - y)) := by rw [j_w, Int64.ofInt_sub]
theorem j_mul (x y : Int) : Int64.ofInt x * Int64.ofInt y = Int64.ofInt (w64 (x * y)) := by rw [j_w, Int64.ofInt_mul]
theorem j_i2l {x : Int} (h : wfI x) : (Int32.ofInt x).toInt64 = Int64.ofInt x := by
  apply j_inj
  rw [Int32.toInt_toInt64, o_ti h, j_ti (by have := h.1; have := h.2; unfold wfJ; omega)]
theorem j_lt {x y : Int} (hx : wfJ x) (hy : wfJ y) : Int64.ofInt x < Int64.ofInt y ↔ x < y := by rw [Int64.lt_iff_toInt_lt, j_ti hx, j_ti hy]
theorem j_eq {x y : Int} (hx : wfJ x) (hy : wfJ y) : Int64.ofInt x = Int64.ofInt y ↔ x = y := by rw [← Int64.toInt_inj, j_ti hx, j_ti hy]
theorem j_and63 : ∀ k : Nat, k < 64 → (Int32.ofInt (k : Int)).toInt64 &&& 63 = Int64.ofInt (k : Int) := by decide +kernel
theorem j_smod : ∀ k : Nat, k < 64 → ((Int64.ofInt (k : Int)).toBitVec.smod 64).toNat = k := by decide +kernel
theorem j_shl (x : Int) {y : Int} (h0 : 0 ≤ y) (h1 : y < 64) : Int64.ofInt x <<< ((Int32.ofInt y).toInt64 &&& 63) = Int64.ofInt (w64 (x * 2 ^ y.toNat)) := by
  obtain ⟨k, rfl⟩ := Int.eq_ofNat_of_zero_le h0
  have hk : k < 64 := by omega
  rw [j_and63 k hk, j_w]
  have e : (Int64.ofInt x).toBitVec.toNat = (x % ((18446744073709551616 : Nat) : Int)).toNat := by
    show (BitVec.ofInt 64 x).toNat = _
    rw [BitVec.toNat_ofInt]
  apply Int64.toBitVec_inj.mp
  apply BitVec.eq_of_toNat_eq
  rw [Int64.toBitVec_shiftLeft, BitVec.shiftLeft_eq', j_smod k hk, BitVec.toNat_shiftLeft, e, Nat.shiftLeft_eq]
  show _ = (BitVec.ofInt 64 (x * 2 ^ (Int.toNat (k : Int)))).toNat
  rw [BitVec.toNat_ofInt, Int.toNat_natCast]
  have e2 : ((2 : Int) ^ k) = ((2 ^ k : Nat) : Int) := by simp
  rw [e2]
  exact modmul x (2 ^ k) (2 ^ 64) (by decide)
