/-! bits as arithmetic -/
theorem bn64 (x : Int) : (Int64.ofInt x).toBitVec.toNat = (x % 18446744073709551616).toNat := by
  rw [Int64.toBitVec_ofInt, BitVec.toNat_ofInt]
  rfl
theorem bn32 (x : Int) : (Int32.ofInt x).toBitVec.toNat = (x % 4294967296).toNat := by
  rw [Int32.toBitVec_ofInt, BitVec.toNat_ofInt]
  rfl
theorem bi64 {v : BitVec 64} (h : v.toNat < 9223372036854775808) : v.toInt = (v.toNat : Int) := BitVec.toInt_eq_toNat_of_lt (by omega)
theorem bi32 {v : BitVec 32} (h : v.toNat < 2147483648) : v.toInt = (v.toNat : Int) := BitVec.toInt_eq_toNat_of_lt (by omega)
theorem p2le {k : Nat} (h : k ≤ 62) : 2 ^ k ≤ 4611686018427387904 := by
  have := Nat.pow_le_pow_right (show 0 < 2 by decide) h
  simpa using this
theorem p2le32 {k : Nat} (h : k ≤ 30) : 2 ^ k ≤ 1073741824 := by
  have := Nat.pow_le_pow_right (show 0 < 2 by decide) h
  simpa using this
/-- the lowest k bits -/
theorem l_mask (x : Int) (k : Nat) (hk : k ≤ 62) : l_and x (2 ^ k - 1) = x % 2 ^ k := by
  have hp := p2le hk
  have hpos : 0 < 2 ^ k := Nat.two_pow_pos k
  have e1 : ((2 : Int) ^ k - 1) = ((2 ^ k - 1 : Nat) : Int) := by rw [Int.ofNat_sub hpos]; simp
  rw [l_and_d, ← Int64.toInt_toBitVec, Int64.toBitVec_and]
  have e2 : ((Int64.ofInt x).toBitVec &&& (Int64.ofInt (2 ^ k - 1)).toBitVec).toNat = (x % 18446744073709551616).toNat % 2 ^ k := by
    rw [BitVec.toNat_and, bn64, bn64, e1]
    have e3 : (((2 ^ k - 1 : Nat) : Int) % 18446744073709551616).toNat = 2 ^ k - 1 := by omega
    rw [e3, Nat.and_two_pow_sub_one_eq_mod]
  have hlt := Nat.mod_lt (x % 18446744073709551616).toNat hpos
  rw [bi64 (by rw [e2]; omega), e2]
  have hd : (2 : Int) ^ k ∣ 18446744073709551616 := ⟨2 ^ (64 - k), by rw [← Int.pow_add, show k + (64 - k) = 64 by omega]; rfl⟩
  have e4 : ((x % 18446744073709551616).toNat : Int) = x % 18446744073709551616 := Int.toNat_of_nonneg (by omega)
  rw [Int.natCast_emod, e4, Int.natCast_pow]
  exact Int.emod_emod_of_dvd x hd
theorem i_mask (x : Int) (k : Nat) (hk : k ≤ 30) : i_and x (2 ^ k - 1) = x % 2 ^ k := by
  have hp := p2le32 hk
  have hpos : 0 < 2 ^ k := Nat.two_pow_pos k
  have e1 : ((2 : Int) ^ k - 1) = ((2 ^ k - 1 : Nat) : Int) := by rw [Int.ofNat_sub hpos]; simp
  rw [i_and_d, ← Int32.toInt_toBitVec, Int32.toBitVec_and]
  have e2 : ((Int32.ofInt x).toBitVec &&& (Int32.ofInt (2 ^ k - 1)).toBitVec).toNat = (x % 4294967296).toNat % 2 ^ k := by
    rw [BitVec.toNat_and, bn32, bn32, e1]
    have e3 : (((2 ^ k - 1 : Nat) : Int) % 4294967296).toNat = 2 ^ k - 1 := by omega
    rw [e3, Nat.and_two_pow_sub_one_eq_mod]
  have hlt := Nat.mod_lt (x % 4294967296).toNat hpos
  rw [bi32 (by rw [e2]; omega), e2]
  have hd : (2 : Int) ^ k ∣ 4294967296 := ⟨2 ^ (32 - k), by rw [← Int.pow_add, show k + (32 - k) = 32 by omega]; rfl⟩
  have e4 : ((x % 4294967296).toNat : Int) = x % 4294967296 := Int.toNat_of_nonneg (by omega)
  rw [Int.natCast_emod, e4, Int.natCast_pow]
  exact Int.emod_emod_of_dvd x hd
/-- two rows of bits that don't meet -/
theorem l_or_add (a b : Int) (k : Nat) (ha : 0 ≤ a) (hb : 0 ≤ b) (hb2 : b < 2 ^ k) (hs : a * 2 ^ k + b < 9223372036854775808) : l_or (a * 2 ^ k) b = a * 2 ^ k + b := by
  obtain ⟨A, rfl⟩ : ∃ A : Nat, a = (A : Int) := ⟨a.toNat, by omega⟩
  obtain ⟨B, rfl⟩ : ∃ B : Nat, b = (B : Int) := ⟨b.toNat, by omega⟩
  have e1 : ((A : Int) * 2 ^ k) = ((2 ^ k * A : Nat) : Int) := by rw [Int.natCast_mul, Int.natCast_pow, Int.mul_comm]; rfl
  have hb2' : B < 2 ^ k := by
    have : ((B : Nat) : Int) < ((2 ^ k : Nat) : Int) := by rw [Int.natCast_pow]; exact hb2
    omega
  rw [e1] at hs ⊢
  rw [l_or_d, ← Int64.toInt_toBitVec, Int64.toBitVec_or]
  have e2 : ((Int64.ofInt ((2 ^ k * A : Nat) : Int)).toBitVec ||| (Int64.ofInt (B : Int)).toBitVec).toNat = 2 ^ k * A + B := by
    rw [BitVec.toNat_or, bn64, bn64]
    have e3 : (((2 ^ k * A : Nat) : Int) % 18446744073709551616).toNat = 2 ^ k * A := by omega
    have e4 : ((B : Int) % 18446744073709551616).toNat = B := by omega
    rw [e3, e4, Nat.two_pow_add_eq_or_of_lt hb2']
  rw [bi64 (by rw [e2]; omega), e2, Int.natCast_add]
theorem i_or_add (a b : Int) (k : Nat) (ha : 0 ≤ a) (hb : 0 ≤ b) (hb2 : b < 2 ^ k) (hs : a * 2 ^ k + b < 2147483648) : i_or (a * 2 ^ k) b = a * 2 ^ k + b := by
  obtain ⟨A, rfl⟩ : ∃ A : Nat, a = (A : Int) := ⟨a.toNat, by omega⟩
  obtain ⟨B, rfl⟩ : ∃ B : Nat, b = (B : Int) := ⟨b.toNat, by omega⟩
  have e1 : ((A : Int) * 2 ^ k) = ((2 ^ k * A : Nat) : Int) := by rw [Int.natCast_mul, Int.natCast_pow, Int.mul_comm]; rfl
  have hb2' : B < 2 ^ k := by
    have : ((B : Nat) : Int) < ((2 ^ k : Nat) : Int) := by rw [Int.natCast_pow]; exact hb2
    omega
  rw [e1] at hs ⊢
  rw [i_or_d, ← Int32.toInt_toBitVec, Int32.toBitVec_or]
  have e2 : ((Int32.ofInt ((2 ^ k * A : Nat) : Int)).toBitVec ||| (Int32.ofInt (B : Int)).toBitVec).toNat = 2 ^ k * A + B := by
    rw [BitVec.toNat_or, bn32, bn32]
    have e3 : (((2 ^ k * A : Nat) : Int) % 4294967296).toNat = 2 ^ k * A := by omega
    have e4 : ((B : Int) % 4294967296).toNat = B := by omega
    rw [e3, e4, Nat.two_pow_add_eq_or_of_lt hb2']
  rw [bi32 (by rw [e2]; omega), e2, Int.natCast_add]
/-! shifts -/
theorem sh63 : ∀ k : Fin 64, (((Int32.ofInt ((k : Nat) : Int)).toInt64 &&& 63).toBitVec.smod 64).toNat = (k : Nat) ∧ (((Int32.ofInt ((k : Nat) : Int)).toInt64.toUInt64 &&& Int64.toUInt64 63).toBitVec % 64).toNat = (k : Nat) := by decide +kernel
theorem sh31 : ∀ k : Fin 32, ((Int32.ofInt ((k : Nat) : Int) &&& 31).toBitVec.smod 32).toNat = (k : Nat) ∧ (((Int32.ofInt ((k : Nat) : Int)).toUInt32 &&& Int32.toUInt32 31).toBitVec % 32).toNat = (k : Nat) := by decide +kernel
theorem l_shl_mul (x : Int) (k : Nat) (hk : k < 64) (hx : 0 ≤ x) (hs : x * 2 ^ k < 9223372036854775808) : l_shl x (k : Int) = x * 2 ^ k := by
  obtain ⟨A, rfl⟩ : ∃ A : Nat, x = (A : Int) := ⟨x.toNat, by omega⟩
  have e1 : ((A : Int) * 2 ^ k) = ((A * 2 ^ k : Nat) : Int) := by rw [Int.natCast_mul, Int.natCast_pow]; rfl
  rw [e1] at hs ⊢
  rw [l_shl_d, ← Int64.toInt_toBitVec, Int64.toBitVec_shiftLeft, BitVec.shiftLeft_eq', (sh63 ⟨k, hk⟩).1]
  have hA : A ≤ A * 2 ^ k := Nat.le_mul_of_pos_right _ (Nat.two_pow_pos k)
  have e2 : ((Int64.ofInt (A : Int)).toBitVec <<< k).toNat = A * 2 ^ k := by
    rw [BitVec.toNat_shiftLeft, bn64, Nat.shiftLeft_eq]
    have e3 : ((A : Int) % 18446744073709551616).toNat = A := by omega
    rw [e3]
    exact Nat.mod_eq_of_lt (by omega)
  rw [bi64 (by rw [e2]; omega), e2]
theorem i_shl_mul (x : Int) (k : Nat) (hk : k < 32) (hx : 0 ≤ x) (hs : x * 2 ^ k < 2147483648) : i_shl x (k : Int) = x * 2 ^ k := by
  obtain ⟨A, rfl⟩ : ∃ A : Nat, x = (A : Int) := ⟨x.toNat, by omega⟩
  have e1 : ((A : Int) * 2 ^ k) = ((A * 2 ^ k : Nat) : Int) := by rw [Int.natCast_mul, Int.natCast_pow]; rfl
  rw [e1] at hs ⊢
  rw [i_shl_d, ← Int32.toInt_toBitVec, Int32.toBitVec_shiftLeft, BitVec.shiftLeft_eq', (sh31 ⟨k, hk⟩).1]
  have hA : A ≤ A * 2 ^ k := Nat.le_mul_of_pos_right _ (Nat.two_pow_pos k)
  have e2 : ((Int32.ofInt (A : Int)).toBitVec <<< k).toNat = A * 2 ^ k := by
    rw [BitVec.toNat_shiftLeft, bn32, Nat.shiftLeft_eq]
    have e3 : ((A : Int) % 4294967296).toNat = A := by omega
    rw [e3]
    exact Nat.mod_eq_of_lt (by omega)
  rw [bi32 (by rw [e2]; omega), e2]
/-- any long, moved right without its sign -/
theorem l_ushr_div (x : Int) (k : Nat) (hk : k < 64) (h : (x % 18446744073709551616) / 2 ^ k < 9223372036854775808) : l_ushr x (k : Int) = (x % 18446744073709551616) / 2 ^ k := by
  rw [l_ushr_d, ← Int64.toInt_toBitVec, UInt64.toBitVec_toInt64, UInt64.toBitVec_shiftRight, BitVec.ushiftRight_eq', (sh63 ⟨k, hk⟩).2, Int64.toBitVec_toUInt64]
  have e4 : ((x % 18446744073709551616).toNat : Int) = x % 18446744073709551616 := Int.toNat_of_nonneg (by omega)
  have e2 : ((((Int64.ofInt x).toBitVec >>> k).toNat : Nat) : Int) = (x % 18446744073709551616) / 2 ^ k := by
    rw [BitVec.toNat_ushiftRight, bn64, Nat.shiftRight_eq_div_pow, Int.natCast_ediv, e4, Int.natCast_pow]
    rfl
  show ((Int64.ofInt x).toBitVec >>> k).toInt = _
  rw [bi64 (by omega), e2]
theorem l_ushr_nn (x : Int) (k : Nat) (hk : k < 64) (hx : 0 ≤ x) (hx2 : x < 9223372036854775808) : l_ushr x (k : Int) = x / 2 ^ k := by
  have e : x % 18446744073709551616 = x := by omega
  have hp : (0 : Int) < 2 ^ k := Int.pow_pos (by decide)
  have := Int.ediv_le_self (b := 2 ^ k) hx
  rw [l_ushr_div x k hk (by rw [e]; omega), e]
theorem i_ushr_div (x : Int) (k : Nat) (hk : k < 32) (h : (x % 4294967296) / 2 ^ k < 2147483648) : i_ushr x (k : Int) = (x % 4294967296) / 2 ^ k := by
  rw [i_ushr_d, ← Int32.toInt_toBitVec, UInt32.toBitVec_toInt32, UInt32.toBitVec_shiftRight, BitVec.ushiftRight_eq', (sh31 ⟨k, hk⟩).2, Int32.toBitVec_toUInt32]
  have e4 : ((x % 4294967296).toNat : Int) = x % 4294967296 := Int.toNat_of_nonneg (by omega)
  have e2 : ((((Int32.ofInt x).toBitVec >>> k).toNat : Nat) : Int) = (x % 4294967296) / 2 ^ k := by
    rw [BitVec.toNat_ushiftRight, bn32, Nat.shiftRight_eq_div_pow, Int.natCast_ediv, e4, Int.natCast_pow]
    rfl
  show ((Int32.ofInt x).toBitVec >>> k).toInt = _
  rw [bi32 (by omega), e2]
