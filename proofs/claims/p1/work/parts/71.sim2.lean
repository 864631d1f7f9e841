/-! numbers of the machine as integers -/
theorem bm32 (z : Int) : z.bmod (2 ^ 32) = w32 z := by
  have e : ((2 ^ 32 : Nat) : Int) = 4294967296 := by decide
  unfold w32
  simp only [Int.bmod, e]
  split <;> omega
theorem bm64 (z : Int) : z.bmod (2 ^ 64) = w64 z := by
  have e : ((2 ^ 64 : Nat) : Int) = 18446744073709551616 := by decide
  unfold w64
  simp only [Int.bmod, e]
  split <;> omega
theorem r32 (x : Int32) : -2147483648 ≤ x.toInt ∧ x.toInt ≤ 2147483647 := ⟨Int32.le_toInt x, by have := Int32.toInt_lt x; omega⟩
theorem r64 (x : Int64) : -9223372036854775808 ≤ x.toInt ∧ x.toInt ≤ 9223372036854775807 := ⟨Int64.le_toInt x, by have := Int64.toInt_lt x; omega⟩
theorem a_add (x y : Int32) : (x + y).toInt = w32 (x.toInt + y.toInt) := by rw [Int32.toInt_add, bm32]
theorem a_sub (x y : Int32) : (x - y).toInt = w32 (x.toInt - y.toInt) := by rw [Int32.toInt_sub, bm32]
theorem a_mul (x y : Int32) : (x * y).toInt = w32 (x.toInt * y.toInt) := by rw [Int32.toInt_mul, bm32]
theorem a_neg (x : Int32) : (-x).toInt = w32 (-x.toInt) := by rw [Int32.toInt_neg, bm32]
theorem a_and (x y : Int32) : (x &&& y).toInt = i_and x.toInt y.toInt := by rw [i_and_d, Int32.ofInt_toInt, Int32.ofInt_toInt]
theorem a_or (x y : Int32) : (x ||| y).toInt = i_or x.toInt y.toInt := by rw [i_or_d, Int32.ofInt_toInt, Int32.ofInt_toInt]
theorem a_xor (x y : Int32) : (x ^^^ y).toInt = i_xor x.toInt y.toInt := by rw [i_xor_d, Int32.ofInt_toInt, Int32.ofInt_toInt]
theorem a_shl (x y : Int32) : (x <<< (y &&& 31)).toInt = i_shl x.toInt y.toInt := by rw [i_shl_d, Int32.ofInt_toInt, Int32.ofInt_toInt]
theorem a_shr (x y : Int32) : (x >>> (y &&& 31)).toInt = i_shr x.toInt y.toInt := by rw [i_shr_d, Int32.ofInt_toInt, Int32.ofInt_toInt]
theorem a_ushr (x y : Int32) : (x.toUInt32 >>> (y.toUInt32 &&& Int32.toUInt32 31)).toInt32.toInt = i_ushr x.toInt y.toInt := by rw [i_ushr_d, Int32.ofInt_toInt, Int32.ofInt_toInt]
theorem b_add (x y : Int64) : (x + y).toInt = w64 (x.toInt + y.toInt) := by rw [Int64.toInt_add, bm64]
theorem b_sub (x y : Int64) : (x - y).toInt = w64 (x.toInt - y.toInt) := by rw [Int64.toInt_sub, bm64]
theorem b_mul (x y : Int64) : (x * y).toInt = w64 (x.toInt * y.toInt) := by rw [Int64.toInt_mul, bm64]
theorem b_and (x y : Int64) : (x &&& y).toInt = l_and x.toInt y.toInt := by rw [l_and_d, Int64.ofInt_toInt, Int64.ofInt_toInt]
theorem b_or (x y : Int64) : (x ||| y).toInt = l_or x.toInt y.toInt := by rw [l_or_d, Int64.ofInt_toInt, Int64.ofInt_toInt]
theorem b_xor (x y : Int64) : (x ^^^ y).toInt = l_xor x.toInt y.toInt := by rw [l_xor_d, Int64.ofInt_toInt, Int64.ofInt_toInt]
theorem b_shl (x : Int64) (y : Int32) : (x <<< (y.toInt64 &&& 63)).toInt = l_shl x.toInt y.toInt := by rw [l_shl_d, Int64.ofInt_toInt, Int32.ofInt_toInt]
theorem b_ushr (x : Int64) (y : Int32) : (x.toUInt64 >>> (y.toInt64.toUInt64 &&& Int64.toUInt64 63)).toInt64.toInt = l_ushr x.toInt y.toInt := by rw [l_ushr_d, Int64.ofInt_toInt, Int32.ofInt_toInt]
theorem a_b (x : Int32) : x.toInt8.toInt32.toInt = i_b x.toInt := by rw [i_b_d, Int32.ofInt_toInt]
theorem a_s (x : Int32) : x.toInt16.toInt32.toInt = i_s x.toInt := by rw [i_s_d, Int32.ofInt_toInt]
theorem a_l (x : Int32) : x.toInt64.toInt = x.toInt := Int32.toInt_toInt64 x
theorem b_i (x : Int64) : x.toInt32.toInt = w32 x.toInt := by rw [Int64.toInt_toInt32, bm32]
theorem a_div (x y : Int32) : (x / y).toInt = w32 (Int.tdiv x.toInt y.toInt) := by rw [Int32.toInt_div, bm32]
theorem b_div (x y : Int64) : (x / y).toInt = w64 (Int.tdiv x.toInt y.toInt) := by rw [Int64.toInt_div, bm64]
theorem w32_id {z : Int} (h1 : -2147483648 ≤ z) (h2 : z ≤ 2147483647) : w32 z = z := by unfold w32; omega
theorem w64_id {z : Int} (h1 : -9223372036854775808 ≤ z) (h2 : z ≤ 9223372036854775807) : w64 z = z := by unfold w64; omega
theorem w32_w (x y z : Int) : w32 (x - w32 (w32 y * z)) = w32 (x - y * z) := by
  have e1 : ∃ k : Int, w32 y = y + 4294967296 * k := ⟨-((y + 2147483648) / 4294967296), by unfold w32; omega⟩
  obtain ⟨k, hk⟩ := e1
  have e2 : w32 y * z = y * z + 4294967296 * (k * z) := by rw [hk, Int.add_mul, Int.mul_assoc]
  rw [e2]
  generalize y * z = u
  generalize k * z = v
  unfold w32
  omega
theorem w64_w (x y z : Int) : w64 (x - w64 (w64 y * z)) = w64 (x - y * z) := by
  have e1 : ∃ k : Int, w64 y = y + 18446744073709551616 * k := ⟨-((y + 9223372036854775808) / 18446744073709551616), by unfold w64; omega⟩
  obtain ⟨k, hk⟩ := e1
  have e2 : w64 y * z = y * z + 18446744073709551616 * (k * z) := by rw [hk, Int.add_mul, Int.mul_assoc]
  rw [e2]
  generalize y * z = u
  generalize k * z = v
  unfold w64
  omega
theorem tmod_r {x y : Int} (hy : y ≠ 0) : (0 ≤ x → 0 ≤ Int.tmod x y ∧ Int.tmod x y ≤ x) ∧ (x ≤ 0 → x ≤ Int.tmod x y ∧ Int.tmod x y ≤ 0) := by
  have key : ∀ a : Int, 0 ≤ a → 0 ≤ Int.tmod a y ∧ Int.tmod a y ≤ a := by
    intro a ha
    refine ⟨Int.tmod_nonneg y ha, ?_⟩
    rw [← Int.natAbs_of_nonneg (Int.tmod_nonneg y ha), Int.natAbs_tmod]
    have := Nat.mod_le a.natAbs y.natAbs
    omega
  refine ⟨key x, fun h => ?_⟩
  have h1 := key (-x) (by omega)
  rw [Int.neg_tmod] at h1
  omega
theorem a_rem (x y : Int32) (hy : ¬ y = 0) : (x - x / y * y).toInt = Int.tmod x.toInt y.toInt := by
  have h0 : y.toInt ≠ 0 := fun h => hy (Int32.toInt_inj.mp (by rw [h]; rfl))
  rw [a_sub, a_mul, a_div, w32_w, Int.mul_comm, show x.toInt - y.toInt * Int.tdiv x.toInt y.toInt = Int.tmod x.toInt y.toInt from by rw [Int.tmod_def]]
  have h1 := r32 x
  have h2 := tmod_r (x := x.toInt) h0
  rcases Int.le_total 0 x.toInt with h | h
  · have := h2.1 h; exact w32_id (by omega) (by omega)
  · have := h2.2 h; exact w32_id (by omega) (by omega)
theorem b_rem (x y : Int64) (hy : ¬ y = 0) : (x - x / y * y).toInt = Int.tmod x.toInt y.toInt := by
  have h0 : y.toInt ≠ 0 := fun h => hy (Int64.toInt_inj.mp (by rw [h]; rfl))
  rw [b_sub, b_mul, b_div, w64_w, Int.mul_comm, show x.toInt - y.toInt * Int.tdiv x.toInt y.toInt = Int.tmod x.toInt y.toInt from by rw [Int.tmod_def]]
  have h1 := r64 x
  have h2 := tmod_r (x := x.toInt) h0
  rcases Int.le_total 0 x.toInt with h | h
  · have := h2.1 h; exact w64_id (by omega) (by omega)
  · have := h2.2 h; exact w64_id (by omega) (by omega)
theorem b_cmp (x y : Int64) : (lg_cmp x y).toInt = vlc x.toInt y.toInt := by
  unfold lg_cmp vlc
  by_cases h1 : x > y
  · have h2 : y.toInt < x.toInt := Int64.lt_iff_toInt_lt.mp h1
    rw [if_pos h1, if_neg (by omega), if_neg (by omega)]; rfl
  · have h2 : ¬ y.toInt < x.toInt := fun h => h1 (Int64.lt_iff_toInt_lt.mpr h)
    rw [if_neg h1]
    by_cases h3 : x = y
    · rw [if_pos h3, if_neg (by rw [h3]; omega), if_pos (by rw [h3])]; rfl
    · have h4 : ¬ x.toInt = y.toInt := fun h => h3 (Int64.toInt_inj.mp h)
      rw [if_neg h3, if_pos (by omega)]; rfl
theorem i32_eq {x y : Int32} : x = y ↔ x.toInt = y.toInt := Int32.toInt_inj.symm
theorem i64_eq {x y : Int64} : x = y ↔ x.toInt = y.toInt := Int64.toInt_inj.symm
theorem i32_lt {x y : Int32} : x < y ↔ x.toInt < y.toInt := Int32.lt_iff_toInt_lt
theorem i32_le {x y : Int32} : x ≤ y ↔ x.toInt ≤ y.toInt := Int32.le_iff_toInt_le
