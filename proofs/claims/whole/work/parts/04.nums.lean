/-! whole numbers behind the machine's ints and longs -/
theorem w32_bmod (x : Int) : Int.bmod x 4294967296 = w32 x := by
  unfold w32
  simp only [Int.bmod]
  split <;> omega
theorem w64_bmod (x : Int) : Int.bmod x 18446744073709551616 = w64 x := by
  unfold w64
  simp only [Int.bmod]
  split <;> omega
theorem i32_add (a b : Int32) : (a + b).toInt = w32 (a.toInt + b.toInt) := by
  rw [Int32.toInt_add]; exact w32_bmod _
theorem i32_sub (a b : Int32) : (a - b).toInt = w32 (a.toInt - b.toInt) := by
  rw [Int32.toInt_sub]; exact w32_bmod _
theorem i32_mul (a b : Int32) : (a * b).toInt = w32 (a.toInt * b.toInt) := by
  rw [Int32.toInt_mul]; exact w32_bmod _
theorem i32_div (a b : Int32) : (a / b).toInt = w32 (a.toInt.tdiv b.toInt) := by
  rw [Int32.toInt_div]; exact w32_bmod _
theorem i64_add (a b : Int64) : (a + b).toInt = w64 (a.toInt + b.toInt) := by
  rw [Int64.toInt_add]; exact w64_bmod _
theorem i64_sub (a b : Int64) : (a - b).toInt = w64 (a.toInt - b.toInt) := by
  rw [Int64.toInt_sub]; exact w64_bmod _
theorem i64_mul (a b : Int64) : (a * b).toInt = w64 (a.toInt * b.toInt) := by
  rw [Int64.toInt_mul]; exact w64_bmod _
theorem i64_div (a b : Int64) : (a / b).toInt = w64 (a.toInt.tdiv b.toInt) := by
  rw [Int64.toInt_div]; exact w64_bmod _
theorem i32_rng (a : Int32) : -2147483648 ≤ a.toInt ∧ a.toInt < 2147483648 := by
  have h1 := Int32.le_toInt a
  have h2 := Int32.toInt_lt a
  constructor <;> omega
theorem i64_rng (a : Int64) : -9223372036854775808 ≤ a.toInt ∧ a.toInt < 9223372036854775808 := by
  have h1 := Int64.le_toInt a
  have h2 := Int64.toInt_lt a
  constructor <;> omega
theorem w32_in {x : Int} (h1 : -2147483648 ≤ x) (h2 : x < 2147483648) : w32 x = x := by
  unfold w32; omega
theorem w64_in {x : Int} (h1 : -9223372036854775808 ≤ x) (h2 : x < 9223372036854775808) : w64 x = x := by
  unfold w64; omega
theorem w32_mul (a b : Int) : w32 (w32 a * b) = w32 (a * b) := by
  rw [← w32_bmod a, ← w32_bmod (a * b), ← w32_bmod]
  exact Int.bmod_mul_bmod
theorem w64_mul (a b : Int) : w64 (w64 a * b) = w64 (a * b) := by
  rw [← w64_bmod a, ← w64_bmod (a * b), ← w64_bmod]
  exact Int.bmod_mul_bmod
theorem w32_sub (a b : Int) : w32 (a - w32 b) = w32 (a - b) := by
  unfold w32; omega
theorem w64_sub (a b : Int) : w64 (a - w64 b) = w64 (a - b) := by
  unfold w64; omega
theorem tmod_rng {x y M : Int} (h1 : -M ≤ x) (h2 : x < M) : -M ≤ x.tmod y ∧ x.tmod y < M := by
  have h : (x.tmod y).natAbs ≤ x.natAbs := by rw [Int.natAbs_tmod]; exact Nat.mod_le _ _
  have hs := Int.tmod_nonneg (a := x) y
  have hn : x ≤ 0 → x.tmod y ≤ 0 := fun hx => by
    have := Int.tmod_nonneg (a := -x) y (by omega)
    rw [Int.neg_tmod] at this
    omega
  by_cases hx : 0 ≤ x
  · have := hs hx
    omega
  · have := hn (by omega)
    omega
theorem i32_rem (a b : Int32) : (a - a / b * b).toInt = a.toInt.tmod b.toInt := by
  rw [i32_sub, i32_mul, i32_div, w32_sub]
  have e : w32 (a.toInt - w32 (a.toInt.tdiv b.toInt) * b.toInt) = w32 (a.toInt - a.toInt.tdiv b.toInt * b.toInt) := by
    rw [← w32_sub, w32_mul, w32_sub]
  rw [e]
  have h3 : a.toInt - a.toInt.tdiv b.toInt * b.toInt = a.toInt.tmod b.toInt := by
    have := Int.tdiv_mul_add_tmod a.toInt b.toInt
    omega
  rw [h3]
  obtain ⟨r1, r2⟩ := i32_rng a
  obtain ⟨q1, q2⟩ := tmod_rng (y := b.toInt) r1 r2
  exact w32_in q1 q2
theorem i64_rem (a b : Int64) : (a - a / b * b).toInt = a.toInt.tmod b.toInt := by
  rw [i64_sub, i64_mul, i64_div, w64_sub]
  have e : w64 (a.toInt - w64 (a.toInt.tdiv b.toInt) * b.toInt) = w64 (a.toInt - a.toInt.tdiv b.toInt * b.toInt) := by
    rw [← w64_sub, w64_mul, w64_sub]
  rw [e]
  have h3 : a.toInt - a.toInt.tdiv b.toInt * b.toInt = a.toInt.tmod b.toInt := by
    have := Int.tdiv_mul_add_tmod a.toInt b.toInt
    omega
  rw [h3]
  obtain ⟨r1, r2⟩ := i64_rng a
  obtain ⟨q1, q2⟩ := tmod_rng (y := b.toInt) r1 r2
  exact w64_in q1 q2
theorem i32_iand (a b : Int32) : (a &&& b).toInt = iand a.toInt b.toInt := by simp [iand]
theorem i32_ior (a b : Int32) : (a ||| b).toInt = ior a.toInt b.toInt := by simp [ior]
theorem i32_ixor (a b : Int32) : (a ^^^ b).toInt = ixor a.toInt b.toInt := by simp [ixor]
theorem i32_shl (a b : Int32) : (a <<< (b &&& 31)).toInt = ishl a.toInt b.toInt := by simp [ishl]
theorem i32_shr (a b : Int32) : (a >>> (b &&& 31)).toInt = ishr a.toInt b.toInt := by simp [ishr]
theorem i32_ush (a b : Int32) : ((a.toUInt32 >>> (b.toUInt32 &&& Int32.toUInt32 31)).toInt32).toInt = iush a.toInt b.toInt := by simp [iush]
theorem i64_i32 (a : Int64) : a.toInt32.toInt = w32 a.toInt := by
  rw [Int64.toInt_toInt32]; exact w32_bmod _
theorem i32_i64 (a : Int32) : a.toInt64.toInt = a.toInt := by simp
theorem i32_i8 (a : Int32) : a.toInt8.toInt32.toInt = w8 a.toInt := by
  simp only [Int8.toInt_toInt32, Int32.toInt_toInt8, Int.bmod]
  unfold w8
  split <;> omega
theorem i32_eq {a b : Int32} : a = b ↔ a.toInt = b.toInt := Int32.toInt_inj.symm
theorem i32_nat {a : Int32} (h : 0 ≤ a.toInt) : (a.toNatClampNeg : Int) = a.toInt := by
  show ((a.toInt.toNat : Nat) : Int) = a.toInt
  omega
theorem i32_cl (a : Int32) : a.toNatClampNeg = a.toInt.toNat := rfl
theorem i32_of {n : Int} (h1 : -2147483648 ≤ n) (h2 : n < 2147483648) : (Int32.ofInt n).toInt = n := by
  rw [Int32.toInt_ofInt]
  simp only [Int.bmod, Int32.size]
  split <;> omega
theorem i8_of {n : Int} (h1 : -128 ≤ n) (h2 : n ≤ 127) : ((Int8.ofInt n).toInt32).toInt = n := by
  rw [Int8.toInt_toInt32, Int8.toInt_ofInt]
  simp only [Int.bmod, Int8.size]
  split <;> omega
theorem i16_of {n : Int} (h1 : -32768 ≤ n) (h2 : n ≤ 32767) : ((Int16.ofInt n).toInt32).toInt = n := by
  rw [Int16.toInt_toInt32, Int16.toInt_ofInt]
  simp only [Int.bmod, Int16.size]
  split <;> omega
