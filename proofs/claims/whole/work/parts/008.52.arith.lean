/-! numbers: everything to Int, then omega -/
theorem q_nI (n : Nat) : (nI n).toInt = ((n : Int) + 2147483648) % 4294967296 - 2147483648 := by
  have : (nI n).toInt = Int.bmod n (2 ^ 32) := by simp [nI, Int32.toInt_ofNat]
  rw [this, Int.bmod]
  omega
theorem q_bm32 (x : Int) : Int.bmod x (2 ^ 32) = (x + 2147483648) % 4294967296 - 2147483648 := by
  rw [Int.bmod]
  omega
theorem q_bm64 (x : Int) : Int.bmod x (2 ^ 64) = (x + 9223372036854775808) % 18446744073709551616 - 9223372036854775808 := by
  rw [Int.bmod]
  omega
theorem q_add (a b : Int32) : (a + b).toInt = (a.toInt + b.toInt + 2147483648) % 4294967296 - 2147483648 := by rw [Int32.toInt_add, q_bm32]
theorem q_sub (a b : Int32) : (a - b).toInt = (a.toInt - b.toInt + 2147483648) % 4294967296 - 2147483648 := by rw [Int32.toInt_sub, q_bm32]
theorem q_mul (a b : Int32) : (a * b).toInt = (a.toInt * b.toInt + 2147483648) % 4294967296 - 2147483648 := by rw [Int32.toInt_mul, q_bm32]
theorem q_neg (a : Int32) : (-a).toInt = (-a.toInt + 2147483648) % 4294967296 - 2147483648 := by rw [Int32.toInt_neg, q_bm32]
theorem q_addL (a b : Int64) : (a + b).toInt = (a.toInt + b.toInt + 9223372036854775808) % 18446744073709551616 - 9223372036854775808 := by rw [Int64.toInt_add, q_bm64]
theorem q_subL (a b : Int64) : (a - b).toInt = (a.toInt - b.toInt + 9223372036854775808) % 18446744073709551616 - 9223372036854775808 := by rw [Int64.toInt_sub, q_bm64]
theorem q_mulL (a b : Int64) : (a * b).toInt = (a.toInt * b.toInt + 9223372036854775808) % 18446744073709551616 - 9223372036854775808 := by rw [Int64.toInt_mul, q_bm64]
theorem q_negL (a : Int64) : (-a).toInt = (-a.toInt + 9223372036854775808) % 18446744073709551616 - 9223372036854775808 := by rw [Int64.toInt_neg, q_bm64]
theorem q_i2l (a : Int32) : a.toInt64.toInt = a.toInt := Int32.toInt_toInt64 a
theorem q_l2i (a : Int64) : a.toInt32.toInt = (a.toInt + 2147483648) % 4294967296 - 2147483648 := by rw [Int64.toInt_toInt32, q_bm32]
theorem q_b (a : Int32) : -2147483648 ≤ a.toInt ∧ a.toInt < 2147483648 := ⟨a.le_toInt, a.toInt_lt⟩
theorem q_bL (a : Int64) : -9223372036854775808 ≤ a.toInt ∧ a.toInt < 9223372036854775808 := ⟨a.le_toInt, a.toInt_lt⟩
theorem q_eq {a b : Int32} : a = b ↔ a.toInt = b.toInt := Int32.toInt_inj.symm
theorem q_eqL {a b : Int64} : a = b ↔ a.toInt = b.toInt := Int64.toInt_inj.symm
theorem q_nIof {a : Int32} {n : Nat} (h : a.toInt = n) (hn : n < 2147483648) : a = nI n := by
  rw [q_eq, q_nI, h]
  omega
theorem q_succ (n : Nat) : nI n + Int32.ofInt 1 = nI (n + 1) := by rw [nI_succ]; rfl
theorem q_lg {x y : Int64} : (lg_cmp x y).toInt = if y.toInt < x.toInt then 1 else if x.toInt = y.toInt then 0 else -1 := by
  unfold lg_cmp
  simp only [gt_iff_lt, Int64.lt_iff_toInt_lt, q_eqL]
  split
  · rfl
  · split <;> rfl
theorem q_b8 (n : Int) : (Int8.ofInt n).toInt32.toInt = (n + 128) % 256 - 128 := by
  rw [Int8.toInt_toInt32, Int8.toInt_ofInt, show Int8.size = 256 from rfl, Int.bmod]
  omega
theorem q_b16 (n : Int) : (Int16.ofInt n).toInt32.toInt = (n + 32768) % 65536 - 32768 := by
  rw [Int16.toInt_toInt32, Int16.toInt_ofInt, show Int16.size = 65536 from rfl, Int.bmod]
  omega
theorem q_ofI (n : Int) : (Int32.ofInt n).toInt = (n + 2147483648) % 4294967296 - 2147483648 := by
  rw [Int32.toInt_ofInt]
  exact q_bm32 n
theorem q_lit (n : Nat) : (no_index (OfNat.ofNat n : Int32)).toInt = ((n : Int) + 2147483648) % 4294967296 - 2147483648 := q_nI n
theorem q_ofNL (n : Nat) : (Int64.ofNat n).toInt = ((n : Int) + 9223372036854775808) % 18446744073709551616 - 9223372036854775808 := by
  have : (Int64.ofNat n).toInt = Int.bmod n (2 ^ 64) := by simp [Int64.toInt_ofNat]
  rw [this, q_bm64]
theorem q_litL (n : Nat) : (no_index (OfNat.ofNat n : Int64)).toInt = ((n : Int) + 9223372036854775808) % 18446744073709551616 - 9223372036854775808 := q_ofNL n
