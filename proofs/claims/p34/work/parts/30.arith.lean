/-! ARITH, 1: ints and longs as numbers -/
theorem y_bm (v : Int) (h1 : -2147483648 ≤ v) (h2 : v ≤ 2147483647) : v.bmod (2 ^ 32) = v := by
  rw [Int.bmod_def]
  have e : ((2 ^ 32 : Nat) : Int) = 4294967296 := rfl
  rw [e]
  split <;> omega
theorem y_bm8 (v : Int) (h1 : -9223372036854775808 ≤ v) (h2 : v ≤ 9223372036854775807) : v.bmod (2 ^ 64) = v := by
  rw [Int.bmod_def]
  have e : ((2 ^ 64 : Nat) : Int) = 18446744073709551616 := rfl
  rw [e]
  split <;> omega
theorem y_lo (x : Int32) : -2147483648 ≤ x.toInt := Int32.le_toInt x
theorem y_hi (x : Int32) : x.toInt ≤ 2147483647 := by
  have := Int32.toInt_lt x
  omega
theorem y_oi {v : Int} (h1 : -2147483648 ≤ v) (h2 : v ≤ 2147483647) : (Int32.ofInt v).toInt = v := by
  rw [Int32.toInt_ofInt]
  exact y_bm v h1 h2
theorem y_on {v : Nat} (h2 : v ≤ 2147483647) : (Int32.ofNat v).toInt = v := by
  rw [Int32.toInt_ofNat']
  exact y_bm v (by omega) (by omega)
theorem y_ad {x y : Int32} (h1 : -2147483648 ≤ x.toInt + y.toInt) (h2 : x.toInt + y.toInt ≤ 2147483647) : (x + y).toInt = x.toInt + y.toInt := by
  rw [Int32.toInt_add]
  exact y_bm _ h1 h2
theorem y_sb {x y : Int32} (h1 : -2147483648 ≤ x.toInt - y.toInt) (h2 : x.toInt - y.toInt ≤ 2147483647) : (x - y).toInt = x.toInt - y.toInt := by
  rw [Int32.toInt_sub]
  exact y_bm _ h1 h2
theorem y_mu {x y : Int32} (h1 : -2147483648 ≤ x.toInt * y.toInt) (h2 : x.toInt * y.toInt ≤ 2147483647) : (x * y).toInt = x.toInt * y.toInt := by
  rw [Int32.toInt_mul]
  exact y_bm _ h1 h2
theorem y_dv {x y : Int32} (h0 : 0 ≤ x.toInt) (h1 : 0 < y.toInt) : (x / y).toInt = x.toInt / y.toInt := by
  rw [Int32.toInt_div, Int.tdiv_eq_ediv_of_nonneg h0]
  have h2 := y_hi x
  have h3 : 0 ≤ x.toInt / y.toInt := Int.ediv_nonneg h0 (by omega)
  have h4 : x.toInt / y.toInt ≤ x.toInt := Int.ediv_le_self _ h0
  exact y_bm _ (by omega) (by omega)
theorem y_ad8 {x y : Int64} (h1 : -9223372036854775808 ≤ x.toInt + y.toInt) (h2 : x.toInt + y.toInt ≤ 9223372036854775807) : (x + y).toInt = x.toInt + y.toInt := by
  rw [Int64.toInt_add]
  exact y_bm8 _ h1 h2
theorem y_sb8 {x y : Int64} (h1 : -9223372036854775808 ≤ x.toInt - y.toInt) (h2 : x.toInt - y.toInt ≤ 9223372036854775807) : (x - y).toInt = x.toInt - y.toInt := by
  rw [Int64.toInt_sub]
  exact y_bm8 _ h1 h2
theorem y_mu8 {x y : Int64} (h1 : -9223372036854775808 ≤ x.toInt * y.toInt) (h2 : x.toInt * y.toInt ≤ 9223372036854775807) : (x * y).toInt = x.toInt * y.toInt := by
  rw [Int64.toInt_mul]
  exact y_bm8 _ h1 h2
theorem y_hi8 (x : Int64) : x.toInt ≤ 9223372036854775807 := by
  have := Int64.toInt_lt x
  omega
theorem y_dv8 {x y : Int64} (h0 : 0 ≤ x.toInt) (h1 : 0 < y.toInt) : (x / y).toInt = x.toInt / y.toInt := by
  rw [Int64.toInt_div, Int.tdiv_eq_ediv_of_nonneg h0]
  have h2 := y_hi8 x
  have h3 : 0 ≤ x.toInt / y.toInt := Int.ediv_nonneg h0 (by omega)
  have h4 : x.toInt / y.toInt ≤ x.toInt := Int.ediv_le_self _ h0
  exact y_bm8 _ (by omega) (by omega)
theorem y_il (x : Int32) : x.toInt64.toInt = x.toInt := Int32.toInt_toInt64 x
theorem y_li (x : Int64) (h1 : -2147483648 ≤ x.toInt) (h2 : x.toInt ≤ 2147483647) : x.toInt32.toInt = x.toInt := by
  rw [Int64.toInt_toInt32]
  exact y_bm _ h1 h2
theorem y_ol {v : Int} (h1 : -9223372036854775808 ≤ v) (h2 : v ≤ 9223372036854775807) : (Int64.ofInt v).toInt = v := by
  rw [Int64.toInt_ofInt]
  exact y_bm8 v h1 h2
theorem y_i_le {x y : Int32} : x ≤ y ↔ x.toInt ≤ y.toInt := Int32.le_iff_toInt_le
theorem y_i_lt {x y : Int32} : x < y ↔ x.toInt < y.toInt := Int32.lt_iff_toInt_lt
theorem y_i_eq {x y : Int32} : x = y ↔ x.toInt = y.toInt := Int32.toInt_inj.symm
theorem y_l_le {x y : Int64} : x ≤ y ↔ x.toInt ≤ y.toInt := Int64.le_iff_toInt_le
theorem y_l_lt {x y : Int64} : x < y ↔ x.toInt < y.toInt := Int64.lt_iff_toInt_lt
theorem y_l_eq {x y : Int64} : x = y ↔ x.toInt = y.toInt := Int64.toInt_inj.symm
theorem y_i0 : (0 : Int32).toInt = 0 := rfl
theorem y_l0 : (0 : Int64).toInt = 0 := rfl
theorem y_tn (x : Int32) : x.toNatClampNeg = x.toInt.toNat := rfl
theorem y_ofi (x : Int32) : Int32.ofInt x.toInt = x := Int32.ofInt_toInt x
theorem y_eqi {x : Int32} {v : Int} (h : x.toInt = v) : x = Int32.ofInt v := by
  rw [← h, y_ofi]
/-- an index in range -/
theorem y_in_t {i : Int32} {n : Nat} (h0 : 0 ≤ i.toInt) (h1 : i.toInt < n) : z_in i n = true := by
  rw [z_in_eq]
  have a : ¬ i < 0 := by
    rw [y_i_lt, y_i0]
    omega
  have b : i.toNatClampNeg < n := by
    rw [y_tn]
    omega
  simp [a, Nat.blt, Nat.succ_le_of_lt b]
theorem y_b1_t {x : Int32} (h : x = Int32.ofInt 0 ∨ x = Int32.ofInt 1) : z_b1 x = true := by
  rcases h with h | h
  · rw [h]
    exact z_b1_0
  · rw [h]
    exact z_b1_1
