/-! ROW, 1: sets of orders as bits -/
def zbt2 (S j : Nat) : Nat := S / 2 ^ j % 2
def zcard (S : Nat) : Nat := zbt2 S 0 + zbt2 S 1 + zbt2 S 2 + zbt2 S 3 + zbt2 S 4 + zbt2 S 5 + zbt2 S 6 + zbt2 S 7 + zbt2 S 8
theorem zbits_and : ∀ j, j < 9 → ∀ S, S < 512 → decide ((Int32.ofNat S &&& (Int32.ofInt 1 <<< (Int32.ofNat j &&& 31))) = 0) = decide (zbt2 S j = 0) := by decide +kernel
theorem zbits_or : ∀ j, j < 9 → ∀ S, S < 512 → zbt2 S j = 0 → (Int32.ofNat S ||| (Int32.ofInt 1 <<< (Int32.ofNat j &&& 31))) = Int32.ofNat (S + 2 ^ j) ∧ S + 2 ^ j < 512 := by decide +kernel
theorem zbits_one : ∀ j, j < 10 → (Int32.ofInt 1 <<< (Int32.ofNat j &&& 31)) = Int32.ofNat (2 ^ j) := by decide +kernel
theorem zbits_shr : ∀ j, j < 9 → ∀ S, S < 512 → decide (((Int32.ofNat S >>> (Int32.ofNat j &&& 31)) &&& Int32.ofInt 1) = Int32.ofInt 1) = decide (zbt2 S j = 1) := by decide +kernel
theorem zbits_cnt : ∀ S, S < 512 → z_p_Integer_bitCount (Int32.ofNat S) = Int32.ofNat (zcard S) := by decide +kernel
theorem zbits_ad1 : ∀ j, j < 9 → ∀ S, S < 512 → zbt2 S j = 0 → zcard (S + 2 ^ j) = zcard S + 1 ∧ zbt2 (S + 2 ^ j) j = 1 := by decide +kernel
theorem zbits_ad2 : ∀ j, j < 9 → ∀ k, k < 9 → ∀ S, S < 512 → (zbt2 S j = 0 ∧ k ≠ j) → zbt2 (S + 2 ^ j) k = zbt2 S k := by decide +kernel
theorem zbits_card : ∀ S, S < 512 → zcard S ≤ 9 := by decide +kernel
theorem zbits_ext : ∀ n, n ≤ 9 → ∀ S, S < 2 ^ n → zcard S = n → S = 2 ^ n - 1 := by decide +kernel
theorem zbits_off : ∀ n, n ≤ 9 → ∀ j, j < n → zbt2 (2 ^ n - 1) j = 1 := by decide +kernel
