/-! RULES, 10: the model's words -/
theorem zpk_s : ((Int32.ofInt 5).toInt64 &&& 63 : Int64).toBitVec.smod 64 = 5#64 := by decide +kernel
theorem zpk_e (v : Int64) (y : Int64) : ((v <<< ((Int32.ofInt 5).toInt64 &&& 63)) ||| y).toBitVec = (v.toBitVec <<< (5#64)) ||| y.toBitVec := by
  rw [Int64.toBitVec_or, Int64.toBitVec_shiftLeft, zpk_s]
theorem zpk_n (a b : BitVec 64) (ha : a.toNat < 2251799813685248) (hb : b.toNat < 32) : ((a <<< (5#64)) ||| b).toNat = a.toNat * 32 + b.toNat := by
  have e5 : (5#64).toNat = 5 := rfl
  have h1 : (a <<< (5#64)).toNat = a.toNat * 2 ^ 5 := by
    rw [BitVec.shiftLeft_eq', BitVec.toNat_shiftLeft, e5, Nat.shiftLeft_eq, Nat.mod_eq_of_lt]
    omega
  rw [BitVec.toNat_or, h1, ← Nat.shiftLeft_eq, ← Nat.shiftLeft_add_eq_or_of_lt (by omega), Nat.shiftLeft_eq]
