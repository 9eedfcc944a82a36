/-! BITS: what shifts and masks take out -/
theorem y_255 : ∀ i, i < 32 → ¬ i < 8 → (255#32).getLsbD i = false := by decide
theorem y_byte {x : BitVec 32} {n : Nat} (hn : n ≤ 24) : (x >>> n) &&& 255#32 = (x.sshiftRight n) &&& 255#32 := by
  apply BitVec.eq_of_getLsbD_eq
  intro i hi
  rw [BitVec.getLsbD_and, BitVec.getLsbD_and, BitVec.getLsbD_ushiftRight, BitVec.getLsbD_sshiftRight]
  by_cases h : i < 8
  · have h1 : n + i < 32 := by omega
    have h2 : ¬ 32 ≤ i := by omega
    simp [h1, h2]
  · rw [y_255 i hi h, Bool.and_false, Bool.and_false]
theorem y_b24 (x : Int32) : ((x.toUInt32 >>> ((Int32.ofInt 24).toUInt32 &&& Int32.toUInt32 31)).toInt32) &&& (Int32.ofInt 255) = (x >>> (Int32.ofInt 24 &&& 31)) &&& (Int32.ofInt 255) := by
  rw [← Int32.toBitVec_inj]
  exact y_byte (x := x.toBitVec) (n := 24) (by omega)
theorem y_b16 (x : Int32) : ((x.toUInt32 >>> ((Int32.ofInt 16).toUInt32 &&& Int32.toUInt32 31)).toInt32) &&& (Int32.ofInt 255) = (x >>> (Int32.ofInt 16 &&& 31)) &&& (Int32.ofInt 255) := by
  rw [← Int32.toBitVec_inj]
  exact y_byte (x := x.toBitVec) (n := 16) (by omega)
theorem y_b8 (x : Int32) : ((x.toUInt32 >>> ((Int32.ofInt 8).toUInt32 &&& Int32.toUInt32 31)).toInt32) &&& (Int32.ofInt 255) = (x >>> (Int32.ofInt 8 &&& 31)) &&& (Int32.ofInt 255) := by
  rw [← Int32.toBitVec_inj]
  exact y_byte (x := x.toBitVec) (n := 8) (by omega)
theorem y_b0 (x : Int32) : ((x.toUInt32 >>> ((Int32.ofInt 0).toUInt32 &&& Int32.toUInt32 31)).toInt32) &&& (Int32.ofInt 255) = (x >>> (Int32.ofInt 0 &&& 31)) &&& (Int32.ofInt 255) := by
  rw [← Int32.toBitVec_inj]
  exact y_byte (x := x.toBitVec) (n := 0) (by omega)
