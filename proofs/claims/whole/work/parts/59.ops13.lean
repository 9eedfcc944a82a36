/-! CALLS, 13: fits -/
theorem y_131 : ∀ i, i < 32 → ¬ i < 17 → (131071#32).getLsbD i = false := by decide
theorem y_131' : ∀ i, i < 64 → (131071#64).getLsbD i = decide (i < 17) := by decide
theorem y_131'' : ∀ i, i < 32 → (131071#32).getLsbD i = decide (i < 17) := by decide
theorem y_mark {x : BitVec 64} {n : Nat} (hn : n ≤ 34) : ((x >>> n).setWidth 32) &&& 131071#32 = ((x.sshiftRight n) &&& 131071#64).setWidth 32 := by
  apply BitVec.eq_of_getLsbD_eq
  intro i hi
  have hd : decide (i < 32) = true := decide_eq_true hi
  rw [BitVec.getLsbD_and, BitVec.getLsbD_setWidth, BitVec.getLsbD_setWidth, BitVec.getLsbD_and, BitVec.getLsbD_ushiftRight, BitVec.getLsbD_sshiftRight, y_131'' i hi, y_131' i (by omega), hd]
  by_cases h : i < 17
  · have h1 : n + i < 64 := by omega
    have h2 : ¬ 64 ≤ i := by omega
    simp [h, h1, h2]
  · simp [h]
theorem y_se (x : BitVec 64) : x.signExtend 32 = x.setWidth 32 := BitVec.signExtend_eq_setWidth_of_le x (by decide)
theorem y_marks {x : BitVec 64} {n : Nat} (hn : n ≤ 34) : ((x >>> n).signExtend 32) &&& 131071#32 = ((x.sshiftRight n) &&& 131071#64).signExtend 32 := by
  rw [y_se, y_se]
  exact y_mark hn
theorem y_mkr (x : BitVec 64) : ((x &&& 131071#64).setWidth 32).toInt = ((x &&& 131071#64).toNat : Int) ∧ (x &&& 131071#64).toNat ≤ 131071 := by
  have h : (x &&& 131071#64).toNat ≤ 131071 := by
    rw [BitVec.toNat_and]
    exact Nat.and_le_right
  refine ⟨?_, h⟩
  rw [BitVec.toInt_eq_toNat_of_lt]
  · rw [BitVec.toNat_setWidth, Nat.mod_eq_of_lt (by omega)]
  · rw [BitVec.toNat_setWidth, Nat.mod_eq_of_lt (by omega)]
    omega
theorem y_mk0 (x : Int64) : (((x.toUInt64 >>> ((Int32.ofInt 0).toInt64.toUInt64 &&& Int64.toUInt64 63)).toInt64).toInt32) &&& (Int32.ofInt 131071) = ((x >>> ((Int32.ofInt 0).toInt64 &&& 63)) &&& (Int64.ofInt 131071)).toInt32 := by
  rw [← Int32.toBitVec_inj]
  exact y_marks (x := x.toBitVec) (n := 0) (by omega)
theorem y_mr0 (x : Int64) : 0 ≤ (((x >>> ((Int32.ofInt 0).toInt64 &&& 63)) &&& (Int64.ofInt 131071)).toInt32).toInt ∧ (((x >>> ((Int32.ofInt 0).toInt64 &&& 63)) &&& (Int64.ofInt 131071)).toInt32).toInt ≤ 131071 := by
  obtain ⟨h1, h2⟩ := y_mkr (x.toBitVec.sshiftRight 0)
  have e : (((x >>> ((Int32.ofInt 0).toInt64 &&& 63)) &&& (Int64.ofInt 131071)).toInt32).toInt = (((x.toBitVec.sshiftRight 0) &&& 131071#64).signExtend 32).toInt := rfl
  rw [e, y_se, h1]
  omega
theorem y_mk17 (x : Int64) : (((x.toUInt64 >>> ((Int32.ofInt 17).toInt64.toUInt64 &&& Int64.toUInt64 63)).toInt64).toInt32) &&& (Int32.ofInt 131071) = ((x >>> ((Int32.ofInt 17).toInt64 &&& 63)) &&& (Int64.ofInt 131071)).toInt32 := by
  rw [← Int32.toBitVec_inj]
  exact y_marks (x := x.toBitVec) (n := 17) (by omega)
theorem y_mr17 (x : Int64) : 0 ≤ (((x >>> ((Int32.ofInt 17).toInt64 &&& 63)) &&& (Int64.ofInt 131071)).toInt32).toInt ∧ (((x >>> ((Int32.ofInt 17).toInt64 &&& 63)) &&& (Int64.ofInt 131071)).toInt32).toInt ≤ 131071 := by
  obtain ⟨h1, h2⟩ := y_mkr (x.toBitVec.sshiftRight 17)
  have e : (((x >>> ((Int32.ofInt 17).toInt64 &&& 63)) &&& (Int64.ofInt 131071)).toInt32).toInt = (((x.toBitVec.sshiftRight 17) &&& 131071#64).signExtend 32).toInt := rfl
  rw [e, y_se, h1]
  omega
theorem y_mk34 (x : Int64) : (((x.toUInt64 >>> ((Int32.ofInt 34).toInt64.toUInt64 &&& Int64.toUInt64 63)).toInt64).toInt32) &&& (Int32.ofInt 131071) = ((x >>> ((Int32.ofInt 34).toInt64 &&& 63)) &&& (Int64.ofInt 131071)).toInt32 := by
  rw [← Int32.toBitVec_inj]
  exact y_marks (x := x.toBitVec) (n := 34) (by omega)
theorem y_mr34 (x : Int64) : 0 ≤ (((x >>> ((Int32.ofInt 34).toInt64 &&& 63)) &&& (Int64.ofInt 131071)).toInt32).toInt ∧ (((x >>> ((Int32.ofInt 34).toInt64 &&& 63)) &&& (Int64.ofInt 131071)).toInt32).toInt ≤ 131071 := by
  obtain ⟨h1, h2⟩ := y_mkr (x.toBitVec.sshiftRight 34)
  have e : (((x >>> ((Int32.ofInt 34).toInt64 &&& 63)) &&& (Int64.ofInt 131071)).toInt32).toInt = (((x.toBitVec.sshiftRight 34) &&& 131071#64).signExtend 32).toInt := rfl
  rw [e, y_se, h1]
  omega
theorem y_mk_all (a b c d : Int64) {i : Nat} (hi : i < 10) : z_p_X_placeOf (Int32.ofNat i) a b c d = z_p_M_markAt (Int32.ofNat i) a b c d ∧ 0 ≤ (z_p_M_markAt (Int32.ofNat i) a b c d).toInt ∧ (z_p_M_markAt (Int32.ofNat i) a b c d).toInt ≤ 131071 := by
  have hc : i = 0 ∨ i = 1 ∨ i = 2 ∨ i = 3 ∨ i = 4 ∨ i = 5 ∨ i = 6 ∨ i = 7 ∨ i = 8 ∨ i = 9 := by omega
  unfold z_p_X_placeOf z_p_M_markAt
  rcases hc with e | e | e | e | e | e | e | e | e | e <;> subst e
  · have hs : Int32.ofInt 17 * (Int32.ofNat 0 - Int32.ofNat 0 / Int32.ofInt 3 * Int32.ofInt 3) = Int32.ofInt 0 := by decide
    simp only [if_neg (show ¬ Int32.ofInt 3 ≤ Int32.ofNat 0 by decide)]
    rw [hs]
    exact ⟨y_mk0 a, y_mr0 a⟩
  · have hs : Int32.ofInt 17 * (Int32.ofNat 1 - Int32.ofNat 1 / Int32.ofInt 3 * Int32.ofInt 3) = Int32.ofInt 17 := by decide
    simp only [if_neg (show ¬ Int32.ofInt 3 ≤ Int32.ofNat 1 by decide)]
    rw [hs]
    exact ⟨y_mk17 a, y_mr17 a⟩
  · have hs : Int32.ofInt 17 * (Int32.ofNat 2 - Int32.ofNat 2 / Int32.ofInt 3 * Int32.ofInt 3) = Int32.ofInt 34 := by decide
    simp only [if_neg (show ¬ Int32.ofInt 3 ≤ Int32.ofNat 2 by decide)]
    rw [hs]
    exact ⟨y_mk34 a, y_mr34 a⟩
  · have hs : Int32.ofInt 17 * (Int32.ofNat 3 - Int32.ofNat 3 / Int32.ofInt 3 * Int32.ofInt 3) = Int32.ofInt 0 := by decide
    simp only [if_pos (show Int32.ofInt 3 ≤ Int32.ofNat 3 by decide), if_neg (show ¬ Int32.ofInt 6 ≤ Int32.ofNat 3 by decide)]
    rw [hs]
    exact ⟨y_mk0 b, y_mr0 b⟩
  · have hs : Int32.ofInt 17 * (Int32.ofNat 4 - Int32.ofNat 4 / Int32.ofInt 3 * Int32.ofInt 3) = Int32.ofInt 17 := by decide
    simp only [if_pos (show Int32.ofInt 3 ≤ Int32.ofNat 4 by decide), if_neg (show ¬ Int32.ofInt 6 ≤ Int32.ofNat 4 by decide)]
    rw [hs]
    exact ⟨y_mk17 b, y_mr17 b⟩
  · have hs : Int32.ofInt 17 * (Int32.ofNat 5 - Int32.ofNat 5 / Int32.ofInt 3 * Int32.ofInt 3) = Int32.ofInt 34 := by decide
    simp only [if_pos (show Int32.ofInt 3 ≤ Int32.ofNat 5 by decide), if_neg (show ¬ Int32.ofInt 6 ≤ Int32.ofNat 5 by decide)]
    rw [hs]
    exact ⟨y_mk34 b, y_mr34 b⟩
  · have hs : Int32.ofInt 17 * (Int32.ofNat 6 - Int32.ofNat 6 / Int32.ofInt 3 * Int32.ofInt 3) = Int32.ofInt 0 := by decide
    simp only [if_pos (show Int32.ofInt 3 ≤ Int32.ofNat 6 by decide), if_pos (show Int32.ofInt 6 ≤ Int32.ofNat 6 by decide), if_neg (show ¬ Int32.ofInt 9 ≤ Int32.ofNat 6 by decide)]
    rw [hs]
    exact ⟨y_mk0 c, y_mr0 c⟩
  · have hs : Int32.ofInt 17 * (Int32.ofNat 7 - Int32.ofNat 7 / Int32.ofInt 3 * Int32.ofInt 3) = Int32.ofInt 17 := by decide
    simp only [if_pos (show Int32.ofInt 3 ≤ Int32.ofNat 7 by decide), if_pos (show Int32.ofInt 6 ≤ Int32.ofNat 7 by decide), if_neg (show ¬ Int32.ofInt 9 ≤ Int32.ofNat 7 by decide)]
    rw [hs]
    exact ⟨y_mk17 c, y_mr17 c⟩
  · have hs : Int32.ofInt 17 * (Int32.ofNat 8 - Int32.ofNat 8 / Int32.ofInt 3 * Int32.ofInt 3) = Int32.ofInt 34 := by decide
    simp only [if_pos (show Int32.ofInt 3 ≤ Int32.ofNat 8 by decide), if_pos (show Int32.ofInt 6 ≤ Int32.ofNat 8 by decide), if_neg (show ¬ Int32.ofInt 9 ≤ Int32.ofNat 8 by decide)]
    rw [hs]
    exact ⟨y_mk34 c, y_mr34 c⟩
  · have hs : Int32.ofInt 17 * (Int32.ofNat 9 - Int32.ofNat 9 / Int32.ofInt 3 * Int32.ofInt 3) = Int32.ofInt 0 := by decide
    simp only [if_pos (show Int32.ofInt 3 ≤ Int32.ofNat 9 by decide), if_pos (show Int32.ofInt 6 ≤ Int32.ofNat 9 by decide), if_pos (show Int32.ofInt 9 ≤ Int32.ofNat 9 by decide)]
    rw [hs]
    exact ⟨y_mk0 d, y_mr0 d⟩
theorem z_lg_ge (x y : Int64) : (0 ≤ lg_cmp x y) = (y.toInt ≤ x.toInt) := by
  have h1 := z_lg_lt x y
  have e : (0 ≤ lg_cmp x y) ↔ ¬ (lg_cmp x y < 0) := by
    rw [y_i_lt, y_i_le]
    omega
  rw [eq_iff_iff, e, h1]
  omega
theorem z_abl_i {x : Int64} (h : -9223372036854775807 ≤ x.toInt) : (z_abl x).toInt = max x.toInt (-x.toInt) := by
  unfold z_abl
  have := y_hi8 x
  split
  · rename_i g
    rw [y_l_lt, y_l0] at g
    omega
  · rename_i g
    rw [y_l_lt, y_l0] at g
    rw [Int64.toInt_neg, y_bm8 _ (by omega) (by omega)]
    omega
theorem z_mxl_i (x y : Int64) : (z_mxl x y).toInt = max x.toInt y.toInt := by
  unfold z_mxl
  split
  · rename_i g
    rw [y_l_lt] at g
    omega
  · rename_i g
    rw [y_l_lt] at g
    omega
/-- do a distance, times y, and whole turns agree up to so much? -/
def zfk (W r : Int) : Int := max 1 (W / r)
def zfo (W r f : Int) : Bool := decide (max (W - zfk W r * r) (zfk W r * r - W) ≤ f ∨ (zfk W r + 1) * r - W ≤ f)
theorem zfk_f {W r : Int} (hW : 0 ≤ W) (hr : 0 < r) : 1 ≤ zfk W r ∧ W < (zfk W r + 1) * r ∧ (zfk W r * r ≤ W ∨ zfk W r * r = r) ∧ (zfk W r + 1) * r = zfk W r * r + r ∧ r ≤ zfk W r * r := by
  have h1 := Int.ediv_mul_le W (b := r) (by omega)
  have h2 := Int.lt_ediv_add_one_mul_self W hr
  have h3 : 0 ≤ W / r := Int.ediv_nonneg hW (by omega)
  have h4 : (W / r + 1) * r = W / r * r + r := by rw [Int.add_mul, Int.one_mul]
  unfold zfk
  by_cases h : 1 ≤ W / r
  · rw [show max 1 (W / r) = W / r by omega]
    have h5 : 1 * r ≤ W / r * r := Int.mul_le_mul_of_nonneg_right h (by omega)
    refine ⟨h, h2, Or.inl h1, h4, by omega⟩
  · have h0 : W / r = 0 := by omega
    rw [h0] at h2
    rw [show max 1 (W / r) = 1 by omega]
    omega
