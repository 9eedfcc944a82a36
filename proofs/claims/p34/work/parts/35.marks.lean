/-! MARKS: places as bits of longs; whole turns -/
theorem zplc_val (m s : Nat) (hm : m < 2 ^ 63) (hs : s < 64) (u : UInt64) (hu : u.toNat = s) : ((Int64.ofNat m).toUInt64 >>> u).toInt64.toInt32 &&& Int32.ofInt 131071 = Int32.ofNat (m / 2 ^ s % 131072) := by
  apply Int32.toBitVec_inj.mp
  apply BitVec.eq_of_toNat_eq
  have e1 : ((Int64.ofNat m).toUInt64 >>> u).toNat = m / 2 ^ s := by
    rw [UInt64.toNat_shiftRight, hu, Nat.mod_eq_of_lt hs, Nat.shiftRight_eq_div_pow]
    congr 1
    show (BitVec.ofNat 64 m).toNat = m
    rw [BitVec.toNat_ofNat]
    exact Nat.mod_eq_of_lt (by omega)
  generalize (Int64.ofNat m).toUInt64 >>> u = U at e1
  have e2 : (U.toInt64.toInt32 &&& Int32.ofInt 131071).toBitVec = (U.toBitVec.signExtend 32) &&& 131071#32 := rfl
  rw [e2, BitVec.signExtend_eq_setWidth_of_le _ (by decide), BitVec.toNat_and, BitVec.toNat_setWidth]
  show U.toNat % 2 ^ 32 &&& 131071 = (BitVec.ofNat 32 (m / 2 ^ s % 131072)).toNat
  rw [e1, BitVec.toNat_ofNat, show (131071 : Nat) = 2 ^ 17 - 1 from rfl, Nat.and_two_pow_sub_one_eq_mod]
  omega
theorem zput_val (m s A : Nat) (hm : m < 2 ^ s) (hs : s ≤ 34) (hA : A < 131072) (a : Int32) (ha : a.toInt = A) (u : Int64) (hu : (u &&& 63) = Int64.ofNat s) : Int64.ofNat m ||| (a.toInt64 <<< (u &&& 63)) = Int64.ofNat (m + A * 2 ^ s) := by
  have p34 : 2 ^ s ≤ 2 ^ 34 := Nat.pow_le_pow_right (by omega) hs
  have hAs : A * 2 ^ s < 131072 * 2 ^ 34 := by
    have h1 : A * 2 ^ s ≤ A * 2 ^ 34 := Nat.mul_le_mul_left _ p34
    have h2 : A * 2 ^ 34 < 131072 * 2 ^ 34 := Nat.mul_lt_mul_of_pos_right hA (by decide)
    omega
  have ea : a.toInt64 = Int64.ofNat A := by
    rw [y_l_eq, y_il, ha, Int64.toInt_ofNat']
    exact (y_bm8 _ (by omega) (by omega)).symm
  rw [hu, ea]
  apply Int64.toBitVec_inj.mp
  apply BitVec.eq_of_toNat_eq
  have e1 : (Int64.ofNat m ||| Int64.ofNat A <<< Int64.ofNat s).toBitVec = BitVec.ofNat 64 m ||| (BitVec.ofNat 64 A <<< ((BitVec.ofNat 64 s).smod 64)) := rfl
  have e2 : (BitVec.ofNat 64 s).smod 64 = BitVec.ofNat 64 s := by
    have : ∀ k : Fin 35, (BitVec.ofNat 64 k.val).smod 64 = BitVec.ofNat 64 k.val := by decide
    exact this ⟨s, by omega⟩
  rw [e1, e2, BitVec.toNat_or, BitVec.shiftLeft_eq', BitVec.toNat_shiftLeft, BitVec.toNat_ofNat, BitVec.toNat_ofNat, BitVec.toNat_ofNat, Nat.shiftLeft_eq]
  show _ = (BitVec.ofNat 64 (m + A * 2 ^ s)).toNat
  rw [BitVec.toNat_ofNat, Nat.mod_eq_of_lt (show m < 2 ^ 64 by omega), Nat.mod_eq_of_lt (show A < 2 ^ 64 by omega), Nat.mod_eq_of_lt (show s < 2 ^ 64 by omega), Nat.mod_eq_of_lt (show A * 2 ^ s < 2 ^ 64 by omega), Nat.mod_eq_of_lt (show m + A * 2 ^ s < 2 ^ 64 by omega)]
  have e3 := Nat.two_pow_add_eq_or_of_lt hm A
  rw [Nat.mul_comm, Nat.or_comm, ← e3, Nat.add_comm]
/-- the marks of which so many are laid: the word of three -/
def zbj (A : Nat → Nat) (i j : Nat) : Nat := if j < i then A j else 0
def zmw (A : Nat → Nat) (i q : Nat) : Nat := zbj A i (3 * q) + zbj A i (3 * q + 1) * 131072 + zbj A i (3 * q + 2) * 17179869184
theorem zbj_lt {A : Nat → Nat} {i : Nat} (h : ∀ j < i, A j < 131072) (j : Nat) : zbj A i j < 131072 := by
  unfold zbj
  split
  · exact h j (by assumption)
  · omega
theorem zmw_lt {A : Nat → Nat} {i : Nat} (h : ∀ j < i, A j < 131072) (q : Nat) : zmw A i q < 2 ^ 63 := by
  have h1 := zbj_lt h (3 * q)
  have h2 := zbj_lt h (3 * q + 1)
  have h3 := zbj_lt h (3 * q + 2)
  unfold zmw
  omega
theorem zmw_at {A : Nat → Nat} {i j : Nat} (h : ∀ j < i, A j < 131072) (hj : j < i) : zmw A i (j / 3) / 2 ^ (17 * (j % 3)) % 131072 = A j := by
  have h1 := zbj_lt h (3 * (j / 3))
  have h2 := zbj_lt h (3 * (j / 3) + 1)
  have h3 := zbj_lt h (3 * (j / 3) + 2)
  have hj9 : zbj A i j = A j := if_pos hj
  unfold zmw
  generalize hq : j / 3 = q at *
  have hr : j % 3 = 0 ∨ j % 3 = 1 ∨ j % 3 = 2 := by omega
  rcases hr with hr | hr | hr
  · have e : j = 3 * q := by omega
    rw [hr, ← hj9, e]
    rw [show 2 ^ (17 * 0) = 1 from rfl]
    omega
  · have e : j = 3 * q + 1 := by omega
    rw [hr, ← hj9, e]
    rw [show 2 ^ (17 * 1) = 131072 from rfl]
    omega
  · have e : j = 3 * q + 2 := by omega
    rw [hr, ← hj9, e]
    rw [show 2 ^ (17 * 2) = 17179869184 from rfl]
    omega
theorem zmw_next {A : Nat → Nat} {i : Nat} (h : ∀ j < i, A j < 131072) : zmw A i (i / 3) < 2 ^ (17 * (i % 3)) ∧ zmw A (i + 1) (i / 3) = zmw A i (i / 3) + A i * 2 ^ (17 * (i % 3)) ∧ ∀ q, q ≠ i / 3 → zmw A (i + 1) q = zmw A i q := by
  have g : ∀ j, zbj A (i + 1) j = if j = i then A i else zbj A i j := by
    intro j
    unfold zbj
    by_cases h1 : j = i
    · rw [if_pos h1, if_pos (by omega), h1]
    · rw [if_neg h1]
      by_cases h2 : j < i
      · rw [if_pos h2, if_pos (by omega)]
      · rw [if_neg h2, if_neg (by omega)]
  have z : ∀ j, i ≤ j → zbj A i j = 0 := fun j hj => if_neg (by omega)
  refine ⟨?_, ?_, ?_⟩
  · generalize hq : i / 3 = q
    have h1 := zbj_lt h (3 * q)
    have h2 := zbj_lt h (3 * q + 1)
    unfold zmw
    have hr : i % 3 = 0 ∨ i % 3 = 1 ∨ i % 3 = 2 := by omega
    rcases hr with hr | hr | hr
    · rw [hr, z (3 * q) (by omega), z (3 * q + 1) (by omega), z (3 * q + 2) (by omega)]; decide
    · rw [hr, z (3 * q + 1) (by omega), z (3 * q + 2) (by omega), show 2 ^ (17 * 1) = 131072 from rfl]; omega
    · rw [hr, z (3 * q + 2) (by omega), show 2 ^ (17 * 2) = 17179869184 from rfl]; omega
  · generalize hq : i / 3 = q
    unfold zmw
    rw [g, g, g]
    have hr : i % 3 = 0 ∨ i % 3 = 1 ∨ i % 3 = 2 := by omega
    rcases hr with hr | hr | hr
    · rw [hr, if_pos (show 3 * q = i by omega), if_neg (show ¬ 3 * q + 1 = i by omega), if_neg (show ¬ 3 * q + 2 = i by omega), z (3 * q) (by omega), z (3 * q + 1) (by omega), z (3 * q + 2) (by omega), show 2 ^ (17 * 0) = 1 from rfl]; omega
    · rw [hr, if_neg (show ¬ 3 * q = i by omega), if_pos (show 3 * q + 1 = i by omega), if_neg (show ¬ 3 * q + 2 = i by omega), z (3 * q + 1) (by omega), z (3 * q + 2) (by omega), show 2 ^ (17 * 1) = 131072 from rfl]; omega
    · rw [hr, if_neg (show ¬ 3 * q = i by omega), if_neg (show ¬ 3 * q + 1 = i by omega), if_pos (show 3 * q + 2 = i by omega), z (3 * q + 2) (by omega), show 2 ^ (17 * 2) = 17179869184 from rfl]; omega
  · intro q hq
    unfold zmw
    rw [g, g, g, if_neg (show ¬ 3 * q = i by omega), if_neg (show ¬ 3 * q + 1 = i by omega), if_neg (show ¬ 3 * q + 2 = i by omega)]
/-- near a whole number of turns, from 1 on; all is told y times as large -/
def zNear (way T free : Int) : Prop := ∃ k : Int, 1 ≤ k ∧ way - k * T ≤ free ∧ k * T - way ≤ free
theorem zNear_two {way T free : Int} (hw : 0 ≤ way) (hT : 1 ≤ T) (hf : 0 ≤ free) : zNear way T free ↔ ((way - max 1 (way / T) * T ≤ free ∧ max 1 (way / T) * T - way ≤ free) ∨ (way - (max 1 (way / T) + 1) * T ≤ free ∧ (max 1 (way / T) + 1) * T - way ≤ free)) := by
  have q1 : way / T * T ≤ way := Int.ediv_mul_le _ (by omega)
  have q2 : way < (way / T + 1) * T := by
    have := Int.lt_ediv_add_one_mul_self way (show 0 < T by omega)
    exact this
  have q0 : 0 ≤ way / T := Int.ediv_nonneg hw (by omega)
  constructor
  · rintro ⟨k, hk1, hk2, hk3⟩
    by_cases hkq : k ≤ way / T
    · left
      have hm : max 1 (way / T) = way / T := by omega
      rw [hm]
      have a := Int.mul_le_mul_of_nonneg_right hkq (show 0 ≤ T by omega)
      omega
    · have a := Int.mul_le_mul_of_nonneg_right (show way / T + 1 ≤ k by omega) (show 0 ≤ T by omega)
      by_cases hz : 1 ≤ way / T
      · right
        have hm : max 1 (way / T) = way / T := by omega
        rw [hm]
        omega
      · left
        have hz0 : way / T = 0 := by omega
        rw [hz0] at a q2 ⊢
        rw [show max (1 : Int) 0 = 0 + 1 from rfl]
        omega
  · rintro (⟨h1, h2⟩ | ⟨h1, h2⟩)
    · exact ⟨_, by omega, h1, h2⟩
    · exact ⟨_, by omega, h1, h2⟩
theorem y_ng8 {x : Int64} (h : -9223372036854775807 ≤ x.toInt) : (-x).toInt = -x.toInt := by
  rw [Int64.toInt_neg]
  have := y_hi8 x
  exact y_bm8 _ (by omega) (by omega)
theorem y_abl {x : Int64} (h : -9223372036854775807 ≤ x.toInt) (f : Int) : (z_abl x).toInt ≤ f ↔ x.toInt ≤ f ∧ -x.toInt ≤ f := by
  unfold z_abl
  split
  · rename_i h1
    rw [y_l_lt, y_l0] at h1
    omega
  · rename_i h1
    rw [y_l_lt, y_l0] at h1
    rw [y_ng8 h]
    omega
theorem zr_whole (X : ZX) (d : Nat) (w : ZW) (D y e : Int32) (T : Int64) (hD : 0 ≤ D.toInt ∧ D.toInt ≤ 100000) (hy : 1 ≤ y.toInt ∧ y.toInt ≤ 50) (he : 0 ≤ e.toInt ∧ e.toInt ≤ 12) (hT : 1 ≤ T.toInt ∧ T.toInt ≤ 20000) : ∃ r, z_run X z_cf z_ff (d + 1) 46 [.int D, .long T, .int y, .int e] w = zI w r ∧ ((r = 0 ∧ ¬ zNear (D.toInt * y.toInt) T.toInt (e.toInt * y.toInt)) ∨ (¬ r = 0 ∧ zNear (D.toInt * y.toInt) T.toInt (e.toInt * y.toInt))) := by
  have w0 : 0 ≤ D.toInt * y.toInt := Int.mul_nonneg hD.1 (by omega)
  have w1 : D.toInt * y.toInt ≤ 100000 * 50 := Int.le_trans (Int.mul_le_mul_of_nonneg_right hD.2 (by omega)) (Int.mul_le_mul_of_nonneg_left hy.2 (by omega))
  have f0 : 0 ≤ e.toInt * y.toInt := Int.mul_nonneg he.1 (by omega)
  have f1 : e.toInt * y.toInt ≤ 12 * 50 := Int.le_trans (Int.mul_le_mul_of_nonneg_right he.2 (by omega)) (Int.mul_le_mul_of_nonneg_left hy.2 (by omega))
  have ew : (D.toInt64 * y.toInt64).toInt = D.toInt * y.toInt := by rw [y_mu8 (by rw [y_il, y_il]; omega) (by rw [y_il, y_il]; omega), y_il, y_il]
  have ef : (e.toInt64 * y.toInt64).toInt = e.toInt * y.toInt := by rw [y_mu8 (by rw [y_il, y_il]; omega) (by rw [y_il, y_il]; omega), y_il, y_il]
  have h2 := zNear_two w0 hT.1 f0
  have b0 := fun N => zb_X_isWholeTurns_0 X (z_run X z_cf z_ff d) N w D T y e
  generalize D.toInt64 * y.toInt64 = W at ew b0
  generalize e.toInt64 * y.toInt64 = F at ef b0
  generalize D.toInt * y.toInt = way at *
  generalize e.toInt * y.toInt = free at *
  have l1 : (Int64.ofInt 1).toInt = 1 := rfl
  have eq9 : (W / T).toInt = way / T.toInt := by rw [y_dv8 (by omega) (by omega), ew]
  have q0 : 0 ≤ way / T.toInt := Int.ediv_nonneg w0 (by omega)
  have q1 : way / T.toInt * T.toInt ≤ way := Int.ediv_mul_le _ (by omega)
  have q3 : way / T.toInt ≤ way := Int.ediv_le_self _ w0
  have et : (z_mxl (Int64.ofInt 1) (W / T)).toInt = max 1 (way / T.toInt) := by
    unfold z_mxl
    split
    · rename_i h
      rw [y_l_lt, eq9, l1] at h
      rw [l1]; omega
    · rename_i h
      rw [y_l_lt, eq9, l1] at h
      rw [eq9]; omega
  generalize z_mxl (Int64.ofInt 1) (W / T) = t at et b0
  generalize hm : max 1 (way / T.toInt) = m at *
  have m1 : 1 ≤ m := by omega
  have mT : m * T.toInt ≤ way + T.toInt := by
    rcases Int.le_total 1 (way / T.toInt) with h | h
    · have : m = way / T.toInt := by omega
      rw [this]; omega
    · have : m = 1 := by omega
      rw [this]; omega
  have mT0 : 0 ≤ m * T.toInt := Int.mul_nonneg (by omega) (by omega)
  have m5 : m ≤ 5000001 := by omega
  have etT : (t * T).toInt = m * T.toInt := by rw [y_mu8 (by rw [et]; omega) (by rw [et]; omega), et]
  have et1 : (t + Int64.ofInt 1).toInt = m + 1 := by rw [y_ad8 (by rw [et, l1]; omega) (by rw [et, l1]; omega), et, l1]
  have etT1 : ((t + Int64.ofInt 1) * T).toInt = (m + 1) * T.toInt := by
    have : (m + 1) * T.toInt = m * T.toInt + T.toInt := by rw [Int.add_mul, Int.one_mul]
    rw [y_mu8 (by rw [et1]; omega) (by rw [et1]; omega), et1]
  have mTn : (m + 1) * T.toInt = m * T.toInt + T.toInt := by rw [Int.add_mul, Int.one_mul]
  have ea : (W - t * T).toInt = way - m * T.toInt := by rw [y_sb8 (by rw [ew, etT]; omega) (by rw [ew, etT]; omega), ew, etT]
  have eb : (W - (t + Int64.ofInt 1) * T).toInt = way - (m + 1) * T.toInt := by rw [y_sb8 (by rw [ew, etT1]; omega) (by rw [ew, etT1]; omega), ew, etT1]
  have ca := y_abl (x := W - t * T) (by rw [ea]; omega) F.toInt
  have cb := y_abl (x := W - (t + Int64.ofInt 1) * T) (by rw [eb]; omega) F.toInt
  rw [ea, ef] at ca
  rw [eb, ef] at cb
  have hg : 0 ≤ lg_cmp T (Int64.ofInt 1) := by rw [lg_cmp_ge, y_l_le, l1]; omega
  have hT0 : ¬ T = 0 := by rw [y_l_eq, y_l0]; omega
  by_cases h1 : (z_abl (W - t * T)).toInt ≤ free
  · refine ⟨Int32.ofInt 1, zM.run (B := 1) rfl rfl (lo := [(0, .int D), (1, .long T), (3, .int y), (4, .int e)]) rfl (zM.fin (fun N => (b0 N).trans ((if_pos hg).trans ((if_neg hT0).trans ((if_pos ?_).trans (z_gd_of z_b1_1 _))))) (Nat.le_refl _)) (by decide), Or.inr ⟨by decide, ?_⟩⟩
    · rw [lg_cmp_le, y_l_le, ef]; exact h1
    · have := ca.mp h1
      exact h2.mpr (Or.inl ⟨this.1, by omega⟩)
  · have n1 : ¬ lg_cmp (z_abl (W - t * T)) F ≤ 0 := by rw [lg_cmp_le, y_l_le, ef]; exact h1
    by_cases h3 : (z_abl (W - (t + Int64.ofInt 1) * T)).toInt ≤ free
    · refine ⟨Int32.ofInt 1, zM.run (B := 1) rfl rfl (lo := [(0, .int D), (1, .long T), (3, .int y), (4, .int e)]) rfl (zM.fin (fun N => (b0 N).trans ((if_pos hg).trans ((if_neg hT0).trans ((if_neg n1).trans ((if_neg ?_).trans (z_gd_of z_b1_1 _)))))) (Nat.le_refl _)) (by decide), Or.inr ⟨by decide, ?_⟩⟩
      · rw [lg_cmp_gt, y_l_lt, ef]; omega
      · have := cb.mp h3
        exact h2.mpr (Or.inr ⟨this.1, by omega⟩)
    · refine ⟨Int32.ofInt 0, zM.run (B := 1) rfl rfl (lo := [(0, .int D), (1, .long T), (3, .int y), (4, .int e)]) rfl (zM.fin (fun N => (b0 N).trans ((if_pos hg).trans ((if_neg hT0).trans ((if_neg n1).trans ((if_pos ?_).trans (z_gd_of z_b1_0 _)))))) (Nat.le_refl _)) (by decide), Or.inl ⟨by decide, ?_⟩⟩
      · rw [lg_cmp_gt, y_l_lt, ef]; omega
      · intro hN
        rcases h2.mp hN with h | h
        · exact h1 (ca.mpr ⟨h.1, by omega⟩)
        · exact h3 (cb.mpr ⟨h.1, by omega⟩)
