/-! CALLS, 37: run: the values that a rule hears, in the class -/
def zvr (I : Nat → Nat → Int32) (k : Nat) (T x : Int32) : Nat → Nat → Int32 :=
  z_up (z_up (z_up (z_up (z_up (z_up (z_up (z_up (z_up (z_up I 29 0 (I (z_sd k) 8)) 29 1 (I (z_sd k) 11)) 29 2 (I (z_sd k) 13)) 29 3 (I (z_sd k) 14)) 29 4 (I 28 T.toNatClampNeg)) 29 5 (I 25 3)) 29 6 T) 29 7 (I (z_sd k) 9 / Int32.ofInt 1000)) 29 8 (I 27 k)) 29 9 (I (z_sd k) 12)
theorem zr_set (X : ZX) (d m ce sl : Nat) (I : Nat → Nat → Int32) (L : Nat → Nat → Int64) (t u r q : Nat) (x v : Int32) (i : Nat) (hi : i < 10) (hx : (x - Int32.ofInt 100).toInt = i) : z_pu (z_run X z_cf z_ff (d + 6)) 94 [.ref 25, .int x, .int v] (118, z_sd m, ce, sl, I, L, z_rr t u r q (z_gg m) (z_sf m)) = some (.inl none, (118, z_sd m, ce, sl, z_up I 29 i v, L, z_rr t u r q (z_gg m) (z_sf m))) := by
  have e : (x - Int32.ofInt 100).toNatClampNeg = i := by rw [y_tn, hx]; rfl
  rw [zk_Run_setValue_0 X (d + 3), y_in_t (by omega) (by omega), z_gd_t, e]
theorem zr_vals8 (X : ZX) (d M m ce sl : Nat) (I : Nat → Nat → Int32) (L : Nat → Nat → Int64) (t u r q : Nat) (k : Nat) (hk : k < m) (h5 : m ≤ 5) (hs : I 5 2 = Int32.ofNat m) (T x : Int32) (hx : x.toInt = k) (hT0 : 0 ≤ T.toInt) (hT : T.toInt < 44) :
    z_loop X z_cf z_ff (z_pu (z_run X z_cf z_ff (d + 6))) 93 (M + 13) 2 [(0, .ref 25), (1, .int T), (2, .ref 8), (3, .int x)] [] (118, z_sd m, ce, sl, I, L, z_rr t u r q (z_gg m) (z_sf m)) = z_bi (z_x [] 142) (z_pu (z_run X z_cf z_ff (d + 6)) 95 [.ref 8, .int x, .ref 29] (118, z_sd m, ce, sl, zvr I k T x, L, z_rr t u r q (z_gg m) (z_sf m))) (fun v w => z_loop X z_cf z_ff (z_pu (z_run X z_cf z_ff (d + 6))) 93 M 145 [(0, .ref 25), (1, .int T), (2, .ref 8), (3, .int x)] [.int v, .ref (z_sd k)] w) := by
  have hge := z_sd_ge k
  have hs' : (I 5 2).toInt = m := by rw [hs, y_on (by omega)]
  have hxn : x.toNatClampNeg = k := by rw [y_tn, hx]; rfl
  have hin : z_in x 5 = true := y_in_t (by omega) (by omega)
  have hinT : z_in T 44 = true := y_in_t (by omega) (by omega)
  have hok : ∀ J, z_ok (118, z_sd m, ce, sl, J, L, z_rr t u r q (z_gg m) (z_sf m)) (z_sd k) 10 = true := fun J => z_okS (k := k) (m := m) hk (by omega) 118 ce sl J L (z_rr t u r q (z_gg m) (z_sf m))
  have hsd : ∀ (J : Nat → Nat → Int32) i v, z_up J 29 i v (z_sd k) = J (z_sd k) := fun J i v => z_up_r _ _ _ _ _ (by omega)
  have h28 : ∀ (J : Nat → Nat → Int32) i v, z_up J 29 i v 28 = J 28 := fun J i v => z_up_r _ _ _ _ _ (by omega)
  have h25 : ∀ (J : Nat → Nat → Int32) i v, z_up J 29 i v 25 = J 25 := fun J i v => z_up_r _ _ _ _ _ (by omega)
  have h27 : ∀ (J : Nat → Nat → Int32) i v, z_up J 29 i v 27 = J 27 := fun J i v => z_up_r _ _ _ _ _ (by omega)
  rw [show M + 13 = (M + 12) + 1 by omega, zb_Run_moveGaps_25_8_2, zk_Line_many_0 X (d + 2), z_bi_v, zb_Run_moveGaps_25_8_10, if_neg (by rw [y_i_le]; omega), zk_Line_at X d, y_ix_T (by omega) (by omega) h5 hs, z_gd_t, z_br_v, hxn]
  rw [zb_Run_moveGaps_25_8_21, hok, z_gd_t, zr_set X d m ce sl _ L t u r q (Int32.ofInt 100) _ 0 (by omega) rfl, z_b0_v, zb_Run_moveGaps_25_8_34, hok, z_gd_t, zr_set X d m ce sl _ L t u r q (Int32.ofInt 101) _ 1 (by omega) rfl, z_b0_v, hsd]
  rw [zb_Run_moveGaps_25_8_45, hok, z_gd_t, zr_set X d m ce sl _ L t u r q (Int32.ofInt 102) _ 2 (by omega) rfl, z_b0_v, hsd, hsd]
  rw [zb_Run_moveGaps_25_8_56, hok, z_gd_t, zr_set X d m ce sl _ L t u r q (Int32.ofInt 103) _ 3 (by omega) rfl, z_b0_v, hsd, hsd, hsd]
  rw [zb_Run_moveGaps_25_8_67, hinT, z_gd_t, zr_set X d m ce sl _ L t u r q (Int32.ofInt 104) _ 4 (by omega) rfl, z_b0_v, h28, h28, h28, h28]
  rw [zb_Run_moveGaps_25_8_79, zr_set X d m ce sl _ L t u r q (Int32.ofInt 105) _ 5 (by omega) rfl, z_b0_v, h25, h25, h25, h25, h25]
  rw [zb_Run_moveGaps_25_8_89, zr_set X d m ce sl _ L t u r q (Int32.ofInt 106) _ 6 (by omega) rfl, z_b0_v]
  rw [zb_Run_moveGaps_25_8_96, hok, z_gd_t, if_neg z_1000z, zr_set X d m ce sl _ L t u r q (Int32.ofInt 107) _ 7 (by omega) rfl, z_b0_v, hsd, hsd, hsd, hsd, hsd, hsd, hsd]
  rw [zb_Run_moveGaps_25_8_111, hin, z_gd_t, hxn, zr_set X d m ce sl _ L t u r q (Int32.ofInt 108) _ 8 (by omega) rfl, z_b0_v, h27, h27, h27, h27, h27, h27, h27, h27]
  rw [zb_Run_moveGaps_25_8_123, hok, z_gd_t, zr_set X d m ce sl _ L t u r q (Int32.ofInt 109) _ 9 (by omega) rfl, z_b0_v, hsd, hsd, hsd, hsd, hsd, hsd, hsd, hsd, hsd, zb_Run_moveGaps_25_8_134]
  rfl
theorem zr_vals15 (X : ZX) (d M m ce sl : Nat) (I : Nat → Nat → Int32) (L : Nat → Nat → Int64) (t u r q : Nat) (k : Nat) (hk : k < m) (h5 : m ≤ 5) (hs : I 5 2 = Int32.ofNat m) (T x : Int32) (hx : x.toInt = k) (hT0 : 0 ≤ T.toInt) (hT : T.toInt < 44) :
    z_loop X z_cf z_ff (z_pu (z_run X z_cf z_ff (d + 6))) 93 (M + 13) 2 [(0, .ref 25), (1, .int T), (2, .ref 15), (3, .int x)] [] (118, z_sd m, ce, sl, I, L, z_rr t u r q (z_gg m) (z_sf m)) = z_bi (z_x [] 142) (z_pu (z_run X z_cf z_ff (d + 6)) 95 [.ref 15, .int x, .ref 29] (118, z_sd m, ce, sl, zvr I k T x, L, z_rr t u r q (z_gg m) (z_sf m))) (fun v w => z_loop X z_cf z_ff (z_pu (z_run X z_cf z_ff (d + 6))) 93 M 145 [(0, .ref 25), (1, .int T), (2, .ref 15), (3, .int x)] [.int v, .ref (z_sd k)] w) := by
  have hge := z_sd_ge k
  have hs' : (I 5 2).toInt = m := by rw [hs, y_on (by omega)]
  have hxn : x.toNatClampNeg = k := by rw [y_tn, hx]; rfl
  have hin : z_in x 5 = true := y_in_t (by omega) (by omega)
  have hinT : z_in T 44 = true := y_in_t (by omega) (by omega)
  have hok : ∀ J, z_ok (118, z_sd m, ce, sl, J, L, z_rr t u r q (z_gg m) (z_sf m)) (z_sd k) 10 = true := fun J => z_okS (k := k) (m := m) hk (by omega) 118 ce sl J L (z_rr t u r q (z_gg m) (z_sf m))
  have hsd : ∀ (J : Nat → Nat → Int32) i v, z_up J 29 i v (z_sd k) = J (z_sd k) := fun J i v => z_up_r _ _ _ _ _ (by omega)
  have h28 : ∀ (J : Nat → Nat → Int32) i v, z_up J 29 i v 28 = J 28 := fun J i v => z_up_r _ _ _ _ _ (by omega)
  have h25 : ∀ (J : Nat → Nat → Int32) i v, z_up J 29 i v 25 = J 25 := fun J i v => z_up_r _ _ _ _ _ (by omega)
  have h27 : ∀ (J : Nat → Nat → Int32) i v, z_up J 29 i v 27 = J 27 := fun J i v => z_up_r _ _ _ _ _ (by omega)
  rw [show M + 13 = (M + 12) + 1 by omega, zb_Run_moveGaps_25_15_2, zk_Line_many_0 X (d + 2), z_bi_v, zb_Run_moveGaps_25_15_10, if_neg (by rw [y_i_le]; omega), zk_Line_at X d, y_ix_T (by omega) (by omega) h5 hs, z_gd_t, z_br_v, hxn]
  rw [zb_Run_moveGaps_25_15_21, hok, z_gd_t, zr_set X d m ce sl _ L t u r q (Int32.ofInt 100) _ 0 (by omega) rfl, z_b0_v, zb_Run_moveGaps_25_15_34, hok, z_gd_t, zr_set X d m ce sl _ L t u r q (Int32.ofInt 101) _ 1 (by omega) rfl, z_b0_v, hsd]
  rw [zb_Run_moveGaps_25_15_45, hok, z_gd_t, zr_set X d m ce sl _ L t u r q (Int32.ofInt 102) _ 2 (by omega) rfl, z_b0_v, hsd, hsd]
  rw [zb_Run_moveGaps_25_15_56, hok, z_gd_t, zr_set X d m ce sl _ L t u r q (Int32.ofInt 103) _ 3 (by omega) rfl, z_b0_v, hsd, hsd, hsd]
  rw [zb_Run_moveGaps_25_15_67, hinT, z_gd_t, zr_set X d m ce sl _ L t u r q (Int32.ofInt 104) _ 4 (by omega) rfl, z_b0_v, h28, h28, h28, h28]
  rw [zb_Run_moveGaps_25_15_79, zr_set X d m ce sl _ L t u r q (Int32.ofInt 105) _ 5 (by omega) rfl, z_b0_v, h25, h25, h25, h25, h25]
  rw [zb_Run_moveGaps_25_15_89, zr_set X d m ce sl _ L t u r q (Int32.ofInt 106) _ 6 (by omega) rfl, z_b0_v]
  rw [zb_Run_moveGaps_25_15_96, hok, z_gd_t, if_neg z_1000z, zr_set X d m ce sl _ L t u r q (Int32.ofInt 107) _ 7 (by omega) rfl, z_b0_v, hsd, hsd, hsd, hsd, hsd, hsd, hsd]
  rw [zb_Run_moveGaps_25_15_111, hin, z_gd_t, hxn, zr_set X d m ce sl _ L t u r q (Int32.ofInt 108) _ 8 (by omega) rfl, z_b0_v, h27, h27, h27, h27, h27, h27, h27, h27]
  rw [zb_Run_moveGaps_25_15_123, hok, z_gd_t, zr_set X d m ce sl _ L t u r q (Int32.ofInt 109) _ 9 (by omega) rfl, z_b0_v, hsd, hsd, hsd, hsd, hsd, hsd, hsd, hsd, hsd, zb_Run_moveGaps_25_15_134]
  rfl
