/-! CALLS, 19: run: behind the bite, in the class -/
/-- the cells behind a bite that is borne -/
def zbK (J : Nat → Nat → Int32) (k j : Nat) : Nat → Nat → Int32 :=
  z_up (z_up (z_up J 25 6 (z_mxi (J 25 6) (J (z_sd k) 14))) (z_sd k) 9 (J (z_sd k) 9 + J (z_sd k) 14 / Int32.ofInt 100)) 26 (40 * k + j) (J (z_sd k) 13)
theorem z_100z : ¬ (Int32.ofInt 100 : Int32) = 0 := by decide
theorem zr_bc2 (X : ZX) (d M m ce sl : Nat) (J : Nat → Nat → Int32) (L : Nat → Nat → Int64) (t u r q : Nat) (k j : Nat) (hkm : k < m) (h5 : m ≤ 5) (hs : J 5 2 = Int32.ofNat m) (hj : j < 40) (T x2 x4 : Int32) (hx2 : x2.toInt = k) (hx4 : x4.toInt = j) (hP : (J (z_sd k) 14).toInt ≤ (J (z_sd k) 1).toInt) :
    z_loop X z_cf z_ff (z_pu (z_run X z_cf z_ff (d + 6))) 83 (M + 1) 111 [(0, .ref 25), (1, .int T), (2, .int x2), (3, .ref (z_sd k)), (4, .int x4)] [] (118, z_sd m, ce, sl, J, L, z_rr t u r q (z_gg m) (z_sf m)) = z_loop X z_cf z_ff (z_pu (z_run X z_cf z_ff (d + 6))) 83 M 184 [(0, .ref 25), (1, .int T), (2, .int x2), (3, .ref (z_sd k)), (4, .int x4)] [.int (Int32.ofNat m), .int x2] (118, z_sd m, ce, sl, zbK J k j, L, z_rr t u r q (z_gg m) (z_sf m)) := by
  have hge := z_sd_ge k
  have hok : ∀ J, z_ok (118, z_sd m, ce, sl, J, L, z_rr t u r q (z_gg m) (z_sf m)) (z_sd k) 10 = true := fun J => z_okS (k := k) (m := m) hkm (by omega) 118 ce sl J L (z_rr t u r q (z_gg m) (z_sf m))
  have f1 : ∀ v i, (z_up J 25 6 v) (z_sd k) i = J (z_sd k) i := fun v i => by rw [z_up_r _ _ _ _ _ (by omega)]
  obtain ⟨o1, o2, o3⟩ := y_ox hx2 hx4 (by omega) hj
  rw [zb_Run_biteAll_111]
  simp only [hok, z_gd_t, f1]
  rw [if_pos (by rw [y_i_le]; exact hP), if_neg z_100z, o3, z_gd_t, o2, z_up_j _ _ _ _ _ (show (13 : Nat) ≠ 9 by omega), f1, zk_Line_many_0 X (d + 2), z_bi_v]
  have e : z_up (z_up (z_up J 25 6 (z_mxi (J 25 6) (J (z_sd k) 14))) (z_sd k) 9 (J (z_sd k) 9 + J (z_sd k) 14 / Int32.ofInt 100)) 26 (40 * k + j) (J (z_sd k) 13) 5 2 = Int32.ofNat m := by
    rw [z_up_r _ _ _ _ _ (show (5 : Nat) ≠ 26 by omega), z_up_st _ _ _ _ _ (by omega), z_up_r _ _ _ _ _ (show (5 : Nat) ≠ 25 by omega)]
    exact hs
  rw [e]
  rfl
theorem zr_bc4 (X : ZX) (d M m ce sl : Nat) (J : Nat → Nat → Int32) (L : Nat → Nat → Int64) (t u r q : Nat) (k j : Nat) (hkm : k < m) (h5 : m ≤ 5) (T x2 x4 : Int32) (hP : (J (z_sd k) 1).toInt < (J (z_sd k) 14).toInt) :
    z_loop X z_cf z_ff (z_pu (z_run X z_cf z_ff (d + 6))) 83 (M + 1) 111 [(0, .ref 25), (1, .int T), (2, .int x2), (3, .ref (z_sd k)), (4, .int x4)] [] (118, z_sd m, ce, sl, J, L, z_rr t u r q (z_gg m) (z_sf m)) = some (.inl (some (.int (Int32.ofInt 0))), (118, z_sd m, ce, sl, z_up (z_up J 25 6 (z_mxi (J 25 6) (J (z_sd k) 14))) 25 5 x2, L, z_rr t u r q (z_gg m) (z_sf m))) := by
  have hge := z_sd_ge k
  have hok : ∀ J, z_ok (118, z_sd m, ce, sl, J, L, z_rr t u r q (z_gg m) (z_sf m)) (z_sd k) 10 = true := fun J => z_okS (k := k) (m := m) hkm (by omega) 118 ce sl J L (z_rr t u r q (z_gg m) (z_sf m))
  have f1 : ∀ v i, (z_up J 25 6 v) (z_sd k) i = J (z_sd k) i := fun v i => by rw [z_up_r _ _ _ _ _ (by omega)]
  rw [zb_Run_biteAll_111]
  simp only [hok, z_gd_t, f1]
  rw [if_neg (by rw [y_i_le]; omega), z_b1_0]
/-- how long a segment has become -/
def zbl (x v : Int32) : Int32 := z_mni (Int32.ofInt 10000000) ((Int32.ofInt 1000 * x) / v)
theorem zr_bc3 (X : ZX) (d M m ce sl : Nat) (J : Nat → Nat → Int32) (L : Nat → Nat → Int64) (t u r q : Nat) (k j : Nat) (hkm : k < m) (h5 : m ≤ 5) (hj : j < 40) (T x2 x4 : Int32) (hx2 : x2.toInt = k) (hx4 : x4.toInt = j) (hV : 1 ≤ (J (z_sd k) 13).toInt) :
    z_loop X z_cf z_ff (z_pu (z_run X z_cf z_ff (d + 6))) 83 (M + 2) 184 [(0, .ref 25), (1, .int T), (2, .int x2), (3, .ref (z_sd k)), (4, .int x4)] [.int (Int32.ofNat m), .int x2] (118, z_sd m, ce, sl, J, L, z_rr t u r q (z_gg m) (z_sf m)) =
      z_loop X z_cf z_ff (z_pu (z_run X z_cf z_ff (d + 6))) 83 (if k + 1 = m then M else M + 1) 2 [(0, .ref 25), (1, .int T), (2, .int (x2 + Int32.ofInt 1))] [] (118, z_sd m, ce, sl, (if k + 1 = m then z_up (z_up J 25 7 (J 25 7 + Int32.ofInt 1)) 25 8 (J 25 8 + zbl (J 23 j) (J (z_sd k) 13)) else J), L, z_rr t u r q (z_gg m) (z_sf m)) := by
  have hge := z_sd_ge k
  have hok : ∀ J, z_ok (118, z_sd m, ce, sl, J, L, z_rr t u r q (z_gg m) (z_sf m)) (z_sd k) 10 = true := fun J => z_okS (k := k) (m := m) hkm (by omega) 118 ce sl J L (z_rr t u r q (z_gg m) (z_sf m))
  have hjn : x4.toNatClampNeg = j := by rw [y_tn, hx4]; rfl
  have hm1 : (Int32.ofNat m - Int32.ofInt 1).toInt = m - 1 := by rw [y_sbl (by omega) (by omega) (by rw [y_on (by omega)]; omega) (by rw [y_on (by omega)]; omega), y_on (by omega)]
  have hin : z_in x4 40 = true := y_in_t (by omega) (by omega)
  have f1 : ∀ v i, (z_up J 25 7 v) (z_sd k) i = J (z_sd k) i := fun v i => by rw [z_up_r _ _ _ _ _ (by omega)]
  rw [zb_Run_biteAll_184]
  by_cases h : k + 1 = m
  · rw [if_pos (by rw [y_i_eq, hm1]; omega), if_pos h, if_pos h, hin, z_gd_t, hok, z_gd_t, f1, hjn, zk_Run_lengthBehind_0 X (d + 3), if_pos (by rw [y_i_le, y_oi1]; exact hV), if_neg (by rw [y_i_eq, y_i0]; omega), z_bi_v, zb_Run_biteAll_221]
    rfl
  · rw [if_neg (by rw [y_i_eq, hm1]; omega), if_neg h, if_neg h]
