/-! CALLS, 18: run: one stand of a tick, in the class -/
/-- what holds of a stand that can bite -/
def zbs (I : Nat → Nat → Int32) (k : Nat) : Prop := 0 ≤ (I (z_sd k) 8).toInt ∧ (I (z_sd k) 8).toInt ≤ 60000 ∧ 0 ≤ (I (z_sd k) 0).toInt ∧ (I (z_sd k) 0).toInt ≤ 999 ∧ 0 ≤ (I (z_sd k) 9).toInt
/-- where what went out of stand k of segment j is told -/
theorem y_ox {x y : Int32} {k j : Nat} (hx : x.toInt = k) (hy : y.toInt = j) (hk : k < 5) (hj : j < 40) : (x * Int32.ofInt 40 + y).toInt = 40 * k + j ∧ (x * Int32.ofInt 40 + y).toNatClampNeg = 40 * k + j ∧ z_in (x * Int32.ofInt 40 + y) 200 = true := by
  have e : (x * Int32.ofInt 40).toInt = x.toInt * 40 := y_mul (by omega) (by omega) (by omega) (by omega)
  have e2 : (x * Int32.ofInt 40 + y).toInt = 40 * k + j := by
    rw [y_ad (by omega) (by omega)]
    omega
  refine ⟨e2, ?_, y_in_t (by omega) (by omega)⟩
  rw [y_tn]
  omega
theorem y_xo {x y : Int32} {k j : Nat} (hx : x.toInt = k) (hy : y.toInt = j) (hk : k < 5) (hj : j < 40) : (Int32.ofInt 40 * x + y).toInt = 40 * k + j ∧ (Int32.ofInt 40 * x + y).toNatClampNeg = 40 * k + j ∧ z_in (Int32.ofInt 40 * x + y) 200 = true := by
  have e : (Int32.ofInt 40 * x).toInt = 40 * x.toInt := y_lmu (by omega) (by omega) (by omega) (by omega)
  have e2 : (Int32.ofInt 40 * x + y).toInt = 40 * k + j := by
    rw [y_ad (by omega) (by omega)]
    omega
  refine ⟨e2, ?_, y_in_t (by omega) (by omega)⟩
  rw [y_tn]
  omega
/-- the stand's bite, as cells -/
def zbJ (p : Nat) (I : Nat → Nat → Int32) (k : Nat) (w h : Int32) : Nat → Nat → Int32 :=
  z_up (z_up (z_up (z_up I (z_sd k) 11 w) (z_sd k) 12 h) (z_sd k) 13 (zbo p I (I (z_sd k) 0).toInt (I (z_sd k) 8).toInt (I (z_sd k) 9).toInt w h)) (z_sd k) 14 (zbp p I w (zbo p I (I (z_sd k) 0).toInt (I (z_sd k) 8).toInt (I (z_sd k) 9).toInt w h) h)
theorem zr_bc1 (X : ZX) (d M m ce sl : Nat) (I : Nat → Nat → Int32) (L : Nat → Nat → Int64) (t u r q : Nat) {p : Nat} (hL : zg_L p I) (k j : Nat) (hkm : k < m) (h5 : m ≤ 5) (hs : I 5 2 = Int32.ofNat m) (hb : ∀ k < m, 0 ≤ (I (z_sd k) 7).toInt ∧ (I (z_sd k) 7).toInt ≤ 9) (hk : zbs I k)
    (T x2 w : Int32) (hT : T.toInt = j + k) (hx2 : x2.toInt = k) {c : Nat} (hc : (I 22 2).toInt = c) (hc40 : c ≤ 40) (hj : j < c) (hw : w = if k = 0 then I 23 j else I 26 (40 * (k - 1) + j)) (hw0 : 1 ≤ w.toInt) (hw1 : w.toInt ≤ 60000) (hh0 : 0 ≤ (I 24 j).toInt) (hh1 : (I 24 j).toInt ≤ 99) :
    z_loop X z_cf z_ff (z_pu (z_run X z_cf z_ff (d + 6))) 83 (M + 5) 2 [(0, .ref 25), (1, .int T), (2, .int x2)] [] (118, z_sd m, ce, sl, I, L, z_rr t u r q (z_gg m) (z_sf m)) = z_loop X z_cf z_ff (z_pu (z_run X z_cf z_ff (d + 6))) 83 M 111 [(0, .ref 25), (1, .int T), (2, .int x2), (3, .ref (z_sd k)), (4, .int (T - x2))] [] (118, z_sd m, ce, sl, zbJ p I k w (Int32.ofInt (zhw I (I 24 j) k)), L, z_rr t u r q (z_gg m) (z_sf m)) := by
  have hs' : (I 5 2).toInt = m := by rw [hs, y_on (by omega)]
  have hjs : (T - x2).toInt = j := by rw [y_sb (by omega) (by omega)]; omega
  have hjn : (T - x2).toNatClampNeg = j := by rw [y_tn, hjs]; rfl
  have hkn : x2.toNatClampNeg = k := by rw [y_tn, hx2]; rfl
  have hok : ∀ J, z_ok (118, z_sd m, ce, sl, J, L, z_rr t u r q (z_gg m) (z_sf m)) (z_sd k) 10 = true := fun J => z_okS (k := k) (m := m) hkm (by omega) 118 ce sl J L (z_rr t u r q (z_gg m) (z_sf m))
  have ha := zhs_r hb k (by omega)
  have hq : (Int32.ofInt (zhw I (I 24 j) k)).toInt = zhw I (I 24 j) k := y_oi (by unfold zhw; omega) (by unfold zhw; omega)
  obtain ⟨k1, k2, k3, k4, k5⟩ := hk
  have hfin : ∀ N, z_loop X z_cf z_ff (z_pu (z_run X z_cf z_ff (d + 6))) 83 (N + 1) 108 [(0, .ref 25), (1, .int T), (2, .int x2), (3, .ref (z_sd k)), (4, .int (T - x2))] [.int (Int32.ofInt (zhw I (I 24 j) k)), .int w, .ref 2, .ref (z_sd k)] (118, z_sd m, ce, sl, I, L, z_rr t u r q (z_gg m) (z_sf m)) = z_loop X z_cf z_ff (z_pu (z_run X z_cf z_ff (d + 6))) 83 N 111 [(0, .ref 25), (1, .int T), (2, .int x2), (3, .ref (z_sd k)), (4, .int (T - x2))] [] (118, z_sd m, ce, sl, zbJ p I k w (Int32.ofInt (zhw I (I 24 j) k)), L, z_rr t u r q (z_gg m) (z_sf m)) := by
    intro N
    rw [zb_Run_biteAll_108, hok, z_gd_t, zr_biteStrip X d m ce sl I L t u r q hL k hkm h5 w _ hw0 hw1 (by rw [hq]; unfold zhw; omega) (by rw [hq]; unfold zhw; omega) k1 (by omega) k3 k4 k5, z_b0_v]
    rfl
  have hin : z_in (T - x2) 40 = true := y_in_t (by omega) (by omega)
  have hhard := zr_hardAt X d m ce sl I L t u r q h5 hs hb (I 24 j) x2 hh0 hh1 k hx2 (by omega)
  have hn0 : ¬ (z_p_X_within (T - x2) (Int32.ofInt 0) ((I 22 2) - (Int32.ofInt 1))) = 0 := by
    rw [y_wi0, y_oi0, y_sbl (by omega) (by omega) (by omega) (by omega)]
    omega
  rw [show M + 5 = (M + 1) + 4 by omega, zt_Run_biteAll_2 X d, if_neg (by rw [y_i_le]; omega), y_ix_T (by omega) (by omega) h5 hs, z_gd_t, if_neg hn0, hin, z_gd_t, hjn, hkn]
  by_cases h0 : k = 0
  · rw [if_pos (by rw [y_i_eq, hx2, h0]; rfl), z_gd_t, hhard, z_bi_v, ← hfin M]
    rw [if_pos h0] at hw
    rw [hw]
  · have hp : (x2 - Int32.ofInt 1).toInt = (k - 1 : Nat) := by rw [y_sbl (by omega) (by omega) (by omega) (by omega)]; omega
    obtain ⟨o1, o2, o3⟩ := y_ox hp hjs (by omega) (by omega)
    rw [if_neg (by rw [y_i_eq, hx2, y_i0]; omega), if_neg (by rw [y_wi0, y_oi0, y_oi (by omega) (by omega)]; omega), if_neg (by rw [y_wi0, y_oi0, y_oi (by omega) (by omega)]; omega), o3, z_gd_t, z_gd_t, hhard, z_bi_v, o2, ← hfin M]
    rw [if_neg h0] at hw
    rw [hw]
