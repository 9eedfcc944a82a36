/-! CALLS, 21: run: behind the bite, in the model -/
def zhd (a b : Int32) : Int32 := if a + b ≤ Int32.ofInt 99 then a + b else Int32.ofInt 99
theorem zhd_i {a b : Int32} (h0 : 0 ≤ a.toInt) (h1 : a.toInt ≤ 99) (h2 : 0 ≤ b.toInt) (h3 : b.toInt ≤ 9) : (zhd a b).toInt = min 99 (a.toInt + b.toInt) := by
  have e : (a + b).toInt = a.toInt + b.toInt := y_ad (by omega) (by omega)
  unfold zhd
  by_cases g : a.toInt + b.toInt ≤ 99
  · rw [if_pos (by rw [y_i_le, e, y_oi (by omega) (by omega)]; exact g), e]
    omega
  · rw [if_neg (by rw [y_i_le, e, y_oi (by omega) (by omega)]; exact g), y_oi (by omega) (by omega)]
    omega
def zmK (J : Nat → Nat → Int32) (k j : Nat) : Nat → Nat → Int32 :=
  z_up (z_up (z_up J 80 (40 * k + j) (J 85 k)) 65 k (J 65 k + J 86 k / Int32.ofInt 100)) 88 j (zhd (J 88 j) (J 63 k))
theorem zr_mt1 (X : ZX) (d N m ce sl : Nat) (J : Nat → Nat → Int32) (L : Nat → Nat → Int64) (t u r q : Nat) (k j : Nat) (hkm : k < m) (h5 : m ≤ 5) (hs : J 55 1 = Int32.ofNat m) (hj : j < 40) (T x2 : Int32) (hx2 : x2.toInt = k) (hT : T.toInt = j + k) (hP : (J 86 k).toInt ≤ (J 57 k).toInt) :
    z_loop X z_cf z_ff (z_pu (z_run X z_cf z_ff (d + 4))) 209 (N + 2) 98 [(0, .ref 55), (1, .int T), (2, .int x2)] [] (118, z_sd m, ce, sl, J, L, z_rr t u r q (z_gg m) (z_sf m)) = z_loop X z_cf z_ff (z_pu (z_run X z_cf z_ff (d + 4))) 209 N 63 [(0, .ref 55), (1, .int T), (2, .int (x2 + Int32.ofInt 1))] [] (118, z_sd m, ce, sl, (if k + 1 = m then z_up (zmK J k j) 55 46 (J 55 46 + Int32.ofInt 1) else zmK J k j), L, z_rr t u r q (z_gg m) (z_sf m)) := by
  have hjs : (T - x2).toInt = j := by rw [y_sb (by omega) (by omega)]; omega
  have hjn : (T - x2).toNatClampNeg = j := by rw [y_tn, hjs]; rfl
  have hkn : x2.toNatClampNeg = k := by rw [y_tn, hx2]; rfl
  have hin : z_in x2 5 = true := y_in_t (by omega) (by omega)
  have hjn2 : z_in (T - x2) 40 = true := y_in_t (by omega) (by omega)
  obtain ⟨p1, p2, p3⟩ := y_xo hx2 hjs (by omega) hj
  have hm1 : (J 55 1 - Int32.ofInt 1).toInt = m - 1 := by rw [hs, y_sbl (by omega) (by omega) (by rw [y_on (by omega)]; omega) (by rw [y_on (by omega)]; omega), y_on (by omega)]
  rw [zt_M_tick_98 X d, hin, hkn, if_pos (y_i_le.mpr hP), p3, p2, hjn2, hjn, if_neg z_100z]
  unfold zmK
  by_cases g : J 88 j + J 63 k ≤ Int32.ofInt 99
  · rw [if_pos g, show zhd (J 88 j) (J 63 k) = J 88 j + J 63 k by unfold zhd; rw [if_pos g]]
    by_cases h : k + 1 = m
    · rw [if_pos (by rw [y_i_eq, hm1]; omega), if_pos h]
    · rw [if_neg (by rw [y_i_eq, hm1]; omega), if_neg h]
  · rw [if_neg g, show zhd (J 88 j) (J 63 k) = Int32.ofInt 99 by unfold zhd; rw [if_neg g]]
    by_cases h : k + 1 = m
    · rw [if_pos (by rw [y_i_eq, hm1]; omega), if_pos h]
    · rw [if_neg (by rw [y_i_eq, hm1]; omega), if_neg h]
theorem zr_mt2 (X : ZX) (d N m ce sl : Nat) (J : Nat → Nat → Int32) (L : Nat → Nat → Int64) (t u r q : Nat) (k : Nat) (h5 : k < 5) (T x2 : Int32) (hx2 : x2.toInt = k) (hP : (J 57 k).toInt < (J 86 k).toInt) :
    z_loop X z_cf z_ff (z_pu (z_run X z_cf z_ff (d + 4))) 209 (N + 2) 98 [(0, .ref 55), (1, .int T), (2, .int x2)] [] (118, z_sd m, ce, sl, J, L, z_rr t u r q (z_gg m) (z_sf m)) = some (.inl (some (.int (Int32.ofInt 1))), (118, z_sd m, ce, sl, z_up J 55 44 x2, L, z_rr t u r q (z_gg m) (z_sf m))) := by
  have hkn : x2.toNatClampNeg = k := by rw [y_tn, hx2]; rfl
  have hin : z_in x2 5 = true := y_in_t (by omega) (by omega)
  rw [zt_M_tick_98 X d, hin, hkn, if_neg (by rw [y_i_le]; omega)]
theorem zr_mt3 (X : ZX) (call : ZC) (N n ce sl : Nat) (J : Nat → Nat → Int32) (L : Nat → Nat → Int64) (t u r q g : Nat) (st : Nat → Option Nat) {m c : Nat} (k : Nat) (hkm : k < m) (h5 : m ≤ 5) (hs : J 55 1 = Int32.ofNat m) (hc : (J 55 42).toInt = c) (T x2 : Int32) (hx2 : x2.toInt = k) (hT0 : 0 ≤ T.toInt) (hT : T.toInt < k ∨ k + c ≤ T.toInt) :
    z_loop X z_cf z_ff (z_pu call) 209 (N + 2) 63 [(0, .ref 55), (1, .int T), (2, .int x2)] [] (118, n, ce, sl, J, L, z_rr t u r q g st) = z_loop X z_cf z_ff (z_pu call) 209 N 63 [(0, .ref 55), (1, .int T), (2, .int (x2 + Int32.ofInt 1))] [] (118, n, ce, sl, J, L, z_rr t u r q g st) := by
  have hjs : (T - x2).toInt = T.toInt - k := by rw [y_sb (by have := y_hi T; omega) (by have := y_hi T; omega)]; omega
  rw [zb_M_tick_63, if_neg (by rw [hs, y_i_le, y_on (by omega)]; omega)]
  by_cases h : T.toInt < k
  · rw [if_pos (by rw [y_i_lt, y_i0]; omega), zb_M_tick_128]
  · rw [if_neg (by rw [y_i_lt, y_i0]; omega), if_neg (by rw [y_i_lt]; omega), zb_M_tick_128]
theorem zr_mt4 (X : ZX) (d N m ce sl : Nat) (J : Nat → Nat → Int32) (L : Nat → Nat → Int64) (t u r q : Nat) {p : Nat} (hL : zg_L p J) {c : Nat} (k j : Nat) (hkm : k < m) (h5 : m ≤ 5) (hs : J 55 1 = Int32.ofNat m) (hc : (J 55 42).toInt = c) (hc40 : c ≤ 40) (hj : j < c) (hk : zms J k) (T x2 w h : Int32) (hx2 : x2.toInt = k) (hT : T.toInt = j + k)
    (hw : w = if k = 0 then J 78 j else J 80 (40 * (k - 1) + j)) (hw0 : 1 ≤ w.toInt) (hw1 : w.toInt ≤ 60000) (hh : h = J 88 j) (hh0 : 0 ≤ h.toInt) (hh1 : h.toInt ≤ 99) :
    z_loop X z_cf z_ff (z_pu (z_run X z_cf z_ff (d + 6))) 209 (N + 1) 63 [(0, .ref 55), (1, .int T), (2, .int x2)] [] (118, z_sd m, ce, sl, J, L, z_rr t u r q (z_gg m) (z_sf m)) = z_loop X z_cf z_ff (z_pu (z_run X z_cf z_ff (d + 6))) 209 N 98 [(0, .ref 55), (1, .int T), (2, .int x2)] [] (118, z_sd m, ce, sl, zmJ p J k w h, L, z_rr t u r q (z_gg m) (z_sf m)) := by
  have hjs : (T - x2).toInt = j := by rw [y_sb (by omega) (by omega)]; omega
  rw [zb_M_tick_63, if_neg (by rw [hs, y_i_le, y_on (by omega)]; omega), if_neg (by rw [y_i_lt, y_i0]; omega), if_pos (by rw [y_i_lt]; omega), zr_mbites X d m ce sl J L t u r q hL k j (by omega) (by omega) hk x2 (T - x2) w h hx2 hjs hw hw0 hw1 hh hh0 hh1, z_b0_v]
