/-! CALLS, 31: run: where a pull ends a run -/
/-- a parameter of the rules that are told, as the model keeps it -/
def zpaM (I : Nat → Nat → Int32) (w : Nat) : Int32 := if I 55 28 = 0 then (if 2 ≤ w then Int32.ofInt 99999 else Int32.ofInt 0) else I 70 (4 * (I 55 29).toNatClampNeg + w)
def zbk (I : Nat → Nat → Int32) : Prop := 0 ≤ (I 55 29).toInt ∧ (I 55 29).toInt ≤ 1
theorem zr_param (X : ZX) (d n ce sl : Nat) (I : Nat → Nat → Int32) (L : Nat → Nat → Int64) (t u r q g : Nat) (st : Nat → Option Nat) (hb : zbk I) (w : Nat) (hw : w < 4) (x : Int32) (hx : x.toInt = w) : z_pu (z_run X z_cf z_ff (d + 3)) 214 [.ref 55, .int x] (118, n, ce, sl, I, L, z_rr t u r q g st) = some (.inl (some (.int (zpaM I w))), (118, n, ce, sl, I, L, z_rr t u r q g st)) := by
  refine z_en X d _ _ [(0, .ref 55), (1, .int x)] _ _ rfl rfl rfl ?_
  obtain ⟨b1, b2⟩ := hb
  rw [zb_M_paramOf_0]
  unfold zpaM
  by_cases c : I 55 28 = 0
  · rw [if_pos c, if_pos c]
    by_cases e : 2 ≤ w
    · rw [if_pos e, if_pos (by rw [y_i_le, y_oi (by omega) (by omega)]; omega)]
    · rw [if_neg e, if_neg (by rw [y_i_le, y_oi (by omega) (by omega)]; omega)]
  · rw [if_neg c, if_neg c]
    have e : (Int32.ofInt 4 * I 55 29).toInt = 4 * (I 55 29).toInt := y_lmu (by omega) (by omega) (by omega) (by omega)
    have e2 : (Int32.ofInt 4 * I 55 29 + x).toInt = 4 * (I 55 29).toInt + w := by rw [y_ad (by omega) (by omega)]; omega
    have e3 : (Int32.ofInt 4 * I 55 29 + x).toNatClampNeg = 4 * (I 55 29).toNatClampNeg + w := by
      rw [y_tn, y_tn, e2]
      omega
    rw [y_in_t (by omega) (by omega), z_gd_t, e3]
theorem zr_endM (X : ZX) (d N n ce sl : Nat) (I : Nat → Nat → Int32) (L : Nat → Nat → Int64) (t u r q g : Nat) (st : Nat → Option Nat) {m : Nat} (hb : zbk I) (h5 : m ≤ 5) (hs : I 55 1 = Int32.ofNat m) (k : Nat) (hk : k + 1 < m) (x : Int32) (hx : x.toInt = k) :
    z_loop X z_cf z_ff (z_pu (z_run X z_cf z_ff (d + 3))) 213 (N + 3) 94 [(0, .ref 55), (1, .int x)] [] (118, n, ce, sl, I, L, z_rr t u r q g st) = if (zpaM I 2).toInt < (I 82 k).toInt then some (.inl (some (.int (Int32.ofInt 2))), (118, n, ce, sl, z_up I 55 44 x, L, z_rr t u r q g st)) else if -(zpaM I 3) ≤ I 82 k then z_loop X z_cf z_ff (z_pu (z_run X z_cf z_ff (d + 3))) 213 N 94 [(0, .ref 55), (1, .int (x + Int32.ofInt 1))] [] (118, n, ce, sl, I, L, z_rr t u r q g st) else some (.inl (some (.int (Int32.ofInt 3))), (118, n, ce, sl, z_up I 55 44 x, L, z_rr t u r q g st)) := by
  have hxn : x.toNatClampNeg = k := by rw [y_tn, hx]; rfl
  have hin : z_in x 5 = true := y_in_t (by omega) (by omega)
  rw [show N + 3 = (N + 2) + 1 by omega, zb_M_draws_94, if_neg (by rw [hs, y_i_le, y_on (by omega), y_adl (by omega) (by omega) (by omega) (by omega)]; omega), hin, z_gd_t, zr_param X d n ce sl I L t u r q g st hb 2 (by omega) (Int32.ofInt 2) rfl, z_bi_v, hxn, zb_M_draws_115]
  by_cases c : (zpaM I 2).toInt < (I 82 k).toInt
  · rw [if_pos c, if_neg (by rw [y_i_le]; omega), if_neg (show ¬ (Int32.ofInt 2 : Int32) = 0 by decide)]
  · rw [if_neg c, if_pos (by rw [y_i_le]; omega), hin, z_gd_t, zr_param X d n ce sl I L t u r q g st hb 3 (by omega) (Int32.ofInt 3) rfl, z_bi_v, hxn, zb_M_draws_133]
    by_cases e : -(zpaM I 3) ≤ I 82 k
    · rw [if_pos e, if_pos e, if_pos (show (Int32.ofInt 0 : Int32) = 0 by decide)]
    · rw [if_neg e, if_neg e, if_neg (show ¬ (Int32.ofInt 3 : Int32) = 0 by decide)]
theorem zr_endC8 (X : ZX) (d M m ce sl : Nat) (I : Nat → Nat → Int32) (L : Nat → Nat → Int64) (t u r q : Nat) (h5 : m ≤ 5) (hs : I 5 2 = Int32.ofNat m) (k : Nat) (hk : k + 1 < m) (x : Int32) (hx : x.toInt = k) :
    z_loop X z_cf z_ff (z_pu (z_run X z_cf z_ff (d + 6))) 91 (M + 2) 2 [(0, .ref 25), (1, .ref 8), (2, .int x)] [] (118, z_sd m, ce, sl, I, L, z_rr t u r q (z_gg m) (z_sf m)) = if (I 8 10).toInt < (I 27 k).toInt then some (.inl (some (.int (Int32.ofInt 2))), (118, z_sd m, ce, sl, z_up I 25 5 x, L, z_rr t u r q (z_gg m) (z_sf m))) else if -(I 8 11) ≤ I 27 k then z_loop X z_cf z_ff (z_pu (z_run X z_cf z_ff (d + 6))) 91 M 2 [(0, .ref 25), (1, .ref 8), (2, .int (x + Int32.ofInt 1))] [] (118, z_sd m, ce, sl, I, L, z_rr t u r q (z_gg m) (z_sf m)) else some (.inl (some (.int (Int32.ofInt 3))), (118, z_sd m, ce, sl, z_up I 25 5 x, L, z_rr t u r q (z_gg m) (z_sf m))) := by
  have hs' : (I 5 2).toInt = m := by rw [hs, y_on (by omega)]
  have hxn : x.toNatClampNeg = k := by rw [y_tn, hx]; rfl
  have hin : z_in x 5 = true := y_in_t (by omega) (by omega)
  rw [show M + 2 = (M + 1) + 1 by omega, zb_Run_endByPull_25_8_2, zk_Line_many_0 X (d + 2), z_bi_v, zb_Run_endByPull_25_8_10, if_neg (by rw [y_i_le, y_sbl (by omega) (by omega) (by omega) (by omega)]; omega), hin, z_gd_t, hxn]
  by_cases c : (I 8 10).toInt < (I 27 k).toInt
  · rw [if_pos c, if_pos (y_i_lt.mpr c), z_gd_t, if_neg (by rw [y_i_le]; omega)]
  · rw [if_neg c, if_neg (fun e => c (y_i_lt.mp e)), z_gd_t]
    by_cases e : -(I 8 11) ≤ I 27 k
    · rw [if_pos e, if_pos e]
    · rw [if_neg e, if_neg e, z_gd_t, if_pos (by rw [y_i_le]; omega)]
theorem zr_endC15 (X : ZX) (d M m ce sl : Nat) (I : Nat → Nat → Int32) (L : Nat → Nat → Int64) (t u r q : Nat) (h5 : m ≤ 5) (hs : I 5 2 = Int32.ofNat m) (k : Nat) (hk : k + 1 < m) (x : Int32) (hx : x.toInt = k) :
    z_loop X z_cf z_ff (z_pu (z_run X z_cf z_ff (d + 6))) 91 (M + 2) 2 [(0, .ref 25), (1, .ref 15), (2, .int x)] [] (118, z_sd m, ce, sl, I, L, z_rr t u r q (z_gg m) (z_sf m)) = if (I 15 10).toInt < (I 27 k).toInt then some (.inl (some (.int (Int32.ofInt 2))), (118, z_sd m, ce, sl, z_up I 25 5 x, L, z_rr t u r q (z_gg m) (z_sf m))) else if -(I 15 11) ≤ I 27 k then z_loop X z_cf z_ff (z_pu (z_run X z_cf z_ff (d + 6))) 91 M 2 [(0, .ref 25), (1, .ref 15), (2, .int (x + Int32.ofInt 1))] [] (118, z_sd m, ce, sl, I, L, z_rr t u r q (z_gg m) (z_sf m)) else some (.inl (some (.int (Int32.ofInt 3))), (118, z_sd m, ce, sl, z_up I 25 5 x, L, z_rr t u r q (z_gg m) (z_sf m))) := by
  have hs' : (I 5 2).toInt = m := by rw [hs, y_on (by omega)]
  have hxn : x.toNatClampNeg = k := by rw [y_tn, hx]; rfl
  have hin : z_in x 5 = true := y_in_t (by omega) (by omega)
  rw [show M + 2 = (M + 1) + 1 by omega, zb_Run_endByPull_25_15_2, zk_Line_many_0 X (d + 2), z_bi_v, zb_Run_endByPull_25_15_10, if_neg (by rw [y_i_le, y_sbl (by omega) (by omega) (by omega) (by omega)]; omega), hin, z_gd_t, hxn]
  by_cases c : (I 15 10).toInt < (I 27 k).toInt
  · rw [if_pos c, if_pos (y_i_lt.mpr c), z_gd_t, if_neg (by rw [y_i_le]; omega)]
  · rw [if_neg c, if_neg (fun e => c (y_i_lt.mp e)), z_gd_t]
    by_cases e : -(I 15 11) ≤ I 27 k
    · rw [if_pos e, if_pos e]
    · rw [if_neg e, if_neg e, z_gd_t, if_pos (by rw [y_i_le]; omega)]
