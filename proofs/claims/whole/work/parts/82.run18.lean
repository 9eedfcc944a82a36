/-! CALLS, 33: run: what the gauge tells, in both -/
theorem zr_gauge8 (X : ZX) (d m ce sl d2 n2 ce2 sl2 : Nat) (Ic Im : Nat → Nat → Int32) (L L2 : Nat → Nat → Int64) (t u r q t2 u2 r2 q2 g2 : Nat) (st2 : Nat → Option Nat) {c : Nat} (h1m : 1 ≤ m) (h5 : m ≤ 5) (hs : Ic 5 2 = Int32.ofNat m) (hm : Im 55 1 = Int32.ofNat m) (hc : (Ic 22 2).toInt = c) (hc' : (Im 55 42).toInt = c) (hc40 : c ≤ 40) (hb : zbk Im) (h8 : Ic 8 8 = zpaM Im 0) (h9 : Ic 8 9 = zpaM Im 1)
    (hl0 : 0 ≤ (zpaM Im 0).toInt) (hl1 : (zpaM Im 0).toInt ≤ 99999) (h26 : Ic 26 = Im 80) (T1 : Int32) (hT0 : 0 ≤ T1.toInt) (hT1 : T1.toInt ≤ 44) : ∃ v : Int32,
    z_pu (z_run X z_cf z_ff (d + 7)) 92 [.ref 25, .int T1, .ref 8] (118, z_sd m, ce, sl, Ic, L, z_rr t u r q (z_gg m) (z_sf m)) = some (.inl (some (.int v)), (118, z_sd m, ce, sl, Ic, L, z_rr t u r q (z_gg m) (z_sf m))) ∧
    z_pu (z_run X z_cf z_ff (d2 + 6)) 215 [.ref 55, .int T1] (118, n2, ce2, sl2, Im, L2, z_rr t2 u2 r2 q2 g2 st2) = some (.inl (some (.int v)), (118, n2, ce2, sl2, Im, L2, z_rr t2 u2 r2 q2 g2 st2)) := by
  have z10 : ¬ (Int32.ofInt 10 : Int32) = 0 := by decide
  have e0 : (T1 - zpaM Im 0).toInt = T1.toInt - (zpaM Im 0).toInt := y_sb (by omega) (by omega)
  have e1 : (Int32.ofNat m - Int32.ofInt 1).toInt = (m - 1 : Nat) := by rw [y_sbl (by omega) (by omega) (by rw [y_on (by omega)]; omega) (by rw [y_on (by omega)]; omega), y_on (by omega)]; omega
  have e2 : ((T1 - zpaM Im 0) - (Int32.ofNat m - Int32.ofInt 1)).toInt = T1.toInt - (zpaM Im 0).toInt - (m - 1 : Nat) := by rw [y_sb (by omega) (by omega), e0, e1]
  have f1 : (Ic 22 2 - Int32.ofInt 1).toInt = c - 1 := by rw [y_sbl (by omega) (by omega) (by omega) (by omega), hc]
  by_cases g : 0 ≤ T1.toInt - (zpaM Im 0).toInt - (m - 1 : Nat) ∧ T1.toInt - (zpaM Im 0).toInt - (m - 1 : Nat) < c
  · obtain ⟨j, hj⟩ : ∃ j : Nat, T1.toInt - (zpaM Im 0).toInt - (m - 1 : Nat) = j := ⟨(T1.toInt - (zpaM Im 0).toInt - (m - 1 : Nat)).toNat, by omega⟩
    have e3 : ((T1 - zpaM Im 0) - (Int32.ofNat m - Int32.ofInt 1)).toInt = j := by rw [e2, hj]
    obtain ⟨o1, o2, o3⟩ := y_ox e1 e3 (by omega) (by omega)
    obtain ⟨p1, p2, p3⟩ := y_xo e1 e3 (by omega) (by omega)
    refine ⟨Im 80 (40 * (m - 1) + j) + zpaM Im 1 * T1 / Int32.ofInt 10, ?_, ?_⟩
    · refine z_en X (d + 4) _ _ [(0, .ref 25), (1, .int T1), (2, .ref 8)] _ _ rfl rfl rfl ?_
      rw [zb_Run_gaugeAt_25_8_0, zk_Line_many_0 X (d + 2), z_bi_v, zb_Run_gaugeAt_25_8_7, hs, h8, if_neg (by rw [y_wi0, y_oi0, e3, f1]; omega), zk_Run_outOf_0 X (d + 3), if_neg (by rw [y_wi0, y_oi0, e1, y_oi (by omega) (by omega)]; omega), if_neg (by rw [y_wi0, y_oi0, e3, y_oi (by omega) (by omega)]; omega), o3, z_gd_t, z_bi_v, o2, zb_Run_gaugeAt_25_8_47, if_neg z10, h9, h26]
    · refine z_en X (d2 + 3) _ _ [(0, .ref 55), (1, .int T1)] _ _ rfl rfl rfl ?_
      rw [zb_M_told_0, zr_param X (d2 + 2) n2 ce2 sl2 Im L2 t2 u2 r2 q2 g2 st2 hb 0 (by omega) (Int32.ofInt 0) rfl, z_bi_v, zb_M_told_6, hm, if_neg (by rw [y_i_lt, y_i0, e3]; omega), if_pos (by rw [y_i_lt, e3, hc']; omega), p3, z_gd_t, zr_param X (d2 + 2) n2 ce2 sl2 Im L2 t2 u2 r2 q2 g2 st2 hb 1 (by omega) (Int32.ofInt 1) rfl, z_bi_v, p2, zb_M_told_50, if_neg z10]
  · refine ⟨Int32.ofInt 0, ?_, ?_⟩
    · refine z_en X (d + 4) _ _ [(0, .ref 25), (1, .int T1), (2, .ref 8)] _ _ rfl rfl rfl ?_
      rw [zb_Run_gaugeAt_25_8_0, zk_Line_many_0 X (d + 2), z_bi_v, zb_Run_gaugeAt_25_8_7, hs, h8, if_pos (by rw [y_wi0, y_oi0, e2, f1]; omega)]
    · refine z_en X (d2 + 3) _ _ [(0, .ref 55), (1, .int T1)] _ _ rfl rfl rfl ?_
      rw [zb_M_told_0, zr_param X (d2 + 2) n2 ce2 sl2 Im L2 t2 u2 r2 q2 g2 st2 hb 0 (by omega) (Int32.ofInt 0) rfl, z_bi_v, zb_M_told_6, hm]
      by_cases g2 : T1.toInt - (zpaM Im 0).toInt - (m - 1 : Nat) < 0
      · rw [if_pos (by rw [y_i_lt, y_i0, e2]; exact g2)]
      · rw [if_neg (by rw [y_i_lt, y_i0, e2]; exact g2), if_neg (by rw [y_i_lt, e2, hc']; omega)]
theorem zr_gauge15 (X : ZX) (d m ce sl d2 n2 ce2 sl2 : Nat) (Ic Im : Nat → Nat → Int32) (L L2 : Nat → Nat → Int64) (t u r q t2 u2 r2 q2 g2 : Nat) (st2 : Nat → Option Nat) {c : Nat} (h1m : 1 ≤ m) (h5 : m ≤ 5) (hs : Ic 5 2 = Int32.ofNat m) (hm : Im 55 1 = Int32.ofNat m) (hc : (Ic 22 2).toInt = c) (hc' : (Im 55 42).toInt = c) (hc40 : c ≤ 40) (hb : zbk Im) (h8 : Ic 15 8 = zpaM Im 0) (h9 : Ic 15 9 = zpaM Im 1)
    (hl0 : 0 ≤ (zpaM Im 0).toInt) (hl1 : (zpaM Im 0).toInt ≤ 99999) (h26 : Ic 26 = Im 80) (T1 : Int32) (hT0 : 0 ≤ T1.toInt) (hT1 : T1.toInt ≤ 44) : ∃ v : Int32,
    z_pu (z_run X z_cf z_ff (d + 7)) 92 [.ref 25, .int T1, .ref 15] (118, z_sd m, ce, sl, Ic, L, z_rr t u r q (z_gg m) (z_sf m)) = some (.inl (some (.int v)), (118, z_sd m, ce, sl, Ic, L, z_rr t u r q (z_gg m) (z_sf m))) ∧
    z_pu (z_run X z_cf z_ff (d2 + 6)) 215 [.ref 55, .int T1] (118, n2, ce2, sl2, Im, L2, z_rr t2 u2 r2 q2 g2 st2) = some (.inl (some (.int v)), (118, n2, ce2, sl2, Im, L2, z_rr t2 u2 r2 q2 g2 st2)) := by
  have z10 : ¬ (Int32.ofInt 10 : Int32) = 0 := by decide
  have e0 : (T1 - zpaM Im 0).toInt = T1.toInt - (zpaM Im 0).toInt := y_sb (by omega) (by omega)
  have e1 : (Int32.ofNat m - Int32.ofInt 1).toInt = (m - 1 : Nat) := by rw [y_sbl (by omega) (by omega) (by rw [y_on (by omega)]; omega) (by rw [y_on (by omega)]; omega), y_on (by omega)]; omega
  have e2 : ((T1 - zpaM Im 0) - (Int32.ofNat m - Int32.ofInt 1)).toInt = T1.toInt - (zpaM Im 0).toInt - (m - 1 : Nat) := by rw [y_sb (by omega) (by omega), e0, e1]
  have f1 : (Ic 22 2 - Int32.ofInt 1).toInt = c - 1 := by rw [y_sbl (by omega) (by omega) (by omega) (by omega), hc]
  by_cases g : 0 ≤ T1.toInt - (zpaM Im 0).toInt - (m - 1 : Nat) ∧ T1.toInt - (zpaM Im 0).toInt - (m - 1 : Nat) < c
  · obtain ⟨j, hj⟩ : ∃ j : Nat, T1.toInt - (zpaM Im 0).toInt - (m - 1 : Nat) = j := ⟨(T1.toInt - (zpaM Im 0).toInt - (m - 1 : Nat)).toNat, by omega⟩
    have e3 : ((T1 - zpaM Im 0) - (Int32.ofNat m - Int32.ofInt 1)).toInt = j := by rw [e2, hj]
    obtain ⟨o1, o2, o3⟩ := y_ox e1 e3 (by omega) (by omega)
    obtain ⟨p1, p2, p3⟩ := y_xo e1 e3 (by omega) (by omega)
    refine ⟨Im 80 (40 * (m - 1) + j) + zpaM Im 1 * T1 / Int32.ofInt 10, ?_, ?_⟩
    · refine z_en X (d + 4) _ _ [(0, .ref 25), (1, .int T1), (2, .ref 15)] _ _ rfl rfl rfl ?_
      rw [zb_Run_gaugeAt_25_15_0, zk_Line_many_0 X (d + 2), z_bi_v, zb_Run_gaugeAt_25_15_7, hs, h8, if_neg (by rw [y_wi0, y_oi0, e3, f1]; omega), zk_Run_outOf_0 X (d + 3), if_neg (by rw [y_wi0, y_oi0, e1, y_oi (by omega) (by omega)]; omega), if_neg (by rw [y_wi0, y_oi0, e3, y_oi (by omega) (by omega)]; omega), o3, z_gd_t, z_bi_v, o2, zb_Run_gaugeAt_25_15_47, if_neg z10, h9, h26]
    · refine z_en X (d2 + 3) _ _ [(0, .ref 55), (1, .int T1)] _ _ rfl rfl rfl ?_
      rw [zb_M_told_0, zr_param X (d2 + 2) n2 ce2 sl2 Im L2 t2 u2 r2 q2 g2 st2 hb 0 (by omega) (Int32.ofInt 0) rfl, z_bi_v, zb_M_told_6, hm, if_neg (by rw [y_i_lt, y_i0, e3]; omega), if_pos (by rw [y_i_lt, e3, hc']; omega), p3, z_gd_t, zr_param X (d2 + 2) n2 ce2 sl2 Im L2 t2 u2 r2 q2 g2 st2 hb 1 (by omega) (Int32.ofInt 1) rfl, z_bi_v, p2, zb_M_told_50, if_neg z10]
  · refine ⟨Int32.ofInt 0, ?_, ?_⟩
    · refine z_en X (d + 4) _ _ [(0, .ref 25), (1, .int T1), (2, .ref 15)] _ _ rfl rfl rfl ?_
      rw [zb_Run_gaugeAt_25_15_0, zk_Line_many_0 X (d + 2), z_bi_v, zb_Run_gaugeAt_25_15_7, hs, h8, if_pos (by rw [y_wi0, y_oi0, e2, f1]; omega)]
    · refine z_en X (d2 + 3) _ _ [(0, .ref 55), (1, .int T1)] _ _ rfl rfl rfl ?_
      rw [zb_M_told_0, zr_param X (d2 + 2) n2 ce2 sl2 Im L2 t2 u2 r2 q2 g2 st2 hb 0 (by omega) (Int32.ofInt 0) rfl, z_bi_v, zb_M_told_6, hm]
      by_cases g2 : T1.toInt - (zpaM Im 0).toInt - (m - 1 : Nat) < 0
      · rw [if_pos (by rw [y_i_lt, y_i0, e2]; exact g2)]
      · rw [if_neg (by rw [y_i_lt, y_i0, e2]; exact g2), if_neg (by rw [y_i_lt, e2, hc']; omega)]
