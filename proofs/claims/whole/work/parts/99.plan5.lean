/-! PLAN, 5: the table of presses in the class -/
theorem z_pix {x2 x5 x6 : Int32} {s i j : Nat} (h2 : x2.toInt = s) (h5 : x5.toInt = i) (h6 : x6.toInt = j) (hs : s < 5) (hi : i < 13) (hj : j < 13) : (z_p_Planner_pressIndex x2 x5 x6).toInt = ((169 * s + 13 * i + j : Nat) : Int) := by
  have h13 : (Int32.ofInt 13).toInt = 13 := rfl
  unfold z_p_Planner_pressIndex
  have e1 : (x2 * Int32.ofInt 13).toInt = 13 * s := by rw [y_mu (by rw [h2, h13]; omega) (by rw [h2, h13]; omega), h2, h13]; omega
  have e2 : (x2 * Int32.ofInt 13 + x5).toInt = 13 * s + i := by rw [y_ad (by omega) (by omega)]; omega
  have e3 : ((x2 * Int32.ofInt 13 + x5) * Int32.ofInt 13).toInt = 13 * (13 * s + i) := by rw [y_mu (by rw [e2, h13]; omega) (by rw [e2, h13]; omega), e2, h13]; omega
  rw [y_ad (by omega) (by omega), e3, h6]
  omega
theorem zr_sp_in (X : ZX) (d m ce sl : Nat) (I : Nat → Nat → Int32) (L : Nat → Nat → Int64) (t u r q : Nat) {C p : Nat} (hS : zg_S C m I) (hL : zg_L p I) (h0 x1 x2 x4 x5 : Int32) (s i : Nat) (hs : s < m) (hx2 : x2.toInt = s) (hx5 : x5.toInt = i) (hh0 : 0 ≤ h0.toInt) (hx4 : x4.toInt = zhw I h0 s) {N : Nat} (hN : (I 30 4).toInt = N) (hN13 : N ≤ 13) (hi : i < N) (hr : ∀ j, j < N → 1 ≤ (I 32 j).toInt ∧ (I 32 j).toInt ≤ 60000) (hle : ∀ j, j < N → i ≤ j → (I 32 j).toInt ≤ (I 32 i).toInt) (n : Nat) : ∀ (j : Nat) (J : Nat → Nat → Int32) (x6 : Int32), j + n = N → x6.toInt = j → i ≤ j → (∀ a, a ≠ 33 → J a = I a) → ∃ K : Nat → Nat → Int32, (∀ a, a ≠ 33 → K a = I a) ∧ (∀ y, (y < 169 * s + 13 * i + j ∨ 169 * s + 13 * i + N ≤ y) → K 33 y = J 33 y) ∧ (∀ y, j ≤ y → y < N → K 33 (169 * s + 13 * i + y) = Int32.ofInt (zpp I p s h0 (I 32 i).toInt (I 32 y).toInt)) ∧
    ∀ M, z_loop X z_cf z_ff (z_pu (z_run X z_cf z_ff (d + 6))) 104 (M + 2 * n + 1) 57 [(0, .ref 30), (1, .int x1), (2, .int x2), (3, .ref (z_sd s)), (4, .int x4), (5, .int x5), (6, .int x6)] [] (118, z_sd m, ce, sl, J, L, z_rr t u r q (z_gg m) (z_sf m)) = z_loop X z_cf z_ff (z_pu (z_run X z_cf z_ff (d + 6))) 104 M 36 [(0, .ref 30), (1, .int x1), (2, .int x2), (3, .ref (z_sd s)), (4, .int x4), (5, .int (x5 + Int32.ofInt 1))] [] (118, z_sd m, ce, sl, K, L, z_rr t u r q (z_gg m) (z_sf m)) := by
  have h5 := hS.1
  have hx5n : x5.toNatClampNeg = i := by rw [y_tn, hx5]; rfl
  have hin5 : z_in x5 13 = true := y_in_t (by omega) (by omega)
  induction n with
  | zero =>
    intro j J x6 h1 h2 h3 h4
    refine ⟨J, h4, fun _ _ => rfl, fun y y1 y2 => by omega, fun M => ?_⟩
    rw [show M + 2 * 0 + 1 = M + 1 by omega, zb_Planner_setPresses_57, if_pos (by rw [y_i_le, h4 30 (by omega)]; omega)]
  | succ n ih =>
    intro j J x6 h1 h2 h3 h4
    have hx6n : x6.toNatClampNeg = j := by rw [y_tn, h2]; rfl
    have hin6 : z_in x6 13 = true := y_in_t (by omega) (by omega)
    have hok : z_ok (118, z_sd m, ce, sl, J, L, z_rr t u r q (z_gg m) (z_sf m)) (z_sd s) 10 = true := z_okS (k := s) (m := m) hs (by omega) 118 ce sl J L (z_rr t u r q (z_gg m) (z_sf m))
    have hF : zPF I J := ⟨fun a a1 a2 a3 => h4 a (by omega), by rw [h4 55 (by omega)], by rw [h4 55 (by omega)]⟩
    have hpix := z_pix hx2 hx5 h2 (by omega) (by omega) (by omega)
    have hpn : (z_p_Planner_pressIndex x2 x5 x6).toNatClampNeg = 169 * s + 13 * i + j := by rw [y_tn, hpix]; rfl
    have hrj := hr j (by omega)
    have hri := hr i hi
    obtain ⟨K, g1, g2, g3, g4⟩ := ih (j + 1) (z_up J 33 (169 * s + 13 * i + j) (Int32.ofInt (zpp I p s h0 (I 32 i).toInt (I 32 j).toInt))) (x6 + Int32.ofInt 1) (by omega) (by rw [y_adl (by omega) (by omega) (by omega) (by omega)]; omega) (by omega) (fun a ha => by rw [z_up_r _ _ _ _ _ ha, h4 a ha])
    refine ⟨K, g1, ?_, ?_, fun M => ?_⟩
    · intro y hy
      rw [g2 y (by omega), z_up_j _ _ _ _ _ (by omega)]
    · intro y y1 y2
      by_cases c : y = j
      · subst c
        rw [g2 _ (by omega), z_up_s]
      · exact g3 y (by omega) y2
    · rw [show M + 2 * (n + 1) + 1 = (M + 2 * n + 1) + 1 + 1 by omega, zb_Planner_setPresses_57, if_neg (by rw [y_i_le, h4 30 (by omega)]; omega), hin5, z_gd_t, hin6, z_gd_t, hok, z_gd_t, hx5n, hx6n, h4 32 (by omega), zr_planPress X d m ce sl J L t u r q (zPF_S hF hS) (zPF_L hF hL) h0 (I 32 i) (I 32 j) x4 s hs hh0 (by rw [zPF_hw hF]; exact hx4) hri.2 hrj.1 (hle j (by omega) h3), z_bi_v, zPF_pp hF, zb_Planner_setPresses_105, y_in_t (by omega) (by omega), z_gd_t, hpn]
      exact g4 M
theorem zr_sp_mid (X : ZX) (d m ce sl : Nat) (I : Nat → Nat → Int32) (L : Nat → Nat → Int64) (t u r q : Nat) {C p : Nat} (hS : zg_S C m I) (hL : zg_L p I) (h0 x1 x2 x4 : Int32) (s : Nat) (hs : s < m) (hx2 : x2.toInt = s) (hh0 : 0 ≤ h0.toInt) (hx4 : x4.toInt = zhw I h0 s) {N : Nat} (hN : (I 30 4).toInt = N) (hN1 : 1 ≤ N) (hN13 : N ≤ 13) (hr : ∀ j, j < N → 1 ≤ (I 32 j).toInt ∧ (I 32 j).toInt ≤ 60000) (hle : ∀ j, j < N → ∀ i, i ≤ j → (I 32 j).toInt ≤ (I 32 i).toInt) (n : Nat) : ∀ (i : Nat) (J : Nat → Nat → Int32) (x5 : Int32), i + n = (if s = 0 then 1 else N) → x5.toInt = i → (∀ a, a ≠ 33 → J a = I a) → ∃ K : Nat → Nat → Int32, (∀ a, a ≠ 33 → K a = I a) ∧ (∀ y, (y < 169 * s + 13 * i ∨ 169 * (s + 1) ≤ y) → K 33 y = J 33 y) ∧ (∀ i', i ≤ i' → i' < (if s = 0 then 1 else N) → ∀ y, i' ≤ y → y < N → K 33 (169 * s + 13 * i' + y) = Int32.ofInt (zpp I p s h0 (I 32 i').toInt (I 32 y).toInt)) ∧
    ∀ M, ∃ M', M ≤ M' ∧ z_loop X z_cf z_ff (z_pu (z_run X z_cf z_ff (d + 6))) 104 (M + 28 * n + 1) 36 [(0, .ref 30), (1, .int x1), (2, .int x2), (3, .ref (z_sd s)), (4, .int x4), (5, .int x5)] [] (118, z_sd m, ce, sl, J, L, z_rr t u r q (z_gg m) (z_sf m)) = z_loop X z_cf z_ff (z_pu (z_run X z_cf z_ff (d + 6))) 104 M' 2 [(0, .ref 30), (1, .int x1), (2, .int (x2 + Int32.ofInt 1))] [] (118, z_sd m, ce, sl, K, L, z_rr t u r q (z_gg m) (z_sf m)) := by
  have h5 := hS.1
  have h1' : (Int32.ofInt 1).toInt = 1 := rfl
  have hlim : (if s = 0 then 1 else N) ≤ N := by split <;> omega
  induction n with
  | zero =>
    intro i J x5 h1 h2 h4
    refine ⟨J, h4, fun _ _ => rfl, fun i' y1 y2 => by omega, fun M => ⟨M, Nat.le_refl _, ?_⟩⟩
    rw [show M + 28 * 0 + 1 = M + 1 by omega, zb_Planner_setPresses_36]
    by_cases c : s = 0
    · rw [if_pos (by rw [y_i_eq, y_i0]; omega), if_pos (by rw [y_i_le, h1']; rw [if_pos c] at h1; omega)]
    · rw [if_neg (by rw [y_i_eq, y_i0]; omega), if_pos (by rw [y_i_le, h4 30 (by omega)]; rw [if_neg c] at h1; omega)]
  | succ n ih =>
    intro i J x5 h1 h2 h4
    have hiN : i < N := by omega
    obtain ⟨K0, f1, f2, f3, f4⟩ := zr_sp_in X d m ce sl I L t u r q hS hL h0 x1 x2 x4 x5 s i hs hx2 h2 hh0 hx4 hN hN13 hiN hr (fun j j1 j2 => hle j j1 i j2) (N - i) i J x5 (by omega) h2 (Nat.le_refl _) h4
    obtain ⟨K, g1, g2, g3, g4⟩ := ih (i + 1) K0 (x5 + Int32.ofInt 1) (by omega) (by rw [y_adl (by omega) (by omega) (by omega) (by omega)]; omega) f1
    refine ⟨K, g1, ?_, ?_, fun M => ?_⟩
    · intro y hy
      rw [g2 y (by omega), f2 y (by omega)]
    · intro i' y1 y2 y y3 y4
      by_cases c : i' = i
      · subst c
        rw [g2 _ (by omega)]
        exact f3 y y3 y4
      · exact g3 i' (by omega) y2 y y3 y4
    · obtain ⟨M', q1, q2⟩ := g4 (M + 26 - 2 * (N - i))
      refine ⟨M', by omega, ?_⟩
      have pre : z_loop X z_cf z_ff (z_pu (z_run X z_cf z_ff (d + 6))) 104 (M + 28 * (n + 1) + 1) 36 [(0, .ref 30), (1, .int x1), (2, .int x2), (3, .ref (z_sd s)), (4, .int x4), (5, .int x5)] [] (118, z_sd m, ce, sl, J, L, z_rr t u r q (z_gg m) (z_sf m)) = z_loop X z_cf z_ff (z_pu (z_run X z_cf z_ff (d + 6))) 104 (M + 28 * (n + 1)) 57 [(0, .ref 30), (1, .int x1), (2, .int x2), (3, .ref (z_sd s)), (4, .int x4), (5, .int x5), (6, .int x5)] [] (118, z_sd m, ce, sl, J, L, z_rr t u r q (z_gg m) (z_sf m)) := by
        rw [zb_Planner_setPresses_36]
        by_cases c : s = 0
        · rw [if_pos (by rw [y_i_eq, y_i0]; omega), if_neg (by rw [y_i_le, h1']; rw [if_pos c] at h1; omega)]
        · rw [if_neg (by rw [y_i_eq, y_i0]; omega), if_neg (by rw [y_i_le, h4 30 (by omega)]; omega)]
      rw [pre, show M + 28 * (n + 1) = (M + 26 - 2 * (N - i) + 28 * n + 1) + 2 * (N - i) + 1 by omega, f4, q2]
theorem zr_sp_out (X : ZX) (d m ce sl : Nat) (I : Nat → Nat → Int32) (L : Nat → Nat → Int64) (t u r q : Nat) {C p : Nat} (hS : zg_S C m I) (hL : zg_L p I) (h0 : Int32) (hh0 : 0 ≤ h0.toInt) (hh1 : h0.toInt ≤ 99) {N : Nat} (hN : (I 30 4).toInt = N) (hN1 : 1 ≤ N) (hN13 : N ≤ 13) (hr : ∀ j, j < N → 1 ≤ (I 32 j).toInt ∧ (I 32 j).toInt ≤ 60000) (hle : ∀ j, j < N → ∀ i, i ≤ j → (I 32 j).toInt ≤ (I 32 i).toInt) (n : Nat) : ∀ (s : Nat) (J : Nat → Nat → Int32) (x2 : Int32), s + n = m → x2.toInt = s → (∀ a, a ≠ 33 → J a = I a) → ∃ K : Nat → Nat → Int32, (∀ a, a ≠ 33 → K a = I a) ∧ (∀ y, y < 169 * s → K 33 y = J 33 y) ∧ (∀ s', s ≤ s' → s' < m → ∀ i', i' < (if s' = 0 then 1 else N) → ∀ y, i' ≤ y → y < N → K 33 (169 * s' + 13 * i' + y) = Int32.ofInt (zpp I p s' h0 (I 32 i').toInt (I 32 y).toInt)) ∧
    ∀ M, z_loop X z_cf z_ff (z_pu (z_run X z_cf z_ff (d + 6))) 104 (M + 400 * n + 3) 2 [(0, .ref 30), (1, .int h0), (2, .int x2)] [] (118, z_sd m, ce, sl, J, L, z_rr t u r q (z_gg m) (z_sf m)) = some (.inl none, (118, z_sd m, ce, sl, K, L, z_rr t u r q (z_gg m) (z_sf m))) := by
  have h5 := hS.1
  have hs5 := hS.2.1
  induction n with
  | zero =>
    intro s J x2 h1 h2 h4
    have hs' : (J 5 2).toInt = m := by rw [h4 5 (by omega), hs5, y_on (by omega)]
    refine ⟨J, h4, fun _ _ => rfl, fun s' y1 y2 => by omega, fun M => ?_⟩
    rw [show M + 400 * 0 + 3 = M + 3 by omega, zt_Planner_setPresses_2 X d, if_pos (by rw [y_i_le]; omega)]
  | succ n ih =>
    intro s J x2 h1 h2 h4
    have hs' : (J 5 2).toInt = m := by rw [h4 5 (by omega), hs5, y_on (by omega)]
    have hJ5 : J 5 2 = Int32.ofNat m := by rw [h4 5 (by omega), hs5]
    have hx2n : x2.toNatClampNeg = s := by rw [y_tn, h2]; rfl
    have hF : zPF I J := ⟨fun a a1 a2 a3 => h4 a (by omega), by rw [h4 55 (by omega)], by rw [h4 55 (by omega)]⟩
    have hSJ := zPF_S hF hS
    have hwr := zhw_r hS hh0 (s := s) (by omega)
    have hlim : (if s = 0 then 1 else N) ≤ N := by split <;> omega
    obtain ⟨K0, f1, f2, f3, f4⟩ := zr_sp_mid X d m ce sl I L t u r q hS hL h0 h0 x2 (Int32.ofInt (zhw I h0 s)) s (by omega) h2 hh0 (y_oi (by omega) (by omega)) hN hN1 hN13 hr hle (if s = 0 then 1 else N) 0 J (Int32.ofInt 0) (by omega) rfl h4
    obtain ⟨K, g1, g2, g3, g4⟩ := ih (s + 1) K0 (x2 + Int32.ofInt 1) (by omega) (by rw [y_adl (by omega) (by omega) (by omega) (by omega)]; omega) f1
    refine ⟨K, g1, ?_, ?_, fun M => ?_⟩
    · intro y hy
      rw [g2 y (by omega), f2 y (by omega)]
    · intro s' y1 y2 i' y3 y y4 y5
      by_cases c : s' = s
      · subst c
        rw [g2 _ (by omega)]
        exact f3 i' (by omega) y3 y y4 y5
      · exact g3 s' (by omega) y2 i' y3 y y4 y5
    · obtain ⟨M', q1, q2⟩ := f4 (M + 400 * n + 398 - 28 * (if s = 0 then 1 else N))
      rw [show M + 400 * (n + 1) + 3 = (M + 400 * n + 400) + 3 by omega, zt_Planner_setPresses_2 X d, if_neg (by rw [y_i_le]; omega), y_ix_T (by omega) (by omega) h5 hJ5, z_gd_t, hx2n, zr_hardAt X d m ce sl J L t u r q h5 hJ5 (zg_S_w hSJ) h0 x2 hh0 hh1 s h2 (by omega), z_bi_v, zPF_hw hF, show M + 400 * n + 400 = (M + 400 * n + 399) + 1 by omega, zb_Planner_setPresses_31, show M + 400 * n + 399 = (M + 400 * n + 398 - 28 * (if s = 0 then 1 else N)) + 28 * (if s = 0 then 1 else N) + 1 by omega, q2, show M' = (M' - 400 * n - 3) + 400 * n + 3 by omega, g4]
theorem zr_setPresses (X : ZX) (d m ce sl : Nat) (I : Nat → Nat → Int32) (L : Nat → Nat → Int64) (t u r q : Nat) {C p : Nat} (hS : zg_S C m I) (hL : zg_L p I) (h0 : Int32) (hh0 : 0 ≤ h0.toInt) (hh1 : h0.toInt ≤ 99) {N : Nat} (hN : (I 30 4).toInt = N) (hN1 : 1 ≤ N) (hN13 : N ≤ 13) (hr : ∀ j, j < N → 1 ≤ (I 32 j).toInt ∧ (I 32 j).toInt ≤ 60000) (hle : ∀ j, j < N → ∀ i, i ≤ j → (I 32 j).toInt ≤ (I 32 i).toInt) : ∃ K : Nat → Nat → Int32, (∀ a, a ≠ 33 → K a = I a) ∧ (∀ s, s < m → ∀ i, i < (if s = 0 then 1 else N) → ∀ y, i ≤ y → y < N → K 33 (169 * s + 13 * i + y) = Int32.ofInt (zpp I p s h0 (I 32 i).toInt (I 32 y).toInt)) ∧
    z_pu (z_run X z_cf z_ff (d + 7)) 104 [.ref 30, .int h0] (118, z_sd m, ce, sl, I, L, z_rr t u r q (z_gg m) (z_sf m)) = some (.inl none, (118, z_sd m, ce, sl, K, L, z_rr t u r q (z_gg m) (z_sf m))) := by
  have h5 := hS.1
  obtain ⟨K, g1, g2, g3, g4⟩ := zr_sp_out X d m ce sl I L t u r q hS hL h0 hh0 hh1 hN hN1 hN13 hr hle m 0 I (Int32.ofInt 0) (by omega) rfl (fun _ _ => rfl)
  refine ⟨K, g1, fun s h1 => g3 s (by omega) h1, ?_⟩
  refine z_en X (d + 4) _ _ [(0, .ref 30), (1, .int h0)] _ _ rfl rfl rfl ?_
  rw [zb_Planner_setPresses_0, show (99999999 : Nat) = (99999996 - 400 * m) + 400 * m + 3 by omega]
  exact g4 _
