/-! MAIN, 6: the law's loop -/
theorem zm_x4 {C : Nat} (h : C ≤ 512) : Int32.ofNat (14 * C) + Int32.ofInt 14 = Int32.ofNat (14 * (C + 1)) := by
  have e : (Int32.ofNat (14 * C)).toInt = 14 * C := by rw [y_on (by omega)]; omega
  have e2 : (Int32.ofNat (14 * (C + 1))).toInt = 14 * C + 14 := by rw [y_on (by omega)]; omega
  rw [y_i_eq, y_adl (by omega) (by omega) (by omega) (by omega), e, e2]
theorem zm_loop (X : ZX) (hX : X.1 ≤ 7168) (d : Nat) (k : Nat) : ∀ (C m t u r q ce sl : Nat) (I : Nat → Nat → Int32) (L : Nat → Nat → Int64), C + k = 512 → zRel C m t u r q I L → ∃ w1 : ZW, w1.2.2.1 ≤ ce + 2 * k ∧ w1.2.2.2.1 ≤ sl + 25 * k ∧ ∀ M, z_loop X z_cf z_ff (z_pu (z_run X z_cf z_ff (d + 200))) 273 (M + (4 * k + 1)) 23 (zLO (Int32.ofNat (14 * C))) [] (zw m t u r q ce sl I L) = some (.inl (some (.int (Int32.ofInt 1))), w1) := by
  have eX : (Int32.ofNat X.1).toInt = X.1 := by rw [y_on (by omega)]
  have e14 : (Int32.ofNat X.1 - Int32.ofInt 14).toInt = (X.1 : Int) - 14 := by rw [y_sbl (by omega) (by omega) (by omega) (by omega), eX]
  have z11 : z_b1 (Int32.ofInt 1) = true := by rw [z_b1_eq]; decide
  induction k with
  | zero =>
    intro C m t u r q ce sl I L hk h
    have hc : (Int32.ofNat (14 * C)).toInt = 14 * C := by rw [y_on (by omega)]; omega
    refine ⟨zw m t u r q ce sl I L, by show ce ≤ _; omega, by show sl ≤ _; omega, fun M => ?_⟩
    have hl : (Int32.ofNat X.1 - Int32.ofInt 14) < Int32.ofNat (14 * C) := by rw [y_i_lt, e14, hc]; omega
    rw [show M + (4 * 0 + 1) = M + 1 by omega, zl_23, if_pos hl, z_gd_of z11]
  | succ k ih =>
    intro C m t u r q ce sl I L hk h
    have hc : (Int32.ofNat (14 * C)).toInt = 14 * C := by rw [y_on (by omega)]; omega
    by_cases hl : (Int32.ofNat X.1 - Int32.ofInt 14) < Int32.ofNat (14 * C)
    · refine ⟨zw m t u r q ce sl I L, by show ce ≤ _; omega, by show sl ≤ _; omega, fun M => ?_⟩
      rw [show M + (4 * (k + 1) + 1) = M + 4 * (k + 1) + 1 by omega, zl_23, if_pos hl, z_gd_of z11]
    · have hl2 := hl
      rw [y_i_lt, e14, hc] at hl2
      obtain ⟨c, w2, hc4, ⟨m', ce', sl', t', u', r', q', J, L', rfl, h1, h2, h3⟩, hs⟩ := zs_all X d (x4 := Int32.ofNat (14 * C)) hl (y_in_t (by omega) (by omega)) (fun j j0 j1 => y_in_t (by rw [y_adl (by omega) (by omega) (by omega) (by omega)]; omega) (by rw [y_adl (by omega) (by omega) (by omega) (by omega)]; omega)) (ce := ce) (sl := sl) (by omega) h
      obtain ⟨w1, g1, g2, g3⟩ := ih (C + 1) m' t' u' r' q' ce' sl' J L' (by omega) h3
      refine ⟨w1, by omega, by omega, fun M => ?_⟩
      rw [show M + (4 * (k + 1) + 1) = M + (4 - c) + (4 * k + 1) + c by omega, hs, zm_x4 (by omega)]
      exact g3 _
/-- from the loop's head on, with all the fuel -/
theorem zm_jl (X : ZX) (hX : X.1 ≤ 7168) (m t u r q ce sl : Nat) (I : Nat → Nat → Int32) (L : Nat → Nat → Int64) (h : zRel 0 m t u r q I L) (hm : 118 ≤ z_sd m) : ∃ w1 : ZW, w1.2.2.1 ≤ ce + 1024 ∧ w1.2.2.2.1 ≤ sl + 12800 ∧ z_jl X z_cf z_ff 23 23 (zLO (Int32.ofInt 0)) [] (0, z_sd m, ce, sl, I, L, z_rr t u r q (z_gg m) (z_sf m)) = some (.inl (some (.int 1)), w1) := by
  obtain ⟨w1, g1, g2, g3⟩ := zm_loop X hX 800 512 0 m t u r q ce sl I L rfl h
  refine ⟨(0, w1.2), by show w1.2.2.1 ≤ _; omega, by show w1.2.2.2.1 ≤ _; omega, ?_⟩
  have g := g3 (100000000 - 2049)
  rw [show 100000000 - 2049 + (4 * 512 + 1) = 100000000 by omega, show z_pu (z_run X z_cf z_ff (800 + 200)) = z_run X z_cf z_ff 1000 from z_pe X 998] at g
  unfold z_jl
  have hg : (Nat.beq 23 23 && Nat.ble 118 (z_sd m) && Nat.beq 0 0) = true := by
    rw [Nat.ble_eq_true_of_le hm]
    rfl
  show z_gd (Nat.beq 23 23 && Nat.ble 118 (z_sd m) && Nat.beq 0 0) _ = _
  rw [hg, z_gd_t]
  show (match z_loop X z_cf z_ff (z_run X z_cf z_ff 1000) 273 z_fuel 23 (zLO (Int32.ofInt 0)) [] (zw m t u r q ce sl I L) with
    | some (r, w2) => some (r, (0, w2.2))
    | none => none) = _
  have e : z_loop X z_cf z_ff (z_run X z_cf z_ff 1000) 273 z_fuel 23 (zLO (Int32.ofInt 0)) [] (zw m t u r q ce sl I L) = some (.inl (some (.int (Int32.ofInt 1))), w1) := g
  rw [e]
  rfl
