/-! CALLS, 32: run: where a pull ends a run, in both -/
theorem zr_ends8 (X : ZX) (d m ce sl d2 n2 ce2 sl2 : Nat) (Ic Im : Nat → Nat → Int32) (L L2 : Nat → Nat → Int64) (t u r q t2 u2 r2 q2 g2 : Nat) (st2 : Nat → Option Nat) (h5 : m ≤ 5) (hs : Ic 5 2 = Int32.ofNat m) (hm : Im 55 1 = Int32.ofNat m) (hb : zbk Im) (h10 : Ic 8 10 = zpaM Im 2) (h11 : Ic 8 11 = zpaM Im 3) (h27 : Ic 27 = Im 82) (n : Nat) : ∀ (k : Nat) (x : Int32), k + n + 1 = m → x.toInt = k →
    ∃ e y : Int32, (e = 0 ∨ e = Int32.ofInt 2 ∨ e = Int32.ofInt 3) ∧
    (∀ M, z_loop X z_cf z_ff (z_pu (z_run X z_cf z_ff (d + 6))) 91 (M + 2 * n + 2) 2 [(0, .ref 25), (1, .ref 8), (2, .int x)] [] (118, z_sd m, ce, sl, Ic, L, z_rr t u r q (z_gg m) (z_sf m)) = some (.inl (some (.int e)), (118, z_sd m, ce, sl, (if e = 0 then Ic else z_up Ic 25 5 y), L, z_rr t u r q (z_gg m) (z_sf m)))) ∧
    (∀ N, z_loop X z_cf z_ff (z_pu (z_run X z_cf z_ff (d2 + 3))) 213 (N + 3 * n + 1) 94 [(0, .ref 55), (1, .int x)] [] (118, n2, ce2, sl2, Im, L2, z_rr t2 u2 r2 q2 g2 st2) = some (.inl (some (.int e)), (118, n2, ce2, sl2, (if e = 0 then Im else z_up Im 55 44 y), L2, z_rr t2 u2 r2 q2 g2 st2))) := by
  have hs' : (Ic 5 2).toInt = m := by rw [hs, y_on (by omega)]
  induction n with
  | zero =>
    intro k x h1 h2
    refine ⟨0, 0, Or.inl rfl, fun M => ?_, fun N => ?_⟩
    · rw [show M + 2 * 0 + 2 = (M + 1) + 1 by omega, zb_Run_endByPull_25_8_2, zk_Line_many_0 X (d + 2), z_bi_v, zb_Run_endByPull_25_8_10, if_pos (by rw [y_i_le, y_sbl (by omega) (by omega) (by omega) (by omega)]; omega), if_pos rfl]
      rfl
    · rw [zb_M_draws_94, if_pos (by rw [hm, y_i_le, y_on (by omega), y_adl (by omega) (by omega) (by omega) (by omega)]; omega), if_pos rfl]
      rfl
  | succ n ih =>
    intro k x h1 h2
    have z2 : ¬ (Int32.ofInt 2 : Int32) = 0 := by decide
    have z3 : ¬ (Int32.ofInt 3 : Int32) = 0 := by decide
    have hc := fun M => zr_endC8 X d M m ce sl Ic L t u r q h5 hs k (by omega) x h2
    have hmm := fun N => zr_endM X d2 N n2 ce2 sl2 Im L2 t2 u2 r2 q2 g2 st2 hb h5 hm k (by omega) x h2
    rw [h10, h11, h27] at hc
    by_cases c : (zpaM Im 2).toInt < (Im 82 k).toInt
    · refine ⟨Int32.ofInt 2, x, Or.inr (Or.inl rfl), fun M => ?_, fun N => ?_⟩
      · rw [show M + 2 * (n + 1) + 2 = (M + 2 * n + 2) + 2 by omega, hc, if_pos c, if_neg z2]
      · rw [show N + 3 * (n + 1) + 1 = (N + 3 * n + 1) + 3 by omega, hmm, if_pos c, if_neg z2]
    · by_cases e : -(zpaM Im 3) ≤ Im 82 k
      · obtain ⟨v, y, q1, q3, q4⟩ := ih (k + 1) (x + Int32.ofInt 1) (by omega) (by rw [y_adl (by omega) (by omega) (by omega) (by omega)]; omega)
        refine ⟨v, y, q1, fun M => ?_, fun N => ?_⟩
        · rw [show M + 2 * (n + 1) + 2 = (M + 2 * n + 2) + 2 by omega, hc, if_neg c, if_pos e]
          exact q3 M
        · rw [show N + 3 * (n + 1) + 1 = (N + 3 * n + 1) + 3 by omega, hmm, if_neg c, if_pos e]
          exact q4 N
      · refine ⟨Int32.ofInt 3, x, Or.inr (Or.inr rfl), fun M => ?_, fun N => ?_⟩
        · rw [show M + 2 * (n + 1) + 2 = (M + 2 * n + 2) + 2 by omega, hc, if_neg c, if_neg e, if_neg z3]
        · rw [show N + 3 * (n + 1) + 1 = (N + 3 * n + 1) + 3 by omega, hmm, if_neg c, if_neg e, if_neg z3]
theorem zr_ends15 (X : ZX) (d m ce sl d2 n2 ce2 sl2 : Nat) (Ic Im : Nat → Nat → Int32) (L L2 : Nat → Nat → Int64) (t u r q t2 u2 r2 q2 g2 : Nat) (st2 : Nat → Option Nat) (h5 : m ≤ 5) (hs : Ic 5 2 = Int32.ofNat m) (hm : Im 55 1 = Int32.ofNat m) (hb : zbk Im) (h10 : Ic 15 10 = zpaM Im 2) (h11 : Ic 15 11 = zpaM Im 3) (h27 : Ic 27 = Im 82) (n : Nat) : ∀ (k : Nat) (x : Int32), k + n + 1 = m → x.toInt = k →
    ∃ e y : Int32, (e = 0 ∨ e = Int32.ofInt 2 ∨ e = Int32.ofInt 3) ∧
    (∀ M, z_loop X z_cf z_ff (z_pu (z_run X z_cf z_ff (d + 6))) 91 (M + 2 * n + 2) 2 [(0, .ref 25), (1, .ref 15), (2, .int x)] [] (118, z_sd m, ce, sl, Ic, L, z_rr t u r q (z_gg m) (z_sf m)) = some (.inl (some (.int e)), (118, z_sd m, ce, sl, (if e = 0 then Ic else z_up Ic 25 5 y), L, z_rr t u r q (z_gg m) (z_sf m)))) ∧
    (∀ N, z_loop X z_cf z_ff (z_pu (z_run X z_cf z_ff (d2 + 3))) 213 (N + 3 * n + 1) 94 [(0, .ref 55), (1, .int x)] [] (118, n2, ce2, sl2, Im, L2, z_rr t2 u2 r2 q2 g2 st2) = some (.inl (some (.int e)), (118, n2, ce2, sl2, (if e = 0 then Im else z_up Im 55 44 y), L2, z_rr t2 u2 r2 q2 g2 st2))) := by
  have hs' : (Ic 5 2).toInt = m := by rw [hs, y_on (by omega)]
  induction n with
  | zero =>
    intro k x h1 h2
    refine ⟨0, 0, Or.inl rfl, fun M => ?_, fun N => ?_⟩
    · rw [show M + 2 * 0 + 2 = (M + 1) + 1 by omega, zb_Run_endByPull_25_15_2, zk_Line_many_0 X (d + 2), z_bi_v, zb_Run_endByPull_25_15_10, if_pos (by rw [y_i_le, y_sbl (by omega) (by omega) (by omega) (by omega)]; omega), if_pos rfl]
      rfl
    · rw [zb_M_draws_94, if_pos (by rw [hm, y_i_le, y_on (by omega), y_adl (by omega) (by omega) (by omega) (by omega)]; omega), if_pos rfl]
      rfl
  | succ n ih =>
    intro k x h1 h2
    have z2 : ¬ (Int32.ofInt 2 : Int32) = 0 := by decide
    have z3 : ¬ (Int32.ofInt 3 : Int32) = 0 := by decide
    have hc := fun M => zr_endC15 X d M m ce sl Ic L t u r q h5 hs k (by omega) x h2
    have hmm := fun N => zr_endM X d2 N n2 ce2 sl2 Im L2 t2 u2 r2 q2 g2 st2 hb h5 hm k (by omega) x h2
    rw [h10, h11, h27] at hc
    by_cases c : (zpaM Im 2).toInt < (Im 82 k).toInt
    · refine ⟨Int32.ofInt 2, x, Or.inr (Or.inl rfl), fun M => ?_, fun N => ?_⟩
      · rw [show M + 2 * (n + 1) + 2 = (M + 2 * n + 2) + 2 by omega, hc, if_pos c, if_neg z2]
      · rw [show N + 3 * (n + 1) + 1 = (N + 3 * n + 1) + 3 by omega, hmm, if_pos c, if_neg z2]
    · by_cases e : -(zpaM Im 3) ≤ Im 82 k
      · obtain ⟨v, y, q1, q3, q4⟩ := ih (k + 1) (x + Int32.ofInt 1) (by omega) (by rw [y_adl (by omega) (by omega) (by omega) (by omega)]; omega)
        refine ⟨v, y, q1, fun M => ?_, fun N => ?_⟩
        · rw [show M + 2 * (n + 1) + 2 = (M + 2 * n + 2) + 2 by omega, hc, if_neg c, if_pos e]
          exact q3 M
        · rw [show N + 3 * (n + 1) + 1 = (N + 3 * n + 1) + 3 by omega, hmm, if_neg c, if_pos e]
          exact q4 N
      · refine ⟨Int32.ofInt 3, x, Or.inr (Or.inr rfl), fun M => ?_, fun N => ?_⟩
        · rw [show M + 2 * (n + 1) + 2 = (M + 2 * n + 2) + 2 by omega, hc, if_neg c, if_neg e, if_neg z3]
        · rw [show N + 3 * (n + 1) + 1 = (N + 3 * n + 1) + 3 by omega, hmm, if_neg c, if_neg e, if_neg z3]
