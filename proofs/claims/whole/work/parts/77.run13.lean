/-! CALLS, 28: run: all stands' turns in a tick -/
theorem zr_turns (X : ZX) (d d2 m ce sl ce2 sl2 : Nat) (L L2 : Nat → Nat → Int64) (t u r q : Nat) {c C p T g : Nat} {aim : Int32} {I0 K0 : Nat → Nat → Int32} (hB : zBs m c C p I0 K0) (T1 : Int32) (hT1 : T1.toInt = T) (hT44 : T < 44) (n : Nat) : ∀ (s : Nat) (Ic Im : Nat → Nat → Int32) (x : Int32), s + n = m → x.toInt = s → zRR m c aim I0 K0 Ic Im T s g → ∃ J K : Nat → Nat → Int32,
    (zRR m c aim I0 K0 J K T m g ∧
      (∀ M, z_loop X z_cf z_ff (z_pu (z_run X z_cf z_ff (d + 6))) 83 (M + 8 * n + 4) 2 [(0, .ref 25), (1, .int T1), (2, .int x)] [] (118, z_sd m, ce, sl, Ic, L, z_rr t u r q (z_gg m) (z_sf m)) = some (.inl (some (.int (Int32.ofInt 1))), (118, z_sd m, ce, sl, J, L, z_rr t u r q (z_gg m) (z_sf m)))) ∧
      (∀ N, ∃ (N' : Nat) (y : Int32), N ≤ N' ∧ y.toInt = m ∧ z_loop X z_cf z_ff (z_pu (z_run X z_cf z_ff (d2 + 6))) 209 (N + 4 * n) 63 [(0, .ref 55), (1, .int T1), (2, .int x)] [] (118, z_sd m, ce2, sl2, Im, L2, z_rr t u r q (z_gg m) (z_sf m)) = z_loop X z_cf z_ff (z_pu (z_run X z_cf z_ff (d2 + 6))) 209 N' 63 [(0, .ref 55), (1, .int T1), (2, .int y)] [] (118, z_sd m, ce2, sl2, K, L2, z_rr t u r q (z_gg m) (z_sf m)))) ∨
    (zRe m c aim I0 K0 J K g ∧
      (∀ M, z_loop X z_cf z_ff (z_pu (z_run X z_cf z_ff (d + 6))) 83 (M + 8 * n + 4) 2 [(0, .ref 25), (1, .int T1), (2, .int x)] [] (118, z_sd m, ce, sl, Ic, L, z_rr t u r q (z_gg m) (z_sf m)) = some (.inl (some (.int (Int32.ofInt 0))), (118, z_sd m, ce, sl, J, L, z_rr t u r q (z_gg m) (z_sf m)))) ∧
      (∀ N, z_loop X z_cf z_ff (z_pu (z_run X z_cf z_ff (d2 + 6))) 209 (N + 4 * n) 63 [(0, .ref 55), (1, .int T1), (2, .int x)] [] (118, z_sd m, ce2, sl2, Im, L2, z_rr t u r q (z_gg m) (z_sf m)) = some (.inl (some (.int (Int32.ofInt 1))), (118, z_sd m, ce2, sl2, K, L2, z_rr t u r q (z_gg m) (z_sf m))))) := by
  have h5 := hB.1.1
  induction n with
  | zero =>
    intro s Ic Im x h1 h2 h
    have e : s = m := by omega
    subst e
    refine ⟨Ic, Im, Or.inl ⟨h, fun M => ?_, fun N => ⟨N, x, Nat.le_refl _, h2, rfl⟩⟩⟩
    have hIc5 : Ic 5 2 = Int32.ofNat s := by rw [h.1.1 5 (by omega) (by omega) (by omega) (by omega) (by omega) (by omega), hB.1.2.1]
    rw [show M + 8 * 0 + 4 = M + 4 by omega, zt_Run_biteAll_2 X d, if_pos (by rw [hIc5, y_i_le, y_on (by omega)]; omega)]
  | succ n ih =>
    intro s Ic Im x h1 h2 h
    obtain ⟨J, K, hJK⟩ := zr_step X d d2 m ce sl ce2 sl2 L L2 t u r q hB h (by omega) T1 x hT1 hT44 h2
    rcases hJK with ⟨g1, g2, g3⟩ | ⟨g1, g2, g3⟩
    · obtain ⟨J2, K2, h2'⟩ := ih (s + 1) J K (x + Int32.ofInt 1) (by omega) (by rw [y_adl (by omega) (by omega) (by omega) (by omega)]; omega) g1
      refine ⟨J2, K2, ?_⟩
      rcases h2' with ⟨k1, k2, k3⟩ | ⟨k1, k2, k3⟩
      · refine Or.inl ⟨k1, fun M => ?_, fun N => ?_⟩
        · obtain ⟨M', hM, e⟩ := g2 (M + 8 * n + 4)
          rw [show M + 8 * (n + 1) + 4 = (M + 8 * n + 4) + 8 by omega, e, show M' = (M' - (8 * n + 4)) + 8 * n + 4 by omega]
          exact k2 _
        · obtain ⟨N', hN, e⟩ := g3 (N + 4 * n)
          obtain ⟨N2, y, q1, q2, q3⟩ := k3 (N' - 4 * n)
          refine ⟨N2, y, by omega, q2, ?_⟩
          rw [show N + 4 * (n + 1) = (N + 4 * n) + 4 by omega, e, ← q3, show N' - 4 * n + 4 * n = N' by omega]
      · refine Or.inr ⟨k1, fun M => ?_, fun N => ?_⟩
        · obtain ⟨M', hM, e⟩ := g2 (M + 8 * n + 4)
          rw [show M + 8 * (n + 1) + 4 = (M + 8 * n + 4) + 8 by omega, e, show M' = (M' - (8 * n + 4)) + 8 * n + 4 by omega]
          exact k2 _
        · obtain ⟨N', hN, e⟩ := g3 (N + 4 * n)
          rw [show N + 4 * (n + 1) = (N + 4 * n) + 4 by omega, e, show N' = (N' - 4 * n) + 4 * n by omega]
          exact k3 _
    · refine ⟨J, K, Or.inr ⟨g1, fun M => ?_, fun N => ?_⟩⟩
      · rw [show M + 8 * (n + 1) + 4 = (M + 8 * n + 4) + 8 by omega]
        exact g2 _
      · rw [show N + 4 * (n + 1) = (N + 4 * n) + 4 by omega]
        exact g3 _
