/-! CALLS, 43: run: all ticks, in both -/
theorem zlen_none {F G : Nat → Int32} {m c : Nat} (h : ∀ j < 200, F j = Int32.ofInt (-1)) (h5 : m ≤ 5) : ∀ n, n ≤ 40 → zlen F G m n = 0 := by
  intro n
  induction n with
  | zero => intro _; rfl
  | succ n ih =>
    intro hn
    show zlen F G m n + zlt F G m n = 0
    rw [ih (by omega)]
    unfold zlt
    by_cases c : m = 0
    · rw [if_pos (Or.inl c)]
      rfl
    · rw [if_pos (Or.inr (h _ (by omega)))]
      rfl
theorem zr_ticks8 (X : ZX) (d d2 m ce sl ce2 sl2 : Nat) (L L2 : Nat → Nat → Int64) (t u r q : Nat) {c C p due : Nat} {aim : Int32} {I0 K0 : Nat → Nat → Int32} (hB : zBs m c C p I0 K0) (h1m : 1 ≤ m) (ha : K0 55 55 = aim) (l : List zcl) (hV : zg_V8 l I0) (x3 : Int32) (hx3 : x3.toInt = due) (hd : due ≤ 44) (n : Nat) : ∀ (T : Nat) (Ic Im : Nat → Nat → Int32) (T1 : Int32), T + n = due → T1.toInt = T → zRD m c aim I0 K0 Ic Im T → zRe m c aim I0 K0 Ic Im T → ∃ (J K : Nat → Nat → Int32) (g : Nat) (e : Int32), zRe m c aim I0 K0 J K g ∧ g ≤ 44 ∧
    (∀ M, z_loop X z_cf z_ff (z_pu (z_run X z_cf z_ff (d + 7))) 81 (M + 6 * n + 1) 52 [(0, .ref 25), (1, .ref 8), (3, .int x3), (4, .int T1)] [] (118, z_sd m, ce, sl, Ic, L, z_rr t u r q (z_gg m) (z_sf m)) = some (.inl (some (.int e)), (118, z_sd m, ce, sl, J, L, z_rr t u r q (z_gg m) (z_sf m)))) ∧
    (∀ N, z_loop X z_cf z_ff (z_pu (z_run X z_cf z_ff (d2 + 7))) 208 (N + 2 * n + 2) 167 [(0, .ref 55), (2, .int x3), (3, .int (Int32.ofInt 0)), (4, .int T1)] [] (118, z_sd m, ce2, sl2, Im, L2, z_rr t u r q (z_gg m) (z_sf m)) = some (.inl (some (.int e)), (118, z_sd m, ce2, sl2, K, L2, z_rr t u r q (z_gg m) (z_sf m)))) := by
  have h40 : c ≤ 40 := by
    obtain ⟨_, _, ⟨c1, c2, c3, c4, c5, c6⟩, c7, _⟩ := hB
    omega
  induction n with
  | zero =>
    intro T Ic Im T1 h1 h2 h3 h4
    refine ⟨Ic, Im, T, Int32.ofInt 0, h4, by omega, fun M => ?_, fun N => ?_⟩
    · rw [show M + 6 * 0 + 1 = M + 1 by omega, zb_Run_roll_25_8_52, if_pos (by rw [y_i_le]; omega)]
    · rw [show N + 2 * 0 + 2 = (N + 1) + 1 by omega, zb_M_run_167, if_pos (by rw [y_i_le]; omega)]
  | succ n ih =>
    intro T Ic Im T1 h1 h2 h3 h4
    have hlt : ¬ x3 ≤ T1 := by rw [y_i_le]; omega
    obtain ⟨J, K, hJK⟩ := zr_tick8 X d d2 m ce sl ce2 sl2 L L2 t u r q hB h1m ha l hV T1 x3 h2 (by omega) (by omega) h3
    rcases hJK with ⟨k1, k2, k3⟩ | ⟨k1, e, k0, k2, k3⟩
    · obtain ⟨J2, K2, g, e, g1, g2, g3, g4⟩ := ih (T + 1) J K (T1 + Int32.ofInt 1) (by omega) (by rw [y_adl (by omega) (by omega) (by omega) (by omega)]; omega) (zRD_next k1) (zRe_of k1 h40)
      refine ⟨J2, K2, g, e, g1, g2, fun M => ?_, fun N => ?_⟩
      · rw [show M + 6 * (n + 1) + 1 = (M + 6 * n + 1) + 6 by omega, k2]
        exact g3 M
      · rw [show N + 2 * (n + 1) + 2 = (N + 2 * n + 2) + 1 + 1 by omega, zb_M_run_167, if_neg hlt, if_pos (show (Int32.ofInt 0 : Int32) = 0 from rfl), k3, z_bi_v, zb_M_run_183]
        exact g4 N
    · refine ⟨J, K, T, e, k1, by omega, fun M => ?_, fun N => ?_⟩
      · rw [show M + 6 * (n + 1) + 1 = (M + 6 * n + 1) + 6 by omega, k2]
      · rw [show N + 2 * (n + 1) + 2 = (N + 2 * n + 1) + 1 + 1 + 1 by omega, zb_M_run_167, if_neg hlt, if_pos (show (Int32.ofInt 0 : Int32) = 0 from rfl), k3, z_bi_v, zb_M_run_183, zb_M_run_167]
        split
        · rfl
        · rfl
theorem zr_ticks15 (X : ZX) (d d2 m ce sl ce2 sl2 : Nat) (L L2 : Nat → Nat → Int64) (t u r q : Nat) {c C p due : Nat} {aim : Int32} {I0 K0 : Nat → Nat → Int32} (hB : zBs m c C p I0 K0) (h1m : 1 ≤ m) (ha : K0 55 55 = aim) (l : List zcl) (hV : zg_V15 l I0) (x3 : Int32) (hx3 : x3.toInt = due) (hd : due ≤ 44) (n : Nat) : ∀ (T : Nat) (Ic Im : Nat → Nat → Int32) (T1 : Int32), T + n = due → T1.toInt = T → zRD m c aim I0 K0 Ic Im T → zRe m c aim I0 K0 Ic Im T → ∃ (J K : Nat → Nat → Int32) (g : Nat) (e : Int32), zRe m c aim I0 K0 J K g ∧ g ≤ 44 ∧
    (∀ M, z_loop X z_cf z_ff (z_pu (z_run X z_cf z_ff (d + 7))) 81 (M + 6 * n + 1) 52 [(0, .ref 25), (1, .ref 15), (3, .int x3), (4, .int T1)] [] (118, z_sd m, ce, sl, Ic, L, z_rr t u r q (z_gg m) (z_sf m)) = some (.inl (some (.int e)), (118, z_sd m, ce, sl, J, L, z_rr t u r q (z_gg m) (z_sf m)))) ∧
    (∀ N, z_loop X z_cf z_ff (z_pu (z_run X z_cf z_ff (d2 + 7))) 208 (N + 2 * n + 2) 167 [(0, .ref 55), (2, .int x3), (3, .int (Int32.ofInt 0)), (4, .int T1)] [] (118, z_sd m, ce2, sl2, Im, L2, z_rr t u r q (z_gg m) (z_sf m)) = some (.inl (some (.int e)), (118, z_sd m, ce2, sl2, K, L2, z_rr t u r q (z_gg m) (z_sf m)))) := by
  have h40 : c ≤ 40 := by
    obtain ⟨_, _, ⟨c1, c2, c3, c4, c5, c6⟩, c7, _⟩ := hB
    omega
  induction n with
  | zero =>
    intro T Ic Im T1 h1 h2 h3 h4
    refine ⟨Ic, Im, T, Int32.ofInt 0, h4, by omega, fun M => ?_, fun N => ?_⟩
    · rw [show M + 6 * 0 + 1 = M + 1 by omega, zb_Run_roll_25_15_52, if_pos (by rw [y_i_le]; omega)]
    · rw [show N + 2 * 0 + 2 = (N + 1) + 1 by omega, zb_M_run_167, if_pos (by rw [y_i_le]; omega)]
  | succ n ih =>
    intro T Ic Im T1 h1 h2 h3 h4
    have hlt : ¬ x3 ≤ T1 := by rw [y_i_le]; omega
    obtain ⟨J, K, hJK⟩ := zr_tick15 X d d2 m ce sl ce2 sl2 L L2 t u r q hB h1m ha l hV T1 x3 h2 (by omega) (by omega) h3
    rcases hJK with ⟨k1, k2, k3⟩ | ⟨k1, e, k0, k2, k3⟩
    · obtain ⟨J2, K2, g, e, g1, g2, g3, g4⟩ := ih (T + 1) J K (T1 + Int32.ofInt 1) (by omega) (by rw [y_adl (by omega) (by omega) (by omega) (by omega)]; omega) (zRD_next k1) (zRe_of k1 h40)
      refine ⟨J2, K2, g, e, g1, g2, fun M => ?_, fun N => ?_⟩
      · rw [show M + 6 * (n + 1) + 1 = (M + 6 * n + 1) + 6 by omega, k2]
        exact g3 M
      · rw [show N + 2 * (n + 1) + 2 = (N + 2 * n + 2) + 1 + 1 by omega, zb_M_run_167, if_neg hlt, if_pos (show (Int32.ofInt 0 : Int32) = 0 from rfl), k3, z_bi_v, zb_M_run_183]
        exact g4 N
    · refine ⟨J, K, T, e, k1, by omega, fun M => ?_, fun N => ?_⟩
      · rw [show M + 6 * (n + 1) + 1 = (M + 6 * n + 1) + 6 by omega, k2]
      · rw [show N + 2 * (n + 1) + 2 = (N + 2 * n + 1) + 1 + 1 + 1 by omega, zb_M_run_167, if_neg hlt, if_pos (show (Int32.ofInt 0 : Int32) = 0 from rfl), k3, z_bi_v, zb_M_run_183, zb_M_run_167]
        split
        · rfl
        · rfl
/-- a run sets out -/
theorem zRe_start {m c C p : Nat} {aim : Int32} {I0 K0 J : Nat → Nat → Int32} (hB : zBs m c C p I0 K0) (hJ : ∀ a, a ≠ 25 → a ≠ 26 → a ≠ 27 → J a = I0 a) (j2 : J 25 2 = Int32.ofInt 1) (j3 : J 25 3 = aim) (j4 : J 25 4 = Int32.ofInt 0) (j5 : J 25 5 = Int32.ofInt (-1)) (j6 : J 25 6 = Int32.ofInt 0) (j7 : J 25 7 = Int32.ofInt 0) (j8 : J 25 8 = Int32.ofInt 0) (j12 : J 25 12 = Int32.ofInt 0)
    (j26 : J 26 = K0 80) (j27 : J 27 = K0 82) (k80 : ∀ j < 200, K0 80 j = Int32.ofInt (-1)) (k43 : K0 55 43 = Int32.ofInt 0) (k44 : K0 55 44 = Int32.ofInt (-1)) (k45 : K0 55 45 = Int32.ofInt 0) (k46 : K0 55 46 = Int32.ofInt 0) (k54 : K0 55 54 = Int32.ofInt 0) (k64 : ∀ k < m, K0 64 k = J (z_sd k) 8) (k65 : ∀ k < m, K0 65 k = J (z_sd k) 9) : zRe m c aim I0 K0 J K0 0 := by
  obtain ⟨⟨b1, b2, b3, b4, b5⟩, b6, ⟨c1, c2, c3, c4, c5, c6⟩, c7, c8, c9, d1, d2, d3, d4, d5⟩ := hB
  have hsd : ∀ i, J (z_sd i) = I0 (z_sd i) := fun i => hJ _ (by have := z_sd_ge i; omega) (by have := z_sd_ge i; omega) (by have := z_sd_ge i; omega)
  refine ⟨⟨?_, ?_, ?_⟩, ⟨fun _ _ _ _ _ => rfl, fun _ _ _ => rfl⟩, ?_, j26, j27, fun i hi => Or.inl (k80 i hi), ?_, j2, j3, ?_, ?_, ?_, ?_, ?_, ?_, ?_⟩
  · intro a b1 b2 b3 b4 b5 b6
    exact hJ a b2 b3 b4.1
  · intro i j b1 b2
    rw [hsd]
  · intro i b1 b2
    exact hsd i
  · intro k hk
    obtain ⟨⟨s0, s1, s2, s3, s4, s5, s6, s7, s8, s9, s10⟩, e1, e2, e3, e4, e5, e6, e7, e8, e9, e10, e11, e12, e13, e14, e15, e16, e17, e18⟩ := b4 k hk
    rw [k64 k hk, k65 k hk, hsd k, s8, s9]
    refine ⟨rfl, rfl, e6, e7, e17, by omega⟩
  · rw [j8, zlen_none (c := c) k80 b1 c (by omega)]
    rfl
  · rw [j4, k43]
  · rw [j5, k44]
  · rw [j6, k45]
  · rw [j7, k46]
  · rw [j12, k54]
  · rw [j12]
    rfl
  · intro i hi
    omega
theorem zRD_start {m c C p : Nat} {aim : Int32} {I0 K0 J : Nat → Nat → Int32} (hB : zBs m c C p I0 K0) (h : zRe m c aim I0 K0 J K0 0) (k80 : ∀ j < 200, K0 80 j = Int32.ofInt (-1)) (k88 : ∀ j < c, K0 88 j = I0 24 j) (k65 : ∀ k < m, K0 65 k = I0 65 k) : zRD m c aim I0 K0 J K0 0 := by
  obtain ⟨⟨b1, b2, b3, b4, b5⟩, b6, ⟨c1, c2, c3, c4, c5, c6⟩, c7, c8, c9, d1, d2, d3, d4, d5⟩ := hB
  obtain ⟨r1, r2, r3, r4, r5, r6, r7, q1, q2, q3, q4, q5, q6, q7, q8, q9⟩ := h
  refine ⟨q3, r1, r2, ?_⟩
  intro K kr k55 k43 kz
  have hc : ∀ a, a ≠ 25 → z_up J 25 4 (J 25 4 + Int32.ofInt 1) a = J a := fun a h1 => z_up_r _ _ _ _ _ h1
  have hsd : ∀ i, z_up J 25 4 (J 25 4 + Int32.ofInt 1) (z_sd i) = J (z_sd i) := fun i => hc _ (by have := z_sd_ge i; omega)
  have h25 : ∀ i, i ≠ 4 → z_up J 25 4 (J 25 4 + Int32.ofInt 1) 25 i = J 25 i := fun i hi => z_up_j _ _ _ _ _ hi
  refine ⟨⟨?_, ?_, ?_⟩, ⟨?_, ?_⟩, ?_, ⟨?_, ?_⟩, ⟨?_, ?_, ?_, ?_, ?_⟩, ⟨?_, ?_, ?_, ?_, ?_, ?_, ?_, ?_, ?_⟩, ?_⟩
  · intro a b1 b2 b3 b4 b5 b6
    rw [hc a b2]
    exact r1.1 a b1 b2 b3 b4 b5 b6
  · intro i j b1 b2
    rw [hsd]
    exact r1.2.1 i j b1 b2
  · intro i b1 b2
    rw [hsd]
    exact r1.2.2 i b1 b2
  · intro a b1 b2 b3 b4
    rw [kr a b1 (by omega)]
  · intro j b1 b2
    rw [k55 j (by omega)]
  · intro i hi
    obtain ⟨g1, g2, g3, g4, g5, g6⟩ := r3 i hi
    rw [hsd, kr 64 (by omega) (by omega), kr 65 (by omega) (by omega)]
    refine ⟨g1, g2, g3, g4, g5, ?_⟩
    rw [k65 i hi]
    omega
  · intro i hi
    omega
  · intro i _ hi
    exact kz i hi
  · rw [hc 26 (by omega), kr 80 (by omega) (by omega)]
    exact r4
  · rw [hc 27 (by omega), kr 82 (by omega) (by omega)]
    exact r5
  · rw [kr 80 (by omega) (by omega)]
    exact r6
  · intro i j h1 h2
    have hn : ¬ zbtn 0 0 i j := by
      unfold zbtn
      omega
    rw [kr 80 (by omega) (by omega)]
    exact ⟨fun h => absurd h hn, fun _ => k80 _ (by omega)⟩
  · rw [h25 8 (by omega), kr 80 (by omega) (by omega)]
    exact r7
  · rw [h25 2 (by omega), q1]
  · rw [h25 3 (by omega), q2]
  · rw [z_up_s, k43, q3]
  · rw [h25 5 (by omega), k55 44 (by omega), q4]
  · rw [h25 6 (by omega), k55 45 (by omega), q5]
  · rw [h25 7 (by omega), k55 46 (by omega), q6]
  · rw [h25 12 (by omega), k55 54 (by omega), q7]
  · rw [h25 12 (by omega), q8]
  · intro i hi
    omega
  · intro j hj
    have e := c6 j (by omega)
    have ez : zn 0 0 j m = 0 := by
      unfold zn
      split <;> (try split) <;> omega
    rw [kr 88 (by omega) (by omega), k88 j hj, ez]
    show (I0 24 j).toInt = min 99 ((I0 24 j).toInt + zhs I0 0)
    have e0 : zhs I0 0 = 0 := rfl
    omega
