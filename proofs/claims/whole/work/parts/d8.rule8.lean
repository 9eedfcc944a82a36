/-! RULES, 11: the model's token -/
theorem y_mlt0 (x : Int32) : (z_p_M_isLetter x = 0) ↔ ¬ zltr x.toInt = true := by
  have e1 : (Int32.ofInt 97).toInt = 97 := rfl
  have e2 : (Int32.ofInt 122).toInt = 122 := rfl
  unfold z_p_M_isLetter zltr
  rw [decide_eq_true_iff]
  by_cases c1 : x < Int32.ofInt 97
  · rw [if_pos c1]
    rw [y_i_lt] at c1
    exact ⟨fun _ => by omega, fun _ => rfl⟩
  · rw [if_neg c1]
    rw [y_i_lt] at c1
    by_cases c2 : Int32.ofInt 122 < x
    · rw [if_pos c2]
      rw [y_i_lt] at c2
      exact ⟨fun _ => by omega, fun _ => rfl⟩
    · rw [if_neg c2]
      rw [y_i_lt] at c2
      exact ⟨fun h => absurd h (by decide), fun h => absurd (by omega) h⟩
theorem y_mdg0 (x : Int32) : (z_p_M_isDigit x = 0) ↔ ¬ zdgt x.toInt = true := by
  have e1 : (Int32.ofInt 48).toInt = 48 := rfl
  have e2 : (Int32.ofInt 57).toInt = 57 := rfl
  unfold z_p_M_isDigit zdgt
  rw [decide_eq_true_iff]
  by_cases c1 : x < Int32.ofInt 48
  · rw [if_pos c1]
    rw [y_i_lt] at c1
    exact ⟨fun _ => by omega, fun _ => rfl⟩
  · rw [if_neg c1]
    rw [y_i_lt] at c1
    by_cases c2 : Int32.ofInt 57 < x
    · rw [if_pos c2]
      rw [y_i_lt] at c2
      exact ⟨fun _ => by omega, fun _ => rfl⟩
    · rw [if_neg c2]
      rw [y_i_lt] at c2
      exact ⟨fun h => absurd h (by decide), fun h => absurd (by omega) h⟩
theorem zgs (y0 : Int32) (A B : ZR) : (if y0 = Int32.ofInt 59 then A else if y0 = Int32.ofInt 40 then A else if y0 = Int32.ofInt 41 then A else if y0 = Int32.ofInt 43 then A else if y0 = Int32.ofInt 45 then A else if y0 = Int32.ofInt 42 then A else if y0 = Int32.ofInt 47 then A else if y0 = Int32.ofInt 60 then A else if y0 = Int32.ofInt 61 then A else B) = if zsgb y0.toInt = true then A else B := by
  by_cases c : zsgb y0.toInt = true
  · rw [if_pos c]
    have hs := zsgb_is.mp c
    unfold zsgn at hs
    by_cases n59 : y0 = Int32.ofInt 59
    · rw [if_pos n59]
    rw [if_neg n59]
    by_cases n40 : y0 = Int32.ofInt 40
    · rw [if_pos n40]
    rw [if_neg n40]
    by_cases n41 : y0 = Int32.ofInt 41
    · rw [if_pos n41]
    rw [if_neg n41]
    by_cases n43 : y0 = Int32.ofInt 43
    · rw [if_pos n43]
    rw [if_neg n43]
    by_cases n45 : y0 = Int32.ofInt 45
    · rw [if_pos n45]
    rw [if_neg n45]
    by_cases n42 : y0 = Int32.ofInt 42
    · rw [if_pos n42]
    rw [if_neg n42]
    by_cases n47 : y0 = Int32.ofInt 47
    · rw [if_pos n47]
    rw [if_neg n47]
    by_cases n60 : y0 = Int32.ofInt 60
    · rw [if_pos n60]
    rw [if_neg n60]
    by_cases n61 : y0 = Int32.ofInt 61
    · rw [if_pos n61]
    rw [if_neg n61]
    rcases hs with e | e | e | e | e | e | e | e | e
    · exact absurd (y_eqi e) n40
    · exact absurd (y_eqi e) n41
    · exact absurd (y_eqi e) n42
    · exact absurd (y_eqi e) n43
    · exact absurd (y_eqi e) n45
    · exact absurd (y_eqi e) n47
    · exact absurd (y_eqi e) n59
    · exact absurd (y_eqi e) n60
    · exact absurd (y_eqi e) n61
  · rw [if_neg c, if_neg (fun h => c (by rw [h]; rfl)), if_neg (fun h => c (by rw [h]; rfl)), if_neg (fun h => c (by rw [h]; rfl)), if_neg (fun h => c (by rw [h]; rfl)), if_neg (fun h => c (by rw [h]; rfl)), if_neg (fun h => c (by rw [h]; rfl)), if_neg (fun h => c (by rw [h]; rfl)), if_neg (fun h => c (by rw [h]; rfl)), if_neg (fun h => c (by rw [h]; rfl))]
def zbyt (F : Nat → Int) (N c : Nat) : Int := if c < N then F c else 0
theorem zbyt_l (F : Nat → Int) (N c : Nat) : zltr (zbyt F N c) = true ↔ c < N ∧ zltr (F c) = true := by
  unfold zbyt
  by_cases h : c < N
  · rw [if_pos h]
    exact ⟨fun x => ⟨h, x⟩, fun x => x.2⟩
  · rw [if_neg h]
    exact ⟨fun x => absurd x (by decide), fun x => absurd x.1 h⟩
theorem zbyt_d (F : Nat → Int) (N c : Nat) : zdgt (zbyt F N c) = true ↔ c < N ∧ zdgt (F c) = true := by
  unfold zbyt
  by_cases h : c < N
  · rw [if_pos h]
    exact ⟨fun x => ⟨h, x⟩, fun x => x.2⟩
  · rw [if_neg h]
    exact ⟨fun x => absurd x (by decide), fun x => absurd x.1 h⟩
theorem zr_byte (X : ZX) (d m ce sl : Nat) (I : Nat → Nat → Int32) (L : Nat → Nat → Int64) (t u r q : Nat) {F : Nat → Int} (hF : ∀ i, (I 69 i).toInt = F i) {N c : Nat} (hN : (I 55 20).toInt = N) (hN4 : N ≤ 400) (x1 : Int32) (h1 : x1.toInt = c) : ∃ y : Int32, y.toInt = zbyt F N c ∧ z_pu (z_run X z_cf z_ff (d + 3)) 185 [.ref 55, .int x1] (118, z_sd m, ce, sl, I, L, z_rr t u r q (z_gg m) (z_sf m)) = some (.inl (some (.int y)), (118, z_sd m, ce, sl, I, L, z_rr t u r q (z_gg m) (z_sf m))) := by
  unfold zbyt
  by_cases h : c < N
  · have hn : x1.toNatClampNeg = c := by rw [y_tn, h1]; rfl
    rw [if_pos h]
    refine ⟨I 69 c, hF c, ?_⟩
    rw [zk_M_byteAt_0, if_neg (by rw [y_i_le]; omega), y_in_t (by omega) (by omega), z_gd_t, hn]
  · rw [if_neg h]
    refine ⟨Int32.ofInt 0, rfl, ?_⟩
    rw [zk_M_byteAt_0, if_pos (by rw [y_i_le]; omega)]
/-- letters to their end -/
theorem zr_goW (X : ZX) (d m ce sl : Nat) (I : Nat → Nat → Int32) (L : Nat → Nat → Int64) (t u r q : Nat) {F : Nat → Int} {N a : Nat} (hF : ∀ i, (I 69 i).toInt = F i) (hN4 : N ≤ 400) : ∀ (i c : Nat) (K : Nat → Nat → Int32) (LK : Nat → Nat → Int64), c + i = N → a ≤ c → (∀ x, x ≠ 55 → K x = I x) → (K 55 20).toInt = N → (K 55 21).toInt = c → (K 55 23).toInt = a → (LK 55 27).toInt = zpkn F a (min 9 (c - a)) → (∀ j, j < c - a → zltr (F (a + j)) = true) → ∃ (J : Nat → Nat → Int32) (LJ : Nat → Nat → Int64), (∀ x, x ≠ 55 → J x = I x) ∧ (∀ j, j ≠ 21 → j ≠ 22 → j ≠ 24 → J 55 j = K 55 j) ∧ (∀ x, x ≠ 55 → LJ x = LK x) ∧ (∀ j, j ≠ 27 → LJ 55 j = LK 55 j) ∧ (J 55 21).toInt = zsc zltr F N c ∧ (J 55 22).toInt = 1 ∧ (J 55 24).toInt = ((zsc zltr F N c - a : Nat) : Int) ∧ (LJ 55 27).toInt = zpkn F a (min 9 (zsc zltr F N c - a)) ∧ ∀ M, z_loop X z_cf z_ff (z_pu (z_run X z_cf z_ff (d + 3))) 184 (M + 3 * i + 2) 108 [(0, .ref 55)] [] (118, z_sd m, ce, sl, K, LK, z_rr t u r q (z_gg m) (z_sf m)) = some (.inl none, (118, z_sd m, ce, sl, J, LJ, z_rr t u r q (z_gg m) (z_sf m))) := by
  intro i
  have fin : ∀ (c : Nat) (K : Nat → Nat → Int32) (LK : Nat → Nat → Int64), ¬ (c < N ∧ zltr (F c) = true) → c ≤ N → a ≤ c → (∀ x, x ≠ 55 → K x = I x) → (K 55 20).toInt = N → (K 55 21).toInt = c → (K 55 23).toInt = a → (LK 55 27).toInt = zpkn F a (min 9 (c - a)) → ∃ (J : Nat → Nat → Int32) (LJ : Nat → Nat → Int64), (∀ x, x ≠ 55 → J x = I x) ∧ (∀ j, j ≠ 21 → j ≠ 22 → j ≠ 24 → J 55 j = K 55 j) ∧ (∀ x, x ≠ 55 → LJ x = LK x) ∧ (∀ j, j ≠ 27 → LJ 55 j = LK 55 j) ∧ (J 55 21).toInt = zsc zltr F N c ∧ (J 55 22).toInt = 1 ∧ (J 55 24).toInt = ((zsc zltr F N c - a : Nat) : Int) ∧ (LJ 55 27).toInt = zpkn F a (min 9 (zsc zltr F N c - a)) ∧ ∀ M, z_loop X z_cf z_ff (z_pu (z_run X z_cf z_ff (d + 3))) 184 (M + 2) 108 [(0, .ref 55)] [] (118, z_sd m, ce, sl, K, LK, z_rr t u r q (z_gg m) (z_sf m)) = some (.inl none, (118, z_sd m, ce, sl, J, LJ, z_rr t u r q (z_gg m) (z_sf m))) := by
    intro c K LK b1 b2 b3 b4 b5 b6 b7 b8
    have e : zsc zltr F N c = c := zsc_no b1
    obtain ⟨y, y1, y2⟩ := zr_byte X d m ce sl K LK t u r q (F := F) (fun i => by rw [b4 69 (by omega)]; exact hF i) b5 hN4 (K 55 21) b6
    rw [e]
    refine ⟨z_up (z_up K 55 22 (Int32.ofInt 1)) 55 24 (K 55 21 - K 55 23), LK, fun x hx => by rw [z_up_r _ _ _ _ _ hx, z_up_r _ _ _ _ _ hx, b4 x hx], fun j j1 j2 j3 => by rw [z_up_j _ _ _ _ _ j3, z_up_j _ _ _ _ _ j2], fun x hx => rfl, fun j hj => rfl, by rw [z_up_j _ _ _ _ _ (by omega), z_up_j _ _ _ _ _ (by omega)]; exact b6, by rw [z_up_j _ _ _ _ _ (by omega), z_up_s]; rfl, by rw [z_up_s, y_sb (by omega) (by omega)]; omega, b8, fun M => ?_⟩
    rw [zb_M_goes_108, y2, z_bi_v, zb_M_goes_116, if_pos ((y_mlt0 _).mpr (by rw [y1, zbyt_l]; exact b1))]
  induction i with
  | zero =>
    intro c K LK b0 b1 b2 b3 b4 b5 b6 b7
    exact fin c K LK (by omega) (by omega) b1 b2 b3 b4 b5 b6
  | succ i ih =>
    intro c K LK b0 b1 b2 b3 b4 b5 b6 b7
    by_cases cl : zltr (F c) = true
    · have hc : c < N := by omega
      rw [zsc_go hc cl]
      obtain ⟨y, y1, y2⟩ := zr_byte X d m ce sl K LK t u r q (F := F) (fun i => by rw [b2 69 (by omega)]; exact hF i) b3 hN4 (K 55 21) b4
      have yF : y.toInt = F c := by rw [y1]; unfold zbyt; rw [if_pos hc]
      have hy : ¬ (z_p_M_isLetter y = 0) := fun h => (y_mlt0 _).mp h (by rw [yF]; exact cl)
      have s21 : (K 55 21 + Int32.ofInt 1).toInt = ((c + 1 : Nat) : Int) := by rw [y_adl (by omega) (by omega) (by omega) (by omega)]; omega
      have sd : (K 55 21 - K 55 23).toInt = ((c - a : Nat) : Int) := by rw [y_sb (by omega) (by omega)]; omega
      have b7' : ∀ j, j < c + 1 - a → zltr (F (a + j)) = true := by
        intro j hj
        by_cases e : j = c - a
        · rw [e, show a + (c - a) = c by omega]; exact cl
        · exact b7 j (by omega)
      by_cases c9 : 9 ≤ c - a
      · obtain ⟨J, LJ, j1, j2, j3, j4, j5, j6, j7, j8, j9⟩ := ih (c + 1) (z_up K 55 21 (K 55 21 + Int32.ofInt 1)) LK (by omega) (by omega) (fun x hx => by rw [z_up_r _ _ _ _ _ hx, b2 x hx]) (by rw [z_up_j _ _ _ _ _ (by omega)]; exact b3) (by rw [z_up_s]; exact s21) (by rw [z_up_j _ _ _ _ _ (by omega)]; exact b5) (by rw [b6, show min 9 (c - a) = 9 by omega, show min 9 (c + 1 - a) = 9 by omega]) b7'
        refine ⟨J, LJ, j1, fun j h1 h2 h3 => by rw [j2 j h1 h2 h3, z_up_j _ _ _ _ _ h1], j3, j4, j5, j6, j7, j8, fun M => ?_⟩
        rw [show M + 3 * (i + 1) + 2 = (M + 1 + 3 * i + 2) + 1 + 1 by omega, zb_M_goes_108, y2, z_bi_v, zb_M_goes_116, if_neg hy, if_pos (by rw [y_i_le, sd]; show (9 : Int) ≤ _; omega), j9]
      · have zp := zpkn_p (F := F) (a := a) (c - a) b7
        have zq : (32 : Int) ^ (c - a) ≤ 32 ^ 8 := by
          have : (32 : Nat) ^ (c - a) ≤ 32 ^ 8 := Nat.pow_le_pow_right (by omega) (by omega)
          exact_mod_cast this
        have e8 : (32 : Int) ^ 8 = 1099511627776 := by decide
        have hl : 97 ≤ F c ∧ F c ≤ 122 := by
          unfold zltr at cl
          simpa using cl
        rw [show min 9 (c - a) = c - a by omega] at b6
        have s96 : (y - Int32.ofInt 96).toInt = F c - 96 := by rw [y_sbl (by omega) (by omega) (by omega) (by omega), yF]
        have pk := zpk_v (v := LK 55 27) (x := y - Int32.ofInt 96) (by omega) (by omega) (by omega) (by omega)
        have pk' : ((LK 55 27 <<< ((Int32.ofInt 5).toInt64 &&& 63)) ||| (y - Int32.ofInt 96).toInt64).toInt = zpkn F a (min 9 (c + 1 - a)) := by
          rw [pk, b6, s96, show min 9 (c + 1 - a) = (c - a) + 1 by omega]
          show _ = zpkn F a (c - a) * 32 + (F (a + (c - a)) - 96)
          rw [show a + (c - a) = c by omega]
        obtain ⟨J, LJ, j1, j2, j3, j4, j5, j6, j7, j8, j9⟩ := ih (c + 1) (z_up K 55 21 (K 55 21 + Int32.ofInt 1)) (z_up LK 55 27 ((LK 55 27 <<< ((Int32.ofInt 5).toInt64 &&& 63)) ||| (y - Int32.ofInt 96).toInt64)) (by omega) (by omega) (fun x hx => by rw [z_up_r _ _ _ _ _ hx, b2 x hx]) (by rw [z_up_j _ _ _ _ _ (by omega)]; exact b3) (by rw [z_up_s]; exact s21) (by rw [z_up_j _ _ _ _ _ (by omega)]; exact b5) (by rw [z_up_s]; exact pk') b7'
        refine ⟨J, LJ, j1, fun j h1 h2 h3 => by rw [j2 j h1 h2 h3, z_up_j _ _ _ _ _ h1], fun x hx => by rw [j3 x hx, z_up_r _ _ _ _ _ hx], fun j hj => by rw [j4 j hj, z_up_j _ _ _ _ _ hj], j5, j6, j7, j8, fun M => ?_⟩
        rw [show M + 3 * (i + 1) + 2 = (M + 3 * i + 2) + 1 + 1 + 1 by omega, zb_M_goes_108, y2, z_bi_v, zb_M_goes_116, if_neg hy, if_neg (by rw [y_i_le, sd]; show ¬ (9 : Int) ≤ _; omega), y2, z_bi_v, zb_M_goes_151, j9]
    · obtain ⟨J, LJ, j1, j2, j3, j4, j5, j6, j7, j8, j9⟩ := fin c K LK (fun h => cl h.2) (by omega) b1 b2 b3 b4 b5 b6
      exact ⟨J, LJ, j1, j2, j3, j4, j5, j6, j7, j8, fun M => by rw [show M + 3 * (i + 1) + 2 = (M + 3 * (i + 1)) + 2 by omega, j9]⟩
/-- digits to their end -/
theorem zr_goD (X : ZX) (d m ce sl : Nat) (I : Nat → Nat → Int32) (L : Nat → Nat → Int64) (t u r q : Nat) {F : Nat → Int} {N a : Nat} (hF : ∀ i, (I 69 i).toInt = F i) (hN4 : N ≤ 400) : ∀ (i c : Nat) (K : Nat → Nat → Int32), c + i = N → a ≤ c → (∀ x, x ≠ 55 → K x = I x) → (K 55 20).toInt = N → (K 55 21).toInt = c → (K 55 23).toInt = a → (K 55 25).toInt = znm F a (min 5 (c - a)) → (∀ j, j < c - a → zdgt (F (a + j)) = true) → ∃ (J : Nat → Nat → Int32), (∀ x, x ≠ 55 → J x = I x) ∧ (∀ j, j ≠ 21 → j ≠ 22 → j ≠ 24 → j ≠ 25 → J 55 j = K 55 j) ∧ (J 55 21).toInt = zsc zdgt F N c ∧ (J 55 22).toInt = 2 ∧ (J 55 24).toInt = ((zsc zdgt F N c - a : Nat) : Int) ∧ (J 55 25).toInt = znm F a (min 5 (zsc zdgt F N c - a)) ∧ ∀ M, z_loop X z_cf z_ff (z_pu (z_run X z_cf z_ff (d + 3))) 184 (M + 3 * i + 2) 187 [(0, .ref 55)] [] (118, z_sd m, ce, sl, K, L, z_rr t u r q (z_gg m) (z_sf m)) = some (.inl none, (118, z_sd m, ce, sl, J, L, z_rr t u r q (z_gg m) (z_sf m))) := by
  intro i
  have fin : ∀ (c : Nat) (K : Nat → Nat → Int32), ¬ (c < N ∧ zdgt (F c) = true) → c ≤ N → a ≤ c → (∀ x, x ≠ 55 → K x = I x) → (K 55 20).toInt = N → (K 55 21).toInt = c → (K 55 23).toInt = a → (K 55 25).toInt = znm F a (min 5 (c - a)) → ∃ (J : Nat → Nat → Int32), (∀ x, x ≠ 55 → J x = I x) ∧ (∀ j, j ≠ 21 → j ≠ 22 → j ≠ 24 → j ≠ 25 → J 55 j = K 55 j) ∧ (J 55 21).toInt = zsc zdgt F N c ∧ (J 55 22).toInt = 2 ∧ (J 55 24).toInt = ((zsc zdgt F N c - a : Nat) : Int) ∧ (J 55 25).toInt = znm F a (min 5 (zsc zdgt F N c - a)) ∧ ∀ M, z_loop X z_cf z_ff (z_pu (z_run X z_cf z_ff (d + 3))) 184 (M + 2) 187 [(0, .ref 55)] [] (118, z_sd m, ce, sl, K, L, z_rr t u r q (z_gg m) (z_sf m)) = some (.inl none, (118, z_sd m, ce, sl, J, L, z_rr t u r q (z_gg m) (z_sf m))) := by
    intro c K b1 b2 b3 b4 b5 b6 b7 b8
    have e : zsc zdgt F N c = c := zsc_no b1
    obtain ⟨y, y1, y2⟩ := zr_byte X d m ce sl K L t u r q (F := F) (fun i => by rw [b4 69 (by omega)]; exact hF i) b5 hN4 (K 55 21) b6
    rw [e]
    refine ⟨z_up (z_up K 55 22 (Int32.ofInt 2)) 55 24 (K 55 21 - K 55 23), fun x hx => by rw [z_up_r _ _ _ _ _ hx, z_up_r _ _ _ _ _ hx, b4 x hx], fun j j1 j2 j3 j4 => by rw [z_up_j _ _ _ _ _ j3, z_up_j _ _ _ _ _ j2], by rw [z_up_j _ _ _ _ _ (by omega), z_up_j _ _ _ _ _ (by omega)]; exact b6, by rw [z_up_j _ _ _ _ _ (by omega), z_up_s]; rfl, by rw [z_up_s, y_sb (by omega) (by omega)]; omega, by rw [z_up_j _ _ _ _ _ (by omega), z_up_j _ _ _ _ _ (by omega)]; exact b8, fun M => ?_⟩
    rw [zb_M_goes_187, y2, z_bi_v, zb_M_goes_195, if_pos ((y_mdg0 _).mpr (by rw [y1, zbyt_d]; exact b1))]
  induction i with
  | zero =>
    intro c K b0 b1 b2 b3 b4 b5 b6 b7
    exact fin c K (by omega) (by omega) b1 b2 b3 b4 b5 b6
  | succ i ih =>
    intro c K b0 b1 b2 b3 b4 b5 b6 b7
    by_cases cl : zdgt (F c) = true
    · have hc : c < N := by omega
      rw [zsc_go hc cl]
      obtain ⟨y, y1, y2⟩ := zr_byte X d m ce sl K L t u r q (F := F) (fun i => by rw [b2 69 (by omega)]; exact hF i) b3 hN4 (K 55 21) b4
      have yF : y.toInt = F c := by rw [y1]; unfold zbyt; rw [if_pos hc]
      have hy : ¬ (z_p_M_isDigit y = 0) := fun h => (y_mdg0 _).mp h (by rw [yF]; exact cl)
      have s21 : (K 55 21 + Int32.ofInt 1).toInt = ((c + 1 : Nat) : Int) := by rw [y_adl (by omega) (by omega) (by omega) (by omega)]; omega
      have sd : (K 55 21 - K 55 23).toInt = ((c - a : Nat) : Int) := by rw [y_sb (by omega) (by omega)]; omega
      have b7' : ∀ j, j < c + 1 - a → zdgt (F (a + j)) = true := by
        intro j hj
        by_cases e : j = c - a
        · rw [e, show a + (c - a) = c by omega]; exact cl
        · exact b7 j (by omega)
      by_cases c9 : 5 ≤ c - a
      · obtain ⟨J, j1, j2, j5, j6, j7, j8, j9⟩ := ih (c + 1) (z_up K 55 21 (K 55 21 + Int32.ofInt 1)) (by omega) (by omega) (fun x hx => by rw [z_up_r _ _ _ _ _ hx, b2 x hx]) (by rw [z_up_j _ _ _ _ _ (by omega)]; exact b3) (by rw [z_up_s]; exact s21) (by rw [z_up_j _ _ _ _ _ (by omega)]; exact b5) (by rw [z_up_j _ _ _ _ _ (by omega), b6, show min 5 (c - a) = 5 by omega, show min 5 (c + 1 - a) = 5 by omega]) b7'
        refine ⟨J, j1, fun j h1 h2 h3 h4 => by rw [j2 j h1 h2 h3 h4, z_up_j _ _ _ _ _ h1], j5, j6, j7, j8, fun M => ?_⟩
        rw [show M + 3 * (i + 1) + 2 = (M + 1 + 3 * i + 2) + 1 + 1 by omega, zb_M_goes_187, y2, z_bi_v, zb_M_goes_195, if_neg hy, if_pos (by rw [y_i_le, sd]; show (5 : Int) ≤ _; omega), j9]
      · have zp := znm_r (F := F) (a := a) (c - a) (by omega) b7
        have zq : (10 : Int) ^ (c - a) ≤ 10 ^ 5 := by
          have : (10 : Nat) ^ (c - a) ≤ 10 ^ 5 := Nat.pow_le_pow_right (by omega) (by omega)
          exact_mod_cast this
        have e5 : (10 : Int) ^ 5 = 100000 := by decide
        have hl : 48 ≤ F c ∧ F c ≤ 57 := by
          unfold zdgt at cl
          simpa using cl
        rw [show min 5 (c - a) = c - a by omega] at b6
        have e10 : (Int32.ofInt 10).toInt = 10 := rfl
        have v1 : (Int32.ofInt 10 * K 55 25).toInt = 10 * znm F a (c - a) := by rw [y_mu (by rw [e10, b6]; omega) (by rw [e10, b6]; omega), e10, b6]
        have v2 : (Int32.ofInt 10 * K 55 25 + y).toInt = 10 * znm F a (c - a) + F c := by rw [y_ad (by omega) (by omega), v1, yF]
        have v3 : (Int32.ofInt 10 * K 55 25 + y - Int32.ofInt 48).toInt = znm F a (min 5 (c + 1 - a)) := by
          rw [y_sbl (by omega) (by omega) (by omega) (by omega), v2, show min 5 (c + 1 - a) = (c - a) + 1 by omega]
          show _ = znm F a (c - a) * 10 + F (a + (c - a)) - 48
          rw [show a + (c - a) = c by omega]
          omega
        obtain ⟨J, j1, j2, j5, j6, j7, j8, j9⟩ := ih (c + 1) (z_up (z_up K 55 25 (Int32.ofInt 10 * K 55 25 + y - Int32.ofInt 48)) 55 21 (K 55 21 + Int32.ofInt 1)) (by omega) (by omega) (fun x hx => by rw [z_up_r _ _ _ _ _ hx, z_up_r _ _ _ _ _ hx, b2 x hx]) (by rw [z_up_j _ _ _ _ _ (by omega), z_up_j _ _ _ _ _ (by omega)]; exact b3) (by rw [z_up_s]; exact s21) (by rw [z_up_j _ _ _ _ _ (by omega), z_up_j _ _ _ _ _ (by omega)]; exact b5) (by rw [z_up_j _ _ _ _ _ (by omega), z_up_s]; exact v3) b7'
        refine ⟨J, j1, fun j h1 h2 h3 h4 => by rw [j2 j h1 h2 h3 h4, z_up_j _ _ _ _ _ h1, z_up_j _ _ _ _ _ h4], j5, j6, j7, j8, fun M => ?_⟩
        have e21 : (z_up K 55 25 (Int32.ofInt 10 * K 55 25 + y - Int32.ofInt 48)) 55 21 = K 55 21 := z_up_j _ _ _ _ _ (by omega)
        rw [show M + 3 * (i + 1) + 2 = (M + 3 * i + 2) + 1 + 1 + 1 by omega, zb_M_goes_187, y2, z_bi_v, zb_M_goes_195, if_neg hy, if_neg (by rw [y_i_le, sd]; show ¬ (5 : Int) ≤ _; omega), y2, z_bi_v, zb_M_goes_230, j9]
    · obtain ⟨J, j1, j2, j5, j6, j7, j8, j9⟩ := fin c K (fun h => cl h.2) (by omega) b1 b2 b3 b4 b5 b6
      exact ⟨J, j1, j2, j5, j6, j7, j8, fun M => by rw [show M + 3 * (i + 1) + 2 = (M + 3 * (i + 1)) + 2 by omega, j9]⟩
/-- the model's sort of a token -/
def zso (k : Int) : Int := if k = 0 then 0 else if k = 1 then 4 else if k = 2 then 2 else if 100 ≤ k then 1 else 3
theorem zso_1 {k : Int} : zso k = 1 ↔ 100 ≤ k := by
  constructor
  · intro h
    unfold zso at h
    repeat' split at h
    all_goals omega
  · intro h
    unfold zso
    rw [if_neg (by omega), if_neg (by omega), if_neg (by omega), if_pos h]
theorem zso_2 {k : Int} : zso k = 2 ↔ k = 2 := by
  constructor
  · intro h
    unfold zso at h
    repeat' split at h
    all_goals omega
  · intro h
    rw [h]
    rfl
/-- the model stands at a token -/
def zMT (tk : zTk) (I : Nat → Nat → Int32) (L : Nat → Nat → Int64) : Prop := (I 55 23).toInt = tk.2.1 ∧ (I 55 21).toInt = tk.2.2.1 ∧ (I 55 22).toInt = zso tk.1 ∧ (I 55 24).toInt = ((tk.2.2.1 - tk.2.1 : Nat) : Int) ∧ (tk.1 = 2 → (I 55 25).toInt = tk.2.2.2.1) ∧ (zsgn tk.1 → (I 55 26).toInt = tk.1) ∧ (100 ≤ tk.1 → (8 < tk.2.2.1 - tk.2.1 → tk.1 = 119) ∧ (tk.2.2.1 - tk.2.1 ≤ 8 → ∀ k, k < 19 → ((zlw k).toInt = (L 55 27).toInt ↔ tk.1 = 100 + (zcm k : Int))))
theorem zr_go76 (X : ZX) (d m ce sl : Nat) (I : Nat → Nat → Int32) (L : Nat → Nat → Int64) (t u r q : Nat) {F : Nat → Int} (hF : ∀ i, (I 69 i).toInt = F i) {N c : Nat} (hN : (I 55 20).toInt = N) (hN4 : N ≤ 400) (hc : c ≤ N) (h21 : (I 55 21).toInt = c) (h23 : (I 55 23).toInt = c) (h25 : (I 55 25).toInt = 0) (h27 : (L 55 27).toInt = 0) (y : Int32) (hy : y.toInt = zbyt F N c) : ∃ (J : Nat → Nat → Int32) (LJ : Nat → Nat → Int64), (∀ x, x ≠ 55 → J x = I x) ∧ (∀ j, (j < 21 ∨ 26 < j) → J 55 j = I 55 j) ∧ (∀ x, x ≠ 55 → LJ x = L x) ∧ (∀ j, j ≠ 27 → LJ 55 j = L 55 j) ∧ zMT (ztk F N c) J LJ ∧ ∀ M, z_loop X z_cf z_ff (z_pu (z_run X z_cf z_ff (d + 3))) 184 (M + 3 * N + 3) 76 [(0, .ref 55)] [.int y] (118, z_sd m, ce, sl, I, L, z_rr t u r q (z_gg m) (z_sf m)) = some (.inl none, (118, z_sd m, ce, sl, J, LJ, z_rr t u r q (z_gg m) (z_sf m))) := by
  by_cases cN : c < N
  · have yF : y.toInt = F c := by rw [hy]; unfold zbyt; rw [if_pos cN]
    have lN : I 55 21 < I 55 20 := by rw [y_i_lt]; omega
    have s21 : (I 55 21 + Int32.ofInt 1).toInt = ((c + 1 : Nat) : Int) := by rw [y_adl (by omega) (by omega) (by omega) (by omega)]; omega
    by_cases c1 : zltr (F c) = true
    · have ek : ztk F N c = (zwd (zls F c (zsc zltr F N c - c)), c, zsc zltr F N c, 0, 0) := by
        unfold ztk
        rw [if_pos cN, if_pos c1]
      obtain ⟨J, LJ, j1, j2, j3, j4, j5, j6, j7, j8, j9⟩ := zr_goW X d m ce sl I L t u r q hF (N := N) (a := c) hN4 (N - c) c (z_up I 55 26 y) L (by omega) (Nat.le_refl _) (fun x hx => z_up_r _ _ _ _ _ hx) (by rw [z_up_j _ _ _ _ _ (by omega)]; exact hN) (by rw [z_up_j _ _ _ _ _ (by omega)]; exact h21) (by rw [z_up_j _ _ _ _ _ (by omega)]; exact h23) (by rw [h27, Nat.sub_self]; rfl) (fun j hj => by omega)
      obtain ⟨s1, s2, s3, s4⟩ := zsc_f (p := zltr) (F := F) (N := N) c
      have wr := zwd_r (zls F c (zsc zltr F N c - c))
      rw [ek]
      refine ⟨J, LJ, j1, fun j hj => by rw [j2 j (by omega) (by omega) (by omega), z_up_j _ _ _ _ _ (by omega)], j3, j4, ⟨?_, j5, ?_, j7, fun h => ?_, fun h => ?_, fun h => ⟨fun h8 => zwd_long h8, fun h8 k hk => ?_⟩⟩, fun M => ?_⟩
      · rw [j2 23 (by omega) (by omega) (by omega), z_up_j _ _ _ _ _ (by omega)]
        exact h23
      · rw [j6]
        show 1 = zso (zwd (zls F c (zsc zltr F N c - c)))
        unfold zso
        rw [if_neg (by omega), if_neg (by omega), if_neg (by omega), if_pos (by omega)]
      · have h' : zwd (zls F c (zsc zltr F N c - c)) = 2 := h
        omega
      · have h' : zsgn (zwd (zls F c (zsc zltr F N c - c))) := h
        unfold zsgn at h'
        omega
      · have h8' : zsc zltr F N c - c ≤ 8 := h8
        rw [j8, show min 9 (zsc zltr F N c - c) = zsc zltr F N c - c by omega]
        exact zlw_iff (fun j hj => s3 (c + j) (by omega) (by omega)) hk
      · rw [show M + 3 * N + 3 = (M + 3 * c + 3 * (N - c) + 2) + 1 by omega, zb_M_goes_76, if_pos lN, if_neg (fun h => (y_mlt0 _).mp h (by rw [yF]; exact c1)), j9]
    · have nl : z_p_M_isLetter y = 0 := (y_mlt0 _).mpr (by rw [yF]; exact c1)
      by_cases c2 : zdgt (F c) = true
      · have ek : ztk F N c = (2, c, zsc zdgt F N c, znm F c (min 5 (zsc zdgt F N c - c)), zsc zdgt F N c - c) := by
          unfold ztk
          rw [if_pos cN, if_neg c1, if_pos c2]
        obtain ⟨J, j1, j2, j5, j6, j7, j8, j9⟩ := zr_goD X d m ce sl I L t u r q hF (N := N) (a := c) hN4 (N - c) c (z_up I 55 26 y) (by omega) (Nat.le_refl _) (fun x hx => z_up_r _ _ _ _ _ hx) (by rw [z_up_j _ _ _ _ _ (by omega)]; exact hN) (by rw [z_up_j _ _ _ _ _ (by omega)]; exact h21) (by rw [z_up_j _ _ _ _ _ (by omega)]; exact h23) (by rw [z_up_j _ _ _ _ _ (by omega), h25, Nat.sub_self]; rfl) (fun j hj => by omega)
        rw [ek]
        refine ⟨J, L, j1, fun j hj => by rw [j2 j (by omega) (by omega) (by omega) (by omega), z_up_j _ _ _ _ _ (by omega)], fun x hx => rfl, fun j hj => rfl, ⟨?_, j5, j6, j7, fun h => j8, fun h => ?_, fun h => ?_⟩, fun M => ?_⟩
        · rw [j2 23 (by omega) (by omega) (by omega) (by omega), z_up_j _ _ _ _ _ (by omega)]
          exact h23
        · have h' : zsgn 2 := h
          unfold zsgn at h'
          omega
        · have h' : (100 : Int) ≤ 2 := h
          omega
        · rw [show M + 3 * N + 3 = (M + 3 * c + 3 * (N - c) + 2) + 1 by omega, zb_M_goes_76, if_pos lN, if_pos nl, if_neg (fun h => (y_mdg0 _).mp h (by rw [yF]; exact c2)), j9]
      · have nd : z_p_M_isDigit y = 0 := (y_mdg0 _).mpr (by rw [yF]; exact c2)
        have hs24 : ∀ v : Int32, ((I 55 21 + Int32.ofInt 1) - I 55 23).toInt = ((c + 1 - c : Nat) : Int) := by
          intro _
          rw [y_sb (by omega) (by omega)]
          omega
        by_cases c3 : zsgb (F c) = true
        · have ek : ztk F N c = (F c, c, c + 1, 0, 0) := by
            unfold ztk
            rw [if_pos cN, if_neg c1, if_neg c2, if_pos c3]
          have hs := zsgb_is.mp c3
          rw [ek]
          refine ⟨z_up (z_up (z_up (z_up I 55 26 y) 55 21 (I 55 21 + Int32.ofInt 1)) 55 22 (Int32.ofInt 3)) 55 24 ((I 55 21 + Int32.ofInt 1) - I 55 23), L, fun x hx => by rw [z_up_r _ _ _ _ _ hx, z_up_r _ _ _ _ _ hx, z_up_r _ _ _ _ _ hx, z_up_r _ _ _ _ _ hx], fun j hj => by rw [z_up_j _ _ _ _ _ (by omega), z_up_j _ _ _ _ _ (by omega), z_up_j _ _ _ _ _ (by omega), z_up_j _ _ _ _ _ (by omega)], fun x hx => rfl, fun j hj => rfl, ⟨?_, ?_, ?_, ?_, fun h => ?_, fun h => ?_, fun h => ?_⟩, fun M => ?_⟩
          · rw [z_up_j _ _ _ _ _ (by omega), z_up_j _ _ _ _ _ (by omega), z_up_j _ _ _ _ _ (by omega), z_up_j _ _ _ _ _ (by omega)]
            exact h23
          · rw [z_up_j _ _ _ _ _ (by omega), z_up_j _ _ _ _ _ (by omega), z_up_s]
            exact s21
          · rw [z_up_j _ _ _ _ _ (by omega), z_up_s]
            show 3 = zso (F c)
            unfold zsgn at hs
            unfold zso
            rw [if_neg (by omega), if_neg (by omega), if_neg (by omega), if_neg (by omega)]
          · rw [z_up_s]
            exact hs24 y
          · have h' : F c = 2 := h
            unfold zsgn at hs
            omega
          · rw [z_up_j _ _ _ _ _ (by omega), z_up_j _ _ _ _ _ (by omega), z_up_j _ _ _ _ _ (by omega), z_up_s]
            exact yF
          · have h' : 100 ≤ F c := h
            unfold zsgn at hs
            omega
          · rw [show M + 3 * N + 3 = (M + 3 * N + 2) + 1 by omega, zb_M_goes_76, if_pos lN, if_pos nl, if_pos nd, zgs, if_pos (by rw [yF]; exact c3)]
        · have ek : ztk F N c = (1, c, c + 1, 0, 0) := by
            unfold ztk
            rw [if_pos cN, if_neg c1, if_neg c2, if_neg c3]
          rw [ek]
          refine ⟨z_up (z_up (z_up (z_up I 55 26 y) 55 21 (I 55 21 + Int32.ofInt 1)) 55 22 (Int32.ofInt 4)) 55 24 ((I 55 21 + Int32.ofInt 1) - I 55 23), L, fun x hx => by rw [z_up_r _ _ _ _ _ hx, z_up_r _ _ _ _ _ hx, z_up_r _ _ _ _ _ hx, z_up_r _ _ _ _ _ hx], fun j hj => by rw [z_up_j _ _ _ _ _ (by omega), z_up_j _ _ _ _ _ (by omega), z_up_j _ _ _ _ _ (by omega), z_up_j _ _ _ _ _ (by omega)], fun x hx => rfl, fun j hj => rfl, ⟨?_, ?_, ?_, ?_, fun h => ?_, fun h => ?_, fun h => ?_⟩, fun M => ?_⟩
          · rw [z_up_j _ _ _ _ _ (by omega), z_up_j _ _ _ _ _ (by omega), z_up_j _ _ _ _ _ (by omega), z_up_j _ _ _ _ _ (by omega)]
            exact h23
          · rw [z_up_j _ _ _ _ _ (by omega), z_up_j _ _ _ _ _ (by omega), z_up_s]
            exact s21
          · rw [z_up_j _ _ _ _ _ (by omega), z_up_s]
            rfl
          · rw [z_up_s]
            exact hs24 y
          · have h' : (1 : Int) = 2 := h
            omega
          · have h' : zsgn 1 := h
            unfold zsgn at h'
            omega
          · have h' : (100 : Int) ≤ 1 := h
            omega
          · rw [show M + 3 * N + 3 = (M + 3 * N + 2) + 1 by omega, zb_M_goes_76, if_pos lN, if_pos nl, if_pos nd, zgs, if_neg (by rw [yF]; exact c3)]
  · have ek : ztk F N c = (0, c, c, 0, 0) := by
      unfold ztk
      rw [if_neg cN]
    rw [ek]
    refine ⟨z_up (z_up (z_up I 55 26 y) 55 22 (Int32.ofInt 0)) 55 24 (I 55 21 - I 55 23), L, fun x hx => by rw [z_up_r _ _ _ _ _ hx, z_up_r _ _ _ _ _ hx, z_up_r _ _ _ _ _ hx], fun j hj => by rw [z_up_j _ _ _ _ _ (by omega), z_up_j _ _ _ _ _ (by omega), z_up_j _ _ _ _ _ (by omega)], fun x hx => rfl, fun j hj => rfl, ⟨?_, ?_, ?_, ?_, fun h => ?_, fun h => ?_, fun h => ?_⟩, fun M => ?_⟩
    · rw [z_up_j _ _ _ _ _ (by omega), z_up_j _ _ _ _ _ (by omega), z_up_j _ _ _ _ _ (by omega)]
      exact h23
    · rw [z_up_j _ _ _ _ _ (by omega), z_up_j _ _ _ _ _ (by omega), z_up_j _ _ _ _ _ (by omega)]
      exact h21
    · rw [z_up_j _ _ _ _ _ (by omega), z_up_s]
      rfl
    · rw [z_up_s, y_sb (by omega) (by omega)]
      show _ = ((c - c : Nat) : Int)
      omega
    · have h' : (0 : Int) = 2 := h
      omega
    · have h' : zsgn 0 := h
      unfold zsgn at h'
      omega
    · have h' : (100 : Int) ≤ 0 := h
      omega
    · rw [show M + 3 * N + 3 = (M + 3 * N + 2) + 1 by omega, zb_M_goes_76, if_neg (by rw [y_i_lt]; omega)]
theorem zr_goes (X : ZX) (d m ce sl : Nat) (I : Nat → Nat → Int32) (L : Nat → Nat → Int64) (t u r q : Nat) {F : Nat → Int} (hF : ∀ i, (I 69 i).toInt = F i) {N e : Nat} (hN : (I 55 20).toInt = N) (hN4 : N ≤ 400) (he : e ≤ N) (h7 : (I 55 21).toInt = e) : ∃ (J : Nat → Nat → Int32) (LJ : Nat → Nat → Int64), (∀ x, x ≠ 55 → J x = I x) ∧ (∀ j, (j < 21 ∨ 26 < j) → J 55 j = I 55 j) ∧ (∀ x, x ≠ 55 → LJ x = L x) ∧ (∀ j, j ≠ 27 → LJ 55 j = L 55 j) ∧ zMT (zlx F N e) J LJ ∧ z_pu (z_run X z_cf z_ff (d + 4)) 184 [.ref 55] (118, z_sd m, ce, sl, I, L, z_rr t u r q (z_gg m) (z_sf m)) = some (.inl none, (118, z_sd m, ce, sl, J, LJ, z_rr t u r q (z_gg m) (z_sf m))) := by
  have at76 : ∀ (c : Nat) (K : Nat → Nat → Int32), c ≤ N → zsc zbln F N c = c → (∀ x, x ≠ 55 → K x = I x) → (∀ j, j ≠ 21 → K 55 j = I 55 j) → (K 55 21).toInt = c → ∃ (J : Nat → Nat → Int32) (LJ : Nat → Nat → Int64) (y : Int32), (∀ x, x ≠ 55 → J x = I x) ∧ (∀ j, (j < 21 ∨ 26 < j) → J 55 j = I 55 j) ∧ (∀ x, x ≠ 55 → LJ x = L x) ∧ (∀ j, j ≠ 27 → LJ 55 j = L 55 j) ∧ zMT (ztk F N (zsc zbln F N c)) J LJ ∧ z_pu (z_run X z_cf z_ff (d + 3)) 185 [.ref 55, .int (K 55 21)] (118, z_sd m, ce, sl, (z_up (z_up K 55 23 (K 55 21)) 55 25 (Int32.ofInt 0)), (z_up L 55 27 (Int64.ofInt 0)), z_rr t u r q (z_gg m) (z_sf m)) = some (.inl (some (.int y)), (118, z_sd m, ce, sl, (z_up (z_up K 55 23 (K 55 21)) 55 25 (Int32.ofInt 0)), (z_up L 55 27 (Int64.ofInt 0)), z_rr t u r q (z_gg m) (z_sf m))) ∧ ∀ M, z_loop X z_cf z_ff (z_pu (z_run X z_cf z_ff (d + 3))) 184 (M + 3 * N + 3) 76 [(0, .ref 55)] [.int y] (118, z_sd m, ce, sl, (z_up (z_up K 55 23 (K 55 21)) 55 25 (Int32.ofInt 0)), (z_up L 55 27 (Int64.ofInt 0)), z_rr t u r q (z_gg m) (z_sf m)) = some (.inl none, (118, z_sd m, ce, sl, J, LJ, z_rr t u r q (z_gg m) (z_sf m))) := by
    intro c K b0 b1 b2 b3 b4
    have q20 : ((z_up (z_up K 55 23 (K 55 21)) 55 25 (Int32.ofInt 0)) 55 20).toInt = N := by rw [z_up_j _ _ _ _ _ (by omega), z_up_j _ _ _ _ _ (by omega), b3 20 (by omega)]; exact hN
    have qF : ∀ i, ((z_up (z_up K 55 23 (K 55 21)) 55 25 (Int32.ofInt 0)) 69 i).toInt = F i := fun i => by rw [z_up_r _ _ _ _ _ (by omega), z_up_r _ _ _ _ _ (by omega), b2 69 (by omega)]; exact hF i
    obtain ⟨y, y1, y2⟩ := zr_byte X d m ce sl (z_up (z_up K 55 23 (K 55 21)) 55 25 (Int32.ofInt 0)) (z_up L 55 27 (Int64.ofInt 0)) t u r q qF q20 hN4 (K 55 21) b4
    obtain ⟨J, LJ, j1, j2, j3, j4, j5, j6⟩ := zr_go76 X d m ce sl (z_up (z_up K 55 23 (K 55 21)) 55 25 (Int32.ofInt 0)) (z_up L 55 27 (Int64.ofInt 0)) t u r q qF q20 hN4 b0 (by rw [z_up_j _ _ _ _ _ (by omega), z_up_j _ _ _ _ _ (by omega)]; exact b4) (by rw [z_up_j _ _ _ _ _ (by omega), z_up_s]; exact b4) (by rw [z_up_s]; rfl) (by rw [z_up_s]; rfl) y y1
    rw [b1]
    exact ⟨J, LJ, y, fun x hx => by rw [j1 x hx, z_up_r _ _ _ _ _ hx, z_up_r _ _ _ _ _ hx, b2 x hx], fun j hj => by rw [j2 j hj, z_up_j _ _ _ _ _ (by omega), z_up_j _ _ _ _ _ (by omega), b3 j (by omega)], fun x hx => by rw [j3 x hx, z_up_r _ _ _ _ _ hx], fun j hj => by rw [j4 j hj, z_up_j _ _ _ _ _ hj], j5, y2, j6⟩
  have lp : ∀ (i c : Nat) (K : Nat → Nat → Int32), c + i = N → (∀ x, x ≠ 55 → K x = I x) → (∀ j, j ≠ 21 → K 55 j = I 55 j) → (K 55 21).toInt = c → ∃ (J : Nat → Nat → Int32) (LJ : Nat → Nat → Int64), (∀ x, x ≠ 55 → J x = I x) ∧ (∀ j, (j < 21 ∨ 26 < j) → J 55 j = I 55 j) ∧ (∀ x, x ≠ 55 → LJ x = L x) ∧ (∀ j, j ≠ 27 → LJ 55 j = L 55 j) ∧ zMT (ztk F N (zsc zbln F N c)) J LJ ∧ ∀ M, z_loop X z_cf z_ff (z_pu (z_run X z_cf z_ff (d + 3))) 184 (M + 3 * N + 3 * i + 10) 0 [(0, .ref 55)] [] (118, z_sd m, ce, sl, K, L, z_rr t u r q (z_gg m) (z_sf m)) = some (.inl none, (118, z_sd m, ce, sl, J, LJ, z_rr t u r q (z_gg m) (z_sf m))) := by
    intro i
    induction i with
    | zero =>
      intro c K b0 b1 b2 b3
      obtain ⟨J, LJ, y, j1, j2, j3, j4, j5, j6, j7⟩ := at76 c K (by omega) (zsc_no (by omega)) b1 b2 b3
      refine ⟨J, LJ, j1, j2, j3, j4, j5, fun M => ?_⟩
      rw [show M + 3 * N + 3 * 0 + 10 = (M + 6 + 3 * N + 3) + 1 by omega, zb_M_goes_0, if_pos (by rw [b2 20 (by omega), y_i_le]; omega), j6, z_bi_v, j7]
    | succ i ih =>
      intro c K b0 b1 b2 b3
      have hc : c < N := by omega
      obtain ⟨y, y1, y2⟩ := zr_byte X d m ce sl K L t u r q (F := F) (fun i => by rw [b1 69 (by omega)]; exact hF i) (by rw [b2 20 (by omega)]; exact hN) hN4 (K 55 21) b3
      have yF : y.toInt = F c := by rw [y1]; unfold zbyt; rw [if_pos hc]
      have nN : ¬ K 55 20 ≤ K 55 21 := by rw [b2 20 (by omega), y_i_le]; omega
      by_cases cb : zbln (F c) = true
      · rw [zsc_go hc cb]
        obtain ⟨J, LJ, j1, j2, j3, j4, j5, j6⟩ := ih (c + 1) (z_up K 55 21 (K 55 21 + Int32.ofInt 1)) (by omega) (fun x hx => by rw [z_up_r _ _ _ _ _ hx, b1 x hx]) (fun j hj => by rw [z_up_j _ _ _ _ _ hj, b2 j hj]) (by rw [z_up_s, y_adl (by omega) (by omega) (by omega) (by omega)]; omega)
        refine ⟨J, LJ, j1, j2, j3, j4, j5, fun M => ?_⟩
        have hb : F c = 32 ∨ F c = 10 := by
          unfold zbln at cb
          simpa using cb
        have e32 : (Int32.ofInt 32).toInt = 32 := rfl
        have e10 : (Int32.ofInt 10).toInt = 10 := rfl
        by_cases c32 : F c = 32
        · rw [show M + 3 * N + 3 * (i + 1) + 10 = (M + 1 + 3 * N + 3 * i + 10) + 1 + 1 by omega, zb_M_goes_0, if_neg nN, y2, z_bi_v, zb_M_goes_19, if_pos (y_i_eq.mpr (by omega)), j6]
        · rw [show M + 3 * N + 3 * (i + 1) + 10 = (M + 3 * N + 3 * i + 10) + 1 + 1 + 1 by omega, zb_M_goes_0, if_neg nN, y2, z_bi_v, zb_M_goes_19, if_neg (fun h => c32 (by rw [← yF, h]; rfl)), y2, z_bi_v, zb_M_goes_32, if_pos (y_i_eq.mpr (by omega)), j6]
      · have hb : ¬ (F c = 32 ∨ F c = 10) := by
          unfold zbln at cb
          simpa using cb
        obtain ⟨J, LJ, y', j1, j2, j3, j4, j5, j6, j7⟩ := at76 c K (by omega) (zsc_no (fun h => cb h.2)) b1 b2 b3
        refine ⟨J, LJ, j1, j2, j3, j4, j5, fun M => ?_⟩
        rw [show M + 3 * N + 3 * (i + 1) + 10 = (M + 7 + 3 * i + 3 * N + 3) + 1 + 1 + 1 by omega, zb_M_goes_0, if_neg nN, y2, z_bi_v, zb_M_goes_19, if_neg (fun h => hb (Or.inl (by rw [← yF, h]; rfl))), y2, z_bi_v, zb_M_goes_32, if_neg (fun h => hb (Or.inr (by rw [← yF, h]; rfl))), j6, z_bi_v, j7]
  obtain ⟨J, LJ, j1, j2, j3, j4, j5, j6⟩ := lp (N - e) e I (by omega) (fun x _ => rfl) (fun j _ => rfl) h7
  refine ⟨J, LJ, j1, j2, j3, j4, j5, ?_⟩
  refine z_en X (d + 1) _ _ [(0, .ref 55)] _ _ rfl rfl rfl ?_
  rw [show (100000000 : Nat) = (99999990 - 3 * N - 3 * (N - e)) + 3 * N + 3 * (N - e) + 10 by omega, j6]
theorem zr_letters (X : ZX) (d m ce sl : Nat) (I : Nat → Nat → Int32) (L : Nat → Nat → Int64) (t u r q : Nat) (x0 : Int32) : ∀ k : Nat, k < 19 → x0.toInt = k → z_pu (z_run X z_cf z_ff (d + 3)) 191 [.int x0] (118, z_sd m, ce, sl, I, L, z_rr t u r q (z_gg m) (z_sf m)) = some (.inl (some (.long (zlw k))), (118, z_sd m, ce, sl, I, L, z_rr t u r q (z_gg m) (z_sf m))) := by
  intro k hk h
  rw [zk_M_letters_0, y_eqi h]
  rcases k with _ | _ | _ | _ | _ | _ | _ | _ | _ | _ | _ | _ | _ | _ | _ | _ | _ | _ | _ | k
  · rw [if_pos (by decide)]
    rfl
  · rw [if_neg (by decide), if_pos (by decide)]
    rfl
  · rw [if_neg (by decide), if_neg (by decide), if_pos (by decide)]
    rfl
  · rw [if_neg (by decide), if_neg (by decide), if_neg (by decide), if_pos (by decide)]
    rfl
  · rw [if_neg (by decide), if_neg (by decide), if_neg (by decide), if_neg (by decide), if_pos (by decide)]
    rfl
  · rw [if_neg (by decide), if_neg (by decide), if_neg (by decide), if_neg (by decide), if_neg (by decide), if_pos (by decide)]
    rfl
  · rw [if_neg (by decide), if_neg (by decide), if_neg (by decide), if_neg (by decide), if_neg (by decide), if_neg (by decide), if_pos (by decide)]
    rfl
  · rw [if_neg (by decide), if_neg (by decide), if_neg (by decide), if_neg (by decide), if_neg (by decide), if_neg (by decide), if_neg (by decide), if_pos (by decide)]
    rfl
  · rw [if_neg (by decide), if_neg (by decide), if_neg (by decide), if_neg (by decide), if_neg (by decide), if_neg (by decide), if_neg (by decide), if_neg (by decide), if_pos (by decide)]
    rfl
  · rw [if_neg (by decide), if_neg (by decide), if_neg (by decide), if_neg (by decide), if_neg (by decide), if_neg (by decide), if_neg (by decide), if_neg (by decide), if_neg (by decide), if_pos (by decide)]
    rfl
  · rw [if_neg (by decide), if_neg (by decide), if_neg (by decide), if_neg (by decide), if_neg (by decide), if_neg (by decide), if_neg (by decide), if_neg (by decide), if_neg (by decide), if_neg (by decide), if_pos (by decide)]
    rfl
  · rw [if_neg (by decide), if_neg (by decide), if_neg (by decide), if_neg (by decide), if_neg (by decide), if_neg (by decide), if_neg (by decide), if_neg (by decide), if_neg (by decide), if_neg (by decide), if_neg (by decide), if_pos (by decide)]
    rfl
  · rw [if_neg (by decide), if_neg (by decide), if_neg (by decide), if_neg (by decide), if_neg (by decide), if_neg (by decide), if_neg (by decide), if_neg (by decide), if_neg (by decide), if_neg (by decide), if_neg (by decide), if_neg (by decide), if_pos (by decide)]
    rfl
  · rw [if_neg (by decide), if_neg (by decide), if_neg (by decide), if_neg (by decide), if_neg (by decide), if_neg (by decide), if_neg (by decide), if_neg (by decide), if_neg (by decide), if_neg (by decide), if_neg (by decide), if_neg (by decide), if_neg (by decide), if_pos (by decide)]
    rfl
  · rw [if_neg (by decide), if_neg (by decide), if_neg (by decide), if_neg (by decide), if_neg (by decide), if_neg (by decide), if_neg (by decide), if_neg (by decide), if_neg (by decide), if_neg (by decide), if_neg (by decide), if_neg (by decide), if_neg (by decide), if_neg (by decide), if_pos (by decide)]
    rfl
  · rw [if_neg (by decide), if_neg (by decide), if_neg (by decide), if_neg (by decide), if_neg (by decide), if_neg (by decide), if_neg (by decide), if_neg (by decide), if_neg (by decide), if_neg (by decide), if_neg (by decide), if_neg (by decide), if_neg (by decide), if_neg (by decide), if_neg (by decide), if_pos (by decide)]
    rfl
  · rw [if_neg (by decide), if_neg (by decide), if_neg (by decide), if_neg (by decide), if_neg (by decide), if_neg (by decide), if_neg (by decide), if_neg (by decide), if_neg (by decide), if_neg (by decide), if_neg (by decide), if_neg (by decide), if_neg (by decide), if_neg (by decide), if_neg (by decide), if_neg (by decide), if_pos (by decide)]
    rfl
  · rw [if_neg (by decide), if_neg (by decide), if_neg (by decide), if_neg (by decide), if_neg (by decide), if_neg (by decide), if_neg (by decide), if_neg (by decide), if_neg (by decide), if_neg (by decide), if_neg (by decide), if_neg (by decide), if_neg (by decide), if_neg (by decide), if_neg (by decide), if_neg (by decide), if_neg (by decide), if_pos (by decide)]
    rfl
  · rw [if_neg (by decide), if_neg (by decide), if_neg (by decide), if_neg (by decide), if_neg (by decide), if_neg (by decide), if_neg (by decide), if_neg (by decide), if_neg (by decide), if_neg (by decide), if_neg (by decide), if_neg (by decide), if_neg (by decide), if_neg (by decide), if_neg (by decide), if_neg (by decide), if_neg (by decide), if_neg (by decide)]
    rfl
  · omega
/-- which word the model's token is -/
theorem zr_known (X : ZX) (d m ce sl : Nat) (I : Nat → Nat → Int32) (L : Nat → Nat → Int64) (t u r q : Nat) {N : Nat} {tk : zTk} (hT : zMT tk I L) (hO : zTO N tk) : ∃ y : Int32, y.toInt = zkw tk.1 ∧ z_pu (z_run X z_cf z_ff (d + 4)) 190 [.ref 55] (118, z_sd m, ce, sl, I, L, z_rr t u r q (z_gg m) (z_sf m)) = some (.inl (some (.int y)), (118, z_sd m, ce, sl, I, L, z_rr t u r q (z_gg m) (z_sf m))) := by
  obtain ⟨h1, h2, h3, h4, h5, h6, h7⟩ := hT
  have e1 : (Int32.ofInt 1).toInt = 1 := rfl
  have e8 : (Int32.ofInt 8).toInt = 8 := rfl
  have no : ¬ (100 ≤ tk.1 ∧ tk.1 ≤ 118) → zkw tk.1 = -1 := fun h => by
    unfold zkw
    rw [if_neg h]
  by_cases cw : 100 ≤ tk.1
  · have s1 : (I 55 22).toInt = 1 := by
      rw [h3]
      unfold zso
      rw [if_neg (by omega), if_neg (by omega), if_neg (by omega), if_pos cw]
    obtain ⟨g1, g2⟩ := h7 cw
    by_cases c8 : tk.2.2.1 - tk.2.1 ≤ 8
    · have g := g2 c8
      have lp : ∀ (i k : Nat) (x1 : Int32), k + i = 19 → x1.toInt = k → (∀ j, j < k → ¬ (zlw j).toInt = (L 55 27).toInt) → ∃ y : Int32, y.toInt = zkw tk.1 ∧ ∀ M, z_loop X z_cf z_ff (z_pu (z_run X z_cf z_ff (d + 3))) 190 (M + 2 * i + 1) 21 [(0, .ref 55), (1, .int x1)] [] (118, z_sd m, ce, sl, I, L, z_rr t u r q (z_gg m) (z_sf m)) = some (.inl (some (.int y)), (118, z_sd m, ce, sl, I, L, z_rr t u r q (z_gg m) (z_sf m))) := by
        intro i
        induction i with
        | zero =>
          intro k x1 f1 f2 f3
          refine ⟨Int32.ofInt (-1), ?_, fun M => ?_⟩
          · rw [no]
            · rfl
            · rintro ⟨a1, a2⟩
              obtain ⟨w1, w2, w3⟩ := zww_l (tk.1 - 100).toNat (by omega)
              exact f3 (zmow (tk.1 - 100).toNat) (by omega) ((g _ w3).mpr (by rw [w2]; omega))
          · rw [show M + 2 * 0 + 1 = M + 1 by omega, zb_M_knownWord_21, if_pos (by rw [y_i_le]; show (19 : Int) ≤ _; omega)]
        | succ i ih =>
          intro k x1 f1 f2 f3
          have hl := zr_letters X d m ce sl I L t u r q x1 k (by omega) f2
          have n19 : ¬ Int32.ofInt 19 ≤ x1 := by rw [y_i_le]; show ¬ (19 : Int) ≤ _; omega
          by_cases ce' : (zlw k).toInt = (L 55 27).toInt
          · have e := (g k (by omega)).mp ce'
            obtain ⟨c1, c2, c3, c4, c5⟩ := zlw_c k (by omega)
            refine ⟨x1, ?_, fun M => ?_⟩
            · rw [e]
              unfold zkw
              rw [if_pos (by omega), show (100 + (zcm k : Int) - 100).toNat = zcm k by omega, c3, f2]
            · rw [show M + 2 * (i + 1) + 1 = (M + 2 * i + 1) + 1 + 1 by omega, zb_M_knownWord_21, if_neg n19, hl, z_bl_v, zb_M_knownWord_31, if_pos (by rw [z_lg_eq]; exact ce')]
          · obtain ⟨y, y1, y2⟩ := ih (k + 1) (x1 + Int32.ofInt 1) (by omega) (by rw [y_adl (by omega) (by omega) (by omega) (by omega)]; omega) (fun j hj => by
              by_cases e : j = k
              · rw [e]; exact ce'
              · exact f3 j (by omega))
            refine ⟨y, y1, fun M => ?_⟩
            rw [show M + 2 * (i + 1) + 1 = (M + 2 * i + 1) + 1 + 1 by omega, zb_M_knownWord_21, if_neg n19, hl, z_bl_v, zb_M_knownWord_31, if_neg (by rw [z_lg_eq]; exact ce'), y2]
      obtain ⟨y, y1, y2⟩ := lp 19 0 (Int32.ofInt 0) rfl rfl (fun j hj => by omega)
      refine ⟨y, y1, ?_⟩
      refine z_en X (d + 1) _ _ [(0, .ref 55)] _ _ rfl rfl rfl ?_
      rw [show (100000000 : Nat) = (99999960 + 2 * 19 + 1) + 1 by omega, zb_M_knownWord_0, if_pos (y_i_eq.mpr (by omega)), if_pos (by rw [y_i_le]; omega), y2]
    · refine ⟨Int32.ofInt (-1), ?_, ?_⟩
      · rw [no]
        · rfl
        · have := g1 (by omega)
          omega
      · refine z_en X (d + 1) _ _ [(0, .ref 55)] _ _ rfl rfl rfl ?_
        rw [show (100000000 : Nat) = 99999999 + 1 by omega, zb_M_knownWord_0, if_pos (y_i_eq.mpr (by omega)), if_neg (by rw [y_i_le]; omega)]
  · have s1 : (I 55 22).toInt ≠ 1 := by
      rw [h3]
      exact fun h => cw (zso_1.mp h)
    refine ⟨Int32.ofInt (-1), ?_, ?_⟩
    · rw [no (by omega)]
      rfl
    · refine z_en X (d + 1) _ _ [(0, .ref 55)] _ _ rfl rfl rfl ?_
      rw [show (100000000 : Nat) = 99999999 + 1 by omega, zb_M_knownWord_0, if_neg (fun h => s1 (by rw [h]; rfl))]
