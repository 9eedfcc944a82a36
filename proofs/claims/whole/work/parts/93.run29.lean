/-! CALLS, 44: run: how a run is laid out, in both -/
theorem zr_fill26 (X : ZX) (call : ZC) (n0 ce sl : Nat) (L : Nat → Nat → Int64) (t u r q g : Nat) (st : Nat → Option Nat) (v : Int32) (n : Nat) : ∀ (I : Nat → Nat → Int32) (i M : Nat) (x : Int32), i + n = 200 → n < M → x.toInt = i →
    ∃ J : Nat → Nat → Int32, z_loop X z_cf z_ff (z_pu call) 18 M 5 [(0, .ref 26), (1, .int v), (2, .int x), (3, .int (Int32.ofNat 200))] [] (118, n0, ce, sl, I, L, z_rr t u r q g st) = some (.inl none, (118, n0, ce, sl, J, L, z_rr t u r q g st)) ∧ (∀ a, a ≠ 26 → J a = I a) ∧ (∀ j, J 26 j = if i ≤ j ∧ j < 200 then v else I 26 j) := by
  have hl : (Int32.ofNat 200).toInt = 200 := rfl
  induction n with
  | zero =>
    intro I i M x h1 h2 h3
    obtain ⟨M, rfl⟩ : ∃ N, M = N + 1 := ⟨M - 1, by omega⟩
    refine ⟨I, ?_, fun _ _ => rfl, fun j => by rw [if_neg (by omega)]⟩
    rw [zb_Arrays_fill2_26_5, if_pos (by rw [y_i_le, hl]; omega)]
  | succ n ih =>
    intro I i M x h1 h2 h3
    obtain ⟨M, rfl⟩ : ∃ N, M = N + 1 := ⟨M - 1, by omega⟩
    have hxn : x.toNatClampNeg = i := by rw [y_tn, h3]; rfl
    obtain ⟨J, g1, g2, g3⟩ := ih (z_up I 26 i v) (i + 1) M (x + Int32.ofInt 1) (by omega) (by omega) (by rw [y_adl (by omega) (by omega) (by omega) (by omega)]; omega)
    refine ⟨J, ?_, ?_, ?_⟩
    · rw [zb_Arrays_fill2_26_5, if_neg (by rw [y_i_le, hl]; omega), y_in_t (by omega) (by omega), z_gd_t, hxn, g1]
    · intro a ha
      rw [g2 a ha, z_up_r _ _ _ _ _ ha]
    · intro j
      rw [g3 j]
      by_cases c : j = i
      · subst c
        rw [if_neg (by omega), if_pos (by omega), z_up_s]
      · rw [z_up_j _ _ _ _ _ c]
        by_cases c2 : i + 1 ≤ j ∧ j < 200
        · rw [if_pos c2, if_pos (by omega)]
        · rw [if_neg c2, if_neg (by omega)]
theorem zr_fill27 (X : ZX) (call : ZC) (n0 ce sl : Nat) (L : Nat → Nat → Int64) (t u r q g : Nat) (st : Nat → Option Nat) (v : Int32) (n : Nat) : ∀ (I : Nat → Nat → Int32) (i M : Nat) (x : Int32), i + n = 5 → n < M → x.toInt = i →
    ∃ J : Nat → Nat → Int32, z_loop X z_cf z_ff (z_pu call) 18 M 5 [(0, .ref 27), (1, .int v), (2, .int x), (3, .int (Int32.ofNat 5))] [] (118, n0, ce, sl, I, L, z_rr t u r q g st) = some (.inl none, (118, n0, ce, sl, J, L, z_rr t u r q g st)) ∧ (∀ a, a ≠ 27 → J a = I a) ∧ (∀ j, J 27 j = if i ≤ j ∧ j < 5 then v else I 27 j) := by
  have hl : (Int32.ofNat 5).toInt = 5 := rfl
  induction n with
  | zero =>
    intro I i M x h1 h2 h3
    obtain ⟨M, rfl⟩ : ∃ N, M = N + 1 := ⟨M - 1, by omega⟩
    refine ⟨I, ?_, fun _ _ => rfl, fun j => by rw [if_neg (by omega)]⟩
    rw [zb_Arrays_fill2_27_5, if_pos (by rw [y_i_le, hl]; omega)]
  | succ n ih =>
    intro I i M x h1 h2 h3
    obtain ⟨M, rfl⟩ : ∃ N, M = N + 1 := ⟨M - 1, by omega⟩
    have hxn : x.toNatClampNeg = i := by rw [y_tn, h3]; rfl
    obtain ⟨J, g1, g2, g3⟩ := ih (z_up I 27 i v) (i + 1) M (x + Int32.ofInt 1) (by omega) (by omega) (by rw [y_adl (by omega) (by omega) (by omega) (by omega)]; omega)
    refine ⟨J, ?_, ?_, ?_⟩
    · rw [zb_Arrays_fill2_27_5, if_neg (by rw [y_i_le, hl]; omega), y_in_t (by omega) (by omega), z_gd_t, hxn, g1]
    · intro a ha
      rw [g2 a ha, z_up_r _ _ _ _ _ ha]
    · intro j
      rw [g3 j]
      by_cases c : j = i
      · subst c
        rw [if_neg (by omega), if_pos (by omega), z_up_s]
      · rw [z_up_j _ _ _ _ _ c]
        by_cases c2 : i + 1 ≤ j ∧ j < 5
        · rw [if_pos c2, if_pos (by omega)]
        · rw [if_neg c2, if_neg (by omega)]
theorem zr_mfill80 (X : ZX) (call : ZC) (n0 ce sl : Nat) (L : Nat → Nat → Int64) (t u r q g : Nat) (st : Nat → Option Nat) (n : Nat) : ∀ (I : Nat → Nat → Int32) (i : Nat) (x : Int32), i + n = 200 → x.toInt = i →
    ∃ J : Nat → Nat → Int32, (∀ M, z_loop X z_cf z_ff (z_pu call) 208 (M + n + 1) 64 [(0, .ref 55), (2, .int x)] [] (118, n0, ce, sl, I, L, z_rr t u r q g st) = z_loop X z_cf z_ff (z_pu call) 208 M 86 [(0, .ref 55), (2, .int (Int32.ofInt 0))] [] (118, n0, ce, sl, J, L, z_rr t u r q g st)) ∧ (∀ a, a ≠ 80 → J a = I a) ∧ (∀ j, J 80 j = if i ≤ j ∧ j < 200 then Int32.ofInt (-1) else I 80 j) := by
  have hl : (Int32.ofInt 200).toInt = 200 := rfl
  induction n with
  | zero =>
    intro I i x h1 h3
    refine ⟨I, fun M => ?_, fun _ _ => rfl, fun j => by rw [if_neg (by omega)]⟩
    rw [show M + 0 + 1 = M + 1 by omega, zb_M_run_64, if_pos (by rw [y_i_le, hl]; omega)]
  | succ n ih =>
    intro I i x h1 h3
    have hxn : x.toNatClampNeg = i := by rw [y_tn, h3]; rfl
    obtain ⟨J, g1, g2, g3⟩ := ih (z_up I 80 i (Int32.ofInt (-1))) (i + 1) (x + Int32.ofInt 1) (by omega) (by rw [y_adl (by omega) (by omega) (by omega) (by omega)]; omega)
    refine ⟨J, fun M => ?_, ?_, ?_⟩
    · rw [show M + (n + 1) + 1 = (M + n + 1) + 1 by omega, zb_M_run_64, if_neg (by rw [y_i_le, hl]; omega), y_in_t (by omega) (by omega), z_gd_t, hxn, g1]
    · intro a ha
      rw [g2 a ha, z_up_r _ _ _ _ _ ha]
    · intro j
      rw [g3 j]
      by_cases c : j = i
      · subst c
        rw [if_neg (by omega), if_pos (by omega), z_up_s]
      · rw [z_up_j _ _ _ _ _ c]
        by_cases c2 : i + 1 ≤ j ∧ j < 200
        · rw [if_pos c2, if_pos (by omega)]
        · rw [if_neg c2, if_neg (by omega)]
theorem zr_mfill82 (X : ZX) (call : ZC) (n0 ce sl : Nat) (L : Nat → Nat → Int64) (t u r q g : Nat) (st : Nat → Option Nat) (n : Nat) : ∀ (I : Nat → Nat → Int32) (i : Nat) (x : Int32), i + n = 5 → x.toInt = i →
    ∃ J : Nat → Nat → Int32, (∀ M, z_loop X z_cf z_ff (z_pu call) 208 (M + n + 1) 86 [(0, .ref 55), (2, .int x)] [] (118, n0, ce, sl, I, L, z_rr t u r q g st) = z_loop X z_cf z_ff (z_pu call) 208 M 106 [(0, .ref 55), (2, .int (Int32.ofInt 0))] [] (118, n0, ce, sl, J, L, z_rr t u r q g st)) ∧ (∀ a, a ≠ 82 → J a = I a) ∧ (∀ j, J 82 j = if i ≤ j ∧ j < 5 then Int32.ofInt 0 else I 82 j) := by
  have hl : (Int32.ofInt 5).toInt = 5 := rfl
  induction n with
  | zero =>
    intro I i x h1 h3
    refine ⟨I, fun M => ?_, fun _ _ => rfl, fun j => by rw [if_neg (by omega)]⟩
    rw [show M + 0 + 1 = M + 1 by omega, zb_M_run_86, if_pos (by rw [y_i_le, hl]; omega)]
  | succ n ih =>
    intro I i x h1 h3
    have hxn : x.toNatClampNeg = i := by rw [y_tn, h3]; rfl
    obtain ⟨J, g1, g2, g3⟩ := ih (z_up I 82 i (Int32.ofInt 0)) (i + 1) (x + Int32.ofInt 1) (by omega) (by rw [y_adl (by omega) (by omega) (by omega) (by omega)]; omega)
    refine ⟨J, fun M => ?_, ?_, ?_⟩
    · rw [show M + (n + 1) + 1 = (M + n + 1) + 1 by omega, zb_M_run_86, if_neg (by rw [y_i_le, hl]; omega), y_in_t (by omega) (by omega), z_gd_t, hxn, g1]
    · intro a ha
      rw [g2 a ha, z_up_r _ _ _ _ _ ha]
    · intro j
      rw [g3 j]
      by_cases c : j = i
      · subst c
        rw [if_neg (by omega), if_pos (by omega), z_up_s]
      · rw [z_up_j _ _ _ _ _ c]
        by_cases c2 : i + 1 ≤ j ∧ j < 5
        · rw [if_pos c2, if_pos (by omega)]
        · rw [if_neg c2, if_neg (by omega)]
theorem zr_mfill88 (X : ZX) (call : ZC) (n0 ce sl : Nat) (L : Nat → Nat → Int64) (t u r q g : Nat) (st : Nat → Option Nat) {c : Nat} (h40 : c ≤ 40) (n : Nat) : ∀ (I : Nat → Nat → Int32) (i : Nat) (x : Int32), i + n = c → x.toInt = i → (I 55 42).toInt = c →
    ∃ (J : Nat → Nat → Int32) (y : Int32), y.toInt = c ∧ (∀ M, z_loop X z_cf z_ff (z_pu call) 208 (M + n) 106 [(0, .ref 55), (2, .int x)] [] (118, n0, ce, sl, I, L, z_rr t u r q g st) = z_loop X z_cf z_ff (z_pu call) 208 M 106 [(0, .ref 55), (2, .int y)] [] (118, n0, ce, sl, J, L, z_rr t u r q g st)) ∧ (∀ a, a ≠ 88 → J a = I a) ∧ (∀ j, J 88 j = if i ≤ j ∧ j < c then I 79 j else I 88 j) := by
  induction n with
  | zero =>
    intro I i x h1 h3 h4
    refine ⟨I, x, by omega, fun M => rfl, fun _ _ => rfl, fun j => by rw [if_neg (by omega)]⟩
  | succ n ih =>
    intro I i x h1 h3 h4
    have hxn : x.toNatClampNeg = i := by rw [y_tn, h3]; rfl
    obtain ⟨J, y, g0, g1, g2, g3⟩ := ih (z_up I 88 i (I 79 i)) (i + 1) (x + Int32.ofInt 1) (by omega) (by rw [y_adl (by omega) (by omega) (by omega) (by omega)]; omega) (by rw [z_up_r _ _ _ _ _ (by omega)]; exact h4)
    refine ⟨J, y, g0, fun M => ?_, ?_, ?_⟩
    · rw [show M + (n + 1) = (M + n) + 1 by omega, zb_M_run_106, if_neg (by rw [y_i_le, h4]; omega), y_in_t (by omega) (by omega), z_gd_t, hxn]
      exact g1 M
    · intro a ha
      rw [g2 a ha, z_up_r _ _ _ _ _ ha]
    · intro j
      rw [g3 j, z_up_r _ _ _ _ _ (show (79 : Nat) ≠ 88 by omega)]
      by_cases c1 : j = i
      · subst c1
        rw [if_neg (by omega), if_pos (by omega), z_up_s]
      · rw [z_up_j _ _ _ _ _ c1]
        by_cases c2 : i + 1 ≤ j ∧ j < c
        · rw [if_pos c2, if_pos (by omega)]
        · rw [if_neg c2, if_neg (by omega)]
/-- how many ticks are due -/
def zdue (m c : Nat) : Int32 := if 1 ≤ m ∧ 1 ≤ c then Int32.ofInt (m + c - 1) else Int32.ofInt 0
/-- the class sets out -/
theorem zr_begin (X : ZX) (d m ce sl : Nat) (I : Nat → Nat → Int32) (L : Nat → Nat → Int64) (t u r q : Nat) (a : Int32) : ∃ J : Nat → Nat → Int32, z_pu (z_run X z_cf z_ff (d + 7)) 82 [.ref 25, .int a] (118, z_sd m, ce, sl, I, L, z_rr t u r q (z_gg m) (z_sf m)) = some (.inl none, (118, z_sd m, ce, sl, J, L, z_rr t u r q (z_gg m) (z_sf m))) ∧ (∀ x, x ≠ 25 → x ≠ 26 → x ≠ 27 → J x = I x) ∧ J 25 2 = Int32.ofInt 1 ∧ J 25 3 = a ∧ J 25 4 = Int32.ofInt 0 ∧ J 25 5 = Int32.ofInt (-1) ∧ J 25 6 = Int32.ofInt 0 ∧ J 25 7 = Int32.ofInt 0 ∧ J 25 8 = Int32.ofInt 0 ∧ J 25 12 = Int32.ofInt 0 ∧
    (∀ j, J 26 j = if 0 ≤ j ∧ j < 200 then Int32.ofInt (-1) else I 26 j) ∧ (∀ j, J 27 j = if 0 ≤ j ∧ j < 5 then Int32.ofInt 0 else I 27 j) := by
  obtain ⟨B, hB⟩ : ∃ B, B = z_up (z_up (z_up (z_up (z_up (z_up (z_up (z_up I 25 2 (Int32.ofInt 1)) 25 3 a) 25 4 (Int32.ofInt 0)) 25 5 (Int32.ofInt (-1))) 25 6 (Int32.ofInt 0)) 25 7 (Int32.ofInt 0)) 25 8 (Int32.ofInt 0)) 25 12 (Int32.ofInt 0) := ⟨_, rfl⟩
  have hBr : ∀ x, x ≠ 25 → B x = I x := by
    intro x hx
    rw [hB]
    simp only [z_up_r _ _ _ _ _ hx]
  obtain ⟨J1, f1, f2, f3⟩ := zr_fill26 X (z_run X z_cf z_ff (d + 5)) (z_sd m) ce sl L t u r q (z_gg m) (z_sf m) (Int32.ofInt (-1)) 200 B 0 99999999 (Int32.ofInt 0) (by omega) (by omega) rfl
  obtain ⟨J2, g1, g2, g3⟩ := zr_fill27 X (z_run X z_cf z_ff (d + 5)) (z_sd m) ce sl L t u r q (z_gg m) (z_sf m) (Int32.ofInt 0) 5 J1 0 99999999 (Int32.ofInt 0) (by omega) (by omega) rfl
  have h25 : J2 25 = B 25 := by rw [g2 25 (by omega), f2 25 (by omega)]
  refine ⟨J2, ?_, ?_, ?_, ?_, ?_, ?_, ?_, ?_, ?_, ?_, ?_, ?_⟩
  · refine z_en X (d + 4) _ _ [(0, .ref 25), (1, .int a)] _ _ rfl rfl rfl ?_
    have e1 : z_pu (z_run X z_cf z_ff (d + 6)) 18 [.ref 26, .int (Int32.ofInt (-1))] (118, z_sd m, ce, sl, B, L, z_rr t u r q (z_gg m) (z_sf m)) = some (.inl none, (118, z_sd m, ce, sl, J1, L, z_rr t u r q (z_gg m) (z_sf m))) := by
      refine z_en X (d + 3) _ _ [(0, .ref 26), (1, .int (Int32.ofInt (-1)))] _ _ rfl rfl rfl ?_
      rw [show (100000000 : Nat) = 99999999 + 1 by omega, zb_Arrays_fill2_26_0]
      exact f1
    have e2 : z_pu (z_run X z_cf z_ff (d + 6)) 18 [.ref 27, .int (Int32.ofInt 0)] (118, z_sd m, ce, sl, J1, L, z_rr t u r q (z_gg m) (z_sf m)) = some (.inl none, (118, z_sd m, ce, sl, J2, L, z_rr t u r q (z_gg m) (z_sf m))) := by
      refine z_en X (d + 3) _ _ [(0, .ref 27), (1, .int (Int32.ofInt 0))] _ _ rfl rfl rfl ?_
      rw [show (100000000 : Nat) = 99999999 + 1 by omega, zb_Arrays_fill2_27_0]
      exact g1
    rw [show (100000000 : Nat) = 99999997 + 1 + 1 + 1 by omega, zb_Run_begin_0, ← hB, z_b1_1, z_gd_t, e1, z_b0_v, zb_Run_begin_48, e2, z_b0_v, zb_Run_begin_56]
  · intro x x1 x2 x3
    rw [g2 x x3, f2 x x2, hBr x x1]
  · rw [h25, hB]
  · rw [h25, hB]
  · rw [h25, hB]
  · rw [h25, hB]
  · rw [h25, hB]
  · rw [h25, hB]
  · rw [h25, hB]
  · rw [h25, hB]
  · intro j
    rw [g2 26 (by omega), f3 j, hBr 26 (by omega)]
  · intro j
    rw [g3 j, f2 27 (by omega), hBr 27 (by omega)]
/-- the model sets out -/
theorem zr_Mbegin (X : ZX) (d m ce sl : Nat) (I : Nat → Nat → Int32) (L : Nat → Nat → Int64) (t u r q : Nat) (a : Int32) {c : Nat} (h40 : c ≤ 40) (h5 : m ≤ 5) (hc : (I 55 42).toInt = c) (hm : I 55 1 = Int32.ofNat m) (ha0 : 1 ≤ a.toInt) (ha1 : a.toInt ≤ 60000) : ∃ K : Nat → Nat → Int32, (∀ R, (∀ N, 99000000 ≤ N → z_loop X z_cf z_ff (z_pu (z_run X z_cf z_ff (d + 7))) 208 N 167 [(0, .ref 55), (2, .int (zdue m c)), (3, .int (Int32.ofInt 0)), (4, .int (Int32.ofInt 0))] [] (118, z_sd m, ce, sl, K, L, z_rr t u r q (z_gg m) (z_sf m)) = R) → z_pu (z_run X z_cf z_ff (d + 8)) 208 [.ref 55, .int a] (118, z_sd m, ce, sl, I, L, z_rr t u r q (z_gg m) (z_sf m)) = R) ∧
    (∀ x, x ≠ 55 → x ≠ 80 → x ≠ 82 → x ≠ 88 → K x = I x) ∧ (∀ j, j ≠ 0 → (j < 43 ∨ 48 < j) → j ≠ 54 → j ≠ 55 → K 55 j = I 55 j) ∧ K 55 43 = Int32.ofInt 0 ∧ K 55 44 = Int32.ofInt (-1) ∧ K 55 45 = Int32.ofInt 0 ∧ K 55 46 = Int32.ofInt 0 ∧ K 55 54 = Int32.ofInt 0 ∧ K 55 55 = a ∧ K 55 48 = Int32.ofInt 1 ∧ K 55 47 = I 55 1 ∧ K 55 0 = Int32.ofInt 0 ∧
    (∀ j, K 80 j = if 0 ≤ j ∧ j < 200 then Int32.ofInt (-1) else I 80 j) ∧ (∀ j, K 82 j = if 0 ≤ j ∧ j < 5 then Int32.ofInt 0 else I 82 j) ∧ (∀ j, K 88 j = if 0 ≤ j ∧ j < c then I 79 j else I 88 j) := by
  obtain ⟨B, hB⟩ : ∃ B, B = z_up (z_up (z_up (z_up (z_up (z_up (z_up (z_up (z_up I 55 0 (Int32.ofInt 0)) 55 55 a) 55 48 (Int32.ofInt 1)) 55 43 (Int32.ofInt 0)) 55 44 (Int32.ofInt (-1))) 55 45 (Int32.ofInt 0)) 55 46 (Int32.ofInt 0)) 55 54 (Int32.ofInt 0)) 55 47 (I 55 1) := ⟨_, rfl⟩
  have hBr : ∀ x, x ≠ 55 → B x = I x := by
    intro x hx
    rw [hB]
    simp only [z_up_r _ _ _ _ _ hx]
  have hB5 : ∀ j, j ≠ 0 → (j < 43 ∨ 48 < j) → j ≠ 54 → j ≠ 55 → B 55 j = I 55 j := by
    intro j j0 j1 j2 j3
    rw [hB, z_up_j _ _ _ _ _ (show j ≠ 47 by omega), z_up_j _ _ _ _ _ (show j ≠ 54 by omega), z_up_j _ _ _ _ _ (show j ≠ 46 by omega), z_up_j _ _ _ _ _ (show j ≠ 45 by omega), z_up_j _ _ _ _ _ (show j ≠ 44 by omega), z_up_j _ _ _ _ _ (show j ≠ 43 by omega), z_up_j _ _ _ _ _ (show j ≠ 48 by omega), z_up_j _ _ _ _ _ (show j ≠ 55 by omega), z_up_j _ _ _ _ _ (show j ≠ 0 by omega)]
  have hBc : (B 55 42).toInt = c := by rw [hB5 42 (by omega) (by omega) (by omega) (by omega), hc]
  obtain ⟨J1, f1, f2, f3⟩ := zr_mfill80 X (z_run X z_cf z_ff (d + 7)) (z_sd m) ce sl L t u r q (z_gg m) (z_sf m) 200 B 0 (Int32.ofInt 0) (by omega) rfl
  obtain ⟨J2, g1, g2, g3⟩ := zr_mfill82 X (z_run X z_cf z_ff (d + 7)) (z_sd m) ce sl L t u r q (z_gg m) (z_sf m) 5 J1 0 (Int32.ofInt 0) (by omega) rfl
  obtain ⟨J3, y, i0, i1, i2, i3⟩ := zr_mfill88 X (z_run X z_cf z_ff (d + 7)) (z_sd m) ce sl L t u r q (z_gg m) (z_sf m) h40 c J2 0 (Int32.ofInt 0) (by omega) rfl (by rw [g2 55 (by omega), f2 55 (by omega), hBc])
  have h55 : J3 55 = B 55 := by rw [i2 55 (by omega), g2 55 (by omega), f2 55 (by omega)]
  have h3c : (J3 55 42).toInt = c := by rw [h55, hBc]
  have h31 : J3 55 1 = Int32.ofNat m := by rw [h55, hB5 1 (by omega) (by omega) (by omega) (by omega), hm]
  refine ⟨J3, ?_, ?_, ?_, ?_, ?_, ?_, ?_, ?_, ?_, ?_, ?_, ?_, ?_, ?_, ?_⟩
  · intro R hR
    refine z_en X (d + 5) _ _ [(0, .ref 55), (1, .int a)] _ _ rfl rfl rfl ?_
    rw [show (100000000 : Nat) = (99999790 - c + 1 + c + 5 + 1 + 200 + 1) + 2 by omega, zt_M_run_0 X (d + 4), if_neg (by rw [y_mt0]; omega)]
    rw [← hB]
    have e1 := f1 (99999790 - c + 1 + c + 5 + 1)
    have e2 := g1 (99999790 - c + 1 + c)
    have e3 := i1 (99999790 - c + 1)
    rw [e1, e2, e3, zb_M_run_106, if_pos (by rw [y_i_le, h3c]; omega)]
    have hh := hR (99999790 - c) (by omega)
    unfold zdue at hh
    by_cases c1 : c = 0
    · rw [if_pos (by rw [y_i_eq, h3c, y_i0]; omega)]
      rw [if_neg (by omega)] at hh
      exact hh
    · rw [if_neg (by rw [y_i_eq, h3c, y_i0]; omega)]
      by_cases c2 : m = 0
      · rw [if_pos (by rw [y_i_eq, h31, y_on (by omega), y_i0]; omega)]
        rw [if_neg (by omega)] at hh
        exact hh
      · rw [if_neg (by rw [y_i_eq, h31, y_on (by omega), y_i0]; omega)]
        rw [if_pos (by omega)] at hh
        have e : (J3 55 42 + J3 55 1 - Int32.ofInt 1) = Int32.ofInt (m + c - 1) := by
          have e1 : (J3 55 42 + J3 55 1).toInt = c + m := by rw [y_ad (by rw [h3c, h31, y_on (by omega)]; omega) (by rw [h3c, h31, y_on (by omega)]; omega), h3c, h31, y_on (by omega)]
          rw [y_i_eq, y_sbl (by omega) (by omega) (by omega) (by omega), e1, y_oi (by omega) (by omega)]
          omega
        rw [e]
        exact hh
  · intro x x1 x2 x3 x4
    rw [i2 x x4, g2 x x3, f2 x x2, hBr x x1]
  · intro j j1 j2 j3 j4
    rw [h55, hB5 j j1 j2 j3 j4]
  · rw [h55, hB]
  · rw [h55, hB]
  · rw [h55, hB]
  · rw [h55, hB]
  · rw [h55, hB]
  · rw [h55, hB]
  · rw [h55, hB]
  · rw [h55, hB]
  · rw [h55, hB]
  · intro j
    rw [i2 80 (by omega), g2 80 (by omega), f3 j, hBr 80 (by omega)]
  · intro j
    rw [i2 82 (by omega), g3 j, f2 82 (by omega), hBr 82 (by omega)]
  · intro j
    rw [i3 j, g2 79 (by omega), f2 79 (by omega), hBr 79 (by omega), g2 88 (by omega), f2 88 (by omega), hBr 88 (by omega)]
theorem zr_due8 (X : ZX) (d m ce sl : Nat) (I : Nat → Nat → Int32) (L : Nat → Nat → Int64) (t u r q : Nat) {c : Nat} (h40 : c ≤ 40) (h5 : m ≤ 5) (hc : (I 22 2).toInt = c) (hm : I 5 2 = Int32.ofNat m) (M : Nat) : ∃ M', M ≤ M' ∧ z_loop X z_cf z_ff (z_pu (z_run X z_cf z_ff (d + 7))) 81 (M + 4) 5 [(0, .ref 25), (1, .ref 8)] [] (118, z_sd m, ce, sl, I, L, z_rr t u r q (z_gg m) (z_sf m)) = z_loop X z_cf z_ff (z_pu (z_run X z_cf z_ff (d + 7))) 81 M' 52 [(0, .ref 25), (1, .ref 8), (3, .int (zdue m c)), (4, .int (Int32.ofInt 0))] [] (118, z_sd m, ce, sl, I, L, z_rr t u r q (z_gg m) (z_sf m)) := by
  have hm' : (I 5 2).toInt = m := by rw [hm, y_on (by omega)]
  have h1 : (Int32.ofInt 1).toInt = 1 := rfl
  unfold zdue
  rw [show M + 4 = (M + 2) + 1 + 1 by omega, zb_Run_roll_25_8_5, zk_Line_many_0 X (d + 3), z_bi_v, zb_Run_roll_25_8_12]
  by_cases c1 : 1 ≤ m
  · rw [if_neg (by rw [y_i_lt, hm', h1]; omega)]
    by_cases c2 : 1 ≤ c
    · rw [if_pos (by rw [y_i_le, hc, h1]; omega), zk_Line_many_0 X (d + 3), z_bi_v, show M + 2 = (M + 1) + 1 by omega, zb_Run_roll_25_8_38, if_pos (by omega)]
      have e : (I 5 2 + I 22 2 - Int32.ofInt 1) = Int32.ofInt (m + c - 1) := by
        have e1 : (I 5 2 + I 22 2).toInt = m + c := by rw [y_ad (by rw [hm', hc]; omega) (by rw [hm', hc]; omega), hm', hc]
        rw [y_i_eq, y_sbl (by omega) (by omega) (by omega) (by omega), e1, y_oi (by omega) (by omega)]
      rw [e]
      exact ⟨M + 1, by omega, rfl⟩
    · rw [if_neg (by rw [y_i_le, hc, h1]; omega), if_neg (by omega)]
      exact ⟨M + 2, by omega, rfl⟩
  · rw [if_pos (by rw [y_i_lt, hm', h1]; omega), if_neg (by omega)]
    exact ⟨M + 2, by omega, rfl⟩
theorem zr_due15 (X : ZX) (d m ce sl : Nat) (I : Nat → Nat → Int32) (L : Nat → Nat → Int64) (t u r q : Nat) {c : Nat} (h40 : c ≤ 40) (h5 : m ≤ 5) (hc : (I 22 2).toInt = c) (hm : I 5 2 = Int32.ofNat m) (M : Nat) : ∃ M', M ≤ M' ∧ z_loop X z_cf z_ff (z_pu (z_run X z_cf z_ff (d + 7))) 81 (M + 4) 5 [(0, .ref 25), (1, .ref 15)] [] (118, z_sd m, ce, sl, I, L, z_rr t u r q (z_gg m) (z_sf m)) = z_loop X z_cf z_ff (z_pu (z_run X z_cf z_ff (d + 7))) 81 M' 52 [(0, .ref 25), (1, .ref 15), (3, .int (zdue m c)), (4, .int (Int32.ofInt 0))] [] (118, z_sd m, ce, sl, I, L, z_rr t u r q (z_gg m) (z_sf m)) := by
  have hm' : (I 5 2).toInt = m := by rw [hm, y_on (by omega)]
  have h1 : (Int32.ofInt 1).toInt = 1 := rfl
  unfold zdue
  rw [show M + 4 = (M + 2) + 1 + 1 by omega, zb_Run_roll_25_15_5, zk_Line_many_0 X (d + 3), z_bi_v, zb_Run_roll_25_15_12]
  by_cases c1 : 1 ≤ m
  · rw [if_neg (by rw [y_i_lt, hm', h1]; omega)]
    by_cases c2 : 1 ≤ c
    · rw [if_pos (by rw [y_i_le, hc, h1]; omega), zk_Line_many_0 X (d + 3), z_bi_v, show M + 2 = (M + 1) + 1 by omega, zb_Run_roll_25_15_38, if_pos (by omega)]
      have e : (I 5 2 + I 22 2 - Int32.ofInt 1) = Int32.ofInt (m + c - 1) := by
        have e1 : (I 5 2 + I 22 2).toInt = m + c := by rw [y_ad (by rw [hm', hc]; omega) (by rw [hm', hc]; omega), hm', hc]
        rw [y_i_eq, y_sbl (by omega) (by omega) (by omega) (by omega), e1, y_oi (by omega) (by omega)]
      rw [e]
      exact ⟨M + 1, by omega, rfl⟩
    · rw [if_neg (by rw [y_i_le, hc, h1]; omega), if_neg (by omega)]
      exact ⟨M + 2, by omega, rfl⟩
  · rw [if_pos (by rw [y_i_lt, hm', h1]; omega), if_neg (by omega)]
    exact ⟨M + 2, by omega, rfl⟩
