/-! CALLS, 8: stand -/
set_option maxRecDepth 100000 in
theorem zh_add2_119 (X : ZX) (call : ZC) (N n ce sl s : Nat) (I : Nat → Nat → Int32) (L : Nat → Nat → Int64) (R : Nat → Nat → Option Nat) (x : Int32) : z_loop X z_cf z_ff (z_pu call) 5 (N + 1) 0 [(0, .ref 5), (1, .ref s), (2, .ref 119), (3, .int x)] [] (118, n, ce, sl, I, L, R) =
    z_gd (z_al (118, n, ce, sl, I, L, R) 119 && Nat.ble 20 (z_kd 119) && Nat.ble (z_kd 119) 23) (if x = Int32.ofNat 10 then z_br (z_x [] 7) (z_pu call 6 [.ref 5] (118, n, ce, sl, I, L, R)) (fun v w => z_loop X z_cf z_ff (z_pu call) 5 N 10 [(0, .ref 5), (1, .ref s), (3, .int x)] [.ref v] w) else z_gd (z_ok (118, n, ce, sl, I, L, R) 119 23) (z_gd (z_in x 10) (z_gd (z_ok (118, n, ce, sl, I, L, R) s 10) (some (.inl none, (118, n, ce, sl, z_up I 5 2 (x + Int32.ofInt 1), L, z_up R 119 x.toNatClampNeg (some s))))))) := rfl
set_option maxRecDepth 100000 in
theorem zh_add2_1003 (X : ZX) (call : ZC) (N n ce sl s : Nat) (I : Nat → Nat → Int32) (L : Nat → Nat → Int64) (R : Nat → Nat → Option Nat) (x : Int32) : z_loop X z_cf z_ff (z_pu call) 5 (N + 1) 0 [(0, .ref 5), (1, .ref s), (2, .ref 1003), (3, .int x)] [] (118, n, ce, sl, I, L, R) =
    if x = Int32.ofNat 0 then z_br (z_x [] 7) (z_pu call 6 [.ref 5] (118, n, ce, sl, I, L, R)) (fun v w => z_loop X z_cf z_ff (z_pu call) 5 N 10 [(0, .ref 5), (1, .ref s), (3, .int x)] [.ref v] w) else z_gd (z_ok (118, n, ce, sl, I, L, R) 1003 23) (z_gd (z_in x (z_kl 1003)) (z_gd (z_ok (118, n, ce, sl, I, L, R) s 10) (some (.inl none, (118, n, ce, sl, z_up I 5 2 (x + Int32.ofInt 1), L, z_up R 1003 x.toNatClampNeg (some s)))))) := rfl
set_option maxRecDepth 100000 in
theorem zh_add2_10 (X : ZX) (call : ZC) (N n ce sl s : Nat) (I : Nat → Nat → Int32) (L : Nat → Nat → Int64) (R : Nat → Nat → Option Nat) (x : Int32) : z_loop X z_cf z_ff (z_pu call) 5 (N + 1) 10 [(0, .ref 5), (1, .ref s), (3, .int x)] [.ref 119] (118, n, ce, sl, I, L, R) =
    z_gd (z_ok (118, n, ce, sl, I, L, R) 119 23) (z_gd (z_in x 10) (z_gd (z_ok (118, n, ce, sl, I, L, R) s 10) (some (.inl none, (118, n, ce, sl, z_up I 5 2 (x + Int32.ofInt 1), L, z_up R 119 x.toNatClampNeg (some s)))))) := rfl
set_option maxRecDepth 100000 in
theorem zh_grow2 (X : ZX) (call : ZC) (N ce sl : Nat) (I : Nat → Nat → Int32) (L : Nat → Nat → Int64) (t u r q : Nat) (st : Nat → Option Nat) (x : Int32) : z_loop X z_cf z_ff (z_pu call) 7 (N + 1) 0 [(0, .ref 5), (1, .int x)] [] (118, 119, ce, sl, I, L, z_rr t u r q 1003 st) =
    if 0 < Int32.ofNat 0 then none else if z_mxi (Int32.ofInt 10) x = Int32.ofInt 10 then some (.inl (some (.ref 119)), (118, 120, ce + 1, sl + 10, I, L, z_up (z_rr t u r q 1003 st) 5 1 (some 119))) else none := rfl
set_option maxRecDepth 100000 in
theorem zh_grow1 (X : ZX) (call : ZC) (N n ce sl : Nat) (I : Nat → Nat → Int32) (L : Nat → Nat → Int64) (R : Nat → Nat → Option Nat) : z_loop X z_cf z_ff (z_pu call) 6 (N + 1) 10 [] [.ref 119] (118, n, ce, sl, I, L, R) = some (.inl (some (.ref 119)), (118, n, ce, sl, I, L, R)) := rfl
theorem z_rr_st {t u r q g a k : Nat} {st st' : Nat → Option Nat} (h : a = 119 → st k = st' k) : z_rr t u r q g st a k = z_rr t u r q g st' a k := by
  have e : z_dd t u r q g st a k = z_dd t u r q g st' a k := by
    by_cases e : a = 119
    · subst e
      exact h rfl
    · unfold z_dd
      rw [z_beq_n e]
  show z_rs (z_dd t u r q g st) a k = z_rs (z_dd t u r q g st') a k
  unfold z_rs
  rw [e]
theorem z_sf_lt {m k : Nat} (h : k < m) (h5 : k < 5) : z_sf m k = some (z_sd k) := by
  unfold z_sf
  have e1 : Nat.blt k m = true := Nat.ble_eq_true_of_le h
  have e2 : Nat.blt k 5 = true := Nat.ble_eq_true_of_le h5
  rw [e1, e2]
  rfl
theorem z_sf_no {m k : Nat} (h : m ≤ k) : z_sf m k = none := by
  unfold z_sf
  have e1 : Nat.blt k m = false := by
    cases e : Nat.blt k m
    · rfl
    · have := Nat.le_of_ble_eq_true e
      omega
  rw [e1]
  rfl
theorem z_sf_next {m k : Nat} (h : k ≠ m) (hm : m < 5) : z_sf m k = z_sf (m + 1) k := by
  by_cases h1 : k < m
  · rw [z_sf_lt h1 (by omega), z_sf_lt (by omega) (by omega)]
  · rw [z_sf_no (by omega), z_sf_no (by omega)]
theorem z_rr_add {t u r q m : Nat} (hm : m < 5) : z_up (z_rr t u r q 119 (z_sf m)) 119 m (some (z_sd m)) = z_rr t u r q 119 (z_sf (m + 1)) := by
  funext a k
  by_cases ha : a = 119
  · subst ha
    by_cases hk : k = m
    · subst hk
      rw [z_up_s]
      exact (z_sf_lt (by omega) hm).symm
    · rw [z_up_j _ _ _ _ _ hk]
      exact z_rr_st (fun _ => z_sf_next hk hm)
  · rw [z_up_rj _ _ _ _ _ _ ha]
    exact z_rr_st (fun h => absurd h ha)
theorem z_rr_grow {t u r q : Nat} {st : Nat → Option Nat} : z_up (z_rr t u r q 1003 st) 5 1 (some 119) = z_rr t u r q 119 st := by
  funext a k
  by_cases ha : a = 5
  · subst ha
    by_cases hk : k = 1
    · subst hk
      rfl
    · rw [z_up_j _ _ _ _ _ hk]
      show z_c (Nat.beq k 1) (some 1003) none = z_c (Nat.beq k 1) (some 119) none
      rw [z_beq_n hk]
  · rw [z_up_rj _ _ _ _ _ _ ha]
    have e : z_dd t u r q 1003 st a k = z_dd t u r q 119 st a k := by
      unfold z_dd
      rw [z_beq_n ha]
    show z_rs (z_dd t u r q 1003 st) a k = z_rs (z_dd t u r q 119 st) a k
    unfold z_rs
    rw [e, z_beq_n ha]
    rfl
theorem z_sdn {m : Nat} (h : 1 ≤ m) : z_sd m = 119 + m := by
  cases m with
  | zero => omega
  | succ m => rfl
/-- the list takes a stand more -/
theorem zr_add (X : ZX) (d m ce sl : Nat) (I : Nat → Nat → Int32) (L : Nat → Nat → Int64) (t u r q : Nat) (hm : m < 5) (hs : I 5 2 = Int32.ofNat m) : ∃ ce' sl' : Nat, ce' ≤ ce + 1 ∧ sl' ≤ sl + 10 ∧
    z_pu (z_run X z_cf z_ff (d + 8)) 34 [.ref 1, .ref (z_sd m)] (118, z_sd m + 1, ce, sl, I, L, z_rr t u r q (z_gg m) (z_sf m)) = some (.inl (some (.int (Int32.ofNat m))), zw (m + 1) t u r q ce' sl' (z_up (z_up I 5 0 (I 5 0 + Int32.ofInt 1)) 5 2 (Int32.ofNat (m + 1))) L) := by
  have hin : z_in (Int32.ofNat m) 10 = true := z_in_n (by omega) (by omega)
  have key : ∃ ce' sl' : Nat, ce' ≤ ce + 1 ∧ sl' ≤ sl + 10 ∧ z_pu (z_run X z_cf z_ff (d + 7)) 4 [.ref 5, .ref (z_sd m)] (118, z_sd m + 1, ce, sl, I, L, z_rr t u r q (z_gg m) (z_sf m)) = some (.inl (some (.int (Int32.ofInt 1))), zw (m + 1) t u r q ce' sl' (z_up (z_up I 5 0 (I 5 0 + Int32.ofInt 1)) 5 2 (Int32.ofNat (m + 1))) L) := by
    cases m with
    | zero =>
      refine ⟨ce + 1, sl + 10, by omega, by omega, ?_⟩
      have hs0 : I 5 2 = Int32.ofNat 0 := hs
      refine z_en X (d + 4) _ _ [(0, .ref 5), (1, .ref (z_sd 0))] _ _ rfl rfl rfl ?_
      have e6 : z_pu (z_run X z_cf z_ff (d + 5)) 6 [.ref 5] (118, 119, ce, sl, z_up I 5 0 (I 5 0 + Int32.ofInt 1), L, z_rr t u r q 1003 (z_sf 0)) = some (.inl (some (.ref 119)), (118, 120, ce + 1, sl + 10, z_up I 5 0 (I 5 0 + Int32.ofInt 1), L, z_rr t u r q 119 (z_sf 0))) := by
        refine z_en X (d + 2) _ _ [(0, .ref 5)] _ _ rfl rfl rfl ?_
        have e7 : z_pu (z_run X z_cf z_ff (d + 4)) 7 [.ref 5, .int (I 5 2 + Int32.ofInt 1)] (118, 119, ce, sl, z_up I 5 0 (I 5 0 + Int32.ofInt 1), L, z_rr t u r q 1003 (z_sf 0)) = some (.inl (some (.ref 119)), (118, 120, ce + 1, sl + 10, z_up I 5 0 (I 5 0 + Int32.ofInt 1), L, z_rr t u r q 119 (z_sf 0))) := by
          refine z_en X (d + 1) _ _ [(0, .ref 5), (1, .int (I 5 2 + Int32.ofInt 1))] _ _ rfl rfl rfl ?_
          rw [zh_grow2, if_neg (by decide), hs0, if_pos (by decide), z_rr_grow]
        rw [zb_ArrayList_grow1_0]
        have e8 : (z_up I 5 0 (I 5 0 + Int32.ofInt 1)) 5 2 = I 5 2 := rfl
        rw [e8, e7, z_br_v, zh_grow1]
      have e5 : z_pu (z_run X z_cf z_ff (d + 6)) 5 [.ref 5, .ref (z_sd 0), .ref 1003, .int (I 5 2)] (118, 119, ce, sl, z_up I 5 0 (I 5 0 + Int32.ofInt 1), L, z_rr t u r q 1003 (z_sf 0)) = some (.inl none, (118, 120, ce + 1, sl + 10, z_up (z_up I 5 0 (I 5 0 + Int32.ofInt 1)) 5 2 (Int32.ofNat 1), L, z_rr t u r q 119 (z_sf 1))) := by
        refine z_en X (d + 3) _ _ [(0, .ref 5), (1, .ref (z_sd 0)), (2, .ref 1003), (3, .int (I 5 2))] _ _ rfl rfl rfl ?_
        rw [zh_add2_1003, if_pos hs0, e6, z_br_v, zh_add2_10, hs0, hin]
        have e9 : z_up (z_rr t u r q 119 (z_sf 0)) 119 0 (some (z_sd 0)) = z_rr t u r q 119 (z_sf 1) := z_rr_add (by omega)
        show some (Sum.inl none, 118, 120, ce + 1, sl + 10, z_up (z_up I 5 0 (I 5 0 + Int32.ofInt 1)) 5 2 (Int32.ofNat 0 + Int32.ofInt 1), L, z_up (z_rr t u r q 119 (z_sf 0)) 119 0 (some (z_sd 0))) = _
        rw [e9]
        rfl
      show z_loop X z_cf z_ff (z_pu (z_run X z_cf z_ff (d + 6))) 4 100000000 0 [(0, .ref 5), (1, .ref (z_sd 0))] [] (118, 119, ce, sl, I, L, z_rr t u r q 1003 (z_sf 0)) = _
      rw [zb_ArrayList_add1_0_1003, e5, z_b0_v, zb_ArrayList_add1_23, z_b1_1]
      rfl
    | succ m =>
      refine ⟨ce, sl, by omega, by omega, ?_⟩
      have h119 : Nat.blt 119 (119 + (m + 1) + 1) = true := Nat.ble_eq_true_of_le (by omega)
      have hok : ∀ (I' : Nat → Nat → Int32) (R : Nat → Nat → Option Nat), z_ok (118, z_sd (m + 1) + 1, ce, sl, I', L, R) 119 23 = true := by
        intro I' R
        show ((Nat.blt 119 118 || Nat.blt 119 (119 + (m + 1) + 1)) && Nat.beq (z_kd 119) 23) = true
        rw [h119]
        rfl
      have hal : ∀ (I' : Nat → Nat → Int32) (R : Nat → Nat → Option Nat), (z_al (118, z_sd (m + 1) + 1, ce, sl, I', L, R) 119 && Nat.ble 20 (z_kd 119) && Nat.ble (z_kd 119) 23) = true := by
        intro I' R
        show ((Nat.blt 119 118 || Nat.blt 119 (119 + (m + 1) + 1)) && Nat.ble 20 (z_kd 119) && Nat.ble (z_kd 119) 23) = true
        rw [h119]
        rfl
      have hokS : ∀ (I' : Nat → Nat → Int32) (R : Nat → Nat → Option Nat), z_ok (118, z_sd (m + 1) + 1, ce, sl, I', L, R) (z_sd (m + 1)) 10 = true := by
        intro I' R
        exact z_okS (k := m + 1) (m := m + 2) (by omega) hm 118 ce sl I' L R
      refine z_en X (d + 4) _ _ [(0, .ref 5), (1, .ref (z_sd (m + 1)))] _ _ rfl rfl rfl ?_
      have e5 : z_pu (z_run X z_cf z_ff (d + 6)) 5 [.ref 5, .ref (z_sd (m + 1)), .ref 119, .int (I 5 2)] (118, z_sd (m + 1) + 1, ce, sl, z_up I 5 0 (I 5 0 + Int32.ofInt 1), L, z_rr t u r q 119 (z_sf (m + 1))) = some (.inl none, (118, z_sd (m + 1) + 1, ce, sl, z_up (z_up I 5 0 (I 5 0 + Int32.ofInt 1)) 5 2 (Int32.ofNat (m + 2)), L, z_rr t u r q 119 (z_sf (m + 2)))) := by
        refine z_en X (d + 3) _ _ [(0, .ref 5), (1, .ref (z_sd (m + 1))), (2, .ref 119), (3, .int (I 5 2))] _ _ rfl rfl rfl ?_
        rw [zh_add2_119, hal, z_gd_t, hs, if_neg (by rw [y_i_eq, y_on (by omega), y_on (by omega)]; omega), hok, z_gd_t, hin, z_gd_t, hokS, z_gd_t, z_onn (by omega), z_ofa (by omega), z_rr_add (by omega)]
      show z_loop X z_cf z_ff (z_pu (z_run X z_cf z_ff (d + 6))) 4 100000000 0 [(0, .ref 5), (1, .ref (z_sd (m + 1)))] [] (118, z_sd (m + 1) + 1, ce, sl, I, L, z_rr t u r q 119 (z_sf (m + 1))) = _
      rw [zb_ArrayList_add1_0_119, e5, z_b0_v, zb_ArrayList_add1_23, z_b1_1]
      rfl
  obtain ⟨ce', sl', h1, h2, h3⟩ := key
  refine ⟨ce', sl', h1, h2, ?_⟩
  refine z_en X (d + 5) _ _ [(0, .ref 1), (1, .ref (z_sd m))] _ _ rfl rfl rfl ?_
  rw [zb_Line_addStand_0, h3, z_bi_v, zb_Line_addStand_8, zk_ArrayList_size_0 X (d + 4), z_bi_v, zb_Line_addStand_16, z_up_s, z_ofs (by omega) (by omega)]
  rfl
/-- a stand more: the world that has it -/
def zQs (m t u r q ce sl : Nat) (I : Nat → Nat → Int32) (L : Nat → Nat → Int64) (C : Nat) (w : ZW) : Prop :=
  ∃ (m' ce' sl' : Nat) (J : Nat → Nat → Int32), w = zw m' t u r q ce' sl' J L ∧ ce' ≤ ce + 2 ∧ sl' ≤ sl + 25 ∧ m ≤ m' ∧ zg_S C m' J ∧ (m' = m ∨ (J 25 2 = Int32.ofInt 0 ∧ J 55 48 = Int32.ofInt 0)) ∧ (m' = m → J 25 = I 25 ∧ J 55 48 = I 55 48) ∧
    (∀ a, a < 118 → a ≠ 5 → a ≠ 25 → a ≠ 55 → (a < 56 ∨ 66 < a) → J a = I a) ∧ (∀ j, j ≠ 0 → j ≠ 1 → j ≠ 48 → J 55 j = I 55 j)
theorem zo_stand (X : ZX) (d m ce sl : Nat) (I : Nat → Nat → Int32) (L : Nat → Nat → Int64) (t u r q : Nat) {C : Nat} (hS : zg_S C m I) (x1 x2 x3 x4 x5 x6 x7 x8 : Int32) :
    zOX X (d + 200) 119 [.ref 0, .int x1, .int x2, .int x3, .int x4, .int x5, .int x6, .int x7, .int x8] 165 [.ref 55, .int x1, .int x2, .int x3, .int x4, .int x5, .int x6, .int x7, .int x8] (118, z_sd m, ce, sl, I, L, z_rr t u r q (z_gg m) (z_sf m)) (zQs m t u r q ce sl I L C) := by
  have hS0 := hS
  obtain ⟨h5, hs, hm, h1, hf⟩ := hS
  have hs' : (I 5 2).toInt = m := by rw [hs, y_on (by omega)]
  have hm' : (I 55 1).toInt = m := by rw [hm, y_on (by omega)]
  have hk2 : (I 55 1).toInt.toNat = m := by omega
  have hk3 : (I 55 1).toNatClampNeg = m := by rw [y_tn, hk2]
  have e30 : z_pu (z_run X z_cf z_ff (d + 199)) 30 [.ref 1] (118, z_sd m, ce, sl, I, L, z_rr t u r q (z_gg m) (z_sf m)) = some (.inl (some (.int (I 5 2))), (118, z_sd m, ce, sl, I, L, z_rr t u r q (z_gg m) (z_sf m))) := zk_Line_many_0 X (d + 195) m ce sl I L t u r q
  by_cases c : m < 5 ∧ (1 ≤ x1.toInt ∧ x1.toInt ≤ 999) ∧ (1 ≤ x2.toInt ∧ x2.toInt ≤ 9999999) ∧ (0 ≤ x3.toInt ∧ x3.toInt ≤ 60000) ∧ (x3.toInt ≤ x4.toInt ∧ x4.toInt ≤ 60000) ∧ (1 ≤ x5.toInt ∧ x5.toInt ≤ 60000) ∧ (1 ≤ x6.toInt ∧ x6.toInt ≤ 999) ∧ (100 ≤ x7.toInt ∧ x7.toInt ≤ 4000) ∧ (0 ≤ x8.toInt ∧ x8.toInt ≤ 9)
  · obtain ⟨c0, c1, c2, c3, c4, c5, c6, c7, c8⟩ := c
    have hfr : z_p_X_isFrame x1 x2 x3 x4 = Int32.ofInt 1 := by
      unfold z_p_X_isFrame
      rw [if_neg (by rw [y_wi0, y_oi (by omega) (by omega), y_oi (by omega) (by omega)]; omega), if_neg (by rw [y_wi0, y_oi (by omega) (by omega), y_oi (by omega) (by omega)]; omega), if_neg (by rw [y_wi0, y_oi (by omega) (by omega), y_oi (by omega) (by omega)]; omega), if_neg (by rw [y_wi0, y_oi (by omega) (by omega)]; omega)]
    have hdr : z_p_X_isDrive x5 x6 x7 x8 = Int32.ofInt 1 := by
      unfold z_p_X_isDrive
      rw [if_neg (by rw [y_wi0, y_oi (by omega) (by omega), y_oi (by omega) (by omega)]; omega), if_neg (by rw [y_wi0, y_oi (by omega) (by omega), y_oi (by omega) (by omega)]; omega), if_neg (by rw [y_wi0, y_oi (by omega) (by omega), y_oi (by omega) (by omega)]; omega), if_neg (by rw [y_wi0, y_oi (by omega) (by omega), y_oi (by omega) (by omega)]; omega)]
    obtain ⟨J1, hJ1⟩ : ∃ J, J = z_up (z_up (z_up (z_up (z_up (z_up (z_up (z_up (z_up (z_up I (z_sd m) 0 x1) (z_sd m) 1 x2) (z_sd m) 2 x3) (z_sd m) 3 x4) (z_sd m) 8 x4) (z_sd m) 4 x5) (z_sd m) 5 x6) (z_sd m) 6 x7) (z_sd m) 7 x8) 25 2 (Int32.ofInt 0) := ⟨_, rfl⟩
    have hst : ∀ a, a < 118 → a ≠ 25 → J1 a = I a := by
      intro a ha hb
      rw [hJ1, z_up_r _ _ _ _ _ hb, z_up_st _ _ _ _ _ ha, z_up_st _ _ _ _ _ ha, z_up_st _ _ _ _ _ ha, z_up_st _ _ _ _ _ ha, z_up_st _ _ _ _ _ ha, z_up_st _ _ _ _ _ ha, z_up_st _ _ _ _ _ ha, z_up_st _ _ _ _ _ ha, z_up_st _ _ _ _ _ ha]
    have hs2 : J1 5 2 = Int32.ofNat m := by rw [hst 5 (by omega) (by omega), hs]
    obtain ⟨ce', sl', g1, g2, g3⟩ := zr_add X (d + 191) m (ce + 1) (sl + 15) J1 L t u r q c0 hs2
    obtain ⟨J, hJ⟩ : ∃ J, J = z_up (z_up J1 5 0 (J1 5 0 + Int32.ofInt 1)) 5 2 (Int32.ofNat (m + 1)) := ⟨_, rfl⟩
    rw [← hJ] at g3
    have j55 : J 55 = I 55 := by rw [hJ, z_up_r _ _ _ _ _ (by omega), z_up_r _ _ _ _ _ (by omega), hst 55 (by omega) (by omega)]
    have hge := z_sd_ge m
    have hokn : ∀ (I' : Nat → Nat → Int32) (ce sl : Nat) (R : Nat → Nat → Option Nat), z_ok (118, z_sd m + 1, ce, sl, I', L, R) (z_sd m) 10 = true := by
      intro I' ce sl R
      show ((Nat.blt (z_sd m) 118 || Nat.blt (z_sd m) (z_sd m + 1)) && Nat.beq (z_kd (z_sd m)) 10) = true
      rw [z_sd_kd c0, show Nat.blt (z_sd m) (z_sd m + 1) = true from Nat.ble_eq_true_of_le (Nat.le_refl _), Bool.or_true]
      rfl
    have hnew : (Nat.beq (z_kd (z_sd m)) 10 && Nat.blt (z_sd m) 1000) = true := by
      have e : z_sd m < 1000 := by
        rcases Nat.eq_zero_or_pos m with h0 | h0
        · rw [h0]; decide
        · rw [z_sdn h0]; omega
      rw [z_sd_kd c0, show Nat.blt (z_sd m) 1000 = true from Nat.ble_eq_true_of_le e]
      rfl
    obtain ⟨F, hF⟩ : ∃ F, F = z_up (z_up (z_up (z_up (z_up (z_up (z_up (z_up (z_up (z_up (z_up (z_up (z_up (z_up J 55 0 (Int32.ofInt 0)) 56 m x1) 57 m x2) 58 m x3) 59 m x4) 60 m x5) 61 m x6) 62 m x7) 63 m x8) 64 m x4) 65 m (Int32.ofInt 0)) 66 m (Int32.ofInt 0)) 55 1 (I 55 1 + Int32.ofInt 1)) 55 48 (Int32.ofInt 0) := ⟨_, rfl⟩
    have fsd : ∀ k, F (z_sd k) = J (z_sd k) := by
      intro k
      have hge2 := z_sd_ge k
      rw [hF, z_up_r _ _ _ _ _ (by omega), z_up_r _ _ _ _ _ (by omega), z_up_r _ _ _ _ _ (by omega), z_up_r _ _ _ _ _ (by omega), z_up_r _ _ _ _ _ (by omega), z_up_r _ _ _ _ _ (by omega), z_up_r _ _ _ _ _ (by omega), z_up_r _ _ _ _ _ (by omega), z_up_r _ _ _ _ _ (by omega), z_up_r _ _ _ _ _ (by omega), z_up_r _ _ _ _ _ (by omega), z_up_r _ _ _ _ _ (by omega), z_up_r _ _ _ _ _ (by omega), z_up_r _ _ _ _ _ (by omega)]
    have f56 : ∀ j, F 56 j = if j = m then x1 else J 56 j := by
      intro j
      rw [hF]
      exact y_at J 56 m j x1
    have f57 : ∀ j, F 57 j = if j = m then x2 else J 57 j := by
      intro j
      rw [hF]
      exact y_at J 57 m j x2
    have f58 : ∀ j, F 58 j = if j = m then x3 else J 58 j := by
      intro j
      rw [hF]
      exact y_at J 58 m j x3
    have f59 : ∀ j, F 59 j = if j = m then x4 else J 59 j := by
      intro j
      rw [hF]
      exact y_at J 59 m j x4
    have f60 : ∀ j, F 60 j = if j = m then x5 else J 60 j := by
      intro j
      rw [hF]
      exact y_at J 60 m j x5
    have f61 : ∀ j, F 61 j = if j = m then x6 else J 61 j := by
      intro j
      rw [hF]
      exact y_at J 61 m j x6
    have f62 : ∀ j, F 62 j = if j = m then x7 else J 62 j := by
      intro j
      rw [hF]
      exact y_at J 62 m j x7
    have f63 : ∀ j, F 63 j = if j = m then x8 else J 63 j := by
      intro j
      rw [hF]
      exact y_at J 63 m j x8
    have f64 : ∀ j, F 64 j = if j = m then x4 else J 64 j := by
      intro j
      rw [hF]
      exact y_at J 64 m j x4
    have f65 : ∀ j, F 65 j = if j = m then (Int32.ofInt 0) else J 65 j := by
      intro j
      rw [hF]
      exact y_at J 65 m j (Int32.ofInt 0)
    have f66 : ∀ j, F 66 j = if j = m then (Int32.ofInt 0) else J 66 j := by
      intro j
      rw [hF]
      exact y_at J 66 m j (Int32.ofInt 0)
    have y1 : ∀ a, a < 118 → a ≠ 25 → a ≠ 5 → J a = I a := by
      intro a a1 a2 a3
      rw [hJ, z_up_r _ _ _ _ _ a3, z_up_r _ _ _ _ _ a3, hst a a1 a2]
    have ysd : ∀ k, k ≠ m → J (z_sd k) = I (z_sd k) := by
      intro k hkm
      have hne : z_sd k ≠ z_sd m := fun e => hkm (z_sd_inj e)
      have hge2 := z_sd_ge k
      rw [hJ, hJ1, z_up_r _ _ _ _ _ (by omega), z_up_r _ _ _ _ _ (by omega), z_up_r _ _ _ _ _ (by omega), z_up_r _ _ _ _ _ hne, z_up_r _ _ _ _ _ hne, z_up_r _ _ _ _ _ hne, z_up_r _ _ _ _ _ hne, z_up_r _ _ _ _ _ hne, z_up_r _ _ _ _ _ hne, z_up_r _ _ _ _ _ hne, z_up_r _ _ _ _ _ hne, z_up_r _ _ _ _ _ hne]
    have ym : ∀ j, J (z_sd m) j = if j = 7 then x8 else if j = 6 then x7 else if j = 5 then x6 else if j = 4 then x5 else if j = 8 then x4 else if j = 3 then x4 else if j = 2 then x3 else if j = 1 then x2 else if j = 0 then x1 else 0 := by
      intro j
      rw [hJ, z_up_rj _ _ _ _ _ _ (by omega), z_up_rj _ _ _ _ _ _ (by omega), hJ1, z_up_rj _ _ _ _ _ _ (by omega), y_at, y_at, y_at, y_at, y_at, y_at, y_at, y_at, y_at, hf m (Nat.le_refl _) c0]
    refine ⟨Int32.ofNat m, zw (m + 1) t u r q ce' sl' J L, zw (m + 1) t u r q ce' sl' (F) L, ?_, ?_, ⟨m + 1, ce', sl', _, rfl, by omega, by omega, by omega, ⟨by omega, ?_, ?_, ?_, ?_⟩, Or.inr ⟨?_, ?_⟩, fun h => absurd h (by omega), ?_, ?_⟩⟩
    · refine z_en X (d + 197) _ _ [(0, .ref 0), (1, .int x1), (2, .int x2), (3, .int x3), (4, .int x4), (5, .int x5), (6, .int x6), (7, .int x7), (8, .int x8)] _ _ rfl rfl rfl ?_
      have e31 : z_pu (z_run X z_cf z_ff (d + 199)) 31 [.ref (z_sd m), .int x1, .int x2, .int x3, .int x4] (118, z_sd m + 1, ce + 1, sl + 15, I, L, z_rr t u r q (z_gg m) (z_sf m)) = some (.inl none, (118, z_sd m + 1, ce + 1, sl + 15, z_up (z_up (z_up (z_up (z_up I (z_sd m) 0 x1) (z_sd m) 1 x2) (z_sd m) 2 x3) (z_sd m) 3 x4) (z_sd m) 8 x4, L, z_rr t u r q (z_gg m) (z_sf m))) := by
        refine z_en X (d + 196) _ _ [(0, .ref (z_sd m)), (1, .int x1), (2, .int x2), (3, .int x3), (4, .int x4)] _ _ rfl rfl rfl ?_
        rw [zb_Stand_init_0, hokn]
      have e32 : z_pu (z_run X z_cf z_ff (d + 199)) 32 [.ref (z_sd m), .int x5, .int x6, .int x7, .int x8] (118, z_sd m + 1, ce + 1, sl + 15, z_up (z_up (z_up (z_up (z_up I (z_sd m) 0 x1) (z_sd m) 1 x2) (z_sd m) 2 x3) (z_sd m) 3 x4) (z_sd m) 8 x4, L, z_rr t u r q (z_gg m) (z_sf m)) = some (.inl none, (118, z_sd m + 1, ce + 1, sl + 15, z_up (z_up (z_up (z_up (z_up (z_up (z_up (z_up (z_up I (z_sd m) 0 x1) (z_sd m) 1 x2) (z_sd m) 2 x3) (z_sd m) 3 x4) (z_sd m) 8 x4) (z_sd m) 4 x5) (z_sd m) 5 x6) (z_sd m) 6 x7) (z_sd m) 7 x8, L, z_rr t u r q (z_gg m) (z_sf m))) := by
        refine z_en X (d + 196) _ _ [(0, .ref (z_sd m)), (1, .int x5), (2, .int x6), (3, .int x7), (4, .int x8)] _ _ rfl rfl rfl ?_
        rw [zb_Stand_setDrive_0, hokn]
      have e33 : z_pu (z_run X z_cf z_ff (d + 199)) 33 [.ref 25] (118, z_sd m + 1, ce + 1, sl + 15, z_up (z_up (z_up (z_up (z_up (z_up (z_up (z_up (z_up I (z_sd m) 0 x1) (z_sd m) 1 x2) (z_sd m) 2 x3) (z_sd m) 3 x4) (z_sd m) 8 x4) (z_sd m) 4 x5) (z_sd m) 5 x6) (z_sd m) 6 x7) (z_sd m) 7 x8, L, z_rr t u r q (z_gg m) (z_sf m)) = some (.inl none, (118, z_sd m + 1, ce + 1, sl + 15, J1, L, z_rr t u r q (z_gg m) (z_sf m))) := by
        refine z_en X (d + 196) _ _ [(0, .ref 25)] _ _ rfl rfl rfl ?_
        rw [zb_Run_forget_0, z_b1_0, hJ1]
      rw [zb_X_stand_0, e30, z_bi_v, zb_X_stand_7, if_neg (by rw [y_i_le, hs', y_oi (by omega) (by omega)]; omega), hfr, if_neg (by decide), hdr, if_neg (by decide), hnew, z_gd_t, e31, z_b0_v, zb_X_stand_50, hokn, z_gd_t, e32, z_b0_v, zb_X_stand_65, e33, z_b0_v, zb_X_stand_72, g3, z_bi_v, zb_X_stand_81]
    · rw [zk_M_stand_0 X (d + 197), j55]
      simp (disch := omega) only [y_wmI, y_i_le, y_i_lt, y_i_eq, y_i0, y_oi, if_true, if_false, if_pos, if_neg, ite_self, z_gd_in, hk3]
      have e : I 55 1 + Int32.ofInt 1 - Int32.ofInt 1 = Int32.ofNat m := by rw [hm, z_ofa (by omega), z_ofs (by omega) (by omega)]; rfl
      rw [e, hF]
    · rw [hF, hJ]
    · rw [hF]
      show I 55 1 + Int32.ofInt 1 = _
      rw [hm, z_ofa (by omega)]
    · intro k hk
      by_cases hkm : k = m
      · subst hkm
        unfold zg_S1
        simp only [fsd, ym, f56, f57, f58, f59, f60, f61, f62, f63, f64, f65, f66, if_true]
        have z0 : (Int32.ofInt 0).toInt = 0 := rfl
        refine ⟨?_, ?_⟩
        · repeat' constructor
        · omega
      · have hsame : ∀ a, 56 ≤ a → a ≤ 66 → F a k = I a k := by
          intro a a1 a2
          have e := y1 a (by omega) (by omega) (by omega)
          rw [← e]
          have hc : a = 56 ∨ a = 57 ∨ a = 58 ∨ a = 59 ∨ a = 60 ∨ a = 61 ∨ a = 62 ∨ a = 63 ∨ a = 64 ∨ a = 65 ∨ a = 66 := by omega
          rcases hc with h | h | h | h | h | h | h | h | h | h | h <;> subst h
          · rw [f56, if_neg hkm]
          · rw [f57, if_neg hkm]
          · rw [f58, if_neg hkm]
          · rw [f59, if_neg hkm]
          · rw [f60, if_neg hkm]
          · rw [f61, if_neg hkm]
          · rw [f62, if_neg hkm]
          · rw [f63, if_neg hkm]
          · rw [f64, if_neg hkm]
          · rw [f65, if_neg hkm]
          · rw [f66, if_neg hkm]
        refine zg_S1_fr (I := I) (C := C) (h1 k (by omega)) (Nat.le_refl _) ?_ hsame
        rw [fsd, ysd k hkm]
        exact ⟨rfl, rfl, rfl, rfl, rfl, rfl, rfl, rfl, rfl, rfl, rfl⟩
    · intro k k1 k2 j
      rw [fsd, ysd k (by omega)]
      exact hf k (by omega) k2 j
    · rw [hF, hJ, hJ1]
    · rw [hF]
    · intro a a1 a2 a3 a4 a5
      rw [hF, z_up_r _ _ _ _ _ (by omega), z_up_r _ _ _ _ _ (by omega), z_up_r _ _ _ _ _ (by omega), z_up_r _ _ _ _ _ (by omega), z_up_r _ _ _ _ _ (by omega), z_up_r _ _ _ _ _ (by omega), z_up_r _ _ _ _ _ (by omega), z_up_r _ _ _ _ _ (by omega), z_up_r _ _ _ _ _ (by omega), z_up_r _ _ _ _ _ (by omega), z_up_r _ _ _ _ _ (by omega), z_up_r _ _ _ _ _ (by omega), z_up_r _ _ _ _ _ (by omega), z_up_r _ _ _ _ _ (by omega), y1 a a1 a3 a2]
    · intro j j1 j2 j3
      rw [hF, z_up_j _ _ _ _ _ j3, z_up_j _ _ _ _ _ j2]
      show z_up J 55 0 (Int32.ofInt 0) 55 j = I 55 j
      rw [z_up_j _ _ _ _ _ j1, j55]
  · refine ⟨Int32.ofInt (-1), zw m t u r q ce sl I L, zw m t u r q ce sl (z_up I 55 0 (Int32.ofInt 0)) L, ?_, ?_, ⟨m, ce, sl, _, rfl, by omega, by omega, Nat.le_refl _, zg_S_fr hS0 (Nat.le_refl C) (fun k _ => z_up_r _ _ _ _ _ (by have := z_sd_ge k; omega)) rfl rfl (fun a a1 a2 => z_up_r _ _ _ _ _ (by omega)), Or.inl rfl, fun _ => ⟨rfl, rfl⟩, fun a _ _ _ h _ => z_up_r _ _ _ _ _ h, fun j h _ _ => z_up_j _ _ _ _ _ h⟩⟩
    · refine z_en X (d + 197) _ _ [(0, .ref 0), (1, .int x1), (2, .int x2), (3, .int x3), (4, .int x4), (5, .int x5), (6, .int x6), (7, .int x7), (8, .int x8)] _ _ rfl rfl rfl ?_
      rw [zb_X_stand_0, e30, z_bi_v, zb_X_stand_7]
      by_cases b0 : m < 5
      · rw [if_neg (by rw [y_i_le, hs', y_oi (by omega) (by omega)]; omega)]
        by_cases b1 : z_p_X_isFrame x1 x2 x3 x4 = 0
        · rw [if_pos b1]
        · rw [if_neg b1]
          by_cases b2 : z_p_X_isDrive x5 x6 x7 x8 = 0
          · rw [if_pos b2]
          · exfalso
            apply c
            unfold z_p_X_isFrame at b1
            unfold z_p_X_isDrive at b2
            simp (disch := omega) only [y_wi0, y_oi] at b1 b2
            have hz : (Int32.ofInt 0 : Int32) = 0 := rfl
            by_cases d1 : 1 ≤ x1.toInt ∧ x1.toInt ≤ 999
            · by_cases d2 : 1 ≤ x2.toInt ∧ x2.toInt ≤ 9999999
              · by_cases d3 : 0 ≤ x3.toInt ∧ x3.toInt ≤ 60000
                · by_cases d4 : x3.toInt ≤ x4.toInt ∧ x4.toInt ≤ 60000
                  · by_cases d5 : 1 ≤ x5.toInt ∧ x5.toInt ≤ 60000
                    · by_cases d6 : 1 ≤ x6.toInt ∧ x6.toInt ≤ 999
                      · by_cases d7 : 100 ≤ x7.toInt ∧ x7.toInt ≤ 4000
                        · by_cases d8 : 0 ≤ x8.toInt ∧ x8.toInt ≤ 9
                          · exact ⟨b0, d1, d2, d3, d4, d5, d6, d7, d8⟩
                          · exact absurd (by rw [if_neg (fun h => h d5), if_neg (fun h => h d6), if_neg (fun h => h d7), if_pos d8]; rfl) b2
                        · exact absurd (by rw [if_neg (fun h => h d5), if_neg (fun h => h d6), if_pos d7]; rfl) b2
                      · exact absurd (by rw [if_neg (fun h => h d5), if_pos d6]; rfl) b2
                    · exact absurd (by rw [if_pos d5]; rfl) b2
                  · exact absurd (by rw [if_neg (fun h => h d1), if_neg (fun h => h d2), if_neg (fun h => h d3), if_pos d4]; rfl) b1
                · exact absurd (by rw [if_neg (fun h => h d1), if_neg (fun h => h d2), if_pos d3]; rfl) b1
              · exact absurd (by rw [if_neg (fun h => h d1), if_pos d2]; rfl) b1
            · exact absurd (by rw [if_pos d1]; rfl) b1
      · rw [if_pos (by rw [y_i_le, hs', y_oi (by omega) (by omega)]; omega)]
    · rw [zk_M_stand_0 X (d + 197)]
      have fin : ∀ (P : Prop) [Decidable P] (a b : ZR), a = b → (if P then a else b) = b := by
        intro P _ a b h
        rw [h, ite_self]
      by_cases b0 : m < 5
      · have hne : ¬ I 55 1 = Int32.ofInt 5 := by rw [y_i_eq, hm', y_oi (by omega) (by omega)]; omega
        simp only [hne, if_false, ite_self]
        by_cases d1 : 1 ≤ x1.toInt ∧ x1.toInt ≤ 999
        · by_cases d2 : 1 ≤ x2.toInt ∧ x2.toInt ≤ 9999999
          · by_cases d3 : 0 ≤ x3.toInt ∧ x3.toInt ≤ 60000
            · by_cases d4 : x3.toInt ≤ x4.toInt ∧ x4.toInt ≤ 60000
              · by_cases d5 : 1 ≤ x5.toInt ∧ x5.toInt ≤ 60000
                · by_cases d6 : 1 ≤ x6.toInt ∧ x6.toInt ≤ 999
                  · by_cases d7 : 100 ≤ x7.toInt ∧ x7.toInt ≤ 4000
                    · have d8 : ¬ (0 ≤ x8.toInt ∧ x8.toInt ≤ 9) := fun d8 => c ⟨b0, d1, d2, d3, d4, d5, d6, d7, d8⟩
                      simp (disch := omega) only [y_wm0, y_oi, d1, d2, d3, d4, d5, d6, d7, not_true_eq_false, if_false, and_self]
                      rw [if_pos d8]
                    · simp (disch := omega) only [y_wm0, y_oi, d1, d2, d3, d4, d5, d6, not_true_eq_false, if_false, and_self]
                      rw [if_pos d7]
                  · simp (disch := omega) only [y_wm0, y_oi, d1, d2, d3, d4, d5, not_true_eq_false, if_false, and_self]
                    rw [if_pos d6]
                · simp (disch := omega) only [y_wm0, y_oi, d1, d2, d3, d4, not_true_eq_false, if_false, and_self]
                  rw [if_pos d5]
              · simp (disch := omega) only [y_wm0, y_oi, d1, d2, d3, not_true_eq_false, if_false, and_self]
                rw [if_pos d4]
            · simp (disch := omega) only [y_wm0, y_oi, d1, d2, not_true_eq_false, if_false, and_self]
              rw [if_pos d3]
          · simp (disch := omega) only [y_wm0, y_oi, d1, not_true_eq_false, if_false, and_self]
            rw [if_pos d2]
        · simp (disch := omega) only [y_wm0, y_oi]
          rw [if_pos d1]
      · have hne : I 55 1 = Int32.ofInt 5 := by rw [y_i_eq, hm', y_oi (by omega) (by omega)]; omega
        simp only [hne, if_true, ite_self]
