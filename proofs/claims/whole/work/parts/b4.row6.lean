/-! ROW, 6: the best row, in the class -/
theorem zn_p2 : ∀ l, l < 9 → ∀ k, k < 9 → (2 ^ l = 2 ^ k ↔ l = k) := by decide +kernel
theorem zr_lfill46 (X : ZX) (d n0 ce sl : Nat) (I : Nat → Nat → Int32) (t u r q g : Nat) (st : Nat → Option Nat) (v : Int64) (L : Nat → Nat → Int64) : ∃ L' : Nat → Nat → Int64, (∀ a, a ≠ 46 → L' a = L a) ∧ (∀ y, y < 4608 → L' 46 y = v) ∧ z_pu (z_run X z_cf z_ff (d + 3)) 10 [.ref 46, .long v] (118, n0, ce, sl, I, L, z_rr t u r q g st) = some (.inl none, (118, n0, ce, sl, I, L', z_rr t u r q g st)) := by
  have hl : (Int32.ofNat 4608).toInt = 4608 := rfl
  have lp : ∀ k, ∀ (i : Nat) (x : Int32) (L1 : Nat → Nat → Int64), i + k = 4608 → x.toInt = i → (∀ a, a ≠ 46 → L1 a = L a) → (∀ y, y < i → L1 46 y = v) → ∃ L' : Nat → Nat → Int64, (∀ a, a ≠ 46 → L' a = L a) ∧ (∀ y, y < 4608 → L' 46 y = v) ∧ ∀ M, z_loop X z_cf z_ff (z_pu (z_run X z_cf z_ff (d + 2))) 10 (M + k + 1) 6 [(0, .ref 46), (1, .long v), (3, .int x), (4, .int (Int32.ofNat 4608))] [] (118, n0, ce, sl, I, L1, z_rr t u r q g st) = some (.inl none, (118, n0, ce, sl, I, L', z_rr t u r q g st)) := by
    intro k
    induction k with
    | zero =>
      intro i x L1 a1 a2 a3 a4
      refine ⟨L1, a3, fun y hy => a4 y (by omega), fun M => ?_⟩
      rw [show M + 0 + 1 = M + 1 by omega, zb_Arrays_fill1_46_6, if_pos (by rw [y_i_le, hl]; omega)]
    | succ k ih =>
      intro i x L1 a1 a2 a3 a4
      have hxn : x.toNatClampNeg = i := by rw [y_tn, a2]; rfl
      obtain ⟨L', g1, g2, g3⟩ := ih (i + 1) (x + Int32.ofInt 1) (z_up L1 46 i v) (by omega) (by rw [y_adl (by omega) (by omega) (by omega) (by omega)]; omega) (fun a ha => by rw [z_up_r _ _ _ _ _ ha, a3 a ha]) (fun y hy => by
        by_cases c : y = i
        · subst c
          rw [z_up_s]
        · rw [z_up_j _ _ _ _ _ c]
          exact a4 y (by omega))
      refine ⟨L', g1, g2, fun M => ?_⟩
      rw [show M + (k + 1) + 1 = (M + k + 1) + 1 by omega, zb_Arrays_fill1_46_6, if_neg (by rw [y_i_le, hl]; omega), y_in_t (by omega) (by omega), z_gd_t, hxn]
      exact g3 M
  obtain ⟨L', g1, g2, g3⟩ := lp 4608 0 (Int32.ofInt 0) L (by omega) rfl (fun _ _ => rfl) (fun y hy => by omega)
  refine ⟨L', g1, g2, ?_⟩
  refine z_en X d _ _ [(0, .ref 46), (1, .long v)] _ _ rfl rfl rfl ?_
  rw [zb_Arrays_fill1_46_0, show (99999999 : Nat) = 99995390 + 4608 + 1 by omega]
  exact g3 _
theorem zr_lfill47 (X : ZX) (d n0 ce sl : Nat) (I : Nat → Nat → Int32) (t u r q g : Nat) (st : Nat → Option Nat) (v : Int64) (L : Nat → Nat → Int64) : ∃ L' : Nat → Nat → Int64, (∀ a, a ≠ 47 → L' a = L a) ∧ (∀ y, y < 4608 → L' 47 y = v) ∧ z_pu (z_run X z_cf z_ff (d + 3)) 10 [.ref 47, .long v] (118, n0, ce, sl, I, L, z_rr t u r q g st) = some (.inl none, (118, n0, ce, sl, I, L', z_rr t u r q g st)) := by
  have hl : (Int32.ofNat 4608).toInt = 4608 := rfl
  have lp : ∀ k, ∀ (i : Nat) (x : Int32) (L1 : Nat → Nat → Int64), i + k = 4608 → x.toInt = i → (∀ a, a ≠ 47 → L1 a = L a) → (∀ y, y < i → L1 47 y = v) → ∃ L' : Nat → Nat → Int64, (∀ a, a ≠ 47 → L' a = L a) ∧ (∀ y, y < 4608 → L' 47 y = v) ∧ ∀ M, z_loop X z_cf z_ff (z_pu (z_run X z_cf z_ff (d + 2))) 10 (M + k + 1) 6 [(0, .ref 47), (1, .long v), (3, .int x), (4, .int (Int32.ofNat 4608))] [] (118, n0, ce, sl, I, L1, z_rr t u r q g st) = some (.inl none, (118, n0, ce, sl, I, L', z_rr t u r q g st)) := by
    intro k
    induction k with
    | zero =>
      intro i x L1 a1 a2 a3 a4
      refine ⟨L1, a3, fun y hy => a4 y (by omega), fun M => ?_⟩
      rw [show M + 0 + 1 = M + 1 by omega, zb_Arrays_fill1_47_6, if_pos (by rw [y_i_le, hl]; omega)]
    | succ k ih =>
      intro i x L1 a1 a2 a3 a4
      have hxn : x.toNatClampNeg = i := by rw [y_tn, a2]; rfl
      obtain ⟨L', g1, g2, g3⟩ := ih (i + 1) (x + Int32.ofInt 1) (z_up L1 47 i v) (by omega) (by rw [y_adl (by omega) (by omega) (by omega) (by omega)]; omega) (fun a ha => by rw [z_up_r _ _ _ _ _ ha, a3 a ha]) (fun y hy => by
        by_cases c : y = i
        · subst c
          rw [z_up_s]
        · rw [z_up_j _ _ _ _ _ c]
          exact a4 y (by omega))
      refine ⟨L', g1, g2, fun M => ?_⟩
      rw [show M + (k + 1) + 1 = (M + k + 1) + 1 by omega, zb_Arrays_fill1_47_6, if_neg (by rw [y_i_le, hl]; omega), y_in_t (by omega) (by omega), z_gd_t, hxn]
      exact g3 M
  obtain ⟨L', g1, g2, g3⟩ := lp 4608 0 (Int32.ofInt 0) L (by omega) rfl (fun _ _ => rfl) (fun y hy => by omega)
  refine ⟨L', g1, g2, ?_⟩
  refine z_en X d _ _ [(0, .ref 47), (1, .long v)] _ _ rfl rfl rfl ?_
  rw [zb_Arrays_fill1_47_0, show (99999999 : Nat) = 99995390 + 4608 + 1 by omega]
  exact g3 _
theorem zr_init46 (X : ZX) (d m0 ce sl : Nat) (I : Nat → Nat → Int32) (t u : Nat) {n : Nat} (hO : zOr I n) (hn : I 41 4 = Int32.ofNat n) (L : Nat → Nat → Int64) (hL : ∀ y, y < 4608 → L 46 y = Int64.ofInt 9223372036854775807) : ∃ L' : Nat → Nat → Int64, (∀ a, a ≠ 46 → L' a = L a) ∧ (∀ S l, S < 512 → l < 9 → zIsM (zQ0 I n 0 (fun _ _ _ => False) S l) (L' 46 (9 * S + l)).toInt) ∧ ∀ M, z_loop X z_cf z_ff (z_pu (z_run X z_cf z_ff (d + 3))) 40 (M + 2 * n + 2) 12 [(0, .ref 41), (1, .int (Int32.ofInt 0))] [] (118, z_sd m0, ce, sl, I, L, z_rr t u 46 47 (z_gg m0) (z_sf m0)) = z_loop X z_cf z_ff (z_pu (z_run X z_cf z_ff (d + 3))) 40 (M + 1) 63 [(0, .ref 41), (1, .long (Int64.ofInt 9223372036854775807)), (3, .int (Int32.ofInt 0))] [] (118, z_sd m0, ce, sl, I, L', z_rr t u 46 47 (z_gg m0) (z_sf m0)) := by
  have hM : zMX = 9223372036854775807 := rfl
  have hMe : (Int64.ofInt 9223372036854775807).toInt = 9223372036854775807 := y_ol (by omega) (by omega)
  have hn9 := hO.1
  have hn' : (I 41 4).toInt = n := by rw [hn, y_on (by omega)]
  have lp : ∀ k, ∀ (j : Nat) (x1 : Int32) (L1 : Nat → Nat → Int64), j + k = n → x1.toInt = j → (∀ a, a ≠ 46 → L1 a = L a) → (∀ S l, S < 512 → l < 9 → (L1 46 (9 * S + l)).toInt = if S = 2 ^ l ∧ l < j then zk0 I l else zMX) → ∃ L' : Nat → Nat → Int64, (∀ a, a ≠ 46 → L' a = L a) ∧ (∀ S l, S < 512 → l < 9 → (L' 46 (9 * S + l)).toInt = if S = 2 ^ l ∧ l < n then zk0 I l else zMX) ∧ ∀ M, z_loop X z_cf z_ff (z_pu (z_run X z_cf z_ff (d + 3))) 40 (M + 2 * k + 2) 12 [(0, .ref 41), (1, .int x1)] [] (118, z_sd m0, ce, sl, I, L1, z_rr t u 46 47 (z_gg m0) (z_sf m0)) = z_loop X z_cf z_ff (z_pu (z_run X z_cf z_ff (d + 3))) 40 (M + 1) 63 [(0, .ref 41), (1, .long (Int64.ofInt 9223372036854775807)), (3, .int (Int32.ofInt 0))] [] (118, z_sd m0, ce, sl, I, L', z_rr t u 46 47 (z_gg m0) (z_sf m0)) := by
    intro k
    induction k with
    | zero =>
      intro j x1 L1 a1 a2 a3 a4
      have e : j = n := by omega
      subst e
      refine ⟨L1, a3, a4, fun M => ?_⟩
      rw [show M + 2 * 0 + 2 = M + 2 by omega, zt_Orders_bestRow_12_46 X d, if_pos (by rw [y_i_le]; omega)]
    | succ k ih =>
      intro j x1 L1 a1 a2 a3 a4
      have hj : j < n := by omega
      have hx1 : x1 = Int32.ofNat j := y_nat a2
      have hx1n : x1.toNatClampNeg = j := by rw [y_tn, a2]; rfl
      have p512 : 2 ^ j < 512 := by
        have := zp2_lt hj hn9
        have := zp2_512 hn9
        omega
      have hone : (Int32.ofInt 1 <<< (x1 &&& 31)).toInt = ((2 ^ j : Nat) : Int) := by rw [hx1, zbits_one j (by omega), y_on (by omega)]
      have hix := z_oix hone a2 p512 (by omega)
      have hixn : (z_p_Orders_indexOf (Int32.ofInt 1 <<< (x1 &&& 31)) x1).toNatClampNeg = 9 * 2 ^ j + j := by rw [y_tn, hix]; rfl
      have hin : z_in (z_p_Orders_indexOf (Int32.ofInt 1 <<< (x1 &&& 31)) x1) 4608 = true := y_in_t (by omega) (by omega)
      have hin9 : z_in x1 9 = true := y_in_t (by omega) (by omega)
      have hoj := hO.2 j hj
      have ht := zk_late hO hj (y := I 44 j) (by omega) (by omega)
      have ho : (x1.toInt64 <<< ((z_p_Orders_orderShift (Int32.ofInt 0)).toInt64 &&& 63)).toInt = (j : Int) * zoP 0 := by rw [hx1]; exact zks_o 0 (by omega) j (by omega)
      have hz := zolate_r hO hj (e := (I 44 j).toInt) (by omega)
      have hp := zoP_m 0 (by omega) j (by omega)
      obtain ⟨v, hv⟩ : ∃ v, v = ((Int32.ofInt 2 * z_mxi (Int32.ofInt 0) (I 44 j - I 45 j)).toInt64 <<< ((Int32.ofInt 48).toInt64 &&& 63)) + (x1.toInt64 <<< ((z_p_Orders_orderShift (Int32.ofInt 0)).toInt64 &&& 63)) := ⟨_, rfl⟩
      have hv0 : v.toInt = zk0 I j := by
        rw [hv, y_ad8 (by omega) (by omega), ht, ho]
        rfl
      obtain ⟨L', g1, g2, g3⟩ := ih (j + 1) (x1 + Int32.ofInt 1) (z_up L1 46 (9 * 2 ^ j + j) v) (by omega) (by rw [y_adl (by omega) (by omega) (by omega) (by omega)]; omega) (fun a ha => by rw [z_up_r _ _ _ _ _ ha, a3 a ha]) (by
        intro S l h1 h2
        by_cases c : S = 2 ^ j ∧ l = j
        · obtain ⟨c1, c2⟩ := c
          subst c1
          subst c2
          rw [z_up_s, hv0, if_pos ⟨rfl, by omega⟩]
        · rw [z_up_j _ _ _ _ _ (by omega), a4 S l h1 h2]
          by_cases c1 : S = 2 ^ l ∧ l < j
          · rw [if_pos c1, if_pos ⟨c1.1, by omega⟩]
          · rw [if_neg c1, if_neg]
            intro x
            by_cases cl : l = j
            · subst cl
              exact c ⟨x.1, rfl⟩
            · exact c1 ⟨x.1, by omega⟩)
      refine ⟨L', g1, g2, fun M => ?_⟩
      rw [show M + 2 * (k + 1) + 2 = (M + 2 * k + 2) + 2 by omega, zt_Orders_bestRow_12_46 X d, if_neg (by rw [y_i_le]; omega), hin9, z_gd_t, z_gd_t, hin, z_gd_t, hixn, hx1n, ← hv]
      exact g3 M
  obtain ⟨L', g1, g2, g3⟩ := lp n 0 (Int32.ofInt 0) L (by omega) rfl (fun _ _ => rfl) (fun S l h1 h2 => by rw [hL _ (by omega), hMe, if_neg (by omega), hM])
  refine ⟨L', g1, fun S l h1 h2 => ?_, g3⟩
  rw [g2 S l h1 h2]
  by_cases c : S = 2 ^ l ∧ l < n
  · rw [if_pos c]
    refine ⟨fun key hk => ?_, Or.inr (Or.inl ⟨rfl, c.2, c.1, rfl⟩)⟩
    rcases hk with ⟨b1, b2, b3, b4⟩ | ⟨m, S0, l0, c0, f, key0, b1, b2, b3, b4, b5, b6, b7, b8⟩
    · omega
    · rcases b8 with b8 | b8
      · omega
      · exact absurd b8 id
  · rw [if_neg c]
    refine zIsM_no (fun key hk => ?_)
    rcases hk with ⟨b1, b2, b3, b4⟩ | ⟨m, S0, l0, c0, f, key0, b1, b2, b3, b4, b5, b6, b7, b8⟩
    · exact c ⟨b3, b2⟩
    · rcases b8 with b8 | b8
      · omega
      · exact absurd b8 id
theorem zr_init47 (X : ZX) (d m0 ce sl : Nat) (I : Nat → Nat → Int32) (t u : Nat) {n : Nat} (hO : zOr I n) (hn : I 41 4 = Int32.ofNat n) (L : Nat → Nat → Int64) (hL : ∀ y, y < 4608 → L 47 y = Int64.ofInt 9223372036854775807) : ∃ L' : Nat → Nat → Int64, (∀ a, a ≠ 47 → L' a = L a) ∧ (∀ S l, S < 512 → l < 9 → zIsM (zQ0 I n 0 (fun _ _ _ => False) S l) (L' 47 (9 * S + l)).toInt) ∧ ∀ M, z_loop X z_cf z_ff (z_pu (z_run X z_cf z_ff (d + 3))) 40 (M + 2 * n + 2) 12 [(0, .ref 41), (1, .int (Int32.ofInt 0))] [] (118, z_sd m0, ce, sl, I, L, z_rr t u 47 46 (z_gg m0) (z_sf m0)) = z_loop X z_cf z_ff (z_pu (z_run X z_cf z_ff (d + 3))) 40 (M + 1) 63 [(0, .ref 41), (1, .long (Int64.ofInt 9223372036854775807)), (3, .int (Int32.ofInt 0))] [] (118, z_sd m0, ce, sl, I, L', z_rr t u 47 46 (z_gg m0) (z_sf m0)) := by
  have hM : zMX = 9223372036854775807 := rfl
  have hMe : (Int64.ofInt 9223372036854775807).toInt = 9223372036854775807 := y_ol (by omega) (by omega)
  have hn9 := hO.1
  have hn' : (I 41 4).toInt = n := by rw [hn, y_on (by omega)]
  have lp : ∀ k, ∀ (j : Nat) (x1 : Int32) (L1 : Nat → Nat → Int64), j + k = n → x1.toInt = j → (∀ a, a ≠ 47 → L1 a = L a) → (∀ S l, S < 512 → l < 9 → (L1 47 (9 * S + l)).toInt = if S = 2 ^ l ∧ l < j then zk0 I l else zMX) → ∃ L' : Nat → Nat → Int64, (∀ a, a ≠ 47 → L' a = L a) ∧ (∀ S l, S < 512 → l < 9 → (L' 47 (9 * S + l)).toInt = if S = 2 ^ l ∧ l < n then zk0 I l else zMX) ∧ ∀ M, z_loop X z_cf z_ff (z_pu (z_run X z_cf z_ff (d + 3))) 40 (M + 2 * k + 2) 12 [(0, .ref 41), (1, .int x1)] [] (118, z_sd m0, ce, sl, I, L1, z_rr t u 47 46 (z_gg m0) (z_sf m0)) = z_loop X z_cf z_ff (z_pu (z_run X z_cf z_ff (d + 3))) 40 (M + 1) 63 [(0, .ref 41), (1, .long (Int64.ofInt 9223372036854775807)), (3, .int (Int32.ofInt 0))] [] (118, z_sd m0, ce, sl, I, L', z_rr t u 47 46 (z_gg m0) (z_sf m0)) := by
    intro k
    induction k with
    | zero =>
      intro j x1 L1 a1 a2 a3 a4
      have e : j = n := by omega
      subst e
      refine ⟨L1, a3, a4, fun M => ?_⟩
      rw [show M + 2 * 0 + 2 = M + 2 by omega, zt_Orders_bestRow_12_47 X d, if_pos (by rw [y_i_le]; omega)]
    | succ k ih =>
      intro j x1 L1 a1 a2 a3 a4
      have hj : j < n := by omega
      have hx1 : x1 = Int32.ofNat j := y_nat a2
      have hx1n : x1.toNatClampNeg = j := by rw [y_tn, a2]; rfl
      have p512 : 2 ^ j < 512 := by
        have := zp2_lt hj hn9
        have := zp2_512 hn9
        omega
      have hone : (Int32.ofInt 1 <<< (x1 &&& 31)).toInt = ((2 ^ j : Nat) : Int) := by rw [hx1, zbits_one j (by omega), y_on (by omega)]
      have hix := z_oix hone a2 p512 (by omega)
      have hixn : (z_p_Orders_indexOf (Int32.ofInt 1 <<< (x1 &&& 31)) x1).toNatClampNeg = 9 * 2 ^ j + j := by rw [y_tn, hix]; rfl
      have hin : z_in (z_p_Orders_indexOf (Int32.ofInt 1 <<< (x1 &&& 31)) x1) 4608 = true := y_in_t (by omega) (by omega)
      have hin9 : z_in x1 9 = true := y_in_t (by omega) (by omega)
      have hoj := hO.2 j hj
      have ht := zk_late hO hj (y := I 44 j) (by omega) (by omega)
      have ho : (x1.toInt64 <<< ((z_p_Orders_orderShift (Int32.ofInt 0)).toInt64 &&& 63)).toInt = (j : Int) * zoP 0 := by rw [hx1]; exact zks_o 0 (by omega) j (by omega)
      have hz := zolate_r hO hj (e := (I 44 j).toInt) (by omega)
      have hp := zoP_m 0 (by omega) j (by omega)
      obtain ⟨v, hv⟩ : ∃ v, v = ((Int32.ofInt 2 * z_mxi (Int32.ofInt 0) (I 44 j - I 45 j)).toInt64 <<< ((Int32.ofInt 48).toInt64 &&& 63)) + (x1.toInt64 <<< ((z_p_Orders_orderShift (Int32.ofInt 0)).toInt64 &&& 63)) := ⟨_, rfl⟩
      have hv0 : v.toInt = zk0 I j := by
        rw [hv, y_ad8 (by omega) (by omega), ht, ho]
        rfl
      obtain ⟨L', g1, g2, g3⟩ := ih (j + 1) (x1 + Int32.ofInt 1) (z_up L1 47 (9 * 2 ^ j + j) v) (by omega) (by rw [y_adl (by omega) (by omega) (by omega) (by omega)]; omega) (fun a ha => by rw [z_up_r _ _ _ _ _ ha, a3 a ha]) (by
        intro S l h1 h2
        by_cases c : S = 2 ^ j ∧ l = j
        · obtain ⟨c1, c2⟩ := c
          subst c1
          subst c2
          rw [z_up_s, hv0, if_pos ⟨rfl, by omega⟩]
        · rw [z_up_j _ _ _ _ _ (by omega), a4 S l h1 h2]
          by_cases c1 : S = 2 ^ l ∧ l < j
          · rw [if_pos c1, if_pos ⟨c1.1, by omega⟩]
          · rw [if_neg c1, if_neg]
            intro x
            by_cases cl : l = j
            · subst cl
              exact c ⟨x.1, rfl⟩
            · exact c1 ⟨x.1, by omega⟩)
      refine ⟨L', g1, g2, fun M => ?_⟩
      rw [show M + 2 * (k + 1) + 2 = (M + 2 * k + 2) + 2 by omega, zt_Orders_bestRow_12_47 X d, if_neg (by rw [y_i_le]; omega), hin9, z_gd_t, z_gd_t, hin, z_gd_t, hixn, hx1n, ← hv]
      exact g3 M
  obtain ⟨L', g1, g2, g3⟩ := lp n 0 (Int32.ofInt 0) L (by omega) rfl (fun _ _ => rfl) (fun S l h1 h2 => by rw [hL _ (by omega), hMe, if_neg (by omega), hM])
  refine ⟨L', g1, fun S l h1 h2 => ?_, g3⟩
  rw [g2 S l h1 h2]
  by_cases c : S = 2 ^ l ∧ l < n
  · rw [if_pos c]
    refine ⟨fun key hk => ?_, Or.inr (Or.inl ⟨rfl, c.2, c.1, rfl⟩)⟩
    rcases hk with ⟨b1, b2, b3, b4⟩ | ⟨m, S0, l0, c0, f, key0, b1, b2, b3, b4, b5, b6, b7, b8⟩
    · omega
    · rcases b8 with b8 | b8
      · omega
      · exact absurd b8 id
  · rw [if_neg c]
    refine zIsM_no (fun key hk => ?_)
    rcases hk with ⟨b1, b2, b3, b4⟩ | ⟨m, S0, l0, c0, f, key0, b1, b2, b3, b4, b5, b6, b7, b8⟩
    · exact c ⟨b3, b2⟩
    · rcases b8 with b8 | b8
      · omega
      · exact absurd b8 id
theorem zr_round46 (X : ZX) (d m0 ce sl : Nat) (I : Nat → Nat → Int32) (t u : Nat) {n c : Nat} (hO : zOr I n) (hn1 : 1 ≤ n) (hn : I 41 4 = Int32.ofNat n) (hc : c < n) (x1 : Int64) (x3 : Int32) (h3 : x3.toInt = c) (L : Nat → Nat → Int64) (hA : ∀ S l, S < 512 → l < 9 → zIsM (zQ0 I n c (fun _ _ _ => False) S l) (L 46 (9 * S + l)).toInt) (hf : zIsM (fun key => ∃ m l c', c' < c ∧ zPR I n m (2 ^ n - 1) l c' key) x1.toInt) : ∃ (L' : Nat → Nat → Int64) (y : Int64), (∀ a, a ≠ 46 → a ≠ 47 → L' a = L a) ∧ (∀ S l, S < 512 → l < 9 → zIsM (zQ0 I n (c + 1) (fun _ _ _ => False) S l) (L' 47 (9 * S + l)).toInt) ∧ zIsM (fun key => ∃ m l c', c' < c + 1 ∧ zPR I n m (2 ^ n - 1) l c' key) y.toInt ∧ ∀ M, z_loop X z_cf z_ff (z_pu (z_run X z_cf z_ff (d + 5))) 40 (M + 3) 63 [(0, .ref 41), (1, .long x1), (3, .int x3)] [] (118, z_sd m0, ce, sl, I, L, z_rr t u 46 47 (z_gg m0) (z_sf m0)) = z_loop X z_cf z_ff (z_pu (z_run X z_cf z_ff (d + 5))) 40 M 63 [(0, .ref 41), (1, .long y), (3, .int (x3 + Int32.ofInt 1))] [] (118, z_sd m0, ce, sl, I, L', z_rr t u 47 46 (z_gg m0) (z_sf m0)) := by
  have hM : zMX = 9223372036854775807 := rfl
  have hMe : (Int64.ofInt 9223372036854775807).toInt = 9223372036854775807 := y_ol (by omega) (by omega)
  have hn9 := hO.1
  have hn' : (I 41 4).toInt = n := by rw [hn, y_on (by omega)]
  obtain ⟨L1, f1, f2, f3⟩ := zr_lfill47 X (d + 2) (z_sd m0) ce sl I t u 46 47 (z_gg m0) (z_sf m0) (Int64.ofInt 9223372036854775807) L
  have hR : zRD2 I n c (zDs 1) (L1 46) (L1 47) := by
    refine ⟨fun S l h1 h2 => ?_, fun S l h1 h2 => ?_⟩
    · rw [f1 46 (by omega)]
      refine zIsM_c (hA S l h1 h2) (fun key => ⟨fun x => ?_, fun x => ?_⟩)
      · rcases x with x | ⟨m, S0, l0, c0, f, key0, b1, b2, b3, b4, b5, b6, b7, b8⟩
        · exact Or.inl x
        · exact Or.inr ⟨m, S0, l0, c0, f, key0, b1, b2, b3, b4, b5, b6, b7, b8.elim Or.inl (fun y => absurd y id)⟩
      · rcases x with x | ⟨m, S0, l0, c0, f, key0, b1, b2, b3, b4, b5, b6, b7, b8⟩
        · exact Or.inl x
        · refine Or.inr ⟨m, S0, l0, c0, f, key0, b1, b2, b3, b4, b5, b6, b7, b8.elim Or.inl (fun y => ?_)⟩
          unfold zDs at y
          omega
    · rw [f2 _ (by omega), hMe]
      refine zIsM_no (fun key hk => ?_)
      obtain ⟨m, S0, l0, key0, b1, b2, b3, b5, b7, b8⟩ := hk
      unfold zDs at b8
      omega
  obtain ⟨L', y, g1, g2, g3, g4⟩ := zr_bestOfAll46 X d m0 ce sl I t u hO hn1 hn (by omega) x3 h3 L1 hR
  refine ⟨L', z_mnl x1 y, fun a h1 h2 => by rw [g1 a h1 h2, f1 a h2], ?_, ?_, fun M => ?_⟩
  · intro S l h1 h2
    refine zIsM_c (g2.2 S l h1 h2) (fun key => ⟨fun x => ?_, fun x => ?_⟩)
    · obtain ⟨m, S0, l0, key0, b1, b2, b3, b5, b7, b8⟩ := x
      exact Or.inr ⟨m, S0, l0, c, 1, key0, b1, b2, b3, by omega, b5, rfl, b7, Or.inl rfl⟩
    · rcases x with ⟨b1, _⟩ | ⟨m, S0, l0, c0, f, key0, b1, b2, b3, b4, b5, b6, b7, b8⟩
      · omega
      · rcases b8 with b8 | b8
        · subst b8
          have ec : c0 = c := by omega
          subst ec
          refine ⟨m, S0, l0, key0, b1, b2, b3, b5, b7, ?_⟩
          obtain ⟨v1, v2, v3, v4, v5, v6, v7, v8⟩ := zPR_is hO _ _ _ _ _ b1
          have hp : 0 < 2 ^ l := Nat.pow_pos (by omega)
          have hlt := zbits_lt n hn9 l b2 S0 v1 b3
          have hS0 : 1 ≤ S0 := by
            rcases Nat.eq_zero_or_pos S0 with e | e
            · subst e
              have : zcard 0 = 0 := by decide
              omega
            · exact e
          unfold zDs
          omega
        · exact absurd b8 id
  · rw [y_mnl]
    refine zIsM_c (zIsM_or hf g3 (y_l8 _) (y_l8 _)) (fun key => ⟨fun x => ?_, fun x => ?_⟩)
    · rcases x with ⟨m, l, c', b1, b2⟩ | ⟨m, l, b2⟩
      · exact ⟨m, l, c', by omega, b2⟩
      · exact ⟨m, l, c, by omega, b2⟩
    · obtain ⟨m, l, c', b1, b2⟩ := x
      by_cases cc : c' = c
      · subst cc
        exact Or.inr ⟨m, l, b2⟩
      · exact Or.inl ⟨m, l, c', by omega, b2⟩
  · rw [show M + 3 = M + 1 + 1 + 1 by omega, zb_Orders_bestRow_63_47, if_neg (by rw [y_i_le]; omega), f3, z_b0_v, zb_Orders_bestRow_81, g4, z_bl_v, zb_Orders_bestRow_87_46_47, z_swap]
theorem zr_round47 (X : ZX) (d m0 ce sl : Nat) (I : Nat → Nat → Int32) (t u : Nat) {n c : Nat} (hO : zOr I n) (hn1 : 1 ≤ n) (hn : I 41 4 = Int32.ofNat n) (hc : c < n) (x1 : Int64) (x3 : Int32) (h3 : x3.toInt = c) (L : Nat → Nat → Int64) (hA : ∀ S l, S < 512 → l < 9 → zIsM (zQ0 I n c (fun _ _ _ => False) S l) (L 47 (9 * S + l)).toInt) (hf : zIsM (fun key => ∃ m l c', c' < c ∧ zPR I n m (2 ^ n - 1) l c' key) x1.toInt) : ∃ (L' : Nat → Nat → Int64) (y : Int64), (∀ a, a ≠ 47 → a ≠ 46 → L' a = L a) ∧ (∀ S l, S < 512 → l < 9 → zIsM (zQ0 I n (c + 1) (fun _ _ _ => False) S l) (L' 46 (9 * S + l)).toInt) ∧ zIsM (fun key => ∃ m l c', c' < c + 1 ∧ zPR I n m (2 ^ n - 1) l c' key) y.toInt ∧ ∀ M, z_loop X z_cf z_ff (z_pu (z_run X z_cf z_ff (d + 5))) 40 (M + 3) 63 [(0, .ref 41), (1, .long x1), (3, .int x3)] [] (118, z_sd m0, ce, sl, I, L, z_rr t u 47 46 (z_gg m0) (z_sf m0)) = z_loop X z_cf z_ff (z_pu (z_run X z_cf z_ff (d + 5))) 40 M 63 [(0, .ref 41), (1, .long y), (3, .int (x3 + Int32.ofInt 1))] [] (118, z_sd m0, ce, sl, I, L', z_rr t u 46 47 (z_gg m0) (z_sf m0)) := by
  have hM : zMX = 9223372036854775807 := rfl
  have hMe : (Int64.ofInt 9223372036854775807).toInt = 9223372036854775807 := y_ol (by omega) (by omega)
  have hn9 := hO.1
  have hn' : (I 41 4).toInt = n := by rw [hn, y_on (by omega)]
  obtain ⟨L1, f1, f2, f3⟩ := zr_lfill46 X (d + 2) (z_sd m0) ce sl I t u 47 46 (z_gg m0) (z_sf m0) (Int64.ofInt 9223372036854775807) L
  have hR : zRD2 I n c (zDs 1) (L1 47) (L1 46) := by
    refine ⟨fun S l h1 h2 => ?_, fun S l h1 h2 => ?_⟩
    · rw [f1 47 (by omega)]
      refine zIsM_c (hA S l h1 h2) (fun key => ⟨fun x => ?_, fun x => ?_⟩)
      · rcases x with x | ⟨m, S0, l0, c0, f, key0, b1, b2, b3, b4, b5, b6, b7, b8⟩
        · exact Or.inl x
        · exact Or.inr ⟨m, S0, l0, c0, f, key0, b1, b2, b3, b4, b5, b6, b7, b8.elim Or.inl (fun y => absurd y id)⟩
      · rcases x with x | ⟨m, S0, l0, c0, f, key0, b1, b2, b3, b4, b5, b6, b7, b8⟩
        · exact Or.inl x
        · refine Or.inr ⟨m, S0, l0, c0, f, key0, b1, b2, b3, b4, b5, b6, b7, b8.elim Or.inl (fun y => ?_)⟩
          unfold zDs at y
          omega
    · rw [f2 _ (by omega), hMe]
      refine zIsM_no (fun key hk => ?_)
      obtain ⟨m, S0, l0, key0, b1, b2, b3, b5, b7, b8⟩ := hk
      unfold zDs at b8
      omega
  obtain ⟨L', y, g1, g2, g3, g4⟩ := zr_bestOfAll47 X d m0 ce sl I t u hO hn1 hn (by omega) x3 h3 L1 hR
  refine ⟨L', z_mnl x1 y, fun a h1 h2 => by rw [g1 a h1 h2, f1 a h2], ?_, ?_, fun M => ?_⟩
  · intro S l h1 h2
    refine zIsM_c (g2.2 S l h1 h2) (fun key => ⟨fun x => ?_, fun x => ?_⟩)
    · obtain ⟨m, S0, l0, key0, b1, b2, b3, b5, b7, b8⟩ := x
      exact Or.inr ⟨m, S0, l0, c, 1, key0, b1, b2, b3, by omega, b5, rfl, b7, Or.inl rfl⟩
    · rcases x with ⟨b1, _⟩ | ⟨m, S0, l0, c0, f, key0, b1, b2, b3, b4, b5, b6, b7, b8⟩
      · omega
      · rcases b8 with b8 | b8
        · subst b8
          have ec : c0 = c := by omega
          subst ec
          refine ⟨m, S0, l0, key0, b1, b2, b3, b5, b7, ?_⟩
          obtain ⟨v1, v2, v3, v4, v5, v6, v7, v8⟩ := zPR_is hO _ _ _ _ _ b1
          have hp : 0 < 2 ^ l := Nat.pow_pos (by omega)
          have hlt := zbits_lt n hn9 l b2 S0 v1 b3
          have hS0 : 1 ≤ S0 := by
            rcases Nat.eq_zero_or_pos S0 with e | e
            · subst e
              have : zcard 0 = 0 := by decide
              omega
            · exact e
          unfold zDs
          omega
        · exact absurd b8 id
  · rw [y_mnl]
    refine zIsM_c (zIsM_or hf g3 (y_l8 _) (y_l8 _)) (fun key => ⟨fun x => ?_, fun x => ?_⟩)
    · rcases x with ⟨m, l, c', b1, b2⟩ | ⟨m, l, b2⟩
      · exact ⟨m, l, c', by omega, b2⟩
      · exact ⟨m, l, c, by omega, b2⟩
    · obtain ⟨m, l, c', b1, b2⟩ := x
      by_cases cc : c' = c
      · subst cc
        exact Or.inr ⟨m, l, b2⟩
      · exact Or.inl ⟨m, l, c', by omega, b2⟩
  · rw [show M + 3 = M + 1 + 1 + 1 by omega, zb_Orders_bestRow_63_46, if_neg (by rw [y_i_le]; omega), f3, z_b0_v, zb_Orders_bestRow_81, g4, z_bl_v, zb_Orders_bestRow_87_47_46, z_swap]
/-- rows are told by two tables in turn -/
def zRQ (r q : Nat) : Prop := r = 46 ∧ q = 47 ∨ r = 47 ∧ q = 46
theorem zr_rounds (X : ZX) (d m0 ce sl : Nat) (I : Nat → Nat → Int32) (t u : Nat) {n : Nat} (hO : zOr I n) (hn1 : 1 ≤ n) (hn : I 41 4 = Int32.ofNat n) (k : Nat) : ∀ (c r q : Nat) (x1 : Int64) (x3 : Int32) (L : Nat → Nat → Int64), c + k = n → zRQ r q → x3.toInt = c → (∀ S l, S < 512 → l < 9 → zIsM (zQ0 I n c (fun _ _ _ => False) S l) (L r (9 * S + l)).toInt) → zIsM (fun key => ∃ m l c', c' < c ∧ zPR I n m (2 ^ n - 1) l c' key) x1.toInt → ∃ (L' : Nat → Nat → Int64) (y : Int64) (r' q' : Nat), zRQ r' q' ∧ (∀ a, a ≠ 46 → a ≠ 47 → L' a = L a) ∧ zIsM (fun key => ∃ m l c', c' < n ∧ zPR I n m (2 ^ n - 1) l c' key) y.toInt ∧ ∀ M, z_loop X z_cf z_ff (z_pu (z_run X z_cf z_ff (d + 5))) 40 (M + 3 * k + 1) 63 [(0, .ref 41), (1, .long x1), (3, .int x3)] [] (118, z_sd m0, ce, sl, I, L, z_rr t u r q (z_gg m0) (z_sf m0)) = some (.inl (some (.long y)), (118, z_sd m0, ce, sl, I, L', z_rr t u r' q' (z_gg m0) (z_sf m0))) := by
  have hn9 := hO.1
  have hn' : (I 41 4).toInt = n := by rw [hn, y_on (by omega)]
  induction k with
  | zero =>
    intro c r q x1 x3 L a1 a2 a3 a4 a5
    have e : c = n := by omega
    subst e
    refine ⟨L, x1, r, q, a2, fun _ _ _ => rfl, a5, fun M => ?_⟩
    rcases a2 with ⟨e1, e2⟩ | ⟨e1, e2⟩
    · subst e1
      subst e2
      rw [show M + 3 * 0 + 1 = M + 1 by omega, zb_Orders_bestRow_63_47, if_pos (by rw [y_i_le]; omega)]
    · subst e1
      subst e2
      rw [show M + 3 * 0 + 1 = M + 1 by omega, zb_Orders_bestRow_63_46, if_pos (by rw [y_i_le]; omega)]
  | succ k ih =>
    intro c r q x1 x3 L a1 a2 a3 a4 a5
    have a3' : (x3 + Int32.ofInt 1).toInt = ((c + 1 : Nat) : Int) := by rw [y_adl (by omega) (by omega) (by omega) (by omega)]; omega
    rcases a2 with ⟨e1, e2⟩ | ⟨e1, e2⟩
    · subst e1
      subst e2
      obtain ⟨L1, y1, g1, g2, g3, g4⟩ := zr_round46 X d m0 ce sl I t u hO hn1 hn (by omega) x1 x3 a3 L a4 a5
      obtain ⟨L', y, r', q', k1, k2, k3, k4⟩ := ih (c + 1) 47 46 y1 (x3 + Int32.ofInt 1) L1 (by omega) (Or.inr ⟨rfl, rfl⟩) a3' g2 g3
      refine ⟨L', y, r', q', k1, fun a h1 h2 => by rw [k2 a h1 h2, g1 a h1 h2], k3, fun M => ?_⟩
      rw [show M + 3 * (k + 1) + 1 = (M + 3 * k + 1) + 3 by omega, g4]
      exact k4 M
    · subst e1
      subst e2
      obtain ⟨L1, y1, g1, g2, g3, g4⟩ := zr_round47 X d m0 ce sl I t u hO hn1 hn (by omega) x1 x3 a3 L a4 a5
      obtain ⟨L', y, r', q', k1, k2, k3, k4⟩ := ih (c + 1) 46 47 y1 (x3 + Int32.ofInt 1) L1 (by omega) (Or.inl ⟨rfl, rfl⟩) a3' g2 g3
      refine ⟨L', y, r', q', k1, fun a h1 h2 => by rw [k2 a h1 h2, g1 a h2 h1], k3, fun M => ?_⟩
      rw [show M + 3 * (k + 1) + 1 = (M + 3 * k + 1) + 3 by omega, g4]
      exact k4 M
theorem zr_bestRow (X : ZX) (d m0 ce sl : Nat) (I : Nat → Nat → Int32) (t u r q : Nat) {n : Nat} (hO : zOr I n) (hn1 : 1 ≤ n) (hn : I 41 4 = Int32.ofNat n) (hrq : zRQ r q) (L : Nat → Nat → Int64) : ∃ (L' : Nat → Nat → Int64) (y : Int64) (r' q' : Nat), zRQ r' q' ∧ (∀ a, a ≠ 46 → a ≠ 47 → L' a = L a) ∧ zIsM (fun key => ∃ m l c, c < n ∧ zPR I n m (2 ^ n - 1) l c key) y.toInt ∧ z_pu (z_run X z_cf z_ff (d + 6)) 40 [.ref 41] (118, z_sd m0, ce, sl, I, L, z_rr t u r q (z_gg m0) (z_sf m0)) = some (.inl (some (.long y)), (118, z_sd m0, ce, sl, I, L', z_rr t u r' q' (z_gg m0) (z_sf m0))) := by
  have hn9 := hO.1
  have hM : zMX = 9223372036854775807 := rfl
  have hMe : (Int64.ofInt 9223372036854775807).toInt = 9223372036854775807 := y_ol (by omega) (by omega)
  have h0 : zIsM (fun key => ∃ m l c', c' < 0 ∧ zPR I n m (2 ^ n - 1) l c' key) (Int64.ofInt 9223372036854775807).toInt := by
    rw [hMe]
    refine zIsM_no (fun key hk => ?_)
    obtain ⟨m, l, c', b1, b2⟩ := hk
    omega
  rcases hrq with ⟨e1, e2⟩ | ⟨e1, e2⟩
  · subst e1
    subst e2
    obtain ⟨L1, f1, f2, f3⟩ := zr_lfill46 X (d + 2) (z_sd m0) ce sl I t u 46 47 (z_gg m0) (z_sf m0) (Int64.ofInt 9223372036854775807) L
    obtain ⟨L2, g1, g2, g3⟩ := zr_init46 X (d + 2) m0 ce sl I t u hO hn L1 f2
    obtain ⟨L', y, r', q', k1, k2, k3, k4⟩ := zr_rounds X d m0 ce sl I t u hO hn1 hn n 0 46 47 _ (Int32.ofInt 0) L2 (by omega) (Or.inl ⟨rfl, rfl⟩) rfl g2 h0
    refine ⟨L', y, r', q', k1, fun a h1 h2 => by rw [k2 a h1 h2, g1 a h1, f1 a h1], k3, ?_⟩
    refine z_en X (d + 3) _ _ [(0, .ref 41)] _ _ rfl rfl rfl ?_
    rw [show (100000000 : Nat) = (99999996 - 2 * n + 2 * n + 2) + 1 + 1 by omega, zb_Orders_bestRow_0_46, f3, z_b0_v, zb_Orders_bestRow_10, g3, show 99999996 - 2 * n + 1 = (99999996 - 5 * n) + 3 * n + 1 by omega]
    exact k4 _
  · subst e1
    subst e2
    obtain ⟨L1, f1, f2, f3⟩ := zr_lfill47 X (d + 2) (z_sd m0) ce sl I t u 47 46 (z_gg m0) (z_sf m0) (Int64.ofInt 9223372036854775807) L
    obtain ⟨L2, g1, g2, g3⟩ := zr_init47 X (d + 2) m0 ce sl I t u hO hn L1 f2
    obtain ⟨L', y, r', q', k1, k2, k3, k4⟩ := zr_rounds X d m0 ce sl I t u hO hn1 hn n 0 47 46 _ (Int32.ofInt 0) L2 (by omega) (Or.inr ⟨rfl, rfl⟩) rfl g2 h0
    refine ⟨L', y, r', q', k1, fun a h1 h2 => by rw [k2 a h1 h2, g1 a h2, f1 a h2], k3, ?_⟩
    refine z_en X (d + 3) _ _ [(0, .ref 41)] _ _ rfl rfl rfl ?_
    rw [show (100000000 : Nat) = (99999996 - 2 * n + 2 * n + 2) + 1 + 1 by omega, zb_Orders_bestRow_0_47, f3, z_b0_v, zb_Orders_bestRow_10, g3, show 99999996 - 2 * n + 1 = (99999996 - 5 * n) + 3 * n + 1 by omega]
    exact k4 _
