/-! ROW, 4: a row goes on by every order, in the class -/
theorem z_oix {x y : Int32} {S l : Nat} (h1 : x.toInt = S) (h2 : y.toInt = l) (hS : S < 512) (hl : l < 9) : (z_p_Orders_indexOf x y).toInt = ((9 * S + l : Nat) : Int) := by
  have a : (Int32.ofInt 9).toInt = 9 := rfl
  unfold z_p_Orders_indexOf
  have e : (x * Int32.ofInt 9).toInt = 9 * S := by rw [y_mu (by rw [h1, a]; omega) (by rw [h1, a]; omega), h1, a]; omega
  rw [y_ad (by omega) (by omega), e, h2]
  omega
/-- what a step costs, as the class reckons it -/
theorem zk_e0 {I : Nat → Nat → Int32} {n : Nat} (hO : zOr I n) {S l j c : Nat} (hl : l < n) (hj : j < n) (hc : c ≤ 8) (hS : zcard S ≤ 8) {x3 : Int32} {x5 o b t : Int64} (h3 : x3.toInt = 5 * (c : Int) + zoT I S n) (h50 : 0 ≤ x5.toInt) (h51 : x5.toInt ≤ 2720 * 281474976710656 * 9) (ho : o.toInt = (j : Int) * zoP (zcard S)) (hb : b.toInt = zobes I l j * 281474976710656) (ht : t.toInt = zolate I j (5 * (c : Int) + zoT I S n + (I 44 j).toInt) * 281474976710656) : (x5 + o + b + t).toInt = x5.toInt + zkst I n S l j 0 c := by
  have hn := hO.1
  have a1 := zoP_m _ hS j (by omega)
  have a2 := zobes_r hO hl hj
  have a3 := zoT_r hO S n (Nat.le_refl _)
  have a5 := hO.2 j hj
  have a4 := zolate_r hO hj (e := 5 * (c : Int) + zoT I S n + (I 44 j).toInt) (by omega)
  have e1 : (x5 + o).toInt = x5.toInt + o.toInt := y_ad8 (by omega) (by omega)
  have e2 : (x5 + o + b).toInt = x5.toInt + o.toInt + b.toInt := by rw [y_ad8 (by omega) (by omega), e1]
  rw [y_ad8 (by omega) (by omega), e2, ho, hb, ht]
  unfold zkst zoc
  rw [if_pos rfl, if_pos rfl]
  omega
theorem zk_e1 {I : Nat → Nat → Int32} {n : Nat} (hO : zOr I n) {S l j c : Nat} (hl : l < n) (hj : j < n) (hc : c ≤ 8) (hS : zcard S ≤ 8) {x3 : Int32} {x5 o b t : Int64} (h3 : x3.toInt = 5 * (c : Int) + zoT I S n) (h50 : 0 ≤ x5.toInt) (h51 : x5.toInt ≤ 2720 * 281474976710656 * 9) (ho : o.toInt = (j : Int) * zoP (zcard S)) (hb : b.toInt = 7054466603810816 + zcP (zcard S)) (ht : t.toInt = zolate I j (5 * (c : Int) + zoT I S n + (I 44 j).toInt + 5) * 281474976710656) : (x5 + o + b + t).toInt = x5.toInt + zkst I n S l j 1 c := by
  have hn := hO.1
  have a1 := zoP_m _ hS j (by omega)
  have a2 := zcP_r _ hS
  have a3 := zoT_r hO S n (Nat.le_refl _)
  have a5 := hO.2 j hj
  have a4 := zolate_r hO hj (e := 5 * (c : Int) + zoT I S n + (I 44 j).toInt + 5) (by omega)
  have e1 : (x5 + o).toInt = x5.toInt + o.toInt := y_ad8 (by omega) (by omega)
  have e2 : (x5 + o + b).toInt = x5.toInt + o.toInt + b.toInt := by rw [y_ad8 (by omega) (by omega), e1]
  rw [y_ad8 (by omega) (by omega), e2, ho, hb, ht]
  unfold zkst zoc
  rw [if_neg (by omega), if_neg (by omega)]
  omega
theorem zk_late {I : Nat → Nat → Int32} {n : Nat} (hO : zOr I n) {j : Nat} (hj : j < n) {y : Int32} (h0 : 0 ≤ y.toInt) (h1 : y.toInt ≤ 1040) : (((Int32.ofInt 2 * z_mxi (Int32.ofInt 0) (y - I 45 j)).toInt64) <<< ((Int32.ofInt 48).toInt64 &&& 63)).toInt = zolate I j y.toInt * 281474976710656 := by
  have a5 := hO.2 j hj
  have e0 : (Int32.ofInt 0).toInt = 0 := rfl
  have e2 : (Int32.ofInt 2).toInt = 2 := rfl
  have e1 : (y - I 45 j).toInt = y.toInt - (I 45 j).toInt := y_sb (by omega) (by omega)
  have em := y_mxi (Int32.ofInt 0) (y - I 45 j)
  have e3 : (Int32.ofInt 2 * z_mxi (Int32.ofInt 0) (y - I 45 j)).toInt = 2 * max 0 (y.toInt - (I 45 j).toInt) := by
    rw [y_mu (by rw [e2]; omega) (by rw [e2]; omega), e2]
    omega
  rw [zks_48' (by omega) (by omega), e3]
  rfl
theorem zk_bes {I : Nat → Nat → Int32} {n : Nat} (hO : zOr I n) {l j : Nat} (hl : l < n) (hj : j < n) : (z_abi (I 43 l - I 43 j) / Int32.ofInt 100).toInt = (if (I 43 l).toInt < (I 43 j).toInt then (I 43 j).toInt - (I 43 l).toInt else (I 43 l).toInt - (I 43 j).toInt) / 100 := by
  have a := hO.2 l hl
  have b := hO.2 j hj
  have e1 : (I 43 l - I 43 j).toInt = (I 43 l).toInt - (I 43 j).toInt := y_sb (by omega) (by omega)
  have e2 := y_abi (x := I 43 l - I 43 j) (by omega)
  rw [e1] at e2
  have e3 : (Int32.ofInt 100).toInt = 100 := rfl
  rw [y_dv (by rw [e2]; split <;> omega) (by omega), e2, e3]
  congr 1
  split <;> split <;> omega
theorem zr_addNext46 (X : ZX) (d m0 ce sl : Nat) (I : Nat → Nat → Int32) (t u : Nat) {n S l c : Nat} (hO : zOr I n) (hn : I 41 4 = Int32.ofNat n) (hS : S < 2 ^ n) (hl : l < n) (hc : c ≤ 8) (x1 x2 x3 : Int32) (h1 : x1.toInt = S) (h2 : x2.toInt = l) (h3 : x3.toInt = 5 * (c : Int) + zoT I S n) (L : Nat → Nat → Int64) {D : Nat → Nat → Nat → Prop} (hR : zRD2 I n c D (L 46) (L 47)) (hV : ∃ m, zPR I n m S l c (L 46 (9 * S + l)).toInt) (hm : ∀ m key, zPR I n m S l c key → (L 46 (9 * S + l)).toInt ≤ key) : ∃ L' : Nat → Nat → Int64, (∀ a, a ≠ 46 → a ≠ 47 → L' a = L a) ∧ zRD2 I n c (fun a b d => D a b d ∨ (a = S ∧ b = l ∧ d < n)) (L' 46) (L' 47) ∧
    z_pu (z_run X z_cf z_ff (d + 4)) 46 [.ref 41, .int x1, .int x2, .int x3] (118, z_sd m0, ce, sl, I, L, z_rr t u 46 47 (z_gg m0) (z_sf m0)) = some (.inl none, (118, z_sd m0, ce, sl, I, L', z_rr t u 46 47 (z_gg m0) (z_sf m0))) := by
  have hn9 := hO.1
  have p5 := zp2_512 hn9
  have hn' : (I 41 4).toInt = n := by rw [hn, y_on (by omega)]
  obtain ⟨mV, hV'⟩ := id hV
  obtain ⟨v1, v2, v3, v4, v5, v6, v7, v8⟩ := zPR_is hO _ _ _ _ _ hV'
  have hV9 : ((mV : Int) + 1) ≤ 9 := by omega
  have hx1 : x1 = Int32.ofNat S := y_nat h1
  have hcnt : z_p_Integer_bitCount x1 = Int32.ofNat (zcard S) := by rw [hx1]; exact zbits_cnt S (by omega)
  have hx2n : x2.toNatClampNeg = l := by rw [y_tn, h2]; rfl
  have hin2 : z_in x2 9 = true := y_in_t (by omega) (by omega)
  have hi0 := z_oix h1 h2 (by omega) (by omega)
  have hi0n : (z_p_Orders_indexOf x1 x2).toNatClampNeg = 9 * S + l := by rw [y_tn, hi0]; rfl
  have n100 : ¬ (Int32.ofInt 100 : Int32) = 0 := by decide
  have e5 : (Int32.ofInt 5).toInt = 5 := rfl
  have e40 : (Int32.ofInt 40).toInt = 40 := rfl
  obtain ⟨V, hVe⟩ : ∃ V, V = L 46 (9 * S + l) := ⟨_, rfl⟩
  rw [← hVe] at hV hm v7 v8
  obtain ⟨x7, hx7⟩ : ∃ x7, x7 = Int64.ofInt 7054466603810816 + (Int64.ofInt 1 <<< ((z_p_Orders_changeShift (Int32.ofNat (zcard S))).toInt64 &&& 63)) := ⟨_, rfl⟩
  have lp : ∀ k, ∀ (j : Nat) (x9 : Int32) (L1 : Nat → Nat → Int64), j + k = n → x9.toInt = j → (∀ a, a ≠ 46 → a ≠ 47 → L1 a = L a) → zRD2 I n c (fun a b d => D a b d ∨ (a = S ∧ b = l ∧ d < j)) (L1 46) (L1 47) → zcard S ≤ 8 ∨ j = n ∨ True → ∃ L' : Nat → Nat → Int64, (∀ a, a ≠ 46 → a ≠ 47 → L' a = L a) ∧ zRD2 I n c (fun a b d => D a b d ∨ (a = S ∧ b = l ∧ d < n)) (L' 46) (L' 47) ∧
      ∀ M, z_loop X z_cf z_ff (z_pu (z_run X z_cf z_ff (d + 3))) 46 (M + 4 * k + 4) 34 [(0, .ref 41), (1, .int x1), (2, .int x2), (3, .int x3), (4, .int (Int32.ofNat (zcard S))), (5, .long V), (7, .long x7), (9, .int x9)] [] (118, z_sd m0, ce, sl, I, L1, z_rr t u 46 47 (z_gg m0) (z_sf m0)) = some (.inl none, (118, z_sd m0, ce, sl, I, L', z_rr t u 46 47 (z_gg m0) (z_sf m0))) := by
    intro k
    induction k with
    | zero =>
      intro j x9 L1 a1 a2 a3 a4 _
      have e : j = n := by omega
      subst e
      refine ⟨L1, a3, a4, fun M => ?_⟩
      rw [show M + 4 * 0 + 4 = M + 4 by omega, zt_Orders_addNext_34_46_47 X d, if_pos (by rw [y_i_le]; omega)]
    | succ k ih =>
      intro j x9 L1 a1 a2 a3 a4 _
      have hj : j < n := by omega
      have hx9 : x9 = Int32.ofNat j := y_nat a2
      have a2' : (x9 + Int32.ofInt 1).toInt = ((j + 1 : Nat) : Int) := by rw [y_adl (by omega) (by omega) (by omega) (by omega)]; omega
      have hbit := zbits_and j (by omega) S (by omega)
      rw [← hx1, ← hx9] at hbit
      have hnext : ∀ (A' B' : Nat → Int64), zRD2 I n c (zDp (fun a b d => D a b d ∨ (a = S ∧ b = l ∧ d < j)) S l j) A' B' → zRD2 I n c (fun a b d => D a b d ∨ (a = S ∧ b = l ∧ d < j + 1)) A' B' := by
        intro A' B' h
        refine zRD2_D h (fun a b d => ⟨fun x => ?_, fun x => ?_⟩)
        · rcases x with (x | ⟨y1, y2, y3⟩) | ⟨y1, y2, y3⟩
          · exact Or.inl x
          · exact Or.inr ⟨y1, y2, by omega⟩
          · exact Or.inr ⟨y1, y2, by omega⟩
        · rcases x with x | ⟨y1, y2, y3⟩
          · exact Or.inl (Or.inl x)
          · by_cases cd : d = j
            · exact Or.inr ⟨y1, y2, cd⟩
            · exact Or.inl (Or.inr ⟨y1, y2, by omega⟩)
      by_cases cb : zbt2 S j = 0
      · have cb' : (x1 &&& (Int32.ofInt 1 <<< (x9 &&& 31))) = 0 := by
          rw [decide_eq_decide] at hbit
          exact hbit.mpr cb
        have hor := zbits_or j (by omega) S (by omega) cb
        have hlt := zbits_lt n hn9 j hj S hS cb
        have hc8 : zcard S ≤ 8 := by
          have := zbits_hi n hn9 (S + 2 ^ j) hlt
          have := (zbits_ad1 j (by omega) S (by omega) cb).1
          omega
        have horx : (x1 ||| (Int32.ofInt 1 <<< (x9 &&& 31))).toInt = ((S + 2 ^ j : Nat) : Int) := by
          rw [hx1, hx9, hor.1, y_on (by omega)]
        have hix := z_oix horx a2 hor.2 (by omega)
        have hixn : (z_p_Orders_indexOf (x1 ||| (Int32.ofInt 1 <<< (x9 &&& 31))) x9).toNatClampNeg = 9 * (S + 2 ^ j) + j := by rw [y_tn, hix]; rfl
        have hin : z_in (z_p_Orders_indexOf (x1 ||| (Int32.ofInt 1 <<< (x9 &&& 31))) x9) 4608 = true := y_in_t (by omega) (by omega)
        have hin9 : z_in x9 9 = true := y_in_t (by omega) (by omega)
        have hx9n : x9.toNatClampNeg = j := by rw [y_tn, a2]; rfl
        have hT := zoT_r hO S n (Nat.le_refl _)
        have hoj := hO.2 j hj
        have ho : ((x9.toInt64 <<< ((z_p_Orders_orderShift (Int32.ofNat (zcard S))).toInt64 &&& 63))).toInt = (j : Int) * zoP (zcard S) := by rw [hx9]; exact zks_o _ (by omega) j (by omega)
        have hx7t : x7.toInt = 7054466603810816 + zcP (zcard S) := by rw [hx7]; exact zks_c _ (by omega)
        have y0 : (x3 + I 44 j).toInt = 5 * (c : Int) + zoT I S n + (I 44 j).toInt := by rw [y_ad (by omega) (by omega), h3]
        have y1 : (x3 + I 44 j + Int32.ofInt 5).toInt = 5 * (c : Int) + zoT I S n + (I 44 j).toInt + 5 := by rw [y_adl (by omega) (by omega) (by omega) (by omega), y0]
        have ht0 := zk_late hO hj (y := x3 + I 44 j) (by omega) (by omega)
        have ht1 := zk_late hO hj (y := x3 + I 44 j + Int32.ofInt 5) (by omega) (by omega)
        rw [y0] at ht0
        rw [y1] at ht1
        have hbs := zk_bes hO hl hj
        have hbr := zobes_r hO hl hj
        have v8' : V.toInt ≤ 2720 * 281474976710656 * 9 := by omega
        -- both cells
        have fin : ∀ b : Int64, b.toInt = zobes I l j * 281474976710656 → (∀ M, z_loop X z_cf z_ff (z_pu (z_run X z_cf z_ff (d + 3))) 46 (M + 4) 34 [(0, .ref 41), (1, .int x1), (2, .int x2), (3, .int x3), (4, .int (Int32.ofNat (zcard S))), (5, .long V), (7, .long x7), (9, .int x9)] [] (118, z_sd m0, ce, sl, I, L1, z_rr t u 46 47 (z_gg m0) (z_sf m0)) = z_loop X z_cf z_ff (z_pu (z_run X z_cf z_ff (d + 3))) 46 M 34 [(0, .ref 41), (1, .int x1), (2, .int x2), (3, .int x3), (4, .int (Int32.ofNat (zcard S))), (5, .long V), (7, .long x7), (9, .int (x9 + Int32.ofInt 1))] [] (118, z_sd m0, ce, sl, I, z_up (z_up L1 46 (9 * (S + 2 ^ j) + j) (z_mnl (L1 46 (9 * (S + 2 ^ j) + j)) (V + (x9.toInt64 <<< ((z_p_Orders_orderShift (Int32.ofNat (zcard S))).toInt64 &&& 63)) + b + ((Int32.ofInt 2 * z_mxi (Int32.ofInt 0) (x3 + I 44 j - I 45 j)).toInt64 <<< ((Int32.ofInt 48).toInt64 &&& 63))))) 47 (9 * (S + 2 ^ j) + j) (z_mnl (L1 47 (9 * (S + 2 ^ j) + j)) (V + (x9.toInt64 <<< ((z_p_Orders_orderShift (Int32.ofNat (zcard S))).toInt64 &&& 63)) + x7 + ((Int32.ofInt 2 * z_mxi (Int32.ofInt 0) (x3 + I 44 j + Int32.ofInt 5 - I 45 j)).toInt64 <<< ((Int32.ofInt 48).toInt64 &&& 63)))), z_rr t u 46 47 (z_gg m0) (z_sf m0))) → ∃ L' : Nat → Nat → Int64, (∀ a, a ≠ 46 → a ≠ 47 → L' a = L a) ∧ zRD2 I n c (fun a b d => D a b d ∨ (a = S ∧ b = l ∧ d < n)) (L' 46) (L' 47) ∧
            ∀ M, z_loop X z_cf z_ff (z_pu (z_run X z_cf z_ff (d + 3))) 46 (M + 4 * (k + 1) + 4) 34 [(0, .ref 41), (1, .int x1), (2, .int x2), (3, .int x3), (4, .int (Int32.ofNat (zcard S))), (5, .long V), (7, .long x7), (9, .int x9)] [] (118, z_sd m0, ce, sl, I, L1, z_rr t u 46 47 (z_gg m0) (z_sf m0)) = some (.inl none, (118, z_sd m0, ce, sl, I, L', z_rr t u 46 47 (z_gg m0) (z_sf m0))) := by
          intro b hb hstep
          have k0 := zk_e0 hO hl hj hc hc8 h3 v7 v8' ho hb ht0
          have k1 := zk_e1 (l := l) hO hl hj hc hc8 h3 v7 v8' ho hx7t ht1
          obtain ⟨L', g1, g2, g3⟩ := ih (j + 1) (x9 + Int32.ofInt 1) _ (by omega) a2' (fun a h1 h2 => by rw [z_up_r _ _ _ _ _ h2, z_up_r _ _ _ _ _ h1, a3 a h1 h2]) (hnext (z_up (z_up L1 46 (9 * (S + 2 ^ j) + j) (z_mnl (L1 46 (9 * (S + 2 ^ j) + j)) (V + (x9.toInt64 <<< ((z_p_Orders_orderShift (Int32.ofNat (zcard S))).toInt64 &&& 63)) + b + ((Int32.ofInt 2 * z_mxi (Int32.ofInt 0) (x3 + I 44 j - I 45 j)).toInt64 <<< ((Int32.ofInt 48).toInt64 &&& 63))))) 47 (9 * (S + 2 ^ j) + j) (z_mnl (L1 47 (9 * (S + 2 ^ j) + j)) (V + (x9.toInt64 <<< ((z_p_Orders_orderShift (Int32.ofNat (zcard S))).toInt64 &&& 63)) + x7 + ((Int32.ofInt 2 * z_mxi (Int32.ofInt 0) (x3 + I 44 j + Int32.ofInt 5 - I 45 j)).toInt64 <<< ((Int32.ofInt 48).toInt64 &&& 63)))) 46) (z_up (z_up L1 46 (9 * (S + 2 ^ j) + j) (z_mnl (L1 46 (9 * (S + 2 ^ j) + j)) (V + (x9.toInt64 <<< ((z_p_Orders_orderShift (Int32.ofNat (zcard S))).toInt64 &&& 63)) + b + ((Int32.ofInt 2 * z_mxi (Int32.ofInt 0) (x3 + I 44 j - I 45 j)).toInt64 <<< ((Int32.ofInt 48).toInt64 &&& 63))))) 47 (9 * (S + 2 ^ j) + j) (z_mnl (L1 47 (9 * (S + 2 ^ j) + j)) (V + (x9.toInt64 <<< ((z_p_Orders_orderShift (Int32.ofNat (zcard S))).toInt64 &&& 63)) + x7 + ((Int32.ofInt 2 * z_mxi (Int32.ofInt 0) (x3 + I 44 j + Int32.ofInt 5 - I 45 j)).toInt64 <<< ((Int32.ofInt 48).toInt64 &&& 63)))) 47) (zRD2_step hO a4 hj cb hS hV hm
              (fun y hy => by rw [z_up_r _ _ _ _ _ (by omega), z_up_j _ _ _ _ _ hy])
              (fun y hy => by rw [z_up_j _ _ _ _ _ hy, z_up_r _ _ _ _ _ (by omega)])
              (by rw [z_up_r _ _ _ _ _ (by omega), z_up_s, y_mnl, k0])
              (by rw [z_up_s, y_mnl, k1]))) (Or.inr (Or.inr trivial))
          refine ⟨L', g1, g2, fun M => ?_⟩
          rw [show M + 4 * (k + 1) + 4 = (M + 4 * k + 4) + 4 by omega, hstep]
          exact g3 M
        by_cases cw : (I 42 j).toInt ≤ (I 42 l).toInt
        · refine fin ((z_abi (I 43 l - I 43 j) / Int32.ofInt 100).toInt64 <<< ((Int32.ofInt 48).toInt64 &&& 63)) ?_ (fun M => ?_)
          · have e : zobes I l j = (z_abi (I 43 l - I 43 j) / Int32.ofInt 100).toInt := by
              rw [hbs]
              unfold zobes
              rw [if_neg (show ¬ (I 42 l).toInt < (I 42 j).toInt by omega)]
              omega
            rw [zks_48' (by omega) (by omega), e]
          · rw [zt_Orders_addNext_34_46_47 X d, if_neg (by rw [y_i_le]; omega), if_pos cb', hin9, z_gd_t, hin, z_gd_t, hin2, z_gd_t, z_gd_t, if_neg n100, z_gd_t, z_gd_t, hx9n, hx2n, hixn, if_pos (y_i_le.mpr cw), z_gd_t, z_gd_t, z_gd_t, z_gd_t, z_gd_t]
        · refine fin ((z_abi (I 43 l - I 43 j) / Int32.ofInt 100 + Int32.ofInt 40).toInt64 <<< ((Int32.ofInt 48).toInt64 &&& 63)) ?_ (fun M => ?_)
          · have e : zobes I l j = (z_abi (I 43 l - I 43 j) / Int32.ofInt 100).toInt + 40 := by
              rw [hbs]
              unfold zobes
              rw [if_pos (show (I 42 l).toInt < (I 42 j).toInt by omega)]
            have e' : (z_abi (I 43 l - I 43 j) / Int32.ofInt 100 + Int32.ofInt 40).toInt = zobes I l j := by
              rw [y_adl (by omega) (by omega) (by omega) (by omega), e]
            rw [zks_48' (by omega) (by omega), e']
          · rw [zt_Orders_addNext_34_46_47 X d, if_neg (by rw [y_i_le]; omega), if_pos cb', hin9, z_gd_t, hin, z_gd_t, hin2, z_gd_t, z_gd_t, if_neg n100, z_gd_t, z_gd_t, hx9n, hx2n, hixn, if_neg (fun x => cw (y_i_le.mp x)), z_gd_t, z_gd_t, z_gd_t, z_gd_t, z_gd_t]
      · have cb' : ¬ (x1 &&& (Int32.ofInt 1 <<< (x9 &&& 31))) = 0 := by
          rw [decide_eq_decide] at hbit
          exact fun x => cb (hbit.mp x)
        obtain ⟨L', g1, g2, g3⟩ := ih (j + 1) (x9 + Int32.ofInt 1) L1 (by omega) a2' a3 (hnext _ _ (zRD2_skip a4 (Or.inr cb))) (Or.inr (Or.inr trivial))
        refine ⟨L', g1, g2, fun M => ?_⟩
        rw [show M + 4 * (k + 1) + 4 = (M + 4 * k + 4) + 4 by omega, zt_Orders_addNext_34_46_47 X d, if_neg (by rw [y_i_le]; omega), if_neg cb', show M + 4 * k + 4 + 3 = (M + 3) + 4 * k + 4 by omega]
        exact g3 _
  obtain ⟨L', g1, g2, g3⟩ := lp n 0 (Int32.ofInt 0) L (by omega) rfl (fun _ _ _ => rfl) (zRD2_D hR (fun a b e => ⟨Or.inl, fun x => x.elim id (fun y => absurd y.2.2 (by omega))⟩)) (Or.inr (Or.inr trivial))
  refine ⟨L', g1, g2, ?_⟩
  refine z_en X (d + 1) _ _ [(0, .ref 41), (1, .int x1), (2, .int x2), (3, .int x3)] _ _ rfl rfl rfl ?_
  rw [show (100000000 : Nat) = (99999995 - 4 * n + 4 * n + 4) + 1 by omega, zb_Orders_addNext_0_46, y_in_t (by omega) (by omega), z_gd_t, hi0n, hcnt, ← hVe, ← hx7]
  exact g3 _
theorem zr_addNext47 (X : ZX) (d m0 ce sl : Nat) (I : Nat → Nat → Int32) (t u : Nat) {n S l c : Nat} (hO : zOr I n) (hn : I 41 4 = Int32.ofNat n) (hS : S < 2 ^ n) (hl : l < n) (hc : c ≤ 8) (x1 x2 x3 : Int32) (h1 : x1.toInt = S) (h2 : x2.toInt = l) (h3 : x3.toInt = 5 * (c : Int) + zoT I S n) (L : Nat → Nat → Int64) {D : Nat → Nat → Nat → Prop} (hR : zRD2 I n c D (L 47) (L 46)) (hV : ∃ m, zPR I n m S l c (L 47 (9 * S + l)).toInt) (hm : ∀ m key, zPR I n m S l c key → (L 47 (9 * S + l)).toInt ≤ key) : ∃ L' : Nat → Nat → Int64, (∀ a, a ≠ 47 → a ≠ 46 → L' a = L a) ∧ zRD2 I n c (fun a b d => D a b d ∨ (a = S ∧ b = l ∧ d < n)) (L' 47) (L' 46) ∧
    z_pu (z_run X z_cf z_ff (d + 4)) 46 [.ref 41, .int x1, .int x2, .int x3] (118, z_sd m0, ce, sl, I, L, z_rr t u 47 46 (z_gg m0) (z_sf m0)) = some (.inl none, (118, z_sd m0, ce, sl, I, L', z_rr t u 47 46 (z_gg m0) (z_sf m0))) := by
  have hn9 := hO.1
  have p5 := zp2_512 hn9
  have hn' : (I 41 4).toInt = n := by rw [hn, y_on (by omega)]
  obtain ⟨mV, hV'⟩ := id hV
  obtain ⟨v1, v2, v3, v4, v5, v6, v7, v8⟩ := zPR_is hO _ _ _ _ _ hV'
  have hV9 : ((mV : Int) + 1) ≤ 9 := by omega
  have hx1 : x1 = Int32.ofNat S := y_nat h1
  have hcnt : z_p_Integer_bitCount x1 = Int32.ofNat (zcard S) := by rw [hx1]; exact zbits_cnt S (by omega)
  have hx2n : x2.toNatClampNeg = l := by rw [y_tn, h2]; rfl
  have hin2 : z_in x2 9 = true := y_in_t (by omega) (by omega)
  have hi0 := z_oix h1 h2 (by omega) (by omega)
  have hi0n : (z_p_Orders_indexOf x1 x2).toNatClampNeg = 9 * S + l := by rw [y_tn, hi0]; rfl
  have n100 : ¬ (Int32.ofInt 100 : Int32) = 0 := by decide
  have e5 : (Int32.ofInt 5).toInt = 5 := rfl
  have e40 : (Int32.ofInt 40).toInt = 40 := rfl
  obtain ⟨V, hVe⟩ : ∃ V, V = L 47 (9 * S + l) := ⟨_, rfl⟩
  rw [← hVe] at hV hm v7 v8
  obtain ⟨x7, hx7⟩ : ∃ x7, x7 = Int64.ofInt 7054466603810816 + (Int64.ofInt 1 <<< ((z_p_Orders_changeShift (Int32.ofNat (zcard S))).toInt64 &&& 63)) := ⟨_, rfl⟩
  have lp : ∀ k, ∀ (j : Nat) (x9 : Int32) (L1 : Nat → Nat → Int64), j + k = n → x9.toInt = j → (∀ a, a ≠ 47 → a ≠ 46 → L1 a = L a) → zRD2 I n c (fun a b d => D a b d ∨ (a = S ∧ b = l ∧ d < j)) (L1 47) (L1 46) → zcard S ≤ 8 ∨ j = n ∨ True → ∃ L' : Nat → Nat → Int64, (∀ a, a ≠ 47 → a ≠ 46 → L' a = L a) ∧ zRD2 I n c (fun a b d => D a b d ∨ (a = S ∧ b = l ∧ d < n)) (L' 47) (L' 46) ∧
      ∀ M, z_loop X z_cf z_ff (z_pu (z_run X z_cf z_ff (d + 3))) 46 (M + 4 * k + 4) 34 [(0, .ref 41), (1, .int x1), (2, .int x2), (3, .int x3), (4, .int (Int32.ofNat (zcard S))), (5, .long V), (7, .long x7), (9, .int x9)] [] (118, z_sd m0, ce, sl, I, L1, z_rr t u 47 46 (z_gg m0) (z_sf m0)) = some (.inl none, (118, z_sd m0, ce, sl, I, L', z_rr t u 47 46 (z_gg m0) (z_sf m0))) := by
    intro k
    induction k with
    | zero =>
      intro j x9 L1 a1 a2 a3 a4 _
      have e : j = n := by omega
      subst e
      refine ⟨L1, a3, a4, fun M => ?_⟩
      rw [show M + 4 * 0 + 4 = M + 4 by omega, zt_Orders_addNext_34_47_46 X d, if_pos (by rw [y_i_le]; omega)]
    | succ k ih =>
      intro j x9 L1 a1 a2 a3 a4 _
      have hj : j < n := by omega
      have hx9 : x9 = Int32.ofNat j := y_nat a2
      have a2' : (x9 + Int32.ofInt 1).toInt = ((j + 1 : Nat) : Int) := by rw [y_adl (by omega) (by omega) (by omega) (by omega)]; omega
      have hbit := zbits_and j (by omega) S (by omega)
      rw [← hx1, ← hx9] at hbit
      have hnext : ∀ (A' B' : Nat → Int64), zRD2 I n c (zDp (fun a b d => D a b d ∨ (a = S ∧ b = l ∧ d < j)) S l j) A' B' → zRD2 I n c (fun a b d => D a b d ∨ (a = S ∧ b = l ∧ d < j + 1)) A' B' := by
        intro A' B' h
        refine zRD2_D h (fun a b d => ⟨fun x => ?_, fun x => ?_⟩)
        · rcases x with (x | ⟨y1, y2, y3⟩) | ⟨y1, y2, y3⟩
          · exact Or.inl x
          · exact Or.inr ⟨y1, y2, by omega⟩
          · exact Or.inr ⟨y1, y2, by omega⟩
        · rcases x with x | ⟨y1, y2, y3⟩
          · exact Or.inl (Or.inl x)
          · by_cases cd : d = j
            · exact Or.inr ⟨y1, y2, cd⟩
            · exact Or.inl (Or.inr ⟨y1, y2, by omega⟩)
      by_cases cb : zbt2 S j = 0
      · have cb' : (x1 &&& (Int32.ofInt 1 <<< (x9 &&& 31))) = 0 := by
          rw [decide_eq_decide] at hbit
          exact hbit.mpr cb
        have hor := zbits_or j (by omega) S (by omega) cb
        have hlt := zbits_lt n hn9 j hj S hS cb
        have hc8 : zcard S ≤ 8 := by
          have := zbits_hi n hn9 (S + 2 ^ j) hlt
          have := (zbits_ad1 j (by omega) S (by omega) cb).1
          omega
        have horx : (x1 ||| (Int32.ofInt 1 <<< (x9 &&& 31))).toInt = ((S + 2 ^ j : Nat) : Int) := by
          rw [hx1, hx9, hor.1, y_on (by omega)]
        have hix := z_oix horx a2 hor.2 (by omega)
        have hixn : (z_p_Orders_indexOf (x1 ||| (Int32.ofInt 1 <<< (x9 &&& 31))) x9).toNatClampNeg = 9 * (S + 2 ^ j) + j := by rw [y_tn, hix]; rfl
        have hin : z_in (z_p_Orders_indexOf (x1 ||| (Int32.ofInt 1 <<< (x9 &&& 31))) x9) 4608 = true := y_in_t (by omega) (by omega)
        have hin9 : z_in x9 9 = true := y_in_t (by omega) (by omega)
        have hx9n : x9.toNatClampNeg = j := by rw [y_tn, a2]; rfl
        have hT := zoT_r hO S n (Nat.le_refl _)
        have hoj := hO.2 j hj
        have ho : ((x9.toInt64 <<< ((z_p_Orders_orderShift (Int32.ofNat (zcard S))).toInt64 &&& 63))).toInt = (j : Int) * zoP (zcard S) := by rw [hx9]; exact zks_o _ (by omega) j (by omega)
        have hx7t : x7.toInt = 7054466603810816 + zcP (zcard S) := by rw [hx7]; exact zks_c _ (by omega)
        have y0 : (x3 + I 44 j).toInt = 5 * (c : Int) + zoT I S n + (I 44 j).toInt := by rw [y_ad (by omega) (by omega), h3]
        have y1 : (x3 + I 44 j + Int32.ofInt 5).toInt = 5 * (c : Int) + zoT I S n + (I 44 j).toInt + 5 := by rw [y_adl (by omega) (by omega) (by omega) (by omega), y0]
        have ht0 := zk_late hO hj (y := x3 + I 44 j) (by omega) (by omega)
        have ht1 := zk_late hO hj (y := x3 + I 44 j + Int32.ofInt 5) (by omega) (by omega)
        rw [y0] at ht0
        rw [y1] at ht1
        have hbs := zk_bes hO hl hj
        have hbr := zobes_r hO hl hj
        have v8' : V.toInt ≤ 2720 * 281474976710656 * 9 := by omega
        -- both cells
        have fin : ∀ b : Int64, b.toInt = zobes I l j * 281474976710656 → (∀ M, z_loop X z_cf z_ff (z_pu (z_run X z_cf z_ff (d + 3))) 46 (M + 4) 34 [(0, .ref 41), (1, .int x1), (2, .int x2), (3, .int x3), (4, .int (Int32.ofNat (zcard S))), (5, .long V), (7, .long x7), (9, .int x9)] [] (118, z_sd m0, ce, sl, I, L1, z_rr t u 47 46 (z_gg m0) (z_sf m0)) = z_loop X z_cf z_ff (z_pu (z_run X z_cf z_ff (d + 3))) 46 M 34 [(0, .ref 41), (1, .int x1), (2, .int x2), (3, .int x3), (4, .int (Int32.ofNat (zcard S))), (5, .long V), (7, .long x7), (9, .int (x9 + Int32.ofInt 1))] [] (118, z_sd m0, ce, sl, I, z_up (z_up L1 47 (9 * (S + 2 ^ j) + j) (z_mnl (L1 47 (9 * (S + 2 ^ j) + j)) (V + (x9.toInt64 <<< ((z_p_Orders_orderShift (Int32.ofNat (zcard S))).toInt64 &&& 63)) + b + ((Int32.ofInt 2 * z_mxi (Int32.ofInt 0) (x3 + I 44 j - I 45 j)).toInt64 <<< ((Int32.ofInt 48).toInt64 &&& 63))))) 46 (9 * (S + 2 ^ j) + j) (z_mnl (L1 46 (9 * (S + 2 ^ j) + j)) (V + (x9.toInt64 <<< ((z_p_Orders_orderShift (Int32.ofNat (zcard S))).toInt64 &&& 63)) + x7 + ((Int32.ofInt 2 * z_mxi (Int32.ofInt 0) (x3 + I 44 j + Int32.ofInt 5 - I 45 j)).toInt64 <<< ((Int32.ofInt 48).toInt64 &&& 63)))), z_rr t u 47 46 (z_gg m0) (z_sf m0))) → ∃ L' : Nat → Nat → Int64, (∀ a, a ≠ 47 → a ≠ 46 → L' a = L a) ∧ zRD2 I n c (fun a b d => D a b d ∨ (a = S ∧ b = l ∧ d < n)) (L' 47) (L' 46) ∧
            ∀ M, z_loop X z_cf z_ff (z_pu (z_run X z_cf z_ff (d + 3))) 46 (M + 4 * (k + 1) + 4) 34 [(0, .ref 41), (1, .int x1), (2, .int x2), (3, .int x3), (4, .int (Int32.ofNat (zcard S))), (5, .long V), (7, .long x7), (9, .int x9)] [] (118, z_sd m0, ce, sl, I, L1, z_rr t u 47 46 (z_gg m0) (z_sf m0)) = some (.inl none, (118, z_sd m0, ce, sl, I, L', z_rr t u 47 46 (z_gg m0) (z_sf m0))) := by
          intro b hb hstep
          have k0 := zk_e0 hO hl hj hc hc8 h3 v7 v8' ho hb ht0
          have k1 := zk_e1 (l := l) hO hl hj hc hc8 h3 v7 v8' ho hx7t ht1
          obtain ⟨L', g1, g2, g3⟩ := ih (j + 1) (x9 + Int32.ofInt 1) _ (by omega) a2' (fun a h1 h2 => by rw [z_up_r _ _ _ _ _ h2, z_up_r _ _ _ _ _ h1, a3 a h1 h2]) (hnext (z_up (z_up L1 47 (9 * (S + 2 ^ j) + j) (z_mnl (L1 47 (9 * (S + 2 ^ j) + j)) (V + (x9.toInt64 <<< ((z_p_Orders_orderShift (Int32.ofNat (zcard S))).toInt64 &&& 63)) + b + ((Int32.ofInt 2 * z_mxi (Int32.ofInt 0) (x3 + I 44 j - I 45 j)).toInt64 <<< ((Int32.ofInt 48).toInt64 &&& 63))))) 46 (9 * (S + 2 ^ j) + j) (z_mnl (L1 46 (9 * (S + 2 ^ j) + j)) (V + (x9.toInt64 <<< ((z_p_Orders_orderShift (Int32.ofNat (zcard S))).toInt64 &&& 63)) + x7 + ((Int32.ofInt 2 * z_mxi (Int32.ofInt 0) (x3 + I 44 j + Int32.ofInt 5 - I 45 j)).toInt64 <<< ((Int32.ofInt 48).toInt64 &&& 63)))) 47) (z_up (z_up L1 47 (9 * (S + 2 ^ j) + j) (z_mnl (L1 47 (9 * (S + 2 ^ j) + j)) (V + (x9.toInt64 <<< ((z_p_Orders_orderShift (Int32.ofNat (zcard S))).toInt64 &&& 63)) + b + ((Int32.ofInt 2 * z_mxi (Int32.ofInt 0) (x3 + I 44 j - I 45 j)).toInt64 <<< ((Int32.ofInt 48).toInt64 &&& 63))))) 46 (9 * (S + 2 ^ j) + j) (z_mnl (L1 46 (9 * (S + 2 ^ j) + j)) (V + (x9.toInt64 <<< ((z_p_Orders_orderShift (Int32.ofNat (zcard S))).toInt64 &&& 63)) + x7 + ((Int32.ofInt 2 * z_mxi (Int32.ofInt 0) (x3 + I 44 j + Int32.ofInt 5 - I 45 j)).toInt64 <<< ((Int32.ofInt 48).toInt64 &&& 63)))) 46) (zRD2_step hO a4 hj cb hS hV hm
              (fun y hy => by rw [z_up_r _ _ _ _ _ (by omega), z_up_j _ _ _ _ _ hy])
              (fun y hy => by rw [z_up_j _ _ _ _ _ hy, z_up_r _ _ _ _ _ (by omega)])
              (by rw [z_up_r _ _ _ _ _ (by omega), z_up_s, y_mnl, k0])
              (by rw [z_up_s, y_mnl, k1]))) (Or.inr (Or.inr trivial))
          refine ⟨L', g1, g2, fun M => ?_⟩
          rw [show M + 4 * (k + 1) + 4 = (M + 4 * k + 4) + 4 by omega, hstep]
          exact g3 M
        by_cases cw : (I 42 j).toInt ≤ (I 42 l).toInt
        · refine fin ((z_abi (I 43 l - I 43 j) / Int32.ofInt 100).toInt64 <<< ((Int32.ofInt 48).toInt64 &&& 63)) ?_ (fun M => ?_)
          · have e : zobes I l j = (z_abi (I 43 l - I 43 j) / Int32.ofInt 100).toInt := by
              rw [hbs]
              unfold zobes
              rw [if_neg (show ¬ (I 42 l).toInt < (I 42 j).toInt by omega)]
              omega
            rw [zks_48' (by omega) (by omega), e]
          · rw [zt_Orders_addNext_34_47_46 X d, if_neg (by rw [y_i_le]; omega), if_pos cb', hin9, z_gd_t, hin, z_gd_t, hin2, z_gd_t, z_gd_t, if_neg n100, z_gd_t, z_gd_t, hx9n, hx2n, hixn, if_pos (y_i_le.mpr cw), z_gd_t, z_gd_t, z_gd_t, z_gd_t, z_gd_t]
        · refine fin ((z_abi (I 43 l - I 43 j) / Int32.ofInt 100 + Int32.ofInt 40).toInt64 <<< ((Int32.ofInt 48).toInt64 &&& 63)) ?_ (fun M => ?_)
          · have e : zobes I l j = (z_abi (I 43 l - I 43 j) / Int32.ofInt 100).toInt + 40 := by
              rw [hbs]
              unfold zobes
              rw [if_pos (show (I 42 l).toInt < (I 42 j).toInt by omega)]
            have e' : (z_abi (I 43 l - I 43 j) / Int32.ofInt 100 + Int32.ofInt 40).toInt = zobes I l j := by
              rw [y_adl (by omega) (by omega) (by omega) (by omega), e]
            rw [zks_48' (by omega) (by omega), e']
          · rw [zt_Orders_addNext_34_47_46 X d, if_neg (by rw [y_i_le]; omega), if_pos cb', hin9, z_gd_t, hin, z_gd_t, hin2, z_gd_t, z_gd_t, if_neg n100, z_gd_t, z_gd_t, hx9n, hx2n, hixn, if_neg (fun x => cw (y_i_le.mp x)), z_gd_t, z_gd_t, z_gd_t, z_gd_t, z_gd_t]
      · have cb' : ¬ (x1 &&& (Int32.ofInt 1 <<< (x9 &&& 31))) = 0 := by
          rw [decide_eq_decide] at hbit
          exact fun x => cb (hbit.mp x)
        obtain ⟨L', g1, g2, g3⟩ := ih (j + 1) (x9 + Int32.ofInt 1) L1 (by omega) a2' a3 (hnext _ _ (zRD2_skip a4 (Or.inr cb))) (Or.inr (Or.inr trivial))
        refine ⟨L', g1, g2, fun M => ?_⟩
        rw [show M + 4 * (k + 1) + 4 = (M + 4 * k + 4) + 4 by omega, zt_Orders_addNext_34_47_46 X d, if_neg (by rw [y_i_le]; omega), if_neg cb', show M + 4 * k + 4 + 3 = (M + 3) + 4 * k + 4 by omega]
        exact g3 _
  obtain ⟨L', g1, g2, g3⟩ := lp n 0 (Int32.ofInt 0) L (by omega) rfl (fun _ _ _ => rfl) (zRD2_D hR (fun a b e => ⟨Or.inl, fun x => x.elim id (fun y => absurd y.2.2 (by omega))⟩)) (Or.inr (Or.inr trivial))
  refine ⟨L', g1, g2, ?_⟩
  refine z_en X (d + 1) _ _ [(0, .ref 41), (1, .int x1), (2, .int x2), (3, .int x3)] _ _ rfl rfl rfl ?_
  rw [show (100000000 : Nat) = (99999995 - 4 * n + 4 * n + 4) + 1 by omega, zb_Orders_addNext_0_47, y_in_t (by omega) (by omega), z_gd_t, hi0n, hcnt, ← hVe, ← hx7]
  exact g3 _
