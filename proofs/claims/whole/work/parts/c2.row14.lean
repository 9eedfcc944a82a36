/-! ROW, 14: the best, and by which order it begins, in the model -/
theorem zoT_0 (I : Nat → Nat → Int32) (n : Nat) : zoT I 0 n = 0 := by
  induction n with
  | zero => rfl
  | succ n ih =>
    show zoT I 0 n + (zbt2 0 n : Int) * (I 44 n).toInt = 0
    have e : zbt2 0 n = 0 := by
      unfold zbt2
      rw [Nat.zero_div]
    rw [ih, e]
    omega
theorem zFull_CR {n k : Nat} {a : zPl2} (hn : n ≤ 9) (h : zFull n k a) : zCR n (2 ^ k) 0 a := by
  have := zFull_is hn h
  exact ⟨h.2.1, h.2.2, by omega⟩
theorem zr_best (X : ZX) (d n0 ce sl : Nat) (I : Nat → Nat → Int32) (L : Nat → Nat → Int64) (t u r q g : Nat) (st : Nat → Option Nat) {n : Nat} (hO : zOr I n) (hM : zOM I n) (hn1 : 1 ≤ n) (J : Nat → Nat → Int32) (hJ : zOF I J) (hT : zTD I J n 0 0 0) : ∃ (K : Nat → Nat → Int32) (x1 x2 : Int32) (k0 : Nat), (∀ x, x ≠ 104 → K x = J x) ∧ k0 < n ∧ (K 104 0).toInt = k0 ∧ 0 ≤ x2.toInt ∧ x2.toInt ≤ 9 ∧ zBst I n x1.toInt x2.toInt ∧ (∃ a, zOpt I n x1.toInt x2.toInt k0 a) ∧ (∀ k', k' < k0 → ¬ ∃ a, zOpt I n x1.toInt x2.toInt k' a) ∧
    ∀ M, z_loop X z_cf z_ff (z_pu (z_run X z_cf z_ff (d + 3))) 240 (M + 2 * n + 1) 95 [(0, .ref 55), (1, .int (Int32.ofInt 1000000000)), (2, .int (Int32.ofInt 0)), (3, .int (Int32.ofInt 0))] [] (118, n0, ce, sl, J, L, z_rr t u r q g st) = z_loop X z_cf z_ff (z_pu (z_run X z_cf z_ff (d + 3))) 240 M 185 [(0, .ref 55), (1, .int x1), (2, .int x2), (3, .int (Int32.ofInt 0))] [] (118, n0, ce, sl, K, L, z_rr t u r q g st) := by
  have hF : zFAR = 1000000000 := rfl
  have hn9 := hO.1
  have p5 := zp2_512 hn9
  have eF : (Int32.ofInt 1000000000).toInt = 1000000000 := rfl
  have e0 : (Int32.ofInt 0).toInt = 0 := rfl
  have hin0 : z_in (Int32.ofInt 0) 9 = true := y_in_t (by decide) (by decide)
  have h0n : (Int32.ofInt 0).toNatClampNeg = 0 := rfl
  have lp : ∀ i, ∀ (k : Nat) (x1 x2 x3 : Int32) (K : Nat → Nat → Int32), k + i = n → x3.toInt = k → (∀ x, x ≠ 104 → K x = J x) → ((k = 0 ∧ x1.toInt = zFAR ∧ x2.toInt = 0) ∨ (x1.toInt < zFAR ∧ 0 ≤ x2.toInt ∧ x2.toInt ≤ 9 ∧ (∀ k', k' < k → ∀ a, zFull n k' a → x1.toInt < zfc I n k' a ∨ x1.toInt = zfc I n k' a ∧ x2.toInt ≤ (zwc a 0 : Nat)) ∧ ∃ k0, k0 < k ∧ (K 104 0).toInt = (k0 : Nat) ∧ (∃ a, zOpt I n x1.toInt x2.toInt k0 a) ∧ ∀ k', k' < k0 → ¬ ∃ a, zOpt I n x1.toInt x2.toInt k' a)) → ∃ (K' : Nat → Nat → Int32) (x1' x2' : Int32) (k0 : Nat), (∀ x, x ≠ 104 → K' x = J x) ∧ k0 < n ∧ (K' 104 0).toInt = k0 ∧ 0 ≤ x2'.toInt ∧ x2'.toInt ≤ 9 ∧ zBst I n x1'.toInt x2'.toInt ∧ (∃ a, zOpt I n x1'.toInt x2'.toInt k0 a) ∧ (∀ k', k' < k0 → ¬ ∃ a, zOpt I n x1'.toInt x2'.toInt k' a) ∧
      ∀ M, z_loop X z_cf z_ff (z_pu (z_run X z_cf z_ff (d + 3))) 240 (M + 2 * i + 1) 95 [(0, .ref 55), (1, .int x1), (2, .int x2), (3, .int x3)] [] (118, n0, ce, sl, K, L, z_rr t u r q g st) = z_loop X z_cf z_ff (z_pu (z_run X z_cf z_ff (d + 3))) 240 M 185 [(0, .ref 55), (1, .int x1'), (2, .int x2'), (3, .int (Int32.ofInt 0))] [] (118, n0, ce, sl, K', L, z_rr t u r q g st) := by
    intro i
    induction i with
    | zero =>
      intro k x1 x2 x3 K a1 a2 a3 a4
      have e : k = n := by omega
      subst e
      rcases a4 with ⟨b1, _⟩ | ⟨b1, b2, b3, b4, k0, c1, c2, c3, c4⟩
      · omega
      · refine ⟨K, x1, x2, k0, a3, c1, c2, b2, b3, ⟨b1, fun k' a ha => b4 k' ha.1 a ha⟩, c3, c4, fun M => ?_⟩
        have hn76 := (zOF_o hO hM (K := K) (fun x hx => by rw [a3 x (by omega), hJ x hx])).2.2.1
        rw [show M + 2 * 0 + 1 = M + 1 by omega, zb_M_row_95, if_pos (by rw [y_i_le]; omega)]
    | succ i ih =>
      intro k x1 x2 x3 K a1 a2 a3 a4
      have hk : k < n := by omega
      have hKF : zOF I K := fun x hx => by rw [a3 x (by omega), hJ x hx]
      obtain ⟨o1, o2, o3, o4, o5⟩ := zOF_o hO hM hKF
      have hx3 : x3 = Int32.ofNat k := y_nat a2
      have a2' : (x3 + Int32.ofInt 1).toInt = ((k + 1 : Nat) : Int) := by rw [y_adl (by omega) (by omega) (by omega) (by omega)]; omega
      have pk := zp2_lt hk hn9
      obtain ⟨y, y1, y2⟩ := zr_coinOf X d n0 ce sl K L t u r q g st (f := 0) (c := 0) (S := 0) o1 o2 (by omega) hk (by omega) (by omega) (Int32.ofInt 0) (Int32.ofInt (-1)) x3 (Int32.ofInt 0) (Int32.ofInt 0) rfl a2 rfl rfl none (Or.inl ⟨rfl, rfl⟩)
      have y1' : y.toInt = zolate I k (I 44 k).toInt := by
        rw [y1]
        show zolate K k (5 * (((0 : Nat) : Int) + (0 : Nat)) + (K 44 k).toInt + zoT K 0 n) = _
        rw [o5, zoT_0, hKF 44 (by omega)]
        congr 1
        omega
      have hok := hO.2 k hk
      have hz := zolate_r hO hk (e := (I 44 k).toInt) (by omega)
      have hone : (Int32.ofInt 1 <<< (x3 &&& 31)).toInt = ((2 ^ k : Nat) : Int) := by rw [hx3, zbits_one k (by omega), y_on (by omega)]
      have hbx := z_mat hone a2 (show (Int32.ofInt 0).toInt = ((0 : Nat) : Int) from rfl) (by omega) (by omega) (by omega)
      obtain ⟨b, hbe⟩ : ∃ b, b = z_p_M_at (Int32.ofInt 1 <<< (x3 &&& 31)) x3 (Int32.ofInt 0) := ⟨_, rfl⟩
      rw [← hbe] at hbx
      have hbn : b.toNatClampNeg = 81 * 2 ^ k + 9 * k + 0 := by rw [y_tn, hbx]; rfl
      have hinb : z_in b 41472 = true := y_in_t (by omega) (by omega)
      have p1 : 0 < 2 ^ k := Nat.pow_pos (by omega)
      obtain ⟨t1, t2, t3, t4, t5⟩ := hT (2 ^ k) k 0 pk hk (zbits_p2 k (by omega)).2 (by omega) (Or.inl p1)
      have hK106 : K 106 = J 106 := a3 106 (by omega)
      have hK107 : K 107 = J 107 := a3 107 (by omega)
      -- there is a row that begins so
      obtain ⟨rs0, hrs0⟩ := zfull_ex hn9 hk
      have r0 := zcoin_r hO rs0 (2 ^ k) k 0 pk hk hrs0.1 hrs0.2.2
      have l0 := zCR_len hn9 pk hrs0
      have low0 := t1.1 rs0 hrs0 trivial
      have hcbF : (J 106 (81 * 2 ^ k + 9 * k + 0)).toInt ≤ 24471 := by omega
      have att : ∃ a, zOpt I n (zolate I k (I 44 k).toInt + (J 106 (81 * 2 ^ k + 9 * k + 0)).toInt) (J 107 (81 * 2 ^ k + 9 * k + 0)).toInt k a := by
        rcases t1.2 with w | ⟨a, w1, w2, w3, w4⟩
        · omega
        · refine ⟨a, ⟨hk, w1.1, w1.2.1⟩, ?_, by omega⟩
          unfold zfc
          omega
      have low : ∀ a, zFull n k a → zolate I k (I 44 k).toInt + (J 106 (81 * 2 ^ k + 9 * k + 0)).toInt < zfc I n k a ∨ zolate I k (I 44 k).toInt + (J 106 (81 * 2 ^ k + 9 * k + 0)).toInt = zfc I n k a ∧ (J 107 (81 * 2 ^ k + 9 * k + 0)).toInt ≤ (zwc a 0 : Nat) := by
        intro a ha
        unfold zfc
        rcases t1.1 a (zFull_CR hn9 ha) trivial with w | ⟨w1, w2⟩
        · exact Or.inl (by omega)
        · exact Or.inr ⟨by omega, by omega⟩
      have es : (y + J 106 (81 * 2 ^ k + 9 * k + 0)).toInt = zolate I k (I 44 k).toInt + (J 106 (81 * 2 ^ k + 9 * k + 0)).toInt := by rw [y_ad (by omega) (by omega), y1']
      obtain ⟨cn, hcn⟩ : ∃ cn, cn = zolate I k (I 44 k).toInt + (J 106 (81 * 2 ^ k + 9 * k + 0)).toInt := ⟨_, rfl⟩
      rw [← hcn] at es att low
      have pre : ∀ M, z_loop X z_cf z_ff (z_pu (z_run X z_cf z_ff (d + 3))) 240 (M + 2) 95 [(0, .ref 55), (1, .int x1), (2, .int x2), (3, .int x3)] [] (118, n0, ce, sl, K, L, z_rr t u r q g st) = z_loop X z_cf z_ff (z_pu (z_run X z_cf z_ff (d + 3))) 240 (M + 1) 112 [(0, .ref 55), (1, .int x1), (2, .int x2), (3, .int x3)] [.int y] (118, n0, ce, sl, K, L, z_rr t u r q g st) := by
        intro M
        rw [show M + 2 = (M + 1) + 1 by omega, zb_M_row_95, if_neg (by rw [y_i_le]; omega), y2, z_bi_v]
      by_cases cbt : cn < x1.toInt ∨ cn = x1.toInt ∧ (J 107 (81 * 2 ^ k + 9 * k + 0)).toInt < x2.toInt
      · obtain ⟨K', x1', x2', k0, g1, g2, g3, g4, g5, g6, g7, g8, g9⟩ := ih (k + 1) (y + J 106 (81 * 2 ^ k + 9 * k + 0)) (J 107 (81 * 2 ^ k + 9 * k + 0)) (x3 + Int32.ofInt 1) (z_up K 104 0 x3) (by omega) a2' (fun x hx => by rw [z_up_r _ _ _ _ _ hx, a3 x hx]) (Or.inr (by
          rw [es]
          refine ⟨by omega, t4, t5, ?_, k, by omega, by rw [z_up_s]; exact a2, att, ?_⟩
          · intro k' hk' a ha
            by_cases e : k' = k
            · subst e
              exact low a ha
            · rcases a4 with ⟨b1, _⟩ | ⟨b1, b2, b3, b4, _⟩
              · omega
              · have := b4 k' (by omega) a ha
                omega
          · rintro k' hk' ⟨a, ha, ha2, ha3⟩
            rcases a4 with ⟨b1, _⟩ | ⟨b1, b2, b3, b4, _⟩
            · omega
            · have := b4 k' (by omega) a ha
              omega))
        refine ⟨K', x1', x2', k0, g1, g2, g3, g4, g5, g6, g7, g8, fun M => ?_⟩
        rw [show M + 2 * (i + 1) + 1 = (M + 2 * i + 1) + 2 by omega, pre, zb_M_row_112, ← hbe, hinb, z_gd_t, z_gd_t, hbn, hK106, hK107]
        rcases cbt with cbt | ⟨cb1, cb2⟩
        · rw [if_neg (by rw [y_i_lt]; omega), if_neg (by rw [y_i_eq]; omega), hin0, z_gd_t]
          exact g9 M
        · rw [if_neg (by rw [y_i_lt]; omega), if_pos (by rw [y_i_eq]; omega), if_pos (by rw [y_i_lt]; omega), hin0, z_gd_t]
          exact g9 M
      · have a4' := a4
        obtain ⟨K', x1', x2', k0, g1, g2, g3, g4, g5, g6, g7, g8, g9⟩ := ih (k + 1) x1 x2 (x3 + Int32.ofInt 1) K (by omega) a2' a3 (by
          rcases a4 with ⟨b1, b2, b3⟩ | ⟨b1, b2, b3, b4, k0, c1, c2⟩
          · exact absurd (Or.inl (by omega)) cbt
          · refine Or.inr ⟨b1, b2, b3, ?_, k0, by omega, c2⟩
            intro k' hk' a ha
            by_cases e : k' = k
            · subst e
              have := low a ha
              omega
            · exact b4 k' (by omega) a ha)
        refine ⟨K', x1', x2', k0, g1, g2, g3, g4, g5, g6, g7, g8, fun M => ?_⟩
        rw [show M + 2 * (i + 1) + 1 = (M + 2 * i + 1) + 2 by omega, pre, zb_M_row_112, ← hbe, hinb, z_gd_t, z_gd_t, hbn, hK106, hK107]
        by_cases cg : x1.toInt < cn
        · rw [if_pos (by rw [y_i_lt]; omega)]
          exact g9 M
        · rw [if_neg (by rw [y_i_lt]; omega), if_pos (by rw [y_i_eq]; omega), if_neg (by rw [y_i_lt]; omega)]
          exact g9 M
  exact lp n 0 (Int32.ofInt 1000000000) (Int32.ofInt 0) (Int32.ofInt 0) J (by omega) rfl (fun _ _ => rfl) (Or.inl ⟨rfl, eF, rfl⟩)
