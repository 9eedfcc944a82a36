/-! ROW, 12: the next order, in the model -/
def zOF (I J : Nat → Nat → Int32) : Prop := ∀ x, (x < 104 ∨ 110 < x) → J x = I x
theorem zOF_o {I K : Nat → Nat → Int32} {n : Nat} (hO : zOr I n) (hM : zOM I n) (hK : zOF I K) : zOr K n ∧ zOM K n ∧ (K 55 76).toInt = n ∧ (∀ S l k f c, zoc K n S l k f c = zoc I n S l k f c) ∧ (∀ k e, zolate K k e = zolate I k e) := by
  have hn9 := hO.1
  have k42 := hK 42 (by omega)
  have k43 := hK 43 (by omega)
  have k44 := hK 44 (by omega)
  have k45 := hK 45 (by omega)
  refine ⟨⟨hn9, ?_⟩, ?_, ?_, ?_, ?_⟩
  · rw [k42, k43, k44, k45]
    exact hO.2
  · unfold zOM at *
    rw [hK 100 (by omega), hK 101 (by omega), hK 102 (by omega), hK 103 (by omega), hK 55 (by omega), k42, k43, k44, k45]
    exact hM
  · rw [hK 55 (by omega), hM.2.2.2.2, y_on (by omega)]
  · intro S l k f c
    have eT : ∀ m, zoT K S m = zoT I S m := by
      intro m
      induction m with
      | zero => rfl
      | succ m ih =>
        show zoT K S m + (zbt2 S m : Int) * (K 44 m).toInt = zoT I S m + (zbt2 S m : Int) * (I 44 m).toInt
        rw [ih, k44]
    unfold zoc zolate zobes
    rw [eT, k42, k43, k44, k45]
  · intro k e
    unfold zolate
    rw [k45]
theorem zIs_lt {I J : Nat → Nat → Int32} {n S l k : Nat} {A : Nat → Int} {best few : Int} {lt lt' : Nat → Nat → Prop} (h : zIs I J n S l k A best few lt) (e : ∀ c0 f0, lt c0 f0 → c0 < 9 → f0 < 2 → c0 + f0 < 9 → A c0 ≠ zFAR → lt' c0 f0) : zIs I J n S l k A best few lt' := by
  obtain ⟨c0, f0, h1, h2, h3, h4, h5, h6, h7⟩ := h
  exact ⟨c0, f0, e c0 f0 h1 h2 h3 h4 h5, h2, h3, h4, h5, h6, h7⟩
/-- a flag for what holds -/
def zfl (x : Int32) (P : Prop) : Prop := x = Int32.ofInt 1 ∧ P ∨ x = Int32.ofInt 0 ∧ ¬ P
theorem zr_try1 (X : ZX) (d n0 ce sl : Nat) (I : Nat → Nat → Int32) (L : Nat → Nat → Int64) (t u r q g : Nat) (st : Nat → Option Nat) {n k0 S l k : Nat} {ks : List Nat} {best few : Int} (hO : zOr I n) (hM : zOM I n) (hk0 : k0 < n) (hS : S < 2 ^ n) (hl : l < n) (hk : k < n) (hb : zbt2 S k = 0) (x1 x2 x3 x4 x5 x6 : Int32) (h1 : x1.toInt = S) (h2 : x2.toInt = l) (h3 : x3.toInt = best) (h4 : x4.toInt = few) (h6 : x6.toInt = k) (J : Nat → Nat → Int32) (hJ : zOF I J) (hA : zAh I n k0 ks (fun c => (J 108 c).toInt)) (hT : ∀ c, c < 9 → zTE I J n (S + 2 ^ k) k c) : ∃ (K : Nat → Nat → Int32) (x7 x8 : Int32), (∀ x, x ≠ 109 → K x = J x) ∧ zAp I n k0 ks S l k (zlt2 9 0) (fun c => (K 109 c).toInt) ∧ zfl x7 (zIs I J n S l k (fun c => (J 108 c).toInt) best few (zlt2 9 0)) ∧ x8.toInt = 9 ∧
    ∀ M, ∃ M', M ≤ M' ∧ z_loop X z_cf z_ff (z_pu (z_run X z_cf z_ff (d + 3))) 244 (M + 100) 40 [(0, .ref 55), (1, .int x1), (2, .int x2), (3, .int x3), (4, .int x4), (5, .int x5), (6, .int x6), (7, .int (Int32.ofInt 0)), (8, .int (Int32.ofInt 0))] [] (118, n0, ce, sl, J, L, z_rr t u r q g st) = z_loop X z_cf z_ff (z_pu (z_run X z_cf z_ff (d + 3))) 244 M' 66 [(0, .ref 55), (1, .int x1), (2, .int x2), (3, .int x3), (4, .int x4), (5, .int x5), (6, .int x6), (7, .int x7), (8, .int x8)] [] (118, n0, ce, sl, K, L, z_rr t u r q g st) := by
  have hF : zFAR = 1000000000 := rfl
  have hn9 := hO.1
  have p5 := zp2_512 hn9
  have e9 : (Int32.ofInt 9).toInt = 9 := rfl
  have e2 : (Int32.ofInt 2).toInt = 2 := rfl
  have eF : (Int32.ofInt 1000000000).toInt = 1000000000 := rfl
  have n10 : ¬ (Int32.ofInt 1 : Int32) = 0 := by decide
  have z00 : (Int32.ofInt 0 : Int32) = 0 := rfl
  have hx1 : x1 = Int32.ofNat S := y_nat h1
  have hx6 : x6 = Int32.ofNat k := y_nat h6
  have hor := zbits_or k (by omega) S (by omega) hb
  have horx : (x1 ||| (Int32.ofInt 1 <<< (x6 &&& 31))).toInt = ((S + 2 ^ k : Nat) : Int) := by rw [hx1, hx6, hor.1, y_on (by omega)]
  -- the row is laid anew
  have lp0 : ∀ i, ∀ (c : Nat) (x8 : Int32) (K : Nat → Nat → Int32), c + i = 9 → x8.toInt = c → (∀ x, x ≠ 109 → K x = J x) → (∀ y, y < c → (K 109 y).toInt = zFAR) → ∃ K' : Nat → Nat → Int32, (∀ x, x ≠ 109 → K' x = J x) ∧ (∀ y, y < 9 → (K' 109 y).toInt = zFAR) ∧ ∀ M, z_loop X z_cf z_ff (z_pu (z_run X z_cf z_ff (d + 3))) 244 (M + i + 1) 40 [(0, .ref 55), (1, .int x1), (2, .int x2), (3, .int x3), (4, .int x4), (5, .int x5), (6, .int x6), (7, .int (Int32.ofInt 0)), (8, .int x8)] [] (118, n0, ce, sl, K, L, z_rr t u r q g st) = z_loop X z_cf z_ff (z_pu (z_run X z_cf z_ff (d + 3))) 244 M 66 [(0, .ref 55), (1, .int x1), (2, .int x2), (3, .int x3), (4, .int x4), (5, .int x5), (6, .int x6), (7, .int (Int32.ofInt 0)), (8, .int (Int32.ofInt 0))] [] (118, n0, ce, sl, K', L, z_rr t u r q g st) := by
    intro i
    induction i with
    | zero =>
      intro c x8 K a1 a2 a3 a4
      refine ⟨K, a3, fun y hy => a4 y (by omega), fun M => ?_⟩
      rw [show M + 0 + 1 = M + 1 by omega, zb_M_nextOrder_40, if_pos (by rw [y_i_le, e9]; omega)]
    | succ i ih =>
      intro c x8 K a1 a2 a3 a4
      have hxn : x8.toNatClampNeg = c := by rw [y_tn, a2]; rfl
      obtain ⟨K', g1, g2, g3⟩ := ih (c + 1) (x8 + Int32.ofInt 1) (z_up K 109 c (Int32.ofInt 1000000000)) (by omega) (by rw [y_adl (by omega) (by omega) (by omega) (by omega)]; omega) (fun x hx => by rw [z_up_r _ _ _ _ _ hx, a3 x hx]) (fun y hy => by
        by_cases cc : y = c
        · subst cc
          rw [z_up_s, eF]
          rfl
        · rw [z_up_j _ _ _ _ _ cc]
          exact a4 y (by omega))
      refine ⟨K', g1, g2, fun M => ?_⟩
      rw [show M + (i + 1) + 1 = (M + i + 1) + 1 by omega, zb_M_nextOrder_40, if_neg (by rw [y_i_le, e9]; omega), y_in_t (by omega) (by omega), z_gd_t, hxn]
      exact g3 M
  -- with a change and without
  have lpf : ∀ i, ∀ (c f : Nat) (x7 x8 x9 : Int32) (K : Nat → Nat → Int32), c < 9 → f + i = 2 → x8.toInt = c → x9.toInt = f → (∀ x, x ≠ 109 → K x = J x) → zAp I n k0 ks S l k (zlt2 c f) (fun c => (K 109 c).toInt) → zfl x7 (zIs I J n S l k (fun c => (J 108 c).toInt) best few (zlt2 c f)) → ∃ (K' : Nat → Nat → Int32) (x7' : Int32), (∀ x, x ≠ 109 → K' x = J x) ∧ zAp I n k0 ks S l k (zlt2 (c + 1) 0) (fun c => (K' 109 c).toInt) ∧ zfl x7' (zIs I J n S l k (fun c => (J 108 c).toInt) best few (zlt2 (c + 1) 0)) ∧
      ∀ M, ∃ M', M ≤ M' ∧ z_loop X z_cf z_ff (z_pu (z_run X z_cf z_ff (d + 3))) 244 (M + 2 * i + 1) 76 [(0, .ref 55), (1, .int x1), (2, .int x2), (3, .int x3), (4, .int x4), (5, .int x5), (6, .int x6), (7, .int x7), (8, .int x8), (9, .int x9)] [] (118, n0, ce, sl, K, L, z_rr t u r q g st) = z_loop X z_cf z_ff (z_pu (z_run X z_cf z_ff (d + 3))) 244 M' 66 [(0, .ref 55), (1, .int x1), (2, .int x2), (3, .int x3), (4, .int x4), (5, .int x5), (6, .int x6), (7, .int x7'), (8, .int (x8 + Int32.ofInt 1))] [] (118, n0, ce, sl, K', L, z_rr t u r q g st) := by
    intro i
    induction i with
    | zero =>
      intro c f x7 x8 x9 K c9 a1 a2 a3 a4 a5 a6
      have ef : f = 2 := by omega
      subst ef
      refine ⟨K, x7, a4, zAp_lt a5 (fun pre c0 f0 _ _ _ w _ => by unfold zlt2; omega), ?_, fun M => ⟨M, Nat.le_refl _, ?_⟩⟩
      · rcases a6 with ⟨w1, w2⟩ | ⟨w1, w2⟩
        · exact Or.inl ⟨w1, zIs_lt w2 (fun c0 f0 h1 _ _ _ _ => by unfold zlt2 at *; omega)⟩
        · exact Or.inr ⟨w1, fun x => w2 (zIs_lt x (fun c0 f0 h1 _ h3 _ _ => by unfold zlt2 at *; omega))⟩
      · rw [show M + 2 * 0 + 1 = M + 1 by omega, zb_M_nextOrder_76, if_pos (by rw [y_i_le, e2]; omega)]
    | succ i ih =>
      intro c f x7 x8 x9 K c9 a1 a2 a3 a4 a5 a6
      have hx8n : x8.toNatClampNeg = c := by rw [y_tn, a2]; rfl
      have hin8 : z_in x8 9 = true := y_in_t (by omega) (by omega)
      have hAr := zAh_r hO hk0 hA c9
      have n2 : ¬ Int32.ofInt 2 ≤ x9 := by rw [y_i_le, e2]; omega
      have e89 : (x8 + x9).toInt = ((c + f : Nat) : Int) := by rw [y_ad (by omega) (by omega)]; omega
      have hK108 : K 108 = J 108 := a4 108 (by omega)
      by_cases cF : (J 108 c).toInt = zFAR
      · have hno := zAp_far hO hk0 hA c9 cF
        refine ⟨K, x7, a4, zAp_lt a5 (fun pre c0 f0 w1 w2 w3 w4 w5 => ?_), ?_, fun M => ⟨M + 2 * (i + 1), by omega, ?_⟩⟩
        · have := hno pre w1 w2
          unfold zlt2
          omega
        · rcases a6 with ⟨w1, w2⟩ | ⟨w1, w2⟩
          · exact Or.inl ⟨w1, zIs_lt w2 (fun c0 f0 h1 _ _ _ _ => by unfold zlt2 at *; omega)⟩
          · refine Or.inr ⟨w1, fun x => w2 (zIs_lt x (fun c0 f0 h1 _ h3 _ h5 => ?_))⟩
            have : c0 ≠ c := fun e => by rw [e] at h5; exact h5 cF
            unfold zlt2 at *
            omega
        · rw [zb_M_nextOrder_76, if_neg n2, hin8, z_gd_t, hx8n, hK108, if_pos (by rw [y_i_le, eF]; omega)]
      · by_cases ccf : 9 ≤ c + f
        · refine ⟨K, x7, a4, zAp_lt a5 (fun pre c0 f0 w1 w2 w3 w4 w5 => by unfold zlt2; omega), ?_, fun M => ⟨M + 2 * (i + 1), by omega, ?_⟩⟩
          · rcases a6 with ⟨w1, w2⟩ | ⟨w1, w2⟩
            · exact Or.inl ⟨w1, zIs_lt w2 (fun c0 f0 h1 _ _ _ _ => by unfold zlt2 at *; omega)⟩
            · exact Or.inr ⟨w1, fun x => w2 (zIs_lt x (fun c0 f0 h1 _ h3 h4 h5 => by unfold zlt2 at *; omega))⟩
          · rw [zb_M_nextOrder_76, if_neg n2, hin8, z_gd_t, hx8n, hK108, if_neg (by rw [y_i_le, eF]; omega), if_pos (by rw [y_i_le, e9]; omega)]
        · have hKF : zOF I K := fun x hx => by rw [a4 x (by omega), hJ x hx]
          obtain ⟨o1, o2, o3, o4, o5⟩ := zOF_o hO hM hKF
          obtain ⟨y, y1, y2⟩ := zr_coinOf X d n0 ce sl K L t u r q g st (f := f) (c := c) o1 o2 (show S < 512 by omega) hk (by omega) (by omega) x1 x2 x6 x9 x8 h1 h6 a3 a2 (some l) (Or.inr ⟨l, rfl, hl, h2⟩)
          have y1' : y.toInt = zoc I n S l k f c := by
            rw [← o4]
            exact y1
          have zr := zoc_r (S := S) (f := f) hO hl hk (c := c) (by omega)
          have es : (J 108 c + y).toInt = (J 108 c).toInt + zoc I n S l k f c := by rw [y_ad (by omega) (by omega), y1']
          have hidx : (x8 + x9).toNatClampNeg = c + f := by rw [y_tn, e89]; rfl
          have hin89 : z_in (x8 + x9) 9 = true := y_in_t (by omega) (by omega)
          have hbx := z_mat horx h6 e89 hor.2 (by omega) (by omega)
          obtain ⟨b, hbe⟩ : ∃ b, b = z_p_M_at (x1 ||| (Int32.ofInt 1 <<< (x6 &&& 31))) x6 (x8 + x9) := ⟨_, rfl⟩
          rw [← hbe] at hbx
          have hbn : b.toNatClampNeg = 81 * (S + 2 ^ k) + 9 * k + (c + f) := by rw [y_tn, hbx]; rfl
          have hinb : z_in b 41472 = true := y_in_t (by omega) (by omega)
          obtain ⟨t1, t2, t3, t4, t5⟩ := hT (c + f) (by omega)
          have hK106 : K 106 = J 106 := a4 106 (by omega)
          have hK107 : K 107 = J 107 := a4 107 (by omega)
          have es2 : (J 108 c + y + J 106 (81 * (S + 2 ^ k) + 9 * k + (c + f))).toInt = (J 108 c).toInt + zoc I n S l k f c + (J 106 (81 * (S + 2 ^ k) + 9 * k + (c + f))).toInt := by rw [y_ad (by omega) (by omega), es]
          have es3 : (x8 + x9 + J 107 (81 * (S + 2 ^ k) + 9 * k + (c + f))).toInt = ((c + f : Nat) : Int) + (J 107 (81 * (S + 2 ^ k) + 9 * k + (c + f))).toInt := by rw [y_ad (by omega) (by omega), e89]
          have hpr := zAp_r hO hk0 hl hk a5 (show c + f < 9 by omega)
          have a3' : (x9 + Int32.ofInt 1).toInt = ((f + 1 : Nat) : Int) := by rw [y_adl (by omega) (by omega) (by omega) (by omega)]; omega
          -- what the two of them are now
          obtain ⟨v, hv, hvs⟩ : ∃ v : Int32, v.toInt = min (K 109 (c + f)).toInt ((J 108 c).toInt + zoc I n S l k f c) ∧ v = if (K 109 (c + f)) ≤ J 108 c + y then K 109 (c + f) else J 108 c + y := by
            by_cases cc : (K 109 (c + f)) ≤ J 108 c + y
            · refine ⟨K 109 (c + f), ?_, by rw [if_pos cc]⟩
              rw [y_i_le] at cc
              omega
            · refine ⟨J 108 c + y, ?_, by rw [if_neg cc]⟩
              rw [y_i_le] at cc
              omega
          have hstep := zAp_step (A2 := fun x => (z_up K 109 (c + f) v 109 x).toInt) (show f < 2 by omega) (show c + f < 9 by omega) hA cF hO hk0 hl hk a5 (fun x hx => by show (z_up K 109 (c + f) v 109 x).toInt = _; rw [z_up_j _ _ _ _ _ hx]) (by show (z_up K 109 (c + f) v 109 (c + f)).toInt = _; rw [z_up_s]; exact hv)
          obtain ⟨x7', hx7', hrun⟩ : ∃ x7' : Int32, zfl x7' (zIs I J n S l k (fun c => (J 108 c).toInt) best few (zlt2 c (f + 1))) ∧ ∀ M, z_loop X z_cf z_ff (z_pu (z_run X z_cf z_ff (d + 3))) 244 (M + 2) 76 [(0, .ref 55), (1, .int x1), (2, .int x2), (3, .int x3), (4, .int x4), (5, .int x5), (6, .int x6), (7, .int x7), (8, .int x8), (9, .int x9)] [] (118, n0, ce, sl, K, L, z_rr t u r q g st) = z_loop X z_cf z_ff (z_pu (z_run X z_cf z_ff (d + 3))) 244 M 76 [(0, .ref 55), (1, .int x1), (2, .int x2), (3, .int x3), (4, .int x4), (5, .int x5), (6, .int x6), (7, .int x7'), (8, .int x8), (9, .int (x9 + Int32.ofInt 1))] [] (118, n0, ce, sl, z_up K 109 (c + f) v, L, z_rr t u r q g st) := by
            have pre : ∀ M, z_loop X z_cf z_ff (z_pu (z_run X z_cf z_ff (d + 3))) 244 (M + 2) 76 [(0, .ref 55), (1, .int x1), (2, .int x2), (3, .int x3), (4, .int x4), (5, .int x5), (6, .int x6), (7, .int x7), (8, .int x8), (9, .int x9)] [] (118, n0, ce, sl, K, L, z_rr t u r q g st) = z_loop X z_cf z_ff (z_pu (z_run X z_cf z_ff (d + 3))) 244 (M + 1) 124 [(0, .ref 55), (1, .int x1), (2, .int x2), (3, .int x3), (4, .int x4), (5, .int x5), (6, .int x6), (7, .int x7), (8, .int x8), (9, .int x9)] [.int y, .int (J 108 c)] (118, n0, ce, sl, K, L, z_rr t u r q g st) := by
              intro M
              rw [show M + 2 = (M + 1) + 1 by omega, zb_M_nextOrder_76, if_neg n2, hin8, z_gd_t, hx8n, hK108, if_neg (by rw [y_i_le, eF]; omega), if_neg (by rw [y_i_le, e9]; omega), z_gd_t, y2, z_bi_v]
            -- the rest of the row's step, by what the flag was
            rcases a6 with ⟨w1, w2⟩ | ⟨w1, w2⟩
            · refine ⟨Int32.ofInt 1, Or.inl ⟨rfl, zIs_lt w2 (fun c0 f0 h1 _ _ _ _ => by unfold zlt2 at *; omega)⟩, fun M => ?_⟩
              rw [pre, zb_M_nextOrder_124, hin89, z_gd_t, hidx, w1]
              by_cases cc : (K 109 (c + f)) ≤ J 108 c + y
              · rw [if_pos cc] at hvs
                rw [if_pos cc, z_gd_t, z_gd_t, if_neg n10, hvs]
              · rw [if_neg cc] at hvs
                rw [if_neg cc, z_gd_t, if_neg n10, hvs]
            · by_cases cq : (J 108 c).toInt + zoc I n S l k f c + (J 106 (81 * (S + 2 ^ k) + 9 * k + (c + f))).toInt = best ∧ ((c + f : Nat) : Int) + (J 107 (81 * (S + 2 ^ k) + 9 * k + (c + f))).toInt = few
              · refine ⟨Int32.ofInt 1, Or.inl ⟨rfl, c, f, Or.inr ⟨rfl, by omega⟩, c9, by omega, by omega, cF, cq.1, cq.2⟩, fun M => ?_⟩
                rw [pre, zb_M_nextOrder_124, hin89, z_gd_t, hidx, w1, ← hbe, hinb, hbn, hK106, hK107]
                by_cases cc : (K 109 (c + f)) ≤ J 108 c + y
                · rw [if_pos cc] at hvs
                  rw [if_pos cc, z_gd_t, z_gd_t, if_pos z00, z_gd_t, if_pos (by rw [y_i_eq]; omega), z_gd_t, if_pos (by rw [y_i_eq]; omega), hvs]
                · rw [if_neg cc] at hvs
                  rw [if_neg cc, z_gd_t, if_pos z00, z_gd_t, if_pos (by rw [y_i_eq]; omega), z_gd_t, if_pos (by rw [y_i_eq]; omega), hvs]
              · refine ⟨Int32.ofInt 0, Or.inr ⟨rfl, fun x => ?_⟩, fun M => ?_⟩
                · obtain ⟨c0, f0, b1, b2, b3, b4, b5, b6, b7⟩ := x
                  by_cases e : c0 = c ∧ f0 = f
                  · obtain ⟨e1, e2⟩ := e
                    subst e1
                    subst e2
                    exact cq ⟨b6, b7⟩
                  · exact w2 ⟨c0, f0, by unfold zlt2 at *; omega, b2, b3, b4, b5, b6, b7⟩
                · rw [pre, zb_M_nextOrder_124, hin89, z_gd_t, hidx, w1, ← hbe, hinb, hbn, hK106, hK107]
                  by_cases cq1 : (J 108 c).toInt + zoc I n S l k f c + (J 106 (81 * (S + 2 ^ k) + 9 * k + (c + f))).toInt = best
                  · have cq2 : ¬ ((c + f : Nat) : Int) + (J 107 (81 * (S + 2 ^ k) + 9 * k + (c + f))).toInt = few := fun x => cq ⟨cq1, x⟩
                    by_cases cc : (K 109 (c + f)) ≤ J 108 c + y
                    · rw [if_pos cc] at hvs
                      rw [if_pos cc, z_gd_t, z_gd_t, if_pos z00, z_gd_t, if_pos (by rw [y_i_eq]; omega), z_gd_t, if_neg (by rw [y_i_eq]; omega), hvs]
                    · rw [if_neg cc] at hvs
                      rw [if_neg cc, z_gd_t, if_pos z00, z_gd_t, if_pos (by rw [y_i_eq]; omega), z_gd_t, if_neg (by rw [y_i_eq]; omega), hvs]
                  · by_cases cc : (K 109 (c + f)) ≤ J 108 c + y
                    · rw [if_pos cc] at hvs
                      rw [if_pos cc, z_gd_t, z_gd_t, if_pos z00, z_gd_t, if_neg (by rw [y_i_eq]; omega), hvs]
                    · rw [if_neg cc] at hvs
                      rw [if_neg cc, z_gd_t, if_pos z00, z_gd_t, if_neg (by rw [y_i_eq]; omega), hvs]
          obtain ⟨K', x7'', g1, g2, g3, g4⟩ := ih c (f + 1) x7' x8 (x9 + Int32.ofInt 1) (z_up K 109 (c + f) v) c9 (by omega) a2 a3' (fun x hx => by rw [z_up_r _ _ _ _ _ hx, a4 x hx]) hstep hx7'
          refine ⟨K', x7'', g1, g2, g3, fun M => ?_⟩
          obtain ⟨M', m1, m2⟩ := g4 M
          refine ⟨M', m1, ?_⟩
          rw [show M + 2 * (i + 1) + 1 = (M + 2 * i + 1) + 2 by omega, hrun]
          exact m2
  -- every number of changes
  have lpc : ∀ i, ∀ (c : Nat) (x7 x8 : Int32) (K : Nat → Nat → Int32), c + i = 9 → x8.toInt = c → (∀ x, x ≠ 109 → K x = J x) → zAp I n k0 ks S l k (zlt2 c 0) (fun c => (K 109 c).toInt) → zfl x7 (zIs I J n S l k (fun c => (J 108 c).toInt) best few (zlt2 c 0)) → ∃ (K' : Nat → Nat → Int32) (x7' x8' : Int32), (∀ x, x ≠ 109 → K' x = J x) ∧ zAp I n k0 ks S l k (zlt2 9 0) (fun c => (K' 109 c).toInt) ∧ zfl x7' (zIs I J n S l k (fun c => (J 108 c).toInt) best few (zlt2 9 0)) ∧ x8'.toInt = 9 ∧
      ∀ M, ∃ M', M ≤ M' ∧ z_loop X z_cf z_ff (z_pu (z_run X z_cf z_ff (d + 3))) 244 (M + 6 * i) 66 [(0, .ref 55), (1, .int x1), (2, .int x2), (3, .int x3), (4, .int x4), (5, .int x5), (6, .int x6), (7, .int x7), (8, .int x8)] [] (118, n0, ce, sl, K, L, z_rr t u r q g st) = z_loop X z_cf z_ff (z_pu (z_run X z_cf z_ff (d + 3))) 244 M' 66 [(0, .ref 55), (1, .int x1), (2, .int x2), (3, .int x3), (4, .int x4), (5, .int x5), (6, .int x6), (7, .int x7'), (8, .int x8')] [] (118, n0, ce, sl, K', L, z_rr t u r q g st) := by
    intro i
    induction i with
    | zero =>
      intro c x7 x8 K a1 a2 a3 a4 a5
      have ec : c = 9 := by omega
      subst ec
      exact ⟨K, x7, x8, a3, a4, a5, a2, fun M => ⟨M, Nat.le_refl _, rfl⟩⟩
    | succ i ih =>
      intro c x7 x8 K a1 a2 a3 a4 a5
      obtain ⟨K1, x7', f1, f2, f3, f4⟩ := lpf 2 c 0 x7 x8 (Int32.ofInt 0) K (by omega) (by omega) a2 rfl a3 a4 a5
      obtain ⟨K', x7'', x8', g1, g2, g3, g4, g5⟩ := ih (c + 1) x7' (x8 + Int32.ofInt 1) K1 (by omega) (by rw [y_adl (by omega) (by omega) (by omega) (by omega)]; omega) f1 f2 f3
      refine ⟨K', x7'', x8', g1, g2, g3, g4, fun M => ?_⟩
      obtain ⟨M1, m1, m2⟩ := f4 (M + 6 * i)
      obtain ⟨M2, m3, m4⟩ := g5 (M1 - 6 * i)
      refine ⟨M2, by omega, ?_⟩
      rw [show M + 6 * (i + 1) = (M + 6 * i + 2 * 2 + 1) + 1 by omega, zb_M_nextOrder_66, if_neg (by rw [y_i_le, e9]; omega), m2, ← m4, show M1 - 6 * i + 6 * i = M1 by omega]
  obtain ⟨K1, f1, f2, f3⟩ := lp0 9 0 (Int32.ofInt 0) J (by omega) rfl (fun _ _ => rfl) (fun y hy => by omega)
  obtain ⟨K', x7, x8, g1, g2, g3, g4, g5⟩ := lpc 9 0 (Int32.ofInt 0) (Int32.ofInt 0) K1 (by omega) rfl f1 (fun c' hc' => ⟨fun pre c0 f0 _ _ _ _ _ h => by unfold zlt2 at h; omega, Or.inl (f2 c' hc')⟩) (Or.inr ⟨rfl, fun x => by obtain ⟨c0, f0, h, _⟩ := x; unfold zlt2 at h; omega⟩)
  refine ⟨K', x7, x8, g1, g2, g3, g4, fun M => ?_⟩
  obtain ⟨M', m1, m2⟩ := g5 (M + 36)
  refine ⟨M', by omega, ?_⟩
  rw [show M + 100 = (M + 36 + 6 * 9) + 9 + 1 by omega, f3]
  exact m2
