/-! ROW, 13: the next order is the least by which the best can be come to, in the model -/
theorem zTE_J {I J K : Nat → Nat → Int32} {n S l c : Nat} (h : zTE I J n S l c) (e6 : K 106 = J 106) (e7 : K 107 = J 107) : zTE I K n S l c := zTE_c h (by rw [e6]) (by rw [e7])
theorem zr_nextOrder (X : ZX) (d n0 ce sl : Nat) (I : Nat → Nat → Int32) (L : Nat → Nat → Int64) (t u r q g : Nat) (st : Nat → Option Nat) {n k0 S l : Nat} {ks : List Nat} {best few : Int} (hO : zOr I n) (hM : zOM I n) (hk0 : k0 < n) (hS : S < 2 ^ n) (hl : l < n) (x1 x2 x3 x4 : Int32) (h1 : x1.toInt = S) (h2 : x2.toInt = l) (h3 : x3.toInt = best) (h4 : x4.toInt = few) (J : Nat → Nat → Int32) (hJ : zOF I J) (hSl : ∀ pre : zPl2, pre.map Prod.fst = ks → zws pre (2 ^ k0) = S ∧ zwl pre k0 = l) (hA : zAh I n k0 ks (fun c => (J 108 c).toInt)) (hT : ∀ k, k < n → zbt2 S k = 0 → ∀ c, c < 9 → zTE I J n (S + 2 ^ k) k c) (hB : zBst I n best few) (hex : ∃ k, k < n ∧ zbt2 S k = 0 ∧ ∃ pre f suf, pre.map Prod.fst = ks ∧ zOpt I n best few k0 (pre ++ (k, f) :: suf)) : ∃ (K : Nat → Nat → Int32) (y : Int32) (k : Nat), (∀ x, x ≠ 108 → x ≠ 109 → K x = J x) ∧ y.toInt = k ∧ k < n ∧ zbt2 S k = 0 ∧ (∃ pre f suf, pre.map Prod.fst = ks ∧ zOpt I n best few k0 (pre ++ (k, f) :: suf)) ∧ (∀ k', k' < k → ¬ ∃ pre f suf, pre.map Prod.fst = ks ∧ zOpt I n best few k0 (pre ++ (k', f) :: suf)) ∧ zAh I n k0 (ks ++ [k]) (fun c => (K 108 c).toInt) ∧
    z_pu (z_run X z_cf z_ff (d + 4)) 244 [.ref 55, .int x1, .int x2, .int x3, .int x4] (118, n0, ce, sl, J, L, z_rr t u r q g st) = some (.inl (some (.int y)), (118, n0, ce, sl, K, L, z_rr t u r q g st)) := by
  have hn9 := hO.1
  have p5 := zp2_512 hn9
  have e9 : (Int32.ofInt 9).toInt = 9 := rfl
  have em1 : (Int32.ofInt (-1)).toInt = -1 := rfl
  have hx1 : x1 = Int32.ofNat S := y_nat h1
  have n10 : ¬ (Int32.ofInt 1 : Int32) = 0 := by decide
  have z00 : (Int32.ofInt 0 : Int32) = 0 := rfl
  -- no row goes on by an order that is there
  have hthere : ∀ k, zbt2 S k ≠ 0 → ¬ ∃ pre f suf, pre.map Prod.fst = ks ∧ zOpt I n best few k0 (pre ++ (k, f) :: suf) := by
    rintro k hb ⟨pre, f, suf, hp, ⟨⟨_, o1, _⟩, _⟩⟩
    rw [zwok_a, (hSl pre hp).1] at o1
    exact hb o1.2.2.1
  have lp : ∀ i, ∀ (k : Nat) (x6 : Int32) (K : Nat → Nat → Int32), k + i = n → x6.toInt = k → (∀ x, x ≠ 109 → K x = J x) → (∀ k', k' < k → ¬ ∃ pre f suf, pre.map Prod.fst = ks ∧ zOpt I n best few k0 (pre ++ (k', f) :: suf)) → ∃ (K' : Nat → Nat → Int32) (y : Int32) (k' : Nat), (∀ x, x ≠ 109 → K' x = J x) ∧ y.toInt = k' ∧ k' < n ∧ zbt2 S k' = 0 ∧ (∃ pre f suf, pre.map Prod.fst = ks ∧ zOpt I n best few k0 (pre ++ (k', f) :: suf)) ∧ (∀ k'', k'' < k' → ¬ ∃ pre f suf, pre.map Prod.fst = ks ∧ zOpt I n best few k0 (pre ++ (k'', f) :: suf)) ∧ zAh I n k0 (ks ++ [k']) (fun c => (K' 109 c).toInt) ∧
      ∀ M, ∃ M', M ≤ M' ∧ z_loop X z_cf z_ff (z_pu (z_run X z_cf z_ff (d + 3))) 244 (M + 103 * i) 6 [(0, .ref 55), (1, .int x1), (2, .int x2), (3, .int x3), (4, .int x4), (5, .int (Int32.ofInt (-1))), (6, .int x6)] [] (118, n0, ce, sl, K, L, z_rr t u r q g st) = z_loop X z_cf z_ff (z_pu (z_run X z_cf z_ff (d + 3))) 244 M' 259 [(0, .ref 55), (5, .int y), (6, .int (Int32.ofInt 0))] [] (118, n0, ce, sl, K', L, z_rr t u r q g st) := by
    intro i
    induction i with
    | zero =>
      intro k x6 K a1 a2 a3 a4
      obtain ⟨k1, c1, c2, c3⟩ := hex
      exact absurd c3 (a4 k1 (by omega))
    | succ i ih =>
      intro k x6 K a1 a2 a3 a4
      have hk : k < n := by omega
      have hKF : zOF I K := fun x hx => by rw [a3 x (by omega), hJ x hx]
      have hn76 := (zOF_o hO hM hKF).2.2.1
      have hx6 : x6 = Int32.ofNat k := y_nat a2
      have a2' : (x6 + Int32.ofInt 1).toInt = ((k + 1 : Nat) : Int) := by rw [y_adl (by omega) (by omega) (by omega) (by omega)]; omega
      have hbit := zbits_shr k (by omega) S (by omega)
      rw [← hx1, ← hx6, decide_eq_decide] at hbit
      have hb1 := zbt2_le S k
      have nle : ¬ K 55 76 ≤ x6 := by rw [y_i_le, hn76]; omega
      by_cases cb : zbt2 S k = 1
      · have hno := hthere k (by omega)
        obtain ⟨K', y, k', g1, g2, g3, g4, g5, g6, g7, g8⟩ := ih (k + 1) (x6 + Int32.ofInt 1) K (by omega) a2' a3 (fun k' hk' => by
          by_cases e : k' = k
          · subst e
            exact hno
          · exact a4 k' (by omega))
        refine ⟨K', y, k', g1, g2, g3, g4, g5, g6, g7, fun M => ?_⟩
        obtain ⟨M', m1, m2⟩ := g8 (M + 102)
        refine ⟨M', by omega, ?_⟩
        rw [show M + 103 * (i + 1) = (M + 102 + 103 * i) + 1 by omega, zb_M_nextOrder_6, if_neg nle, if_pos rfl, if_pos (hbit.mpr cb), m2]
      · have cb0 : zbt2 S k = 0 := by omega
        have e108 : K 108 = J 108 := a3 108 (by omega)
        have e106 : K 106 = J 106 := a3 106 (by omega)
        have e107 : K 107 = J 107 := a3 107 (by omega)
        have hT' : ∀ c, c < 9 → zTE I K n (S + 2 ^ k) k c := fun c hc => zTE_J (hT k hk cb0 c hc) e106 e107
        have hA' : zAh I n k0 ks (fun c => (K 108 c).toInt) := by
          rw [e108]
          exact hA
        obtain ⟨K1, x7, x8, f1, f2, f3, f4, f5⟩ := zr_try1 X d n0 ce sl I L t u r q g st hO hM hk0 hS hl hk cb0 x1 x2 x3 x4 (Int32.ofInt (-1)) x6 h1 h2 h3 h4 a2 K hKF hA' hT'
        have hiff := zIs_opt hO hk0 hSl hS hl hk cb0 hA' hT' hB
        have f1' : ∀ x, x ≠ 109 → K1 x = J x := fun x hx => by rw [f1 x hx, a3 x hx]
        have hn76' : (K1 55 76).toInt = n := (zOF_o hO hM (K := K1) (fun x hx => by rw [f1' x (by omega), hJ x hx])).2.2.1
        rcases f3 with ⟨w1, w2⟩ | ⟨w1, w2⟩
        · refine ⟨K1, x6, k, f1', a2, hk, cb0, hiff.mp w2, a4, zAh_of hSl hk cb0 f2, fun M => ?_⟩
          obtain ⟨M', m1, m2⟩ := f5 (M + 103 * i + 2)
          refine ⟨M' - 2, by omega, ?_⟩
          rw [show M + 103 * (i + 1) = (M + 103 * i + 2 + 100) + 1 by omega, zb_M_nextOrder_6, if_neg nle, if_pos rfl, if_neg (fun x => cb (hbit.mp x)), m2, show M' = (M' - 2) + 1 + 1 by omega, zb_M_nextOrder_66, if_pos (by rw [y_i_le, e9]; omega), w1, if_neg n10, zb_M_nextOrder_6]
          by_cases cn : K1 55 76 ≤ x6 + Int32.ofInt 1
          · rw [if_pos cn, show M' - 2 + 1 + 1 - 2 = M' - 2 by omega]
          · rw [if_neg cn, if_neg (by rw [y_i_eq, em1]; omega), show M' - 2 + 1 + 1 - 2 = M' - 2 by omega]
        · obtain ⟨K', y, k', g1, g2, g3, g4, g5, g6, g7, g8⟩ := ih (k + 1) (x6 + Int32.ofInt 1) K1 (by omega) a2' f1' (fun k' hk' => by
            by_cases e : k' = k
            · subst e
              exact fun x => w2 (hiff.mpr x)
            · exact a4 k' (by omega))
          refine ⟨K', y, k', g1, g2, g3, g4, g5, g6, g7, fun M => ?_⟩
          obtain ⟨M', m1, m2⟩ := f5 (M + 103 * i + 2)
          obtain ⟨M2, m3, m4⟩ := g8 (M' - 1 - 103 * i)
          refine ⟨M2, by omega, ?_⟩
          rw [show M + 103 * (i + 1) = (M + 103 * i + 2 + 100) + 1 by omega, zb_M_nextOrder_6, if_neg nle, if_pos rfl, if_neg (fun x => cb (hbit.mp x)), m2, show M' = (M' - 1) + 1 by omega, zb_M_nextOrder_66, if_pos (by rw [y_i_le, e9]; omega), w1, if_pos z00, ← m4]
          congr 1
          omega
  have lpc : ∀ i, ∀ (c : Nat) (y x6 : Int32) (K Q : Nat → Nat → Int32), c + i = 9 → x6.toInt = c → (∀ x, x ≠ 108 → K x = Q x) → (∀ z, z < c → K 108 z = Q 109 z) → ∃ K' : Nat → Nat → Int32, (∀ x, x ≠ 108 → K' x = Q x) ∧ (∀ z, z < 9 → K' 108 z = Q 109 z) ∧ ∀ M, z_loop X z_cf z_ff (z_pu (z_run X z_cf z_ff (d + 3))) 244 (M + i + 1) 259 [(0, .ref 55), (5, .int y), (6, .int x6)] [] (118, n0, ce, sl, K, L, z_rr t u r q g st) = some (.inl (some (.int y)), (118, n0, ce, sl, K', L, z_rr t u r q g st)) := by
    intro i
    induction i with
    | zero =>
      intro c y x6 K Q a1 a2 a3 a4
      refine ⟨K, a3, fun z hz => a4 z (by omega), fun M => ?_⟩
      rw [show M + 0 + 1 = M + 1 by omega, zb_M_nextOrder_259, if_pos (by rw [y_i_le, e9]; omega)]
    | succ i ih =>
      intro c y x6 K Q a1 a2 a3 a4
      have hxn : x6.toNatClampNeg = c := by rw [y_tn, a2]; rfl
      obtain ⟨K', g1, g2, g3⟩ := ih (c + 1) y (x6 + Int32.ofInt 1) (z_up K 108 c (K 109 c)) Q (by omega) (by rw [y_adl (by omega) (by omega) (by omega) (by omega)]; omega) (fun x hx => by rw [z_up_r _ _ _ _ _ hx, a3 x hx]) (fun z hz => by
        by_cases cc : z = c
        · subst cc
          rw [z_up_s, a3 109 (by omega)]
        · rw [z_up_j _ _ _ _ _ cc]
          exact a4 z (by omega))
      refine ⟨K', g1, g2, fun M => ?_⟩
      rw [show M + (i + 1) + 1 = (M + i + 1) + 1 by omega, zb_M_nextOrder_259, if_neg (by rw [y_i_le, e9]; omega), y_in_t (by omega) (by omega), z_gd_t, z_gd_t, hxn]
      exact g3 M
  obtain ⟨K1, y, k, f1, f2, f3, f4, f5, f6, f7, f8⟩ := lp n 0 (Int32.ofInt 0) J (by omega) rfl (fun _ _ => rfl) (fun k' hk' => by omega)
  obtain ⟨K, g1, g2, g3⟩ := lpc 9 0 y (Int32.ofInt 0) K1 K1 (by omega) rfl (fun _ _ => rfl) (fun z hz => by omega)
  refine ⟨K, y, k, fun x x1 x2 => by rw [g1 x x1, f1 x x2], f2, f3, f4, f5, f6, ?_, ?_⟩
  · intro c hc
    have := f7 c hc
    show (∀ pre, zwok n pre (2 ^ k0) → pre.map Prod.fst = ks ++ [k] → zwc pre 0 = c → (K 108 c).toInt ≤ zfc I n k0 pre) ∧ ((K 108 c).toInt = zFAR ∨ ∃ pre, zwok n pre (2 ^ k0) ∧ pre.map Prod.fst = ks ++ [k] ∧ zwc pre 0 = c ∧ (K 108 c).toInt = zfc I n k0 pre)
    rw [g2 c hc]
    exact this
  · refine z_en X (d + 1) _ _ [(0, .ref 55), (1, .int x1), (2, .int x2), (3, .int x3), (4, .int x4)] _ _ rfl rfl rfl ?_
    obtain ⟨M', m1, m2⟩ := f8 (99999999 - 103 * n)
    rw [show (100000000 : Nat) = (99999999 - 103 * n + 103 * n) + 1 by omega, zb_M_nextOrder_0, m2, show M' = (M' - 10) + 9 + 1 by omega]
    exact g3 _
