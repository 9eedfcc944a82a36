/-! ROW, 10: the model's table of what is left to come; the best -/
def zTD (I J : Nat → Nat → Int32) (n s l c : Nat) : Prop := ∀ S' l' c', S' < 2 ^ n → l' < n → zbt2 S' l' = 1 → c' < 9 → (s < S' ∨ S' = s ∧ l' < l ∨ S' = s ∧ l' = l ∧ c' < c) → zTE I J n S' l' c'
theorem zTE_c {I J K : Nat → Nat → Int32} {n S l c : Nat} (h : zTE I J n S l c) (e6 : K 106 (81 * S + 9 * l + c) = J 106 (81 * S + 9 * l + c)) (e7 : K 107 (81 * S + 9 * l + c) = J 107 (81 * S + 9 * l + c)) : zTE I K n S l c := by
  unfold zTE at *
  rw [e6, e7]
  exact h
theorem zr_fill_b (X : ZX) (d n0 ce sl : Nat) (I : Nat → Nat → Int32) (L : Nat → Nat → Int64) (t u r q g : Nat) (st : Nat → Option Nat) {n : Nat} (hO : zOr I n) (hM : zOM I n) (J : Nat → Nat → Int32) (hJ : ∀ x, x ≠ 106 → x ≠ 107 → J x = I x) (x1 : Int32) (h1 : x1.toInt = ((2 ^ n - 1 : Nat) : Int)) : ∃ K : Nat → Nat → Int32, (∀ x, x ≠ 106 → x ≠ 107 → K x = I x) ∧ zTD I K n 0 0 0 ∧
    ∀ M, ∃ M', M ≤ M' ∧ z_loop X z_cf z_ff (z_pu (z_run X z_cf z_ff (d + 4))) 240 (M + 300 * (2 ^ n - 1) + 1) 31 [(0, .ref 55), (1, .int x1)] [] (118, n0, ce, sl, J, L, z_rr t u r q g st) = z_loop X z_cf z_ff (z_pu (z_run X z_cf z_ff (d + 4))) 240 M' 95 [(0, .ref 55), (1, .int (Int32.ofInt 1000000000)), (2, .int (Int32.ofInt 0)), (3, .int (Int32.ofInt 0))] [] (118, n0, ce, sl, K, L, z_rr t u r q g st) := by
  have hn9 := hO.1
  have p5 := zp2_512 hn9
  have p1 : 0 < 2 ^ n := Nat.pow_pos (by omega)
  have e9 : (Int32.ofInt 9).toInt = 9 := rfl
  have hn76 : ∀ K : Nat → Nat → Int32, (∀ x, x ≠ 106 → x ≠ 107 → K x = I x) → (K 55 76).toInt = n := fun K hK => by rw [hK 55 (by omega) (by omega), hM.2.2.2.2, y_on (by omega)]
  have lpc : ∀ i, ∀ (s l c : Nat) (x1 x2 x3 : Int32) (K : Nat → Nat → Int32), 1 ≤ s → s < 2 ^ n → l < n → zbt2 s l = 1 → c + i = 9 → x1.toInt = s → x2.toInt = l → x3.toInt = c → (∀ x, x ≠ 106 → x ≠ 107 → K x = I x) → zTD I K n s l c → ∃ K' : Nat → Nat → Int32, (∀ x, x ≠ 106 → x ≠ 107 → K' x = I x) ∧ zTD I K' n s (l + 1) 0 ∧
      ∀ M, z_loop X z_cf z_ff (z_pu (z_run X z_cf z_ff (d + 4))) 240 (M + 2 * i + 1) 47 [(0, .ref 55), (1, .int x1), (2, .int x2), (3, .int x3)] [] (118, n0, ce, sl, K, L, z_rr t u r q g st) = z_loop X z_cf z_ff (z_pu (z_run X z_cf z_ff (d + 4))) 240 M 37 [(0, .ref 55), (1, .int x1), (2, .int (x2 + Int32.ofInt 1))] [] (118, n0, ce, sl, K', L, z_rr t u r q g st) := by
    intro i
    induction i with
    | zero =>
      intro s l c x1 x2 x3 K s1 s2 l1 b1 a1 a2 a3 a4 a5 a6
      refine ⟨K, a5, fun S' l' c' q1 q2 q3 q4 q5 => a6 S' l' c' q1 q2 q3 q4 (by omega), fun M => ?_⟩
      rw [show M + 2 * 0 + 1 = M + 1 by omega, zb_M_row_47, if_pos (by rw [y_i_le, e9]; omega)]
    | succ i ih =>
      intro s l c x1 x2 x3 K s1 s2 l1 b1 a1 a2 a3 a4 a5 a6
      have hx1 : x1 = Int32.ofNat s := y_nat a2
      have hx2 : x2 = Int32.ofNat l := y_nat a3
      have hbit := zbits_shr l (by omega) s (by omega)
      rw [← hx1, ← hx2, decide_eq_decide] at hbit
      obtain ⟨K1, f1, f2, f3, f4⟩ := zr_behind X d n0 ce sl I L t u r q g st hO hM s2 l1 (show c < 9 by omega) x1 x2 x3 a2 a3 a4 K a5 (fun k f hk hb hf hcf => by
        have hp : 0 < 2 ^ k := Nat.pow_pos (by omega)
        have ad := zbits_ad1 k (by omega) s (by omega) hb
        have lt := zbits_lt n hn9 k hk s s2 hb
        exact a6 (s + 2 ^ k) k (c + f) lt hk ad.2 hcf (Or.inl (by omega)))
      obtain ⟨K', g1, g2, g3⟩ := ih s l (c + 1) x1 x2 (x3 + Int32.ofInt 1) K1 s1 s2 l1 b1 (by omega) a2 a3 (by rw [y_adl (by omega) (by omega) (by omega) (by omega)]; omega) f1 (fun S' l' c' q1 q2 q3 q4 q5 => by
        by_cases e : S' = s ∧ l' = l ∧ c' = c
        · obtain ⟨e1, e2, e3⟩ := e
          subst e1
          subst e2
          subst e3
          exact f3
        · have hne : 81 * S' + 9 * l' + c' ≠ 81 * s + 9 * l + c := by omega
          exact zTE_c (a6 S' l' c' q1 q2 q3 q4 (by omega)) (f2 _ hne).1 (f2 _ hne).2)
      refine ⟨K', g1, g2, fun M => ?_⟩
      rw [show M + 2 * (i + 1) + 1 = (M + 2 * i + 1) + 1 + 1 by omega, zb_M_row_47, if_neg (by rw [y_i_le, e9]; omega), if_pos (hbit.mpr b1), f4, z_b0_v, zb_M_row_69]
      exact g3 M
  have lpl : ∀ i, ∀ (s l : Nat) (x1 x2 : Int32) (K : Nat → Nat → Int32), 1 ≤ s → s < 2 ^ n → l + i = n → x1.toInt = s → x2.toInt = l → (∀ x, x ≠ 106 → x ≠ 107 → K x = I x) → zTD I K n s l 0 → ∃ K' : Nat → Nat → Int32, (∀ x, x ≠ 106 → x ≠ 107 → K' x = I x) ∧ zTD I K' n (s - 1) 0 0 ∧
      ∀ M, ∃ M', M ≤ M' ∧ z_loop X z_cf z_ff (z_pu (z_run X z_cf z_ff (d + 4))) 240 (M + 21 * i + 1) 37 [(0, .ref 55), (1, .int x1), (2, .int x2)] [] (118, n0, ce, sl, K, L, z_rr t u r q g st) = z_loop X z_cf z_ff (z_pu (z_run X z_cf z_ff (d + 4))) 240 M' 31 [(0, .ref 55), (1, .int (x1 + Int32.ofInt (-1)))] [] (118, n0, ce, sl, K', L, z_rr t u r q g st) := by
    intro i
    induction i with
    | zero =>
      intro s l x1 x2 K s1 s2 a1 a2 a3 a5 a6
      refine ⟨K, a5, fun S' l' c' q1 q2 q3 q4 q5 => a6 S' l' c' q1 q2 q3 q4 (by omega), fun M => ⟨M, Nat.le_refl _, ?_⟩⟩
      rw [show M + 21 * 0 + 1 = M + 1 by omega, zb_M_row_37, if_pos (by rw [y_i_le, hn76 K a5]; omega)]
    | succ i ih =>
      intro s l x1 x2 K s1 s2 a1 a2 a3 a5 a6
      have hx1 : x1 = Int32.ofNat s := y_nat a2
      have hx2 : x2 = Int32.ofNat l := y_nat a3
      have hbit := zbits_shr l (by omega) s (by omega)
      rw [← hx1, ← hx2, decide_eq_decide] at hbit
      have a3' : (x2 + Int32.ofInt 1).toInt = ((l + 1 : Nat) : Int) := by rw [y_adl (by omega) (by omega) (by omega) (by omega)]; omega
      have hb1 := zbt2_le s l
      by_cases cb : zbt2 s l = 1
      · obtain ⟨K1, f1, f2, f3⟩ := lpc 9 s l 0 x1 x2 (Int32.ofInt 0) K s1 s2 (by omega) cb (by omega) a2 a3 rfl a5 a6
        obtain ⟨K', g1, g2, g3⟩ := ih s (l + 1) x1 (x2 + Int32.ofInt 1) K1 s1 s2 (by omega) a2 a3' f1 f2
        refine ⟨K', g1, g2, fun M => ?_⟩
        obtain ⟨M', q1, q2⟩ := g3 (M + 1)
        refine ⟨M', by omega, ?_⟩
        rw [show M + 21 * (i + 1) + 1 = (M + 1 + 21 * i + 1 + 2 * 9 + 1) + 1 by omega, zb_M_row_37, if_neg (by rw [y_i_le, hn76 K a5]; omega), f3, q2]
      · obtain ⟨K', g1, g2, g3⟩ := ih s (l + 1) x1 (x2 + Int32.ofInt 1) K s1 s2 (by omega) a2 a3' a5 (fun S' l' c' q1 q2 q3 q4 q5 => a6 S' l' c' q1 q2 q3 q4 (by
          by_cases e : S' = s ∧ l' = l
          · obtain ⟨e1, e2⟩ := e
            subst e1
            subst e2
            exact absurd q3 cb
          · omega))
        refine ⟨K', g1, g2, fun M => ?_⟩
        obtain ⟨M', q1, q2⟩ := g3 (M + 19)
        refine ⟨M', by omega, ?_⟩
        rw [show M + 21 * (i + 1) + 1 = (M + 19 + 21 * i + 1) + 1 + 1 by omega, zb_M_row_37, if_neg (by rw [y_i_le, hn76 K a5]; omega), zb_M_row_47, if_neg (by rw [y_i_le, e9]; show ¬ (9 : Int) ≤ 0; omega), if_neg (fun x => cb (hbit.mp x)), q2]
  have lps : ∀ i : Nat, ∀ (x1 : Int32) (K : Nat → Nat → Int32), i < 2 ^ n → x1.toInt = i → (∀ x, x ≠ 106 → x ≠ 107 → K x = I x) → zTD I K n i 0 0 → ∃ K' : Nat → Nat → Int32, (∀ x, x ≠ 106 → x ≠ 107 → K' x = I x) ∧ zTD I K' n 0 0 0 ∧
      ∀ M, ∃ M', M ≤ M' ∧ z_loop X z_cf z_ff (z_pu (z_run X z_cf z_ff (d + 4))) 240 (M + 300 * i + 1) 31 [(0, .ref 55), (1, .int x1)] [] (118, n0, ce, sl, K, L, z_rr t u r q g st) = z_loop X z_cf z_ff (z_pu (z_run X z_cf z_ff (d + 4))) 240 M' 95 [(0, .ref 55), (1, .int (Int32.ofInt 1000000000)), (2, .int (Int32.ofInt 0)), (3, .int (Int32.ofInt 0))] [] (118, n0, ce, sl, K', L, z_rr t u r q g st) := by
    intro i
    induction i with
    | zero =>
      intro x1 K a0 a1 a2 a3
      refine ⟨K, a2, a3, fun M => ⟨M, Nat.le_refl _, ?_⟩⟩
      rw [show M + 300 * 0 + 1 = M + 1 by omega, zb_M_row_31, if_pos (by rw [y_i_le, y_i0]; omega)]
    | succ i ih =>
      intro x1 K a0 a1 a2 a3
      obtain ⟨K1, f1, f2, f3⟩ := lpl n (i + 1) 0 x1 (Int32.ofInt 0) K (by omega) a0 (by omega) a1 rfl a2 a3
      obtain ⟨K', g1, g2, g3⟩ := ih (x1 + Int32.ofInt (-1)) K1 (by omega) (by rw [y_adl (by omega) (by omega) (by omega) (by omega)]; omega) f1 f2
      refine ⟨K', g1, g2, fun M => ?_⟩
      obtain ⟨M1, q1, q2⟩ := f3 (M + 300 * i + 1 + (298 - 21 * n))
      obtain ⟨M2, q3, q4⟩ := g3 (M1 - 300 * i - 1)
      refine ⟨M2, by omega, ?_⟩
      rw [show M + 300 * (i + 1) + 1 = (M + 300 * i + 1 + (298 - 21 * n) + 21 * n + 1) + 1 by omega, zb_M_row_31, if_neg (by rw [y_i_le, y_i0]; omega), q2, show M1 = (M1 - 300 * i - 1) + 300 * i + 1 by omega, q4]
  obtain ⟨K', g1, g2, g3⟩ := lps (2 ^ n - 1) x1 J (by omega) h1 hJ (fun S' l' c' q1 q2 q3 q4 q5 => by omega)
  exact ⟨K', g1, g2, g3⟩
/-- what a full row costs -/
def zfc (I : Nat → Nat → Int32) (n k : Nat) (rs : zPl2) : Int := zolate I k (I 44 k).toInt + zcoin I n rs (2 ^ k) k 0
theorem zbits_ne : ∀ n, n ≤ 9 → ∀ S, S < 2 ^ n → S = 2 ^ n - 1 ∨ ∃ k, k < n ∧ zbt2 S k = 0 := by decide +kernel
theorem zCR_ex {n : Nat} (hn : n ≤ 9) : ∀ i S, S < 2 ^ n → zcard S + i = n → ∃ rs, zwok n rs S ∧ zws rs S = 2 ^ n - 1 ∧ ∀ c, zwc rs c = c := by
  intro i
  induction i with
  | zero =>
    intro S hS hc
    refine ⟨[], trivial, ?_, fun c => rfl⟩
    exact zbits_ext n hn S hS (by omega)
  | succ i ih =>
    intro S hS hc
    rcases zbits_ne n hn S hS with e | ⟨k, k1, k2⟩
    · exact ⟨[], trivial, e, fun c => rfl⟩
    · have p5 := zp2_512 hn
      have lt := zbits_lt n hn k k1 S hS k2
      have ad := (zbits_ad1 k (by omega) S (by omega) k2).1
      obtain ⟨rs, r1, r2, r3⟩ := ih (S + 2 ^ k) lt (by omega)
      exact ⟨(k, 0) :: rs, ⟨k1, k2, by omega, r1⟩, r2, fun c => r3 (c + 0)⟩
theorem zfull_ex {n k : Nat} (hn : n ≤ 9) (hk : k < n) : ∃ rs, zCR n (2 ^ k) 0 rs := by
  have lt := zp2_lt hk hn
  have c1 := (zbits_p2 k (by omega)).1
  obtain ⟨rs, r1, r2, r3⟩ := zCR_ex hn (n - 1) (2 ^ k) lt (by omega)
  exact ⟨rs, r1, r2, by rw [r3]; omega⟩
