/-! ROW, 5: all sets with so many changes, in the class -/
theorem z_swap (t u r q g : Nat) (st : Nat → Option Nat) : z_up (z_up (z_rr t u r q g st) 41 5 (some q)) 41 6 (some r) = z_rr t u q r g st := by
  funext b j
  by_cases hb : b = 41
  · subst hb
    by_cases h6 : j = 6
    · subst h6
      rfl
    · by_cases h5 : j = 5
      · subst h5
        rfl
      · have e5 := z_beq_n h5
        have e6 := z_beq_n h6
        rw [z_up_k _ _ _ _ _ e6, z_up_k _ _ _ _ _ e5]
        unfold z_rr z_rs z_dd
        simp only [e5, e6]
  · rw [z_up_r _ _ _ _ _ hb, z_up_r _ _ _ _ _ hb]
    have e := z_beq_n hb
    unfold z_rr z_rs z_dd
    simp only [e]
    rfl
theorem zr_endOf (X : ZX) (d n0 ce sl : Nat) (I : Nat → Nat → Int32) (L : Nat → Nat → Int64) (t u r q g : Nat) (st : Nat → Option Nat) {n S c : Nat} (hO : zOr I n) (hn : I 41 4 = Int32.ofNat n) (hS : S < 512) (hc : c ≤ 8) (x1 x2 : Int32) (h1 : x1.toInt = S) (h2 : x2.toInt = c) : ∃ y : Int32, y.toInt = 5 * (c : Int) + zoT I S n ∧ z_pu (z_run X z_cf z_ff (d + 3)) 45 [.ref 41, .int x1, .int x2] (118, n0, ce, sl, I, L, z_rr t u r q g st) = some (.inl (some (.int y)), (118, n0, ce, sl, I, L, z_rr t u r q g st)) := by
  have hn9 := hO.1
  have hn' : (I 41 4).toInt = n := by rw [hn, y_on (by omega)]
  have hx1 : x1 = Int32.ofNat S := y_nat h1
  have e5 : (Int32.ofInt 5).toInt = 5 := rfl
  have lp : ∀ k, ∀ (j : Nat) (x3 x4 : Int32), j + k = n → x4.toInt = j → x3.toInt = 5 * (c : Int) + zoT I S j → ∃ y : Int32, y.toInt = 5 * (c : Int) + zoT I S n ∧ ∀ M, z_loop X z_cf z_ff (z_pu (z_run X z_cf z_ff (d + 2))) 45 (M + k + 1) 7 [(0, .ref 41), (1, .int x1), (3, .int x3), (4, .int x4)] [] (118, n0, ce, sl, I, L, z_rr t u r q g st) = some (.inl (some (.int y)), (118, n0, ce, sl, I, L, z_rr t u r q g st)) := by
    intro k
    induction k with
    | zero =>
      intro j x3 x4 a1 a2 a3
      have e : j = n := by omega
      subst e
      refine ⟨x3, a3, fun M => ?_⟩
      rw [show M + 0 + 1 = M + 1 by omega, zb_Orders_endOf_7, if_pos (by rw [y_i_le]; omega)]
    | succ k ih =>
      intro j x3 x4 a1 a2 a3
      have hj : j < n := by omega
      have hx4 : x4 = Int32.ofNat j := y_nat a2
      have hx4n : x4.toNatClampNeg = j := by rw [y_tn, a2]; rfl
      have a2' : (x4 + Int32.ofInt 1).toInt = ((j + 1 : Nat) : Int) := by rw [y_adl (by omega) (by omega) (by omega) (by omega)]; omega
      have hbit := zbits_and j (by omega) S hS
      rw [← hx1, ← hx4, decide_eq_decide] at hbit
      have hT := zoT_r hO S j (by omega)
      have hoj := hO.2 j hj
      have hb1 := zbt2_le S j
      have eT : zoT I S (j + 1) = zoT I S j + (zbt2 S j : Int) * (I 44 j).toInt := rfl
      by_cases cb : zbt2 S j = 0
      · rw [cb] at eT
        obtain ⟨y, g1, g2⟩ := ih (j + 1) x3 (x4 + Int32.ofInt 1) (by omega) a2' (by omega)
        refine ⟨y, g1, fun M => ?_⟩
        rw [show M + (k + 1) + 1 = (M + k + 1) + 1 by omega, zb_Orders_endOf_7, if_neg (by rw [y_i_le]; omega), if_pos (hbit.mpr cb)]
        exact g2 M
      · have e1 : zbt2 S j = 1 := by omega
        rw [e1] at eT
        obtain ⟨y, g1, g2⟩ := ih (j + 1) (x3 + I 44 j) (x4 + Int32.ofInt 1) (by omega) a2' (by rw [y_ad (by omega) (by omega)]; omega)
        refine ⟨y, g1, fun M => ?_⟩
        rw [show M + (k + 1) + 1 = (M + k + 1) + 1 by omega, zb_Orders_endOf_7, if_neg (by rw [y_i_le]; omega), if_neg (fun x => cb (hbit.mp x)), y_in_t (by omega) (by omega), z_gd_t, hx4n]
        exact g2 M
  obtain ⟨y, g1, g2⟩ := lp n 0 (x2 * Int32.ofInt 5) (Int32.ofInt 0) (by omega) rfl (by rw [y_mu (by rw [h2, e5]; omega) (by rw [h2, e5]; omega), h2, e5]; show _ = 5 * (c : Int) + 0; omega)
  refine ⟨y, g1, ?_⟩
  refine z_en X d _ _ [(0, .ref 41), (1, .int x1), (2, .int x2)] _ _ rfl rfl rfl ?_
  rw [zb_Orders_endOf_0, show (99999999 : Nat) = (99999998 - n) + n + 1 by omega]
  exact g2 _
theorem zRD2_ex {I : Nat → Nat → Int32} {n c : Nat} {D E : Nat → Nat → Nat → Prop} {A B : Nat → Int64} (h : zRD2 I n c D A B) (e : ∀ a b d m key, zPR I n m a b c key → d < n → zbt2 a d = 0 → (D a b d ↔ E a b d)) : zRD2 I n c E A B := by
  refine ⟨fun S1 l1 h1 h2 => zIsM_c (h.1 S1 l1 h1 h2) (fun key => ⟨fun x => ?_, fun x => ?_⟩), fun S1 l1 h1 h2 => zIsM_c (h.2 S1 l1 h1 h2) (fun key => ⟨fun x => ?_, fun x => ?_⟩)⟩
  · rcases x with x | ⟨m, S0, l0, c0, f, key0, a1, a2, a3, a4, a5, a6, a7, a8⟩
    · exact Or.inl x
    · refine Or.inr ⟨m, S0, l0, c0, f, key0, a1, a2, a3, a4, a5, a6, a7, ?_⟩
      by_cases cf : f = 1
      · exact Or.inl cf
      · have ec : c0 = c := by omega
        rw [ec] at a1
        exact a8.elim Or.inl (fun y => Or.inr ((e _ _ _ _ _ a1 a2 a3).mp y))
  · rcases x with x | ⟨m, S0, l0, c0, f, key0, a1, a2, a3, a4, a5, a6, a7, a8⟩
    · exact Or.inl x
    · refine Or.inr ⟨m, S0, l0, c0, f, key0, a1, a2, a3, a4, a5, a6, a7, ?_⟩
      by_cases cf : f = 1
      · exact Or.inl cf
      · have ec : c0 = c := by omega
        rw [ec] at a1
        exact a8.elim Or.inl (fun y => Or.inr ((e _ _ _ _ _ a1 a2 a3).mpr y))
  · obtain ⟨m, S0, l0, key0, a1, a2, a3, a5, a7, a8⟩ := x
    exact ⟨m, S0, l0, key0, a1, a2, a3, a5, a7, (e _ _ _ _ _ a1 a2 a3).mp a8⟩
  · obtain ⟨m, S0, l0, key0, a1, a2, a3, a5, a7, a8⟩ := x
    exact ⟨m, S0, l0, key0, a1, a2, a3, a5, a7, (e _ _ _ _ _ a1 a2 a3).mpr a8⟩
/-- sets below s have had their turn -/
def zDs (s : Nat) : Nat → Nat → Nat → Prop := fun a _ _ => 1 ≤ a ∧ a < s
theorem zr_bestOfAll46 (X : ZX) (d m0 ce sl : Nat) (I : Nat → Nat → Int32) (t u : Nat) {n c : Nat} (hO : zOr I n) (hn1 : 1 ≤ n) (hn : I 41 4 = Int32.ofNat n) (hc : c ≤ 8) (x1 : Int32) (h1 : x1.toInt = c) (L : Nat → Nat → Int64) (hR : zRD2 I n c (zDs 1) (L 46) (L 47)) : ∃ (L' : Nat → Nat → Int64) (y : Int64), (∀ a, a ≠ 46 → a ≠ 47 → L' a = L a) ∧ zRD2 I n c (zDs (2 ^ n - 1)) (L' 46) (L' 47) ∧ zIsM (fun key => ∃ m l, zPR I n m (2 ^ n - 1) l c key) y.toInt ∧
    z_pu (z_run X z_cf z_ff (d + 5)) 44 [.ref 41, .int x1] (118, z_sd m0, ce, sl, I, L, z_rr t u 46 47 (z_gg m0) (z_sf m0)) = some (.inl (some (.long y)), (118, z_sd m0, ce, sl, I, L', z_rr t u 46 47 (z_gg m0) (z_sf m0))) := by
  have hM : zMX = 9223372036854775807 := rfl
  have hMe : (Int64.ofInt 9223372036854775807).toInt = 9223372036854775807 := y_ol (by omega) (by omega)
  have hn9 := hO.1
  have p5 := zp2_512 hn9
  have p1 : 2 ≤ 2 ^ n := by
    have := Nat.pow_le_pow_right (n := 2) (by omega) hn1
    omega
  have hn' : (I 41 4).toInt = n := by rw [hn, y_on (by omega)]
  have hall : ((Int32.ofInt 1 <<< (I 41 4 &&& 31)) - Int32.ofInt 1).toInt = ((2 ^ n - 1 : Nat) : Int) := by
    rw [hn, zbits_one n (by omega), y_sbl (by omega) (by omega) (by rw [y_on (by omega)]; omega) (by rw [y_on (by omega)]; omega), y_on (by omega)]
    omega
  obtain ⟨x2, hx2⟩ : ∃ x2, x2 = (Int32.ofInt 1 <<< (I 41 4 &&& 31)) - Int32.ofInt 1 := ⟨_, rfl⟩
  rw [← hx2] at hall
  -- a set: every last one
  have lpl : ∀ k, ∀ (S l : Nat) (x3 x4 x5 : Int32) (L1 : Nat → Nat → Int64), 1 ≤ S → S < 2 ^ n → x3.toInt = S → x4.toInt = 5 * (c : Int) + zoT I S n → l + k = n → x5.toInt = l → (∀ a, a ≠ 46 → a ≠ 47 → L1 a = L a) → zRD2 I n c (fun a b e => zDs S a b e ∨ (a = S ∧ b < l ∧ e < n)) (L1 46) (L1 47) → ∃ L' : Nat → Nat → Int64, (∀ a, a ≠ 46 → a ≠ 47 → L' a = L a) ∧ zRD2 I n c (zDs (S + 1)) (L' 46) (L' 47) ∧
      ∀ M, z_loop X z_cf z_ff (z_pu (z_run X z_cf z_ff (d + 4))) 44 (M + 2 * k + 1) 27 [(0, .ref 41), (1, .int x1), (2, .int x2), (3, .int x3), (4, .int x4), (5, .int x5)] [] (118, z_sd m0, ce, sl, I, L1, z_rr t u 46 47 (z_gg m0) (z_sf m0)) = z_loop X z_cf z_ff (z_pu (z_run X z_cf z_ff (d + 4))) 44 M 11 [(0, .ref 41), (1, .int x1), (2, .int x2), (3, .int (x3 + Int32.ofInt 1))] [] (118, z_sd m0, ce, sl, I, L', z_rr t u 46 47 (z_gg m0) (z_sf m0)) := by
    intro k
    induction k with
    | zero =>
      intro S l x3 x4 x5 L1 s1 s2 a1 a2 a3 a4 a5 a6
      have e : l = n := by omega
      subst e
      refine ⟨L1, a5, zRD2_ex a6 (fun a b e m key hk he _ => ?_), fun M => ?_⟩
      · have hb := (zPR_is hO _ _ _ _ _ hk).2.2.1
        unfold zDs
        omega
      · rw [show M + 2 * 0 + 1 = M + 1 by omega, zb_Orders_bestOfAll_27_46, if_pos (by rw [y_i_le]; omega)]
    | succ k ih =>
      intro S l x3 x4 x5 L1 s1 s2 a1 a2 a3 a4 a5 a6
      have hl : l < n := by omega
      have a4' : (x5 + Int32.ofInt 1).toInt = ((l + 1 : Nat) : Int) := by rw [y_adl (by omega) (by omega) (by omega) (by omega)]; omega
      have hix := z_oix a1 a4 (by omega) (by omega)
      have hixn : (z_p_Orders_indexOf x3 x5).toNatClampNeg = 9 * S + l := by rw [y_tn, hix]; rfl
      have hin : z_in (z_p_Orders_indexOf x3 x5) 4608 = true := y_in_t (by omega) (by omega)
      have hV := zIsM_c (a6.1 S l (by omega) (by omega)) (fun key => zQ0_all (fun S0 l0 h h' => Or.inl ⟨h', h⟩) hO key)
      have hbd : ∀ key, (∃ m, zPR I n m S l c key) → key < zMX := by
        intro key hk
        obtain ⟨m, hk⟩ := hk
        obtain ⟨b1, b2, b3, b4, b5, b6, b7, b8⟩ := zPR_is hO _ _ _ _ _ hk
        have : ((m : Int) + 1) ≤ 9 := by omega
        omega
      by_cases cv : (L1 46 (9 * S + l)).toInt = 9223372036854775807
      · have hno := zIsM_no' hV (by omega) hbd
        obtain ⟨L', g1, g2, g3⟩ := ih S (l + 1) x3 x4 (x5 + Int32.ofInt 1) L1 s1 s2 a1 a2 (by omega) a4' a5 (zRD2_ex a6 (fun a b e m key hk he _ => by
          by_cases cab : a = S ∧ b = l
          · obtain ⟨c1, c2⟩ := cab
            subst c1
            subst c2
            exact absurd ⟨m, hk⟩ (hno key)
          · constructor
            · intro x
              rcases x with x | ⟨x1, x2, x3⟩
              · exact Or.inl x
              · exact Or.inr ⟨x1, by omega, x3⟩
            · intro x
              rcases x with x | ⟨x1, x2, x3⟩
              · exact Or.inl x
              · exact Or.inr ⟨x1, by omega, x3⟩))
        refine ⟨L', g1, g2, fun M => ?_⟩
        rw [show M + 2 * (k + 1) + 1 = (M + 2 * k + 1) + 1 + 1 by omega, zb_Orders_bestOfAll_27_46, if_neg (by rw [y_i_le]; omega), hin, z_gd_t, hixn, if_pos (by rw [z_lg_eq, hMe]; exact cv), zb_Orders_bestOfAll_63]
        exact g3 M
      · have hreal : ∃ m, zPR I n m S l c (L1 46 (9 * S + l)).toInt := by
          rcases hV.2 with e | e
          · omega
          · exact e
        obtain ⟨L2, f1, f2, f3⟩ := zr_addNext46 X d m0 ce sl I t u hO hn s2 hl hc x3 x5 x4 a1 a4 a2 L1 a6 hreal (fun m key hk => hV.1 key ⟨m, hk⟩)
        obtain ⟨L', g1, g2, g3⟩ := ih S (l + 1) x3 x4 (x5 + Int32.ofInt 1) L2 s1 s2 a1 a2 (by omega) a4' (fun a b1 b2 => by rw [f1 a b1 b2, a5 a b1 b2]) (zRD2_ex f2 (fun a b e m key hk he _ => by
          constructor
          · intro x
            rcases x with (x | ⟨x1, x2, x3⟩) | ⟨x1, x2, x3⟩
            · exact Or.inl x
            · exact Or.inr ⟨x1, by omega, x3⟩
            · exact Or.inr ⟨x1, by omega, x3⟩
          · intro x
            rcases x with x | ⟨x1, x2, x3⟩
            · exact Or.inl (Or.inl x)
            · by_cases cb : b = l
              · exact Or.inr ⟨x1, cb, x3⟩
              · exact Or.inl (Or.inr ⟨x1, by omega, x3⟩)))
        refine ⟨L', g1, g2, fun M => ?_⟩
        rw [show M + 2 * (k + 1) + 1 = (M + 2 * k + 1) + 1 + 1 by omega, zb_Orders_bestOfAll_27_46, if_neg (by rw [y_i_le]; omega), hin, z_gd_t, hixn, if_neg (by rw [z_lg_eq, hMe]; exact cv), f3, z_b0_v, zb_Orders_bestOfAll_63]
        exact g3 M
  -- every set
  have lps : ∀ k, ∀ (S : Nat) (x3 : Int32) (L1 : Nat → Nat → Int64), 1 ≤ S → S + k = 2 ^ n - 1 → x3.toInt = S → (∀ a, a ≠ 46 → a ≠ 47 → L1 a = L a) → zRD2 I n c (zDs S) (L1 46) (L1 47) → ∃ L' : Nat → Nat → Int64, (∀ a, a ≠ 46 → a ≠ 47 → L' a = L a) ∧ zRD2 I n c (zDs (2 ^ n - 1)) (L' 46) (L' 47) ∧
      ∀ M, z_loop X z_cf z_ff (z_pu (z_run X z_cf z_ff (d + 4))) 44 (M + 21 * k + 1) 11 [(0, .ref 41), (1, .int x1), (2, .int x2), (3, .int x3)] [] (118, z_sd m0, ce, sl, I, L1, z_rr t u 46 47 (z_gg m0) (z_sf m0)) = z_loop X z_cf z_ff (z_pu (z_run X z_cf z_ff (d + 4))) 44 (M + 21 * k + 1 - 21 * k - 1 + 0 + (18 - 2 * n) * k) 82 [(0, .ref 41), (2, .int x2), (3, .long (Int64.ofInt 9223372036854775807)), (5, .int (Int32.ofInt 0))] [] (118, z_sd m0, ce, sl, I, L', z_rr t u 46 47 (z_gg m0) (z_sf m0)) := by
    intro k
    induction k with
    | zero =>
      intro S x3 L1 s1 a1 a2 a3 a4
      have e : S = 2 ^ n - 1 := by omega
      subst e
      refine ⟨L1, a3, a4, fun M => ?_⟩
      rw [show M + 21 * 0 + 1 - 21 * 0 - 1 + 0 + (18 - 2 * n) * 0 = M by omega, show M + 21 * 0 + 1 = M + 1 by omega, zb_Orders_bestOfAll_11, if_pos (by rw [y_i_le]; omega)]
    | succ k ih =>
      intro S x3 L1 s1 a1 a2 a3 a4
      obtain ⟨y, e1, e2⟩ := zr_endOf X (d + 1) (z_sd m0) ce sl I L1 t u 46 47 (z_gg m0) (z_sf m0) (S := S) hO hn (by omega) hc x3 x1 a2 h1
      obtain ⟨L2, f1, f2, f3⟩ := lpl n S 0 x3 y (Int32.ofInt 0) L1 s1 (by omega) a2 e1 (by omega) rfl a3 (zRD2_D a4 (fun a b e => ⟨Or.inl, fun x => x.elim id (fun y => absurd y.2.1 (by omega))⟩))
      obtain ⟨L', g1, g2, g3⟩ := ih (S + 1) (x3 + Int32.ofInt 1) L2 (by omega) (by omega) (by rw [y_adl (by omega) (by omega) (by omega) (by omega)]; omega) f1 f2
      refine ⟨L', g1, g2, fun M => ?_⟩
      have hmul : (18 - 2 * n) * (k + 1) = (18 - 2 * n) * k + (18 - 2 * n) := Nat.mul_succ _ _
      rw [show M + 21 * (k + 1) + 1 = (M + 21 * k + 1 + (18 - 2 * n) + 2 * n + 1) + 1 + 1 by omega, zb_Orders_bestOfAll_11, if_neg (by rw [y_i_le]; omega), e2, z_bi_v, zb_Orders_bestOfAll_22, f3, show M + 21 * k + 1 + (18 - 2 * n) = (M + (18 - 2 * n)) + 21 * k + 1 by omega, g3]
      congr 1
      omega
  -- the best row of all
  have lpf : ∀ k, ∀ (l : Nat) (x3 : Int64) (x5 : Int32) (L1 : Nat → Nat → Int64), l + k = n → x5.toInt = l → zRD2 I n c (zDs (2 ^ n - 1)) (L1 46) (L1 47) → zIsM (fun key => ∃ m l', l' < l ∧ zPR I n m (2 ^ n - 1) l' c key) x3.toInt → ∃ y : Int64, zIsM (fun key => ∃ m l', l' < n ∧ zPR I n m (2 ^ n - 1) l' c key) y.toInt ∧ ∀ M, z_loop X z_cf z_ff (z_pu (z_run X z_cf z_ff (d + 4))) 44 (M + k + 1) 82 [(0, .ref 41), (2, .int x2), (3, .long x3), (5, .int x5)] [] (118, z_sd m0, ce, sl, I, L1, z_rr t u 46 47 (z_gg m0) (z_sf m0)) = some (.inl (some (.long y)), (118, z_sd m0, ce, sl, I, L1, z_rr t u 46 47 (z_gg m0) (z_sf m0))) := by
    intro k
    induction k with
    | zero =>
      intro l x3 x5 L1 a1 a2 a3 a4
      have e : l = n := by omega
      subst e
      refine ⟨x3, a4, fun M => ?_⟩
      rw [show M + 0 + 1 = M + 1 by omega, zb_Orders_bestOfAll_82_46, if_pos (by rw [y_i_le]; omega)]
    | succ k ih =>
      intro l x3 x5 L1 a1 a2 a3 a4
      have hix := z_oix hall a2 (by omega) (by omega)
      have hixn : (z_p_Orders_indexOf x2 x5).toNatClampNeg = 9 * (2 ^ n - 1) + l := by rw [y_tn, hix]; rfl
      have hin : z_in (z_p_Orders_indexOf x2 x5) 4608 = true := y_in_t (by omega) (by omega)
      have hV := zIsM_c (a3.1 (2 ^ n - 1) l (by omega) (by omega)) (fun key => zQ0_all (fun S0 l0 h h' => ⟨h', h⟩) hO key)
      obtain ⟨y, g1, g2⟩ := ih (l + 1) (z_mnl x3 (L1 46 (9 * (2 ^ n - 1) + l))) (x5 + Int32.ofInt 1) L1 (by omega) (by rw [y_adl (by omega) (by omega) (by omega) (by omega)]; omega) a3 (by
        rw [y_mnl]
        refine zIsM_c (zIsM_or a4 hV (y_l8 _) (y_l8 _)) (fun key => ⟨fun x => ?_, fun x => ?_⟩)
        · rcases x with ⟨m, l', b1, b2⟩ | ⟨m, b2⟩
          · exact ⟨m, l', by omega, b2⟩
          · exact ⟨m, l, by omega, b2⟩
        · obtain ⟨m, l', b1, b2⟩ := x
          by_cases cl : l' = l
          · subst cl
            exact Or.inr ⟨m, b2⟩
          · exact Or.inl ⟨m, l', by omega, b2⟩)
      refine ⟨y, g1, fun M => ?_⟩
      rw [show M + (k + 1) + 1 = (M + k + 1) + 1 by omega, zb_Orders_bestOfAll_82_46, if_neg (by rw [y_i_le]; omega), hin, z_gd_t, hixn]
      exact g2 M
  obtain ⟨L', g1, g2, g3⟩ := lps (2 ^ n - 2) 1 (Int32.ofInt 1) L (Nat.le_refl _) (by omega) rfl (fun _ _ _ => rfl) hR
  obtain ⟨y, k1, k2⟩ := lpf n 0 (Int64.ofInt 9223372036854775807) (Int32.ofInt 0) L' (by omega) rfl g2 (by
    rw [hMe]
    exact ⟨fun key hk => by obtain ⟨m, l', b1, b2⟩ := hk; omega, Or.inl rfl⟩)
  refine ⟨L', y, g1, g2, zIsM_c k1 (fun key => ⟨fun x => ?_, fun x => ?_⟩), ?_⟩
  · obtain ⟨m, l', b1, b2⟩ := x
    exact ⟨m, l', b2⟩
  · obtain ⟨m, l', b2⟩ := x
    exact ⟨m, l', (zPR_is hO _ _ _ _ _ b2).2.2.1, b2⟩
  · refine z_en X (d + 2) _ _ [(0, .ref 41), (1, .int x1)] _ _ rfl rfl rfl ?_
    rw [show (100000000 : Nat) = (99980000 + 21 * (2 ^ n - 2) + 1 + (19998 - 21 * (2 ^ n - 2))) + 1 by omega, zb_Orders_bestOfAll_0, ← hx2]
    have e := g3 (99980000 + (19998 - 21 * (2 ^ n - 2)))
    rw [show 99980000 + 21 * (2 ^ n - 2) + 1 + (19998 - 21 * (2 ^ n - 2)) = 99980000 + (19998 - 21 * (2 ^ n - 2)) + 21 * (2 ^ n - 2) + 1 by omega, e]
    obtain ⟨W, hW⟩ : ∃ W, W = (18 - 2 * n) * (2 ^ n - 2) := ⟨_, rfl⟩
    rw [← hW, show 99980000 + (19998 - 21 * (2 ^ n - 2)) + 21 * (2 ^ n - 2) + 1 - 21 * (2 ^ n - 2) - 1 + 0 + W = (99979999 - n + (19998 - 21 * (2 ^ n - 2)) + W) + n + 1 by omega]
    exact k2 _
theorem zr_bestOfAll47 (X : ZX) (d m0 ce sl : Nat) (I : Nat → Nat → Int32) (t u : Nat) {n c : Nat} (hO : zOr I n) (hn1 : 1 ≤ n) (hn : I 41 4 = Int32.ofNat n) (hc : c ≤ 8) (x1 : Int32) (h1 : x1.toInt = c) (L : Nat → Nat → Int64) (hR : zRD2 I n c (zDs 1) (L 47) (L 46)) : ∃ (L' : Nat → Nat → Int64) (y : Int64), (∀ a, a ≠ 47 → a ≠ 46 → L' a = L a) ∧ zRD2 I n c (zDs (2 ^ n - 1)) (L' 47) (L' 46) ∧ zIsM (fun key => ∃ m l, zPR I n m (2 ^ n - 1) l c key) y.toInt ∧
    z_pu (z_run X z_cf z_ff (d + 5)) 44 [.ref 41, .int x1] (118, z_sd m0, ce, sl, I, L, z_rr t u 47 46 (z_gg m0) (z_sf m0)) = some (.inl (some (.long y)), (118, z_sd m0, ce, sl, I, L', z_rr t u 47 46 (z_gg m0) (z_sf m0))) := by
  have hM : zMX = 9223372036854775807 := rfl
  have hMe : (Int64.ofInt 9223372036854775807).toInt = 9223372036854775807 := y_ol (by omega) (by omega)
  have hn9 := hO.1
  have p5 := zp2_512 hn9
  have p1 : 2 ≤ 2 ^ n := by
    have := Nat.pow_le_pow_right (n := 2) (by omega) hn1
    omega
  have hn' : (I 41 4).toInt = n := by rw [hn, y_on (by omega)]
  have hall : ((Int32.ofInt 1 <<< (I 41 4 &&& 31)) - Int32.ofInt 1).toInt = ((2 ^ n - 1 : Nat) : Int) := by
    rw [hn, zbits_one n (by omega), y_sbl (by omega) (by omega) (by rw [y_on (by omega)]; omega) (by rw [y_on (by omega)]; omega), y_on (by omega)]
    omega
  obtain ⟨x2, hx2⟩ : ∃ x2, x2 = (Int32.ofInt 1 <<< (I 41 4 &&& 31)) - Int32.ofInt 1 := ⟨_, rfl⟩
  rw [← hx2] at hall
  -- a set: every last one
  have lpl : ∀ k, ∀ (S l : Nat) (x3 x4 x5 : Int32) (L1 : Nat → Nat → Int64), 1 ≤ S → S < 2 ^ n → x3.toInt = S → x4.toInt = 5 * (c : Int) + zoT I S n → l + k = n → x5.toInt = l → (∀ a, a ≠ 47 → a ≠ 46 → L1 a = L a) → zRD2 I n c (fun a b e => zDs S a b e ∨ (a = S ∧ b < l ∧ e < n)) (L1 47) (L1 46) → ∃ L' : Nat → Nat → Int64, (∀ a, a ≠ 47 → a ≠ 46 → L' a = L a) ∧ zRD2 I n c (zDs (S + 1)) (L' 47) (L' 46) ∧
      ∀ M, z_loop X z_cf z_ff (z_pu (z_run X z_cf z_ff (d + 4))) 44 (M + 2 * k + 1) 27 [(0, .ref 41), (1, .int x1), (2, .int x2), (3, .int x3), (4, .int x4), (5, .int x5)] [] (118, z_sd m0, ce, sl, I, L1, z_rr t u 47 46 (z_gg m0) (z_sf m0)) = z_loop X z_cf z_ff (z_pu (z_run X z_cf z_ff (d + 4))) 44 M 11 [(0, .ref 41), (1, .int x1), (2, .int x2), (3, .int (x3 + Int32.ofInt 1))] [] (118, z_sd m0, ce, sl, I, L', z_rr t u 47 46 (z_gg m0) (z_sf m0)) := by
    intro k
    induction k with
    | zero =>
      intro S l x3 x4 x5 L1 s1 s2 a1 a2 a3 a4 a5 a6
      have e : l = n := by omega
      subst e
      refine ⟨L1, a5, zRD2_ex a6 (fun a b e m key hk he _ => ?_), fun M => ?_⟩
      · have hb := (zPR_is hO _ _ _ _ _ hk).2.2.1
        unfold zDs
        omega
      · rw [show M + 2 * 0 + 1 = M + 1 by omega, zb_Orders_bestOfAll_27_47, if_pos (by rw [y_i_le]; omega)]
    | succ k ih =>
      intro S l x3 x4 x5 L1 s1 s2 a1 a2 a3 a4 a5 a6
      have hl : l < n := by omega
      have a4' : (x5 + Int32.ofInt 1).toInt = ((l + 1 : Nat) : Int) := by rw [y_adl (by omega) (by omega) (by omega) (by omega)]; omega
      have hix := z_oix a1 a4 (by omega) (by omega)
      have hixn : (z_p_Orders_indexOf x3 x5).toNatClampNeg = 9 * S + l := by rw [y_tn, hix]; rfl
      have hin : z_in (z_p_Orders_indexOf x3 x5) 4608 = true := y_in_t (by omega) (by omega)
      have hV := zIsM_c (a6.1 S l (by omega) (by omega)) (fun key => zQ0_all (fun S0 l0 h h' => Or.inl ⟨h', h⟩) hO key)
      have hbd : ∀ key, (∃ m, zPR I n m S l c key) → key < zMX := by
        intro key hk
        obtain ⟨m, hk⟩ := hk
        obtain ⟨b1, b2, b3, b4, b5, b6, b7, b8⟩ := zPR_is hO _ _ _ _ _ hk
        have : ((m : Int) + 1) ≤ 9 := by omega
        omega
      by_cases cv : (L1 47 (9 * S + l)).toInt = 9223372036854775807
      · have hno := zIsM_no' hV (by omega) hbd
        obtain ⟨L', g1, g2, g3⟩ := ih S (l + 1) x3 x4 (x5 + Int32.ofInt 1) L1 s1 s2 a1 a2 (by omega) a4' a5 (zRD2_ex a6 (fun a b e m key hk he _ => by
          by_cases cab : a = S ∧ b = l
          · obtain ⟨c1, c2⟩ := cab
            subst c1
            subst c2
            exact absurd ⟨m, hk⟩ (hno key)
          · constructor
            · intro x
              rcases x with x | ⟨x1, x2, x3⟩
              · exact Or.inl x
              · exact Or.inr ⟨x1, by omega, x3⟩
            · intro x
              rcases x with x | ⟨x1, x2, x3⟩
              · exact Or.inl x
              · exact Or.inr ⟨x1, by omega, x3⟩))
        refine ⟨L', g1, g2, fun M => ?_⟩
        rw [show M + 2 * (k + 1) + 1 = (M + 2 * k + 1) + 1 + 1 by omega, zb_Orders_bestOfAll_27_47, if_neg (by rw [y_i_le]; omega), hin, z_gd_t, hixn, if_pos (by rw [z_lg_eq, hMe]; exact cv), zb_Orders_bestOfAll_63]
        exact g3 M
      · have hreal : ∃ m, zPR I n m S l c (L1 47 (9 * S + l)).toInt := by
          rcases hV.2 with e | e
          · omega
          · exact e
        obtain ⟨L2, f1, f2, f3⟩ := zr_addNext47 X d m0 ce sl I t u hO hn s2 hl hc x3 x5 x4 a1 a4 a2 L1 a6 hreal (fun m key hk => hV.1 key ⟨m, hk⟩)
        obtain ⟨L', g1, g2, g3⟩ := ih S (l + 1) x3 x4 (x5 + Int32.ofInt 1) L2 s1 s2 a1 a2 (by omega) a4' (fun a b1 b2 => by rw [f1 a b1 b2, a5 a b1 b2]) (zRD2_ex f2 (fun a b e m key hk he _ => by
          constructor
          · intro x
            rcases x with (x | ⟨x1, x2, x3⟩) | ⟨x1, x2, x3⟩
            · exact Or.inl x
            · exact Or.inr ⟨x1, by omega, x3⟩
            · exact Or.inr ⟨x1, by omega, x3⟩
          · intro x
            rcases x with x | ⟨x1, x2, x3⟩
            · exact Or.inl (Or.inl x)
            · by_cases cb : b = l
              · exact Or.inr ⟨x1, cb, x3⟩
              · exact Or.inl (Or.inr ⟨x1, by omega, x3⟩)))
        refine ⟨L', g1, g2, fun M => ?_⟩
        rw [show M + 2 * (k + 1) + 1 = (M + 2 * k + 1) + 1 + 1 by omega, zb_Orders_bestOfAll_27_47, if_neg (by rw [y_i_le]; omega), hin, z_gd_t, hixn, if_neg (by rw [z_lg_eq, hMe]; exact cv), f3, z_b0_v, zb_Orders_bestOfAll_63]
        exact g3 M
  -- every set
  have lps : ∀ k, ∀ (S : Nat) (x3 : Int32) (L1 : Nat → Nat → Int64), 1 ≤ S → S + k = 2 ^ n - 1 → x3.toInt = S → (∀ a, a ≠ 47 → a ≠ 46 → L1 a = L a) → zRD2 I n c (zDs S) (L1 47) (L1 46) → ∃ L' : Nat → Nat → Int64, (∀ a, a ≠ 47 → a ≠ 46 → L' a = L a) ∧ zRD2 I n c (zDs (2 ^ n - 1)) (L' 47) (L' 46) ∧
      ∀ M, z_loop X z_cf z_ff (z_pu (z_run X z_cf z_ff (d + 4))) 44 (M + 21 * k + 1) 11 [(0, .ref 41), (1, .int x1), (2, .int x2), (3, .int x3)] [] (118, z_sd m0, ce, sl, I, L1, z_rr t u 47 46 (z_gg m0) (z_sf m0)) = z_loop X z_cf z_ff (z_pu (z_run X z_cf z_ff (d + 4))) 44 (M + 21 * k + 1 - 21 * k - 1 + 0 + (18 - 2 * n) * k) 82 [(0, .ref 41), (2, .int x2), (3, .long (Int64.ofInt 9223372036854775807)), (5, .int (Int32.ofInt 0))] [] (118, z_sd m0, ce, sl, I, L', z_rr t u 47 46 (z_gg m0) (z_sf m0)) := by
    intro k
    induction k with
    | zero =>
      intro S x3 L1 s1 a1 a2 a3 a4
      have e : S = 2 ^ n - 1 := by omega
      subst e
      refine ⟨L1, a3, a4, fun M => ?_⟩
      rw [show M + 21 * 0 + 1 - 21 * 0 - 1 + 0 + (18 - 2 * n) * 0 = M by omega, show M + 21 * 0 + 1 = M + 1 by omega, zb_Orders_bestOfAll_11, if_pos (by rw [y_i_le]; omega)]
    | succ k ih =>
      intro S x3 L1 s1 a1 a2 a3 a4
      obtain ⟨y, e1, e2⟩ := zr_endOf X (d + 1) (z_sd m0) ce sl I L1 t u 47 46 (z_gg m0) (z_sf m0) (S := S) hO hn (by omega) hc x3 x1 a2 h1
      obtain ⟨L2, f1, f2, f3⟩ := lpl n S 0 x3 y (Int32.ofInt 0) L1 s1 (by omega) a2 e1 (by omega) rfl a3 (zRD2_D a4 (fun a b e => ⟨Or.inl, fun x => x.elim id (fun y => absurd y.2.1 (by omega))⟩))
      obtain ⟨L', g1, g2, g3⟩ := ih (S + 1) (x3 + Int32.ofInt 1) L2 (by omega) (by omega) (by rw [y_adl (by omega) (by omega) (by omega) (by omega)]; omega) f1 f2
      refine ⟨L', g1, g2, fun M => ?_⟩
      have hmul : (18 - 2 * n) * (k + 1) = (18 - 2 * n) * k + (18 - 2 * n) := Nat.mul_succ _ _
      rw [show M + 21 * (k + 1) + 1 = (M + 21 * k + 1 + (18 - 2 * n) + 2 * n + 1) + 1 + 1 by omega, zb_Orders_bestOfAll_11, if_neg (by rw [y_i_le]; omega), e2, z_bi_v, zb_Orders_bestOfAll_22, f3, show M + 21 * k + 1 + (18 - 2 * n) = (M + (18 - 2 * n)) + 21 * k + 1 by omega, g3]
      congr 1
      omega
  -- the best row of all
  have lpf : ∀ k, ∀ (l : Nat) (x3 : Int64) (x5 : Int32) (L1 : Nat → Nat → Int64), l + k = n → x5.toInt = l → zRD2 I n c (zDs (2 ^ n - 1)) (L1 47) (L1 46) → zIsM (fun key => ∃ m l', l' < l ∧ zPR I n m (2 ^ n - 1) l' c key) x3.toInt → ∃ y : Int64, zIsM (fun key => ∃ m l', l' < n ∧ zPR I n m (2 ^ n - 1) l' c key) y.toInt ∧ ∀ M, z_loop X z_cf z_ff (z_pu (z_run X z_cf z_ff (d + 4))) 44 (M + k + 1) 82 [(0, .ref 41), (2, .int x2), (3, .long x3), (5, .int x5)] [] (118, z_sd m0, ce, sl, I, L1, z_rr t u 47 46 (z_gg m0) (z_sf m0)) = some (.inl (some (.long y)), (118, z_sd m0, ce, sl, I, L1, z_rr t u 47 46 (z_gg m0) (z_sf m0))) := by
    intro k
    induction k with
    | zero =>
      intro l x3 x5 L1 a1 a2 a3 a4
      have e : l = n := by omega
      subst e
      refine ⟨x3, a4, fun M => ?_⟩
      rw [show M + 0 + 1 = M + 1 by omega, zb_Orders_bestOfAll_82_47, if_pos (by rw [y_i_le]; omega)]
    | succ k ih =>
      intro l x3 x5 L1 a1 a2 a3 a4
      have hix := z_oix hall a2 (by omega) (by omega)
      have hixn : (z_p_Orders_indexOf x2 x5).toNatClampNeg = 9 * (2 ^ n - 1) + l := by rw [y_tn, hix]; rfl
      have hin : z_in (z_p_Orders_indexOf x2 x5) 4608 = true := y_in_t (by omega) (by omega)
      have hV := zIsM_c (a3.1 (2 ^ n - 1) l (by omega) (by omega)) (fun key => zQ0_all (fun S0 l0 h h' => ⟨h', h⟩) hO key)
      obtain ⟨y, g1, g2⟩ := ih (l + 1) (z_mnl x3 (L1 47 (9 * (2 ^ n - 1) + l))) (x5 + Int32.ofInt 1) L1 (by omega) (by rw [y_adl (by omega) (by omega) (by omega) (by omega)]; omega) a3 (by
        rw [y_mnl]
        refine zIsM_c (zIsM_or a4 hV (y_l8 _) (y_l8 _)) (fun key => ⟨fun x => ?_, fun x => ?_⟩)
        · rcases x with ⟨m, l', b1, b2⟩ | ⟨m, b2⟩
          · exact ⟨m, l', by omega, b2⟩
          · exact ⟨m, l, by omega, b2⟩
        · obtain ⟨m, l', b1, b2⟩ := x
          by_cases cl : l' = l
          · subst cl
            exact Or.inr ⟨m, b2⟩
          · exact Or.inl ⟨m, l', by omega, b2⟩)
      refine ⟨y, g1, fun M => ?_⟩
      rw [show M + (k + 1) + 1 = (M + k + 1) + 1 by omega, zb_Orders_bestOfAll_82_47, if_neg (by rw [y_i_le]; omega), hin, z_gd_t, hixn]
      exact g2 M
  obtain ⟨L', g1, g2, g3⟩ := lps (2 ^ n - 2) 1 (Int32.ofInt 1) L (Nat.le_refl _) (by omega) rfl (fun _ _ _ => rfl) hR
  obtain ⟨y, k1, k2⟩ := lpf n 0 (Int64.ofInt 9223372036854775807) (Int32.ofInt 0) L' (by omega) rfl g2 (by
    rw [hMe]
    exact ⟨fun key hk => by obtain ⟨m, l', b1, b2⟩ := hk; omega, Or.inl rfl⟩)
  refine ⟨L', y, g1, g2, zIsM_c k1 (fun key => ⟨fun x => ?_, fun x => ?_⟩), ?_⟩
  · obtain ⟨m, l', b1, b2⟩ := x
    exact ⟨m, l', b2⟩
  · obtain ⟨m, l', b2⟩ := x
    exact ⟨m, l', (zPR_is hO _ _ _ _ _ b2).2.2.1, b2⟩
  · refine z_en X (d + 2) _ _ [(0, .ref 41), (1, .int x1)] _ _ rfl rfl rfl ?_
    rw [show (100000000 : Nat) = (99980000 + 21 * (2 ^ n - 2) + 1 + (19998 - 21 * (2 ^ n - 2))) + 1 by omega, zb_Orders_bestOfAll_0, ← hx2]
    have e := g3 (99980000 + (19998 - 21 * (2 ^ n - 2)))
    rw [show 99980000 + 21 * (2 ^ n - 2) + 1 + (19998 - 21 * (2 ^ n - 2)) = 99980000 + (19998 - 21 * (2 ^ n - 2)) + 21 * (2 ^ n - 2) + 1 by omega, e]
    obtain ⟨W, hW⟩ : ∃ W, W = (18 - 2 * n) * (2 ^ n - 2) := ⟨_, rfl⟩
    rw [← hW, show 99980000 + (19998 - 21 * (2 ^ n - 2)) + 21 * (2 ^ n - 2) + 1 - 21 * (2 ^ n - 2) - 1 + 0 + W = (99979999 - n + (19998 - 21 * (2 ^ n - 2)) + W) + n + 1 by omega]
    exact k2 _
