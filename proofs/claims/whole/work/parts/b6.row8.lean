/-! ROW, 8: what an order costs, in the model; what is left to come -/
/-- the model's orders are the class's -/
def zOM (I : Nat → Nat → Int32) (n : Nat) : Prop := I 100 = I 42 ∧ I 101 = I 43 ∧ I 102 = I 44 ∧ I 103 = I 45 ∧ I 55 76 = Int32.ofNat n
def zco (I : Nat → Nat → Int32) (n S k f c : Nat) : Option Nat → Int
  | none => zolate I k (5 * ((c : Int) + f) + (I 44 k).toInt + zoT I S n)
  | some l => zoc I n S l k f c
theorem zr_coinOf (X : ZX) (d n0 ce sl : Nat) (I : Nat → Nat → Int32) (L : Nat → Nat → Int64) (t u r q g : Nat) (st : Nat → Option Nat) {n S k f c : Nat} (hO : zOr I n) (hM : zOM I n) (hS : S < 512) (hk : k < n) (hf : f < 2) (hc : c ≤ 8) (x1 x2 x3 x4 x5 : Int32) (h1 : x1.toInt = S) (h3 : x3.toInt = k) (h4 : x4.toInt = f) (h5 : x5.toInt = c) (o : Option Nat) (h2 : (o = none ∧ x2.toInt = -1) ∨ ∃ l, o = some l ∧ l < n ∧ x2.toInt = l) : ∃ y : Int32, y.toInt = zco I n S k f c o ∧ z_pu (z_run X z_cf z_ff (d + 3)) 243 [.ref 55, .int x1, .int x2, .int x3, .int x4, .int x5] (118, n0, ce, sl, I, L, z_rr t u r q g st) = some (.inl (some (.int y)), (118, n0, ce, sl, I, L, z_rr t u r q g st)) := by
  have hn9 := hO.1
  obtain ⟨m1, m2, m3, m4, m5⟩ := hM
  have hn' : (I 55 76).toInt = n := by rw [m5, y_on (by omega)]
  have hx1 : x1 = Int32.ofNat S := y_nat h1
  have hx3n : x3.toNatClampNeg = k := by rw [y_tn, h3]; rfl
  have hin3 : z_in x3 9 = true := y_in_t (by omega) (by omega)
  have e5 : (Int32.ofInt 5).toInt = 5 := rfl
  have e2 : (Int32.ofInt 2).toInt = 2 := rfl
  have e25 : (Int32.ofInt 25).toInt = 25 := rfl
  have e40 : (Int32.ofInt 40).toInt = 40 := rfl
  have e0 : (Int32.ofInt 0).toInt = 0 := rfl
  have e00 : (0 : Int32).toInt = 0 := rfl
  have e1 : (Int32.ofInt 1).toInt = 1 := rfl
  have em1 : (Int32.ofInt (-1)).toInt = -1 := rfl
  have e100 : (Int32.ofInt 100).toInt = 100 := rfl
  have n100 : ¬ (Int32.ofInt 100 : Int32) = 0 := by decide
  have hok := hO.2 k hk
  have hTn := zoT_r hO S n (Nat.le_refl _)
  -- what comes behind the sum of ticks
  have fin : ∀ v : Int32, v.toInt = zolate I k (5 * ((c : Int) + f) + (I 44 k).toInt + zoT I S n) → ∃ y : Int32, y.toInt = zco I n S k f c o ∧ ((if x2 = Int32.ofInt (-1) then some (.inl (some (.int (v))), (118, n0, ce, sl, I, L, z_rr t u r q g st)) else if x4 = Int32.ofInt 1 then some (.inl (some (.int (v + Int32.ofInt 25))), (118, n0, ce, sl, I, L, z_rr t u r q g st)) else z_gd (z_in x3 9) (z_gd (z_in x2 9) (if 0 ≤ I 101 x3.toNatClampNeg - I 101 x2.toNatClampNeg then (if (Int32.ofInt 100 : Int32) = 0 then none else z_gd (z_in x3 9) (z_gd (z_in x2 9) (if I 100 x3.toNatClampNeg ≤ I 100 x2.toNatClampNeg then some (.inl (some (.int (v + (I 101 x3.toNatClampNeg - I 101 x2.toNatClampNeg) / Int32.ofInt 100 + Int32.ofInt 0))), (118, n0, ce, sl, I, L, z_rr t u r q g st)) else some (.inl (some (.int (v + (I 101 x3.toNatClampNeg - I 101 x2.toNatClampNeg) / Int32.ofInt 100 + Int32.ofInt 40))), (118, n0, ce, sl, I, L, z_rr t u r q g st))))) else (if (Int32.ofInt 100 : Int32) = 0 then none else z_gd (z_in x3 9) (z_gd (z_in x2 9) (if I 100 x3.toNatClampNeg ≤ I 100 x2.toNatClampNeg then some (.inl (some (.int (v + (-(I 101 x3.toNatClampNeg - I 101 x2.toNatClampNeg)) / Int32.ofInt 100 + Int32.ofInt 0))), (118, n0, ce, sl, I, L, z_rr t u r q g st)) else some (.inl (some (.int (v + (-(I 101 x3.toNatClampNeg - I 101 x2.toNatClampNeg)) / Int32.ofInt 100 + Int32.ofInt 40))), (118, n0, ce, sl, I, L, z_rr t u r q g st)))))))) : ZR) = some (.inl (some (.int y)), (118, n0, ce, sl, I, L, z_rr t u r q g st)) := by
    intro v hv
    have hvr := zolate_r hO hk (e := 5 * ((c : Int) + f) + (I 44 k).toInt + zoT I S n) (by omega)
    rcases h2 with ⟨o1, o2⟩ | ⟨l, o1, o2, o3⟩
    · subst o1
      refine ⟨v, hv, ?_⟩
      rw [if_pos (by rw [y_i_eq, em1]; exact o2)]
    · subst o1
      have hx2n : x2.toNatClampNeg = l := by rw [y_tn, o3]; rfl
      have hin2 : z_in x2 9 = true := y_in_t (by omega) (by omega)
      have hol := hO.2 l o2
      rw [if_neg (by rw [y_i_eq, em1]; omega)]
      by_cases cf : f = 1
      · subst cf
        refine ⟨v + Int32.ofInt 25, ?_, by rw [if_pos (by rw [y_i_eq, e1]; omega)]⟩
        show _ = zoc I n S l k 1 c
        unfold zoc
        rw [if_neg (by omega), y_adl (by omega) (by omega) (by omega) (by omega), hv]
        congr 1
        unfold zolate
        omega
      · have f0 : f = 0 := by omega
        subst f0
        have ed : (I 101 k - I 101 l).toInt = (I 43 k).toInt - (I 43 l).toInt := by rw [m2, y_sb (by omega) (by omega)]
        have hz : zoc I n S l k 0 c = v.toInt + zobes I l k := by
          unfold zoc
          rw [if_pos rfl, hv]
          congr 1
          unfold zolate
          omega
        have hbr := zobes_r hO o2 hk
        rw [if_neg (by rw [y_i_eq, e1]; omega), hin3, z_gd_t, hin2, z_gd_t, hx3n, hx2n, if_neg n100, z_gd_t, z_gd_t]
        by_cases cd : 0 ≤ (I 43 k).toInt - (I 43 l).toInt
        · have eq1 : ((I 101 k - I 101 l) / Int32.ofInt 100).toInt = ((I 43 k).toInt - (I 43 l).toInt) / 100 := by rw [y_dv (by omega) (by omega), ed, e100]
          rw [if_pos (by rw [y_i_le, e00]; omega)]
          have es : (v + (I 101 k - I 101 l) / Int32.ofInt 100).toInt = v.toInt + ((I 43 k).toInt - (I 43 l).toInt) / 100 := by rw [y_ad (by omega) (by omega), eq1]
          have hb1 : (if (I 43 l).toInt < (I 43 k).toInt then (I 43 k).toInt - (I 43 l).toInt else (I 43 l).toInt - (I 43 k).toInt) / 100 = ((I 43 k).toInt - (I 43 l).toInt) / 100 := by
            congr 1
            split <;> omega
          by_cases cw : (I 42 k).toInt ≤ (I 42 l).toInt
          · refine ⟨_, ?_, by rw [if_pos (by rw [y_i_le, m1]; exact cw)]⟩
            show _ = zoc I n S l k 0 c
            rw [hz, y_adl (by omega) (by omega) (by omega) (by omega), es]
            unfold zobes
            rw [hb1, if_neg (show ¬ (I 42 l).toInt < (I 42 k).toInt by omega)]
            omega
          · refine ⟨_, ?_, by rw [if_neg (by rw [y_i_le, m1]; exact cw)]⟩
            show _ = zoc I n S l k 0 c
            rw [hz, y_adl (by omega) (by omega) (by omega) (by omega), es]
            unfold zobes
            rw [hb1, if_pos (show (I 42 l).toInt < (I 42 k).toInt by omega)]
            omega
        · have en : (-(I 101 k - I 101 l)).toInt = (I 43 l).toInt - (I 43 k).toInt := by rw [y_neg (by omega), ed]; omega
          have eq1 : (-(I 101 k - I 101 l) / Int32.ofInt 100).toInt = ((I 43 l).toInt - (I 43 k).toInt) / 100 := by rw [y_dv (by omega) (by omega), en, e100]
          rw [if_neg (by rw [y_i_le, e00]; omega), if_neg n100, z_gd_t, z_gd_t]
          have es : (v + (-(I 101 k - I 101 l)) / Int32.ofInt 100).toInt = v.toInt + ((I 43 l).toInt - (I 43 k).toInt) / 100 := by rw [y_ad (by omega) (by omega), eq1]
          have hb1 : (if (I 43 l).toInt < (I 43 k).toInt then (I 43 k).toInt - (I 43 l).toInt else (I 43 l).toInt - (I 43 k).toInt) / 100 = ((I 43 l).toInt - (I 43 k).toInt) / 100 := by
            congr 1
            split <;> omega
          by_cases cw : (I 42 k).toInt ≤ (I 42 l).toInt
          · refine ⟨_, ?_, by rw [if_pos (by rw [y_i_le, m1]; exact cw)]⟩
            show _ = zoc I n S l k 0 c
            rw [hz, y_adl (by omega) (by omega) (by omega) (by omega), es]
            unfold zobes
            rw [hb1, if_neg (show ¬ (I 42 l).toInt < (I 42 k).toInt by omega)]
            omega
          · refine ⟨_, ?_, by rw [if_neg (by rw [y_i_le, m1]; exact cw)]⟩
            show _ = zoc I n S l k 0 c
            rw [hz, y_adl (by omega) (by omega) (by omega) (by omega), es]
            unfold zobes
            rw [hb1, if_pos (show (I 42 l).toInt < (I 42 k).toInt by omega)]
            omega
  have lp : ∀ i, ∀ (j : Nat) (x6 x7 : Int32), j + i = n → x7.toInt = j → x6.toInt = 5 * ((c : Int) + f) + (I 44 k).toInt + zoT I S j → ∃ y : Int32, y.toInt = zco I n S k f c o ∧ ∀ M, z_loop X z_cf z_ff (z_pu (z_run X z_cf z_ff (d + 2))) 243 (M + i + 1) 19 [(0, .ref 55), (1, .int x1), (2, .int x2), (3, .int x3), (4, .int x4), (6, .int x6), (7, .int x7)] [] (118, n0, ce, sl, I, L, z_rr t u r q g st) = some (.inl (some (.int y)), (118, n0, ce, sl, I, L, z_rr t u r q g st)) := by
    intro i
    induction i with
    | zero =>
      intro j x6 x7 a1 a2 a3
      have e : j = n := by omega
      subst e
      have ed : (I 103 k).toInt = (I 45 k).toInt := by rw [m4]
      by_cases ct : x6.toInt ≤ (I 45 k).toInt
      · obtain ⟨y, y1, y2⟩ := fin (Int32.ofInt 0) (by unfold zolate; rw [e0]; omega)
        refine ⟨y, y1, fun M => ?_⟩
        rw [show M + 0 + 1 = M + 1 by omega, zb_M_coinOf_19, if_pos (by rw [y_i_le]; omega), hin3, z_gd_t, if_pos (by rw [y_i_le, hx3n]; omega)]
        rw [hin3] at y2
        exact y2
      · have es : (x6 - I 103 k).toInt = x6.toInt - (I 45 k).toInt := by rw [y_sb (by omega) (by omega), ed]
        obtain ⟨y, y1, y2⟩ := fin (Int32.ofInt 2 * (x6 - I 103 k)) (by rw [y_mu (by rw [e2]; omega) (by rw [e2]; omega), e2, es]; unfold zolate; omega)
        refine ⟨y, y1, fun M => ?_⟩
        rw [show M + 0 + 1 = M + 1 by omega, zb_M_coinOf_19, if_pos (by rw [y_i_le]; omega), hin3, z_gd_t, if_neg (by rw [y_i_le, hx3n]; omega), z_gd_t]
        rw [hin3] at y2
        rw [hx3n] at y2 ⊢
        exact y2
    | succ i ih =>
      intro j x6 x7 a1 a2 a3
      have hj : j < n := by omega
      have hx7 : x7 = Int32.ofNat j := y_nat a2
      have hx7n : x7.toNatClampNeg = j := by rw [y_tn, a2]; rfl
      have a2' : (x7 + Int32.ofInt 1).toInt = ((j + 1 : Nat) : Int) := by rw [y_adl (by omega) (by omega) (by omega) (by omega)]; omega
      have hbit := zbits_shr j (by omega) S hS
      rw [← hx1, ← hx7, decide_eq_decide] at hbit
      have hT := zoT_r hO S j (by omega)
      have hoj := hO.2 j hj
      have hb1 := zbt2_le S j
      have eT : zoT I S (j + 1) = zoT I S j + (zbt2 S j : Int) * (I 44 j).toInt := rfl
      have e102 : (I 102 j).toInt = (I 44 j).toInt := by rw [m3]
      by_cases cb : zbt2 S j = 1
      · rw [cb] at eT
        obtain ⟨y, g1, g2⟩ := ih (j + 1) (x6 + I 102 j) (x7 + Int32.ofInt 1) (by omega) a2' (by rw [y_ad (by omega) (by omega)]; omega)
        refine ⟨y, g1, fun M => ?_⟩
        rw [show M + (i + 1) + 1 = (M + i + 1) + 1 by omega, zb_M_coinOf_19, if_neg (by rw [y_i_le]; omega), if_pos (hbit.mpr cb), y_in_t (by omega) (by omega), z_gd_t, hx7n]
        exact g2 M
      · have e0' : zbt2 S j = 0 := by omega
        rw [e0'] at eT
        obtain ⟨y, g1, g2⟩ := ih (j + 1) x6 (x7 + Int32.ofInt 1) (by omega) a2' (by omega)
        refine ⟨y, g1, fun M => ?_⟩
        rw [show M + (i + 1) + 1 = (M + i + 1) + 1 by omega, zb_M_coinOf_19, if_neg (by rw [y_i_le]; omega), if_neg (fun x => cb (hbit.mp x))]
        exact g2 M
  have e54 : (x5 + x4).toInt = (c : Int) + f := by rw [y_ad (by omega) (by omega), h5, h4]
  have e55 : (Int32.ofInt 5 * (x5 + x4)).toInt = 5 * ((c : Int) + f) := by rw [y_mu (by rw [e5]; omega) (by rw [e5]; omega), e5, e54]
  have e102 : (I 102 k).toInt = (I 44 k).toInt := by rw [m3]
  obtain ⟨y, g1, g2⟩ := lp n 0 (Int32.ofInt 5 * (x5 + x4) + I 102 k) (Int32.ofInt 0) (by omega) rfl (by rw [y_ad (by omega) (by omega), e55, e102]; show _ = _ + (0 : Int); omega)
  refine ⟨y, g1, ?_⟩
  refine z_en X d _ _ [(0, .ref 55), (1, .int x1), (2, .int x2), (3, .int x3), (4, .int x4), (5, .int x5)] _ _ rfl rfl rfl ?_
  rw [show (100000000 : Nat) = (99999998 - n + n + 1) + 1 by omega, zb_M_coinOf_0, hin3, z_gd_t, hx3n]
  exact g2 _
