/-! CALLS, 14: fits, loops -/
abbrev zmp (a b c d : Int64) (i : Nat) : Int := (z_p_M_markAt (Int32.ofNat i) a b c d).toInt
def zmv (p : Nat → Int) (i : Nat) : Bool := decide (p i ≤ 99999 ∧ (i = 0 ∨ p (i - 1) < p i))
theorem zr_ft1 (X : ZX) (call : ZC) (n0 ce sl : Nat) (I : Nat → Nat → Int32) (L : Nat → Nat → Int64) (t u r q g : Nat) (st : Nat → Option Nat) (s : Nat) (many e x y : Int32) (a b c d : Int64) {N : Nat} (hN : N ≤ 10) (hm : many.toInt = N) (k : Nat) : ∀ (i M : Nat) (ah : Int32), i + k = N → ah.toInt = (if i = 0 then -1 else zmp a b c d (i - 1)) →
    z_loop X z_cf z_ff (z_pu call) 152 (M + k + 1) 52 [(2, .int many), (3, .long a), (5, .long b), (7, .long c), (9, .long d), (11, .int e), (12, .int x), (13, .int y), (14, .ref s), (15, .int ah), (16, .int (Int32.ofNat i))] [] (118, n0, ce, sl, I, L, z_rr t u r q g st) = if zand (zmv (zmp a b c d)) k i = true then z_loop X z_cf z_ff (z_pu call) 152 M 120 [(2, .int many), (3, .long a), (5, .long b), (7, .long c), (9, .long d), (11, .int e), (12, .int x), (13, .int y), (14, .ref s), (16, .int (z_p_M_markAt (Int32.ofNat 0) a b c d)), (17, .int (Int32.ofNat 1))] [] (118, n0, ce, sl, I, L, z_rr t u r q g st) else some (.inr 1, (118, n0, ce + 1, sl + 6, I, L, z_rr t u r q g st)) := by
  induction k with
  | zero =>
    intro i M ah h1 h2
    rw [zb_X_fits_52, if_pos (by rw [y_i_le, y_on (by omega), hm]; omega), show (Int32.ofInt 0) = Int32.ofNat 0 from rfl, (y_mk_all a b c d (i := 0) (by omega)).1]
    rfl
  | succ k ih =>
    intro i M ah h1 h2
    obtain ⟨m1, m2, m3⟩ := y_mk_all a b c d (i := i) (by omega)
    have hah : -1 ≤ ah.toInt ∧ ah.toInt ≤ 131071 := by
      rw [h2]
      split
      · omega
      · have := y_mk_all a b c d (i := i - 1) (by omega)
        simp only [zmp]
        omega
    have e1 := z_p1 (a := ah) (by omega)
    rw [show M + (k + 1) + 1 = M + k + 1 + 1 by omega, zb_X_fits_52, if_neg (by rw [y_i_le, y_on (by omega), hm]; omega), m1, z_ofa (by omega)]
    unfold zand
    by_cases hb : zmv (zmp a b c d) i = true
    · have hb' := of_decide_eq_true hb
      rw [if_neg (by
        rw [y_wi0, e1, h2, y_oi (by omega) (by omega)]
        simp only [zmp] at hb' ⊢
        split
        · omega
        · rename_i h0
          have := hb'.2.resolve_left h0
          omega), if_pos hb]
      have := ih (i + 1) M (z_p_M_markAt (Int32.ofNat i) a b c d) (by omega) (by rw [if_neg (by omega), Nat.add_sub_cancel])
      rw [this]
    · rw [if_pos (by
        rw [y_wi0, e1, h2, y_oi (by omega) (by omega)]
        intro hc
        apply hb
        apply decide_eq_true
        simp only [zmp] at hc ⊢
        refine ⟨hc.2, ?_⟩
        by_cases h0 : i = 0
        · exact Or.inl h0
        · refine Or.inr ?_
          have h3 := hc.1
          rw [if_neg h0] at h3
          omega), if_neg hb]
      rfl
theorem zr_ft2 (X : ZX) (d0 m ce sl : Nat) (I : Nat → Nat → Int32) (L : Nat → Nat → Int64) (t u r q : Nat) (s : Nat) (many e x y : Int32) (a b c d : Int64) {N : Nat} (hN : N ≤ 10) (hm : many.toInt = N) (hok : z_ok (118, z_sd m, ce, sl, I, L, z_rr t u r q (z_gg m) (z_sf m)) s 10 = true) (he : 0 ≤ e.toInt) (x0 : 1 ≤ x.toInt) (x1 : x.toInt ≤ 60000) (y0 : 1 ≤ y.toInt) (y1 : y.toInt ≤ 60000) (t0 : 100 ≤ (I s 6).toInt) (t1 : (I s 6).toInt ≤ 4000)
    (hp : ∀ j, 1 ≤ j → j < N → 1 ≤ zmp a b c d j - zmp a b c d 0 ∧ zmp a b c d j - zmp a b c d 0 ≤ 99999) (k : Nat) : ∀ (i M : Nat), 1 ≤ i → i + k = N →
    z_loop X z_cf z_ff (z_pu (z_run X z_cf z_ff (d0 + 7))) 152 (M + 2 * k + 2) 120 [(2, .int many), (3, .long a), (5, .long b), (7, .long c), (9, .long d), (11, .int e), (12, .int x), (13, .int y), (14, .ref s), (16, .int (z_p_M_markAt (Int32.ofNat 0) a b c d)), (17, .int (Int32.ofNat i))] [] (118, z_sd m, ce, sl, I, L, z_rr t u r q (z_gg m) (z_sf m)) = some (.inl (some (.int (if zand (fun j => zfo ((zmp a b c d j - zmp a b c d 0) * y.toInt) ((I s 6).toInt * x.toInt) (e.toInt * y.toInt)) k i = true then Int32.ofInt 1 else Int32.ofInt 0))), (118, z_sd m, ce, sl, I, L, z_rr t u r q (z_gg m) (z_sf m))) := by
  induction k with
  | zero =>
    intro i M h0 h1
    rw [zt_X_fits_120 X d0, if_pos (by rw [y_i_le, y_on (by omega), hm]; omega)]
    rfl
  | succ k ih =>
    intro i M h0 h1
    obtain ⟨m1, m2, m3⟩ := y_mk_all a b c d (i := i) (by omega)
    obtain ⟨_, m5, m6⟩ := y_mk_all a b c d (i := 0) (by omega)
    obtain ⟨p1, p2⟩ := hp i h0 (by omega)
    have hW1 : (z_p_M_markAt (Int32.ofNat i) a b c d - z_p_M_markAt (Int32.ofNat 0) a b c d).toInt = zmp a b c d i - zmp a b c d 0 := y_sb (by omega) (by omega)
    generalize hD : zmp a b c d i - zmp a b c d 0 = D at *
    have w0 : 0 ≤ D * y.toInt := Int.mul_nonneg (by omega) (by omega)
    have w1 : D * y.toInt ≤ 99999 * 60000 := Int.mul_le_mul p2 y1 (by omega) (by omega)
    have r0 : 100 * 1 ≤ (I s 6).toInt * x.toInt := Int.mul_le_mul t0 x0 (by omega) (by omega)
    have r1 : (I s 6).toInt * x.toInt ≤ 4000 * 60000 := Int.mul_le_mul t1 x1 (by omega) (by omega)
    have eh := y_hi e
    have f0 : 0 ≤ e.toInt * y.toInt := Int.mul_nonneg he (by omega)
    have f1 : e.toInt * y.toInt ≤ 2147483647 * 60000 := Int.mul_le_mul eh y1 (by omega) (by omega)
    have eW : ((z_p_M_markAt (Int32.ofNat i) a b c d - z_p_M_markAt (Int32.ofNat 0) a b c d).toInt64 * y.toInt64).toInt = D * y.toInt := by rw [y_mu8 (by rw [y_il, y_il, hW1]; omega) (by rw [y_il, y_il, hW1]; omega), y_il, y_il, hW1]
    have eR : ((I s 6).toInt64 * x.toInt64).toInt = (I s 6).toInt * x.toInt := by rw [y_mu8 (by rw [y_il, y_il]; omega) (by rw [y_il, y_il]; omega), y_il, y_il]
    have eF : (e.toInt64 * y.toInt64).toInt = e.toInt * y.toInt := by rw [y_mu8 (by rw [y_il, y_il]; omega) (by rw [y_il, y_il]; omega), y_il, y_il]
    obtain ⟨k1, k2, k3, k4, k5⟩ := zfk_f (W := D * y.toInt) (r := (I s 6).toInt * x.toInt) w0 (by omega)
    have hzf : zfo (D * y.toInt) ((I s 6).toInt * x.toInt) (e.toInt * y.toInt) = decide (max (D * y.toInt - zfk (D * y.toInt) ((I s 6).toInt * x.toInt) * ((I s 6).toInt * x.toInt)) (zfk (D * y.toInt) ((I s 6).toInt * x.toInt) * ((I s 6).toInt * x.toInt) - D * y.toInt) ≤ e.toInt * y.toInt ∨ (zfk (D * y.toInt) ((I s 6).toInt * x.toInt) + 1) * ((I s 6).toInt * x.toInt) - D * y.toInt ≤ e.toInt * y.toInt) := rfl
    rw [show M + 2 * (k + 1) + 2 = M + 2 * k + 2 + 2 by omega, zt_X_fits_120 X d0, if_neg (by rw [y_i_le, y_on (by omega), hm]; omega), hok, z_gd_t, m1, z_ofa (by omega)]
    generalize hWd : (z_p_M_markAt (Int32.ofNat i) a b c d - z_p_M_markAt (Int32.ofNat 0) a b c d).toInt64 * y.toInt64 = W at *
    generalize hRd : (I s 6).toInt64 * x.toInt64 = R at *
    generalize hFd : e.toInt64 * y.toInt64 = F at *
    have eK : (z_mxl (Int64.ofInt 1) (W / R)).toInt = zfk (D * y.toInt) ((I s 6).toInt * x.toInt) := by
      rw [z_mxl_i, y_dv8 (by omega) (by omega), eW, eR]
      rfl
    generalize z_mxl (Int64.ofInt 1) (W / R) = K at *
    generalize zfk (D * y.toInt) ((I s 6).toInt * x.toInt) = kk at *
    have kx : kk ≤ 99999 * 60000 := by
      have h7 : kk * 1 ≤ kk * ((I s 6).toInt * x.toInt) := Int.mul_le_mul_of_nonneg_left (by omega) (by omega)
      rcases k3 with k3 | k3 <;> omega
    have eKR : (K * R).toInt = kk * ((I s 6).toInt * x.toInt) := by
      rw [y_mu8 (by rw [eK, eR]; omega) (by rw [eK, eR]; omega), eK, eR]
    have eK1 : ((K + Int64.ofInt 1) * R).toInt = (kk + 1) * ((I s 6).toInt * x.toInt) := by
      have e1 : (Int64.ofInt 1).toInt = 1 := rfl
      have e2 : (K + Int64.ofInt 1).toInt = kk + 1 := by rw [y_ad8 (by omega) (by omega), eK, e1]
      rw [y_mu8 (by rw [e2, eR]; omega) (by rw [e2, eR]; omega), e2, eR]
    have eA : (z_abl (W - K * R)).toInt = max (D * y.toInt - kk * ((I s 6).toInt * x.toInt)) (kk * ((I s 6).toInt * x.toInt) - D * y.toInt) := by
      have e1 : (W - K * R).toInt = D * y.toInt - kk * ((I s 6).toInt * x.toInt) := by rw [y_sb8 (by omega) (by omega), eW, eKR]
      rw [z_abl_i (by omega), e1]
      omega
    have eB : (z_abl (W - (K + Int64.ofInt 1) * R)).toInt = (kk + 1) * ((I s 6).toInt * x.toInt) - D * y.toInt := by
      have e1 : (W - (K + Int64.ofInt 1) * R).toInt = D * y.toInt - (kk + 1) * ((I s 6).toInt * x.toInt) := by rw [y_sb8 (by omega) (by omega), eW, eK1]
      rw [z_abl_i (by omega), e1]
      omega
    have e1 : (Int64.ofInt 1).toInt = 1 := rfl
    have c1 : 0 ≤ lg_cmp R (Int64.ofInt 1) := by rw [z_lg_ge, e1]; omega
    have c2 : ¬ R = 0 := by rw [y_l_eq, y_l0]; omega
    rw [if_pos c1, if_neg c2]
    simp only [z_lg_le, z_lg_gt, eA, eB, eF]
    have hfo : zand (fun j => zfo ((zmp a b c d j - zmp a b c d 0) * y.toInt) ((I s 6).toInt * x.toInt) (e.toInt * y.toInt)) (k + 1) i = if zfo (D * y.toInt) ((I s 6).toInt * x.toInt) (e.toInt * y.toInt) = true then zand (fun j => zfo ((zmp a b c d j - zmp a b c d 0) * y.toInt) ((I s 6).toInt * x.toInt) (e.toInt * y.toInt)) k (i + 1) else false := by
      show (if zfo ((zmp a b c d i - zmp a b c d 0) * y.toInt) _ _ = true then _ else false) = _
      rw [hD]
    rw [hfo, hzf]
    have nx := ih (i + 1) M (by omega) (by omega)
    by_cases b1 : max (D * y.toInt - kk * ((I s 6).toInt * x.toInt)) (kk * ((I s 6).toInt * x.toInt) - D * y.toInt) ≤ e.toInt * y.toInt
    · rw [if_pos b1, if_pos (c := decide _ = true) (decide_eq_true (Or.inl b1))]
      exact nx
    · rw [if_neg b1]
      by_cases b2 : e.toInt * y.toInt < (kk + 1) * ((I s 6).toInt * x.toInt) - D * y.toInt
      · rw [if_pos b2, if_neg (c := decide _ = true) (fun h => by have := of_decide_eq_true h; omega)]
        rfl
      · rw [if_neg b2, if_pos (c := decide _ = true) (decide_eq_true (Or.inr (by omega)))]
        exact nx
theorem zr_fm1 (X : ZX) (d0 m ce sl : Nat) (I : Nat → Nat → Int32) (L : Nat → Nat → Int64) (t u r q : Nat) (s many e x y : Int32) (a b c d : Int64) {N : Nat} (hN : N ≤ 10) (hm : many.toInt = N) (h0 : I 55 0 = Int32.ofInt 0) (s0 : 0 ≤ s.toInt) (s1 : s.toInt < 5) (k : Nat) : ∀ (i M : Nat), i + k = N →
    z_loop X z_cf z_ff (z_pu (z_run X z_cf z_ff (d0 + 4))) 236 (M + k + 3) 51 [(0, .ref 55), (1, .int s), (2, .int many), (3, .long a), (5, .long b), (7, .long c), (9, .long d), (11, .int e), (12, .int x), (13, .int y), (14, .int (Int32.ofInt 1)), (15, .int (Int32.ofNat i))] [] (118, z_sd m, ce, sl, I, L, z_rr t u r q (z_gg m) (z_sf m)) = if zand (zmv (zmp a b c d)) k i = true then z_loop X z_cf z_ff (z_pu (z_run X z_cf z_ff (d0 + 4))) 236 (M + 1) 157 [(2, .int many), (3, .long a), (5, .long b), (7, .long c), (9, .long d), (11, .int e), (13, .int y), (15, .long (((I 62 s.toNatClampNeg).toInt64) * x.toInt64)), (17, .int (Int32.ofInt 1)), (18, .int (Int32.ofInt 1))] [] (118, z_sd m, ce, sl, I, L, z_rr t u r q (z_gg m) (z_sf m)) else some (.inl (some (.int (Int32.ofInt 0))), (118, z_sd m, ce, sl, z_up I 55 0 (Int32.ofInt 2), L, z_rr t u r q (z_gg m) (z_sf m))) := by
  have hI0 : I 55 0 = 0 := h0
  have n1 : ¬ (Int32.ofInt 1 : Int32) = 0 := by decide
  have hin := y_in_t s0 (show s.toInt < (5 : Nat) by omega)
  induction k with
  | zero =>
    intro i M h1
    rw [show M + 0 + 3 = M + 1 + 2 by omega, zt_M_fits_51 X d0, if_pos (by rw [y_i_le, y_on (by omega), hm]; omega), if_pos hI0, if_neg n1, if_pos hI0, hin, z_gd_t]
    rfl
  | succ k ih =>
    intro i M h1
    obtain ⟨m1, m2, m3⟩ := y_mk_all a b c d (i := i) (by omega)
    have nx := ih (i + 1) M (by omega)
    have bad : z_loop X z_cf z_ff (z_pu (z_run X z_cf z_ff (d0 + 4))) 236 (M + k + 3) 51 [(0, .ref 55), (1, .int s), (2, .int many), (3, .long a), (5, .long b), (7, .long c), (9, .long d), (11, .int e), (12, .int x), (13, .int y), (14, .int (Int32.ofInt 0)), (15, .int (Int32.ofNat (i + 1)))] [] (118, z_sd m, ce, sl, I, L, z_rr t u r q (z_gg m) (z_sf m)) = some (.inl (some (.int (Int32.ofInt 0))), (118, z_sd m, ce, sl, z_up I 55 0 (Int32.ofInt 2), L, z_rr t u r q (z_gg m) (z_sf m))) := by
      have n0 : (Int32.ofInt 0 : Int32) = 0 := rfl
      rw [show M + k + 3 = M + k + 1 + 2 by omega, zt_M_fits_51 X d0]
      by_cases h3 : many ≤ Int32.ofNat (i + 1)
      · rw [if_pos h3, if_pos hI0, if_pos n0]
      · rw [if_neg h3, if_pos n0, if_pos hI0, if_pos n0]
    rw [show M + (k + 1) + 3 = M + k + 3 + 1 by omega, zb_M_fits_51, if_neg (by rw [y_i_le, y_on (by omega), hm]; omega), if_neg n1, z_ofa (by omega)]
    unfold zand
    by_cases b1 : Int32.ofInt 99999 < z_p_M_markAt (Int32.ofNat i) a b c d
    · have hv : ¬ zmv (zmp a b c d) i = true := fun h => by
        have := (of_decide_eq_true h).1
        rw [y_i_lt, y_oi (by omega) (by omega)] at b1
        simp only [zmp] at this
        omega
      rw [if_pos b1, if_neg hv, bad]
      rfl
    · rw [if_neg b1]
      rw [y_i_lt, y_oi (by omega) (by omega)] at b1
      by_cases b2 : i = 0
      · have hv : zmv (zmp a b c d) i = true := decide_eq_true ⟨by simp only [zmp]; omega, Or.inl b2⟩
        rw [if_pos (by rw [b2]; rfl), if_pos hv]
        exact nx
      · rw [if_neg (z_ofn0 (by omega) (by omega)), z_ofs (by omega) (by omega)]
        by_cases b3 : z_p_M_markAt (Int32.ofNat i) a b c d ≤ z_p_M_markAt (Int32.ofNat (i - 1)) a b c d
        · have hv : ¬ zmv (zmp a b c d) i = true := fun h => by
            have := (of_decide_eq_true h).2.resolve_left b2
            rw [y_i_le] at b3
            simp only [zmp] at this
            omega
          rw [if_pos b3, if_neg hv, bad]
          rfl
        · have hv : zmv (zmp a b c d) i = true := by
            rw [y_i_le] at b3
            refine decide_eq_true ⟨by simp only [zmp]; omega, Or.inr ?_⟩
            simp only [zmp]
            omega
          rw [if_neg b3, if_pos hv]
          exact nx
theorem zr_fm2 (X : ZX) (call : ZC) (n0 ce sl : Nat) (I : Nat → Nat → Int32) (L : Nat → Nat → Int64) (t u r q g : Nat) (st : Nat → Option Nat) (many e y : Int32) (a b c d R : Int64) {N : Nat} {rr : Int} (hN : N ≤ 10) (hm : many.toInt = N) (he : 0 ≤ e.toInt) (y0 : 1 ≤ y.toInt) (y1 : y.toInt ≤ 60000) (eR : R.toInt = rr) (r0 : 100 ≤ rr) (r1 : rr ≤ 240000000)
    (hp : ∀ j, 1 ≤ j → j < N → 1 ≤ zmp a b c d j - zmp a b c d 0 ∧ zmp a b c d j - zmp a b c d 0 ≤ 99999) (k : Nat) : ∀ (i M : Nat) (v : Int32), 1 ≤ i → i + k = N → (v = Int32.ofInt 0 ∨ v = Int32.ofInt 1) →
    z_loop X z_cf z_ff (z_pu call) 236 (M + k + 1) 157 [(2, .int many), (3, .long a), (5, .long b), (7, .long c), (9, .long d), (11, .int e), (13, .int y), (15, .long R), (17, .int v), (18, .int (Int32.ofNat i))] [] (118, n0, ce, sl, I, L, z_rr t u r q g st) = some (.inl (some (.int (if v = Int32.ofInt 1 ∧ zand (fun j => zfo ((zmp a b c d j - zmp a b c d 0) * y.toInt) rr (e.toInt * y.toInt)) k i = true then Int32.ofInt 1 else Int32.ofInt 0))), (118, n0, ce, sl, I, L, z_rr t u r q g st)) := by
  have n1 : ¬ (Int32.ofInt 1 : Int32) = 0 := by decide
  have n0' : (Int32.ofInt 0 : Int32) = 0 := rfl
  have n01 : ¬ (Int32.ofInt 0 : Int32) = Int32.ofInt 1 := by decide
  induction k with
  | zero =>
    intro i M v h0 h1 hv
    rw [zb_M_fits_157, if_pos (by rw [y_i_le, y_on (by omega), hm]; omega)]
    rcases hv with hv | hv
    · rw [hv, z_b1_0, if_neg (fun h => n01 h.1)]
    · rw [hv, z_b1_1, if_pos ⟨rfl, rfl⟩]
  | succ k ih =>
    intro i M v h0 h1 hv
    obtain ⟨m1, m2, m3⟩ := y_mk_all a b c d (i := i) (by omega)
    obtain ⟨_, m5, m6⟩ := y_mk_all a b c d (i := 0) (by omega)
    obtain ⟨p1, p2⟩ := hp i h0 (by omega)
    have hW1 : (z_p_M_markAt (Int32.ofNat i) a b c d - z_p_M_markAt (Int32.ofNat 0) a b c d).toInt = zmp a b c d i - zmp a b c d 0 := y_sb (by omega) (by omega)
    generalize hD : zmp a b c d i - zmp a b c d 0 = D at *
    have w0 : 0 ≤ D * y.toInt := Int.mul_nonneg (by omega) (by omega)
    have w1 : D * y.toInt ≤ 99999 * 60000 := Int.mul_le_mul p2 y1 (by omega) (by omega)
    have eh := y_hi e
    have f0 : 0 ≤ e.toInt * y.toInt := Int.mul_nonneg he (by omega)
    have f1 : e.toInt * y.toInt ≤ 2147483647 * 60000 := Int.mul_le_mul eh y1 (by omega) (by omega)
    have eW : ((z_p_M_markAt (Int32.ofNat i) a b c d - z_p_M_markAt (Int32.ofNat 0) a b c d).toInt64 * y.toInt64).toInt = D * y.toInt := by rw [y_mu8 (by rw [y_il, y_il, hW1]; omega) (by rw [y_il, y_il, hW1]; omega), y_il, y_il, hW1]
    have eF : (e.toInt64 * y.toInt64).toInt = e.toInt * y.toInt := by rw [y_mu8 (by rw [y_il, y_il]; omega) (by rw [y_il, y_il]; omega), y_il, y_il]
    obtain ⟨k1, k2, k3, k4, k5⟩ := zfk_f (W := D * y.toInt) (r := rr) w0 (by omega)
    have hzf : zfo (D * y.toInt) rr (e.toInt * y.toInt) = decide (max (D * y.toInt - zfk (D * y.toInt) rr * rr) (zfk (D * y.toInt) rr * rr - D * y.toInt) ≤ e.toInt * y.toInt ∨ (zfk (D * y.toInt) rr + 1) * rr - D * y.toInt ≤ e.toInt * y.toInt) := rfl
    have hfo : zand (fun j => zfo ((zmp a b c d j - zmp a b c d 0) * y.toInt) rr (e.toInt * y.toInt)) (k + 1) i = if zfo (D * y.toInt) rr (e.toInt * y.toInt) = true then zand (fun j => zfo ((zmp a b c d j - zmp a b c d 0) * y.toInt) rr (e.toInt * y.toInt)) k (i + 1) else false := by
      show (if zfo ((zmp a b c d i - zmp a b c d 0) * y.toInt) _ _ = true then _ else false) = _
      rw [hD]
    have nx0 := ih (i + 1) M (Int32.ofInt 0) (by omega) (by omega) (Or.inl rfl)
    have nx1 := ih (i + 1) M (Int32.ofInt 1) (by omega) (by omega) (Or.inr rfl)
    rw [if_neg (fun h => n01 h.1)] at nx0
    have hR0 : ¬ R = 0 := by rw [y_l_eq, y_l0]; omega
    rw [show M + (k + 1) + 1 = M + k + 1 + 1 by omega, zb_M_fits_157, if_neg (by rw [y_i_le, y_on (by omega), hm]; omega), if_neg hR0, if_neg hR0, z_ofa (by omega), show z_p_M_markAt (Int32.ofInt 0) a b c d = z_p_M_markAt (Int32.ofNat 0) a b c d from rfl]
    generalize hWd : (z_p_M_markAt (Int32.ofNat i) a b c d - z_p_M_markAt (Int32.ofNat 0) a b c d).toInt64 * y.toInt64 = W at *
    generalize hFd : e.toInt64 * y.toInt64 = F at *
    have eQ : (W / R).toInt = D * y.toInt / rr := by rw [y_dv8 (by omega) (by omega), eW, eR]
    have e1 : (Int64.ofInt 1).toInt = 1 := rfl
    have q0 : 0 ≤ D * y.toInt / rr := Int.ediv_nonneg w0 (by omega)
    have q1 := Int.ediv_mul_le (D * y.toInt) (b := rr) (by omega)
    rw [hfo]
    have key : ∀ K : Int64, K.toInt = zfk (D * y.toInt) rr → (if 0 ≤ lg_cmp (W - K * R) (Int64.ofInt 0) then (if v = 0 then z_loop X z_cf z_ff (z_pu call) 236 (M + k + 1) 157 [(2, .int many), (3, .long a), (5, .long b), (7, .long c), (9, .long d), (11, .int e), (13, .int y), (15, .long R), (17, .int (Int32.ofInt 0)), (18, .int (Int32.ofNat (i + 1)))] [] (118, n0, ce, sl, I, L, z_rr t u r q g st) else if 0 ≤ lg_cmp (W - K * R) ((K + Int64.ofInt 1) * R - W) then (if 0 < lg_cmp ((K + Int64.ofInt 1) * R - W) F then z_loop X z_cf z_ff (z_pu call) 236 (M + k + 1) 157 [(2, .int many), (3, .long a), (5, .long b), (7, .long c), (9, .long d), (11, .int e), (13, .int y), (15, .long R), (17, .int (Int32.ofInt 0)), (18, .int (Int32.ofNat (i + 1)))] [] (118, n0, ce, sl, I, L, z_rr t u r q g st) else z_loop X z_cf z_ff (z_pu call) 236 (M + k + 1) 157 [(2, .int many), (3, .long a), (5, .long b), (7, .long c), (9, .long d), (11, .int e), (13, .int y), (15, .long R), (17, .int (Int32.ofInt 1)), (18, .int (Int32.ofNat (i + 1)))] [] (118, n0, ce, sl, I, L, z_rr t u r q g st)) else (if 0 < lg_cmp (W - K * R) F then z_loop X z_cf z_ff (z_pu call) 236 (M + k + 1) 157 [(2, .int many), (3, .long a), (5, .long b), (7, .long c), (9, .long d), (11, .int e), (13, .int y), (15, .long R), (17, .int (Int32.ofInt 0)), (18, .int (Int32.ofNat (i + 1)))] [] (118, n0, ce, sl, I, L, z_rr t u r q g st) else z_loop X z_cf z_ff (z_pu call) 236 (M + k + 1) 157 [(2, .int many), (3, .long a), (5, .long b), (7, .long c), (9, .long d), (11, .int e), (13, .int y), (15, .long R), (17, .int (Int32.ofInt 1)), (18, .int (Int32.ofNat (i + 1)))] [] (118, n0, ce, sl, I, L, z_rr t u r q g st))) else (if v = 0 then z_loop X z_cf z_ff (z_pu call) 236 (M + k + 1) 157 [(2, .int many), (3, .long a), (5, .long b), (7, .long c), (9, .long d), (11, .int e), (13, .int y), (15, .long R), (17, .int (Int32.ofInt 0)), (18, .int (Int32.ofNat (i + 1)))] [] (118, n0, ce, sl, I, L, z_rr t u r q g st) else if 0 ≤ lg_cmp (-(W - K * R)) ((K + Int64.ofInt 1) * R - W) then (if 0 < lg_cmp ((K + Int64.ofInt 1) * R - W) F then z_loop X z_cf z_ff (z_pu call) 236 (M + k + 1) 157 [(2, .int many), (3, .long a), (5, .long b), (7, .long c), (9, .long d), (11, .int e), (13, .int y), (15, .long R), (17, .int (Int32.ofInt 0)), (18, .int (Int32.ofNat (i + 1)))] [] (118, n0, ce, sl, I, L, z_rr t u r q g st) else z_loop X z_cf z_ff (z_pu call) 236 (M + k + 1) 157 [(2, .int many), (3, .long a), (5, .long b), (7, .long c), (9, .long d), (11, .int e), (13, .int y), (15, .long R), (17, .int (Int32.ofInt 1)), (18, .int (Int32.ofNat (i + 1)))] [] (118, n0, ce, sl, I, L, z_rr t u r q g st)) else (if 0 < lg_cmp (-(W - K * R)) F then z_loop X z_cf z_ff (z_pu call) 236 (M + k + 1) 157 [(2, .int many), (3, .long a), (5, .long b), (7, .long c), (9, .long d), (11, .int e), (13, .int y), (15, .long R), (17, .int (Int32.ofInt 0)), (18, .int (Int32.ofNat (i + 1)))] [] (118, n0, ce, sl, I, L, z_rr t u r q g st) else z_loop X z_cf z_ff (z_pu call) 236 (M + k + 1) 157 [(2, .int many), (3, .long a), (5, .long b), (7, .long c), (9, .long d), (11, .int e), (13, .int y), (15, .long R), (17, .int (Int32.ofInt 1)), (18, .int (Int32.ofNat (i + 1)))] [] (118, n0, ce, sl, I, L, z_rr t u r q g st)))) = (some (.inl (some (.int (if v = Int32.ofInt 1 ∧ (if zfo (D * y.toInt) rr (e.toInt * y.toInt) = true then zand (fun j => zfo ((zmp a b c d j - zmp a b c d 0) * y.toInt) rr (e.toInt * y.toInt)) k (i + 1) else false) = true then Int32.ofInt 1 else Int32.ofInt 0))), (118, n0, ce, sl, I, L, z_rr t u r q g st)) : ZR) := by
      intro K eK
      rw [hzf]
      generalize zfk (D * y.toInt) rr = kk at *
      have kx : kk ≤ 99999 * 60000 := by
        have h7 : kk * 1 ≤ kk * rr := Int.mul_le_mul_of_nonneg_left (by omega) (by omega)
        rcases k3 with k3 | k3 <;> omega
      have eKR : (K * R).toInt = kk * rr := by
        rw [y_mu8 (by rw [eK, eR]; omega) (by rw [eK, eR]; omega), eK, eR]
      have eK1 : ((K + Int64.ofInt 1) * R).toInt = (kk + 1) * rr := by
        have e2 : (K + Int64.ofInt 1).toInt = kk + 1 := by rw [y_ad8 (by omega) (by omega), eK, e1]
        rw [y_mu8 (by rw [e2, eR]; omega) (by rw [e2, eR]; omega), e2, eR]
      have eO : (W - K * R).toInt = D * y.toInt - kk * rr := by rw [y_sb8 (by omega) (by omega), eW, eKR]
      have eN : (-(W - K * R)).toInt = kk * rr - D * y.toInt := by
        rw [Int64.toInt_neg, eO, y_bm8 _ (by omega) (by omega)]
        omega
      have eM : ((K + Int64.ofInt 1) * R - W).toInt = (kk + 1) * rr - D * y.toInt := by rw [y_sb8 (by omega) (by omega), eW, eK1]
      have e00 : (Int64.ofInt 0).toInt = 0 := rfl
      simp only [z_lg_ge, z_lg_gt, eO, eN, eM, eF, e00]
      rcases hv with hv | hv
      · subst hv
        rw [if_pos n0', if_pos n0', ite_self, nx0, if_neg (fun h => n01 h.1)]
      · subst hv
        rw [if_neg n1, if_neg n1, nx0, nx1]
        by_cases b1 : max (D * y.toInt - kk * rr) (kk * rr - D * y.toInt) ≤ e.toInt * y.toInt ∨ (kk + 1) * rr - D * y.toInt ≤ e.toInt * y.toInt
        · rw [if_pos (c := decide _ = true) (decide_eq_true b1)]
          by_cases c1 : 0 ≤ D * y.toInt - kk * rr
          · rw [if_pos c1]
            by_cases c2 : (kk + 1) * rr - D * y.toInt ≤ D * y.toInt - kk * rr
            · rw [if_pos c2, if_neg (by omega)]
            · rw [if_neg c2, if_neg (by omega)]
          · rw [if_neg c1]
            by_cases c2 : (kk + 1) * rr - D * y.toInt ≤ kk * rr - D * y.toInt
            · rw [if_pos c2, if_neg (by omega)]
            · rw [if_neg c2, if_neg (by omega)]
        · rw [if_neg (c := decide _ = true) (fun h => b1 (of_decide_eq_true h)), if_neg (show ¬ ((Int32.ofInt 1 : Int32) = Int32.ofInt 1 ∧ false = true) from fun h => absurd h.2 (by decide))]
          by_cases c1 : 0 ≤ D * y.toInt - kk * rr
          · rw [if_pos c1]
            by_cases c2 : (kk + 1) * rr - D * y.toInt ≤ D * y.toInt - kk * rr
            · rw [if_pos c2, if_pos (by omega)]
            · rw [if_neg c2, if_pos (by omega)]
          · rw [if_neg c1]
            by_cases c2 : (kk + 1) * rr - D * y.toInt ≤ kk * rr - D * y.toInt
            · rw [if_pos c2, if_pos (by omega)]
            · rw [if_neg c2, if_pos (by omega)]
    by_cases b0 : 0 ≤ lg_cmp (W / R) (Int64.ofInt 1)
    · rw [if_pos b0]
      rw [z_lg_ge, eQ, e1] at b0
      exact key (W / R) (by rw [eQ]; unfold zfk; omega)
    · rw [if_neg b0]
      rw [z_lg_ge, eQ, e1] at b0
      exact key (Int64.ofInt 1) (by unfold zfk; omega)
