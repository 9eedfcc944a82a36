/-! ROW, 9: what is left to come, in the model -/
def zFAR : Int := 1000000000
def zCR (n S c : Nat) (rs : zPl2) : Prop := zwok n rs S ∧ zws rs S = 2 ^ n - 1 ∧ zwc rs c < 9
def zTBp (I : Nat → Nat → Int32) (n S l c : Nat) (Q : zPl2 → Prop) (cb hb : Int) : Prop := (∀ rs, zCR n S c rs → Q rs → cb < zcoin I n rs S l c ∨ cb = zcoin I n rs S l c ∧ (c : Int) + hb ≤ (zwc rs c : Nat)) ∧ ((cb = zFAR ∧ hb = 0) ∨ ∃ rs, zCR n S c rs ∧ Q rs ∧ zcoin I n rs S l c = cb ∧ ((zwc rs c : Nat) : Int) = c + hb)
def zTB (I : Nat → Nat → Int32) (n S l c : Nat) (cb hb : Int) : Prop := zTBp I n S l c (fun _ => True) cb hb
theorem zTBp_Q {I : Nat → Nat → Int32} {n S l c : Nat} {Q Q' : zPl2 → Prop} {cb hb : Int} (h : zTBp I n S l c Q cb hb) (e : ∀ rs, zCR n S c rs → (Q rs ↔ Q' rs)) : zTBp I n S l c Q' cb hb := by
  refine ⟨fun rs h1 h2 => h.1 rs h1 ((e rs h1).mpr h2), ?_⟩
  rcases h.2 with x | ⟨rs, x1, x2, x3⟩
  · exact Or.inl x
  · exact Or.inr ⟨rs, x1, (e rs x1).mp x2, x3⟩
theorem zcoin_r {I : Nat → Nat → Int32} {n : Nat} (hO : zOr I n) (rs : zPl2) : ∀ S l c, S < 2 ^ n → l < n → zwok n rs S → zwc rs c < 9 → 0 ≤ zcoin I n rs S l c ∧ zcoin I n rs S l c ≤ 2719 * (rs.length : Int) := by
  have hn := hO.1
  induction rs with
  | nil => intro S l c _ _ _ _; exact ⟨Int.le_refl _, Int.le_refl _⟩
  | cons x rs ih =>
    intro S l c h1 h2 h3 h4
    obtain ⟨k1, k2, k3, k4⟩ := h3
    have lt := zbits_lt n hn x.1 k1 S h1 k2
    have hge := zwc_ge rs (c + x.2)
    have h4' : zwc rs (c + x.2) < 9 := h4
    have a := ih (S + 2 ^ x.1) x.1 (c + x.2) lt k1 k4 h4'
    have b := zoc_r (S := S) (f := x.2) hO h2 k1 (c := c) (by omega)
    show 0 ≤ zoc I n S l x.1 x.2 c + zcoin I n rs (S + 2 ^ x.1) x.1 (c + x.2) ∧ zoc I n S l x.1 x.2 c + zcoin I n rs (S + 2 ^ x.1) x.1 (c + x.2) ≤ 2719 * ((rs.length + 1 : Nat) : Int)
    omega
theorem zCR_len {n S c : Nat} (hn : n ≤ 9) (hS : S < 2 ^ n) {rs : zPl2} (h : zCR n S c rs) : rs.length ≤ 9 := by
  obtain ⟨a1, a2, a3⟩ := zwok_is hn rs S hS h.1
  have := zbits_hi n hn _ a1
  omega
theorem zTB_step {I : Nat → Nat → Int32} {n S l c k f : Nat} (hO : zOr I n) (hS : S < 2 ^ n) (hl : l < n) (hk : k < n) (hb0 : zbt2 S k = 0) (hf : f < 2) (hcf : c + f < 9) {Q : zPl2 → Prop} {cb hb cb' hb' : Int} (h : zTBp I n S l c Q cb hb) (r1 : cb ≤ zFAR) (r3 : 0 ≤ hb) (g : zTB I n (S + 2 ^ k) k (c + f) cb' hb') (s0 : 0 ≤ cb') (s1 : cb' ≤ zFAR) (s3 : 0 ≤ hb') {cb2 hb2 : Int} (e : (zoc I n S l k f c + cb' < cb ∨ zoc I n S l k f c + cb' = cb ∧ (f : Int) + hb' < hb) ∧ cb2 = zoc I n S l k f c + cb' ∧ hb2 = f + hb' ∨ ¬ (zoc I n S l k f c + cb' < cb ∨ zoc I n S l k f c + cb' = cb ∧ (f : Int) + hb' < hb) ∧ cb2 = cb ∧ hb2 = hb) : zTBp I n S l c (fun rs => Q rs ∨ ∃ r, rs = (k, f) :: r) cb2 hb2 := by
  have hF : zFAR = 1000000000 := rfl
  have hn := hO.1
  have lt := zbits_lt n hn k hk S hS hb0
  have zr := zoc_r (S := S) (f := f) hO hl hk (c := c) (by omega)
  -- what comes of the new one
  have low : ∀ r, zCR n S c ((k, f) :: r) → zoc I n S l k f c + cb' < zcoin I n ((k, f) :: r) S l c ∨ zoc I n S l k f c + cb' = zcoin I n ((k, f) :: r) S l c ∧ (c : Int) + (f + hb') ≤ (zwc ((k, f) :: r) c : Nat) := by
    intro r hr
    obtain ⟨⟨y1, y2, y3, y4⟩, y5, y6⟩ := hr
    have ec : zcoin I n ((k, f) :: r) S l c = zoc I n S l k f c + zcoin I n r (S + 2 ^ k) k (c + f) := rfl
    have ew : zwc ((k, f) :: r) c = zwc r (c + f) := rfl
    rw [ec, ew]
    rcases g.1 r ⟨y4, y5, y6⟩ trivial with x | ⟨x1, x2⟩
    · exact Or.inl (by omega)
    · exact Or.inr ⟨by omega, by omega⟩
  have att : zoc I n S l k f c + cb' < zFAR → ∃ r, zCR n S c ((k, f) :: r) ∧ zcoin I n ((k, f) :: r) S l c = zoc I n S l k f c + cb' ∧ ((zwc ((k, f) :: r) c : Nat) : Int) = c + (f + hb') := by
    intro hlt
    rcases g.2 with x | ⟨r, x1, x2, x3, x4⟩
    · omega
    · refine ⟨r, ⟨⟨hk, hb0, hf, x1.1⟩, x1.2.1, x1.2.2⟩, ?_, ?_⟩
      · show zoc I n S l k f c + zcoin I n r (S + 2 ^ k) k (c + f) = _
        omega
      · show ((zwc r (c + f) : Nat) : Int) = _
        omega
  have farm : cb' = zFAR → ∀ r, ¬ zCR n S c ((k, f) :: r) := by
    intro ef r hr
    obtain ⟨⟨y1, y2, y3, y4⟩, y5, y6⟩ := hr
    have rr := zcoin_r hO r (S + 2 ^ k) k (c + f) lt hk y4 y6
    have ln := zCR_len (c := c + f) hn lt ⟨y4, y5, y6⟩
    rcases g.1 r ⟨y4, y5, y6⟩ trivial with x | ⟨x1, x2⟩
    · omega
    · omega
  have hb'0 : cb' = zFAR ∨ zoc I n S l k f c + cb' < zFAR := by
    rcases g.2 with x | ⟨r, x1, x2, x3, x4⟩
    · exact Or.inl x.1
    · have rr := zcoin_r hO r (S + 2 ^ k) k (c + f) lt hk x1.1 x1.2.2
      have ln := zCR_len hn lt x1
      exact Or.inr (by omega)
  rcases e with ⟨e1, e2, e3⟩ | ⟨e1, e2, e3⟩
  · refine ⟨fun rs hr hq => ?_, ?_⟩
    · rw [e2, e3]
      rcases hq with hq | ⟨r, hq⟩
      · rcases h.1 rs hr hq with x | ⟨x1, x2⟩
        · exact Or.inl (by omega)
        · rcases e1 with e1 | ⟨e1, e4⟩
          · exact Or.inl (by omega)
          · exact Or.inr ⟨by omega, by omega⟩
      · subst hq
        exact low r hr
    · right
      rcases hb'0 with x | x
      · rcases g.2 with ⟨y1, y2⟩ | ⟨r, x1, x2, x3, x4⟩
        · rcases h.2 with ⟨w1, w2⟩ | ⟨rs, w1, w2, w3, w4⟩
          · omega
          · have rr := zcoin_r hO rs S l c hS hl w1.1 w1.2.2
            have ln := zCR_len hn hS w1
            omega
        · have rr := zcoin_r hO r (S + 2 ^ k) k (c + f) lt hk x1.1 x1.2.2
          have ln := zCR_len hn lt x1
          omega
      · obtain ⟨r, a1, a2, a3⟩ := att x
        exact ⟨_, a1, Or.inr ⟨r, rfl⟩, by rw [e2]; exact a2, by rw [e3]; exact a3⟩
  · refine ⟨fun rs hr hq => ?_, ?_⟩
    · rw [e2, e3]
      rcases hq with hq | ⟨r, hq⟩
      · exact h.1 rs hr hq
      · subst hq
        rcases low r hr with x | ⟨x1, x2⟩
        · by_cases cc : zoc I n S l k f c + cb' < cb
          · exact absurd (Or.inl cc) e1
          · exact Or.inl (by omega)
        · by_cases cc : zoc I n S l k f c + cb' < cb
          · exact absurd (Or.inl cc) e1
          · by_cases cd : zoc I n S l k f c + cb' = cb
            · by_cases ce : (f : Int) + hb' < hb
              · exact absurd (Or.inr ⟨cd, ce⟩) e1
              · exact Or.inr ⟨by omega, by omega⟩
            · exact Or.inl (by omega)
    · rw [e2, e3]
      rcases h.2 with x | ⟨rs, x1, x2, x3⟩
      · exact Or.inl x
      · exact Or.inr ⟨rs, x1, Or.inl x2, x3⟩
/-- the first step is before (k, f) -/
def zQb (k f : Nat) : zPl2 → Prop
  | [] => True
  | x :: _ => x.1 < k ∨ x.1 = k ∧ x.2 < f
def zTE (I J : Nat → Nat → Int32) (n S l c : Nat) : Prop := zTB I n S l c (J 106 (81 * S + 9 * l + c)).toInt (J 107 (81 * S + 9 * l + c)).toInt ∧ 0 ≤ (J 106 (81 * S + 9 * l + c)).toInt ∧ (J 106 (81 * S + 9 * l + c)).toInt ≤ zFAR ∧ 0 ≤ (J 107 (81 * S + 9 * l + c)).toInt ∧ (J 107 (81 * S + 9 * l + c)).toInt ≤ 9
theorem z_mat {x y z : Int32} {S l c : Nat} (h1 : x.toInt = S) (h2 : y.toInt = l) (h3 : z.toInt = c) (hS : S < 512) (hl : l < 9) (hc : c < 9) : (z_p_M_at x y z).toInt = ((81 * S + 9 * l + c : Nat) : Int) := by
  have a1 : (Int32.ofInt 81).toInt = 81 := rfl
  have a2 : (Int32.ofInt 9).toInt = 9 := rfl
  unfold z_p_M_at
  have e1 : (Int32.ofInt 81 * x).toInt = 81 * S := by rw [y_mu (by rw [a1, h1]; omega) (by rw [a1, h1]; omega), a1, h1]
  have e2 : (Int32.ofInt 9 * y).toInt = 9 * l := by rw [y_mu (by rw [a2, h2]; omega) (by rw [a2, h2]; omega), a2, h2]
  have e3 : (Int32.ofInt 81 * x + Int32.ofInt 9 * y).toInt = 81 * S + 9 * l := by rw [y_ad (by omega) (by omega), e1, e2]
  rw [y_ad (by omega) (by omega), e3, h3]
  omega
theorem zTB_hb {I : Nat → Nat → Int32} {n S l c : Nat} (hn : n ≤ 9) (hS : S < 2 ^ n) {Q : zPl2 → Prop} {cb hb : Int} (h : zTBp I n S l c Q cb hb) : 0 ≤ hb ∧ hb ≤ 9 := by
  rcases h.2 with ⟨x1, x2⟩ | ⟨rs, x1, x2, x3, x4⟩
  · omega
  · have := zwc_ge rs c
    have ln := zCR_len hn hS x1
    have := (zwok_is hn rs S hS x1.1).2.2 c
    omega
theorem zTB_cb {I : Nat → Nat → Int32} {n S l c : Nat} (hO : zOr I n) (hS : S < 2 ^ n) (hl : l < n) {Q : zPl2 → Prop} {cb hb : Int} (h : zTBp I n S l c Q cb hb) : cb = zFAR ∨ 0 ≤ cb ∧ cb ≤ 24471 := by
  rcases h.2 with ⟨x1, x2⟩ | ⟨rs, x1, x2, x3, x4⟩
  · exact Or.inl x1
  · have rr := zcoin_r hO rs S l c hS hl x1.1 x1.2.2
    have ln := zCR_len hO.1 hS x1
    exact Or.inr (by omega)
theorem zr_behind (X : ZX) (d n0 ce sl : Nat) (I : Nat → Nat → Int32) (L : Nat → Nat → Int64) (t u r q g : Nat) (st : Nat → Option Nat) {n S l c : Nat} (hO : zOr I n) (hM : zOM I n) (hS : S < 2 ^ n) (hl : l < n) (hc : c < 9) (x1 x2 x3 : Int32) (h1 : x1.toInt = S) (h2 : x2.toInt = l) (h3 : x3.toInt = c) (J : Nat → Nat → Int32) (hJ : ∀ x, x ≠ 106 → x ≠ 107 → J x = I x) (hch : ∀ k f, k < n → zbt2 S k = 0 → f < 2 → c + f < 9 → zTE I J n (S + 2 ^ k) k (c + f)) : ∃ K : Nat → Nat → Int32, (∀ x, x ≠ 106 → x ≠ 107 → K x = I x) ∧ (∀ y, y ≠ 81 * S + 9 * l + c → K 106 y = J 106 y ∧ K 107 y = J 107 y) ∧ zTE I K n S l c ∧
    z_pu (z_run X z_cf z_ff (d + 4)) 241 [.ref 55, .int x1, .int x2, .int x3] (118, n0, ce, sl, J, L, z_rr t u r q g st) = some (.inl none, (118, n0, ce, sl, K, L, z_rr t u r q g st)) := by
  have hF : zFAR = 1000000000 := rfl
  have hn9 := hO.1
  have p5 := zp2_512 hn9
  have e2 : (Int32.ofInt 2).toInt = 2 := rfl
  have e9 : (Int32.ofInt 9).toInt = 9 := rfl
  have eF : (Int32.ofInt 1000000000).toInt = 1000000000 := rfl
  have hx1 : x1 = Int32.ofNat S := y_nat h1
  have hOJ : ∀ K : Nat → Nat → Int32, (∀ x, x ≠ 106 → x ≠ 107 → K x = I x) → zOr K n ∧ zOM K n ∧ (K 55 76).toInt = n ∧ (∀ S l k f c, zoc K n S l k f c = zoc I n S l k f c) := by
    intro K hK
    have k42 := hK 42 (by omega) (by omega)
    have k43 := hK 43 (by omega) (by omega)
    have k44 := hK 44 (by omega) (by omega)
    have k45 := hK 45 (by omega) (by omega)
    refine ⟨⟨hn9, ?_⟩, ?_, ?_, ?_⟩
    · rw [k42, k43, k44, k45]
      exact hO.2
    · unfold zOM at *
      rw [hK 100 (by omega) (by omega), hK 101 (by omega) (by omega), hK 102 (by omega) (by omega), hK 103 (by omega) (by omega), hK 55 (by omega) (by omega), k42, k43, k44, k45]
      exact hM
    · rw [hK 55 (by omega) (by omega), hM.2.2.2.2, y_on (by omega)]
    · intro S l k f c
      have eT : ∀ m, zoT K S m = zoT I S m := by
        intro m
        induction m with
        | zero => rfl
        | succ m ih =>
          show zoT K S m + (zbt2 S m : Int) * (K 44 m).toInt = zoT I S m + (zbt2 S m : Int) * (I 44 m).toInt
          rw [ih, k44]
      unfold zoc zolate zobes
      rw [eT, k42, k43, k44, k45]
  have ha := z_mat h1 h2 h3 (by omega) (by omega) hc
  obtain ⟨a, hae⟩ : ∃ a, a = z_p_M_at x1 x2 x3 := ⟨_, rfl⟩
  rw [← hae] at ha
  have han : a.toNatClampNeg = 81 * S + 9 * l + c := by rw [y_tn, ha]; rfl
  have hina : z_in a 41472 = true := y_in_t (by omega) (by omega)
  -- the changes for one order
  have lpf : ∀ i, ∀ (k f : Nat) (x5 x6 : Int32) (K : Nat → Nat → Int32), k < n → zbt2 S k = 0 → f + i = 2 → x5.toInt = k → x6.toInt = f → (∀ x, x ≠ 106 → x ≠ 107 → K x = I x) → (∀ y, y ≠ 81 * S + 9 * l + c → K 106 y = J 106 y ∧ K 107 y = J 107 y) → zTBp I n S l c (zQb k f) (K 106 (81 * S + 9 * l + c)).toInt (K 107 (81 * S + 9 * l + c)).toInt → ∃ K' : Nat → Nat → Int32, (∀ x, x ≠ 106 → x ≠ 107 → K' x = I x) ∧ (∀ y, y ≠ 81 * S + 9 * l + c → K' 106 y = J 106 y ∧ K' 107 y = J 107 y) ∧ zTBp I n S l c (zQb (k + 1) 0) (K' 106 (81 * S + 9 * l + c)).toInt (K' 107 (81 * S + 9 * l + c)).toInt ∧
      ∀ M, ∃ M', M ≤ M' ∧ z_loop X z_cf z_ff (z_pu (z_run X z_cf z_ff (d + 3))) 241 (M + 2 * i + 1) 70 [(0, .ref 55), (1, .int x1), (2, .int x2), (3, .int x3), (4, .int a), (5, .int x5), (6, .int x6)] [] (118, n0, ce, sl, K, L, z_rr t u r q g st) = z_loop X z_cf z_ff (z_pu (z_run X z_cf z_ff (d + 3))) 241 M' 45 [(0, .ref 55), (1, .int x1), (2, .int x2), (3, .int x3), (4, .int a), (5, .int (x5 + Int32.ofInt 1))] [] (118, n0, ce, sl, K', L, z_rr t u r q g st) := by
    intro i
    induction i with
    | zero =>
      intro k f x5 x6 K hk hb a1 a2 a3 a4 a5 a6
      have ef : f = 2 := by omega
      subst ef
      refine ⟨K, a4, a5, zTBp_Q a6 (fun rs hr => ?_), fun M => ⟨M, Nat.le_refl _, ?_⟩⟩
      · cases rs with
        | nil => exact Iff.rfl
        | cons x rs =>
          have := hr.1.2.2.1
          show (x.1 < k ∨ x.1 = k ∧ x.2 < 2) ↔ (x.1 < k + 1 ∨ x.1 = k + 1 ∧ x.2 < 0)
          omega
      · rw [show M + 2 * 0 + 1 = M + 1 by omega, zb_M_behind_70, if_pos (by rw [y_i_le, e2]; omega)]
    | succ i ih =>
      intro k f x5 x6 K hk hb a1 a2 a3 a4 a5 a6
      obtain ⟨o1, o2, o3, o4⟩ := hOJ K a4
      have e36 : (x3 + x6).toInt = ((c + f : Nat) : Int) := by rw [y_ad (by omega) (by omega)]; omega
      by_cases ccf : 9 ≤ c + f
      · refine ⟨K, a4, a5, zTBp_Q a6 (fun rs hr => ?_), fun M => ⟨M + 2 * (i + 1), by omega, ?_⟩⟩
        · cases rs with
          | nil => exact Iff.rfl
          | cons x rs =>
            have h1 := hr.1.2.2.1
            have h2 := zwc_ge rs (c + x.2)
            have h3 : zwc rs (c + x.2) < 9 := hr.2.2
            show (x.1 < k ∨ x.1 = k ∧ x.2 < f) ↔ (x.1 < k + 1 ∨ x.1 = k + 1 ∧ x.2 < 0)
            omega
        · rw [zb_M_behind_70, if_neg (by rw [y_i_le, e2]; omega), if_pos (by rw [y_i_le, e9]; omega)]
      · have hlt := zbits_lt n hn9 k hk S hS hb
        have hx5 : x5 = Int32.ofNat k := y_nat a2
        have hor := zbits_or k (by omega) S (by omega) hb
        have horx : (x1 ||| (Int32.ofInt 1 <<< (x5 &&& 31))).toInt = ((S + 2 ^ k : Nat) : Int) := by rw [hx1, hx5, hor.1, y_on (by omega)]
        have hbx := z_mat horx a2 e36 hor.2 (by omega) (by omega)
        obtain ⟨b, hbe⟩ : ∃ b, b = z_p_M_at (x1 ||| (Int32.ofInt 1 <<< (x5 &&& 31))) x5 (x3 + x6) := ⟨_, rfl⟩
        rw [← hbe] at hbx
        have hbn : b.toNatClampNeg = 81 * (S + 2 ^ k) + 9 * k + (c + f) := by rw [y_tn, hbx]; rfl
        have hinb : z_in b 41472 = true := y_in_t (by omega) (by omega)
        have hp : 0 < 2 ^ k := Nat.pow_pos (by omega)
        have hne : 81 * (S + 2 ^ k) + 9 * k + (c + f) ≠ 81 * S + 9 * l + c := by omega
        obtain ⟨t1, t2, t3, t4, t5⟩ := hch k f hk hb (by omega) (by omega)
        obtain ⟨b6, b7⟩ := a5 _ hne
        rw [← b6] at t1 t2 t3
        rw [← b7] at t1 t4 t5
        obtain ⟨y, y1, y2⟩ := zr_coinOf X d n0 ce sl K L t u r q g st (f := f) (c := c) o1 o2 (show S < 512 by omega) hk (by omega) (by omega) x1 x2 x5 x6 x3 h1 a2 a3 h3 (some l) (Or.inr ⟨l, rfl, hl, h2⟩)
        have y1' : y.toInt = zoc I n S l k f c := by
          rw [← o4]
          exact y1
        have zr := zoc_r (S := S) (f := f) hO hl hk (c := c) (by omega)
        have hcb := zTB_cb hO hS hl a6
        have hhb := zTB_hb hn9 hS a6
        have es : (y + K 106 (81 * (S + 2 ^ k) + 9 * k + (c + f))).toInt = zoc I n S l k f c + (K 106 (81 * (S + 2 ^ k) + 9 * k + (c + f))).toInt := by rw [y_ad (by omega) (by omega), y1']
        have em : (x6 + K 107 (81 * (S + 2 ^ k) + 9 * k + (c + f))).toInt = (f : Int) + (K 107 (81 * (S + 2 ^ k) + 9 * k + (c + f))).toInt := by rw [y_ad (by omega) (by omega), a3]
        have stp := fun cb2 hb2 => zTB_step (cb2 := cb2) (hb2 := hb2) hO hS hl hk hb (show f < 2 by omega) (show c + f < 9 by omega) a6 (by omega) hhb.1 t1 t2 t3 t4
        have hQ : ∀ rs, zCR n S c rs → ((zQb k f rs ∨ ∃ r, rs = (k, f) :: r) ↔ zQb k (f + 1) rs) := by
          intro rs hr
          cases rs with
          | nil => exact ⟨fun _ => trivial, fun _ => Or.inl trivial⟩
          | cons x rs =>
            constructor
            · intro h
              rcases h with h | ⟨r, h⟩
              · have h' : x.1 < k ∨ x.1 = k ∧ x.2 < f := h
                show x.1 < k ∨ x.1 = k ∧ x.2 < f + 1
                omega
              · injection h with h1 h2
                subst h1
                exact Or.inr ⟨rfl, Nat.lt_succ_self _⟩
            · intro h
              have h' : x.1 < k ∨ x.1 = k ∧ x.2 < f + 1 := h
              by_cases e : x.1 = k ∧ x.2 = f
              · exact Or.inr ⟨rs, by rw [← e.1, ← e.2]⟩
              · left
                show x.1 < k ∨ x.1 = k ∧ x.2 < f
                omega
        have a3' : (x6 + Int32.ofInt 1).toInt = ((f + 1 : Nat) : Int) := by rw [y_adl (by omega) (by omega) (by omega) (by omega)]; omega
        have pre : ∀ M, z_loop X z_cf z_ff (z_pu (z_run X z_cf z_ff (d + 3))) 241 (M + 2) 70 [(0, .ref 55), (1, .int x1), (2, .int x2), (3, .int x3), (4, .int a), (5, .int x5), (6, .int x6)] [] (118, n0, ce, sl, K, L, z_rr t u r q g st) = z_loop X z_cf z_ff (z_pu (z_run X z_cf z_ff (d + 3))) 241 (M + 1) 113 [(0, .ref 55), (1, .int x1), (2, .int x2), (3, .int x3), (4, .int a), (5, .int x5), (6, .int x6), (7, .int b)] [.int y] (118, n0, ce, sl, K, L, z_rr t u r q g st) := by
          intro M
          rw [show M + 2 = (M + 1) + 1 by omega, zb_M_behind_70, if_neg (by rw [y_i_le, e2]; omega), if_neg (by rw [y_i_le, e9]; omega), y2, z_bi_v, ← hbe]
        -- it is better, or not
        by_cases cbt : zoc I n S l k f c + (K 106 (81 * (S + 2 ^ k) + 9 * k + (c + f))).toInt < (K 106 (81 * S + 9 * l + c)).toInt ∨ zoc I n S l k f c + (K 106 (81 * (S + 2 ^ k) + 9 * k + (c + f))).toInt = (K 106 (81 * S + 9 * l + c)).toInt ∧ (f : Int) + (K 107 (81 * (S + 2 ^ k) + 9 * k + (c + f))).toInt < (K 107 (81 * S + 9 * l + c)).toInt
        · obtain ⟨K', k1, k2, k3, k4⟩ := ih k (f + 1) x5 (x6 + Int32.ofInt 1) (z_up (z_up K 106 (81 * S + 9 * l + c) (y + K 106 (81 * (S + 2 ^ k) + 9 * k + (c + f)))) 107 (81 * S + 9 * l + c) (x6 + K 107 (81 * (S + 2 ^ k) + 9 * k + (c + f)))) hk hb (by omega) a2 a3'
            (fun x h1 h2 => by rw [z_up_r _ _ _ _ _ h2, z_up_r _ _ _ _ _ h1, a4 x h1 h2])
            (fun y hy => by rw [z_up_r _ _ _ _ _ (show (106 : Nat) ≠ 107 by omega), z_up_j _ _ _ _ _ hy, z_up_j _ _ _ _ _ hy, z_up_r _ _ _ _ _ (show (107 : Nat) ≠ 106 by omega)]; exact a5 y hy)
            (by
              rw [z_up_r _ _ _ _ _ (show (106 : Nat) ≠ 107 by omega), z_up_s, z_up_s, es, em]
              exact zTBp_Q (stp _ _ (Or.inl ⟨cbt, rfl, rfl⟩)) hQ)
          refine ⟨K', k1, k2, k3, fun M => ?_⟩
          obtain ⟨M', q1, q2⟩ := k4 M
          refine ⟨M', q1, ?_⟩
          rw [show M + 2 * (i + 1) + 1 = (M + 2 * i + 1) + 2 by omega, pre, zb_M_behind_113, hinb, z_gd_t, z_gd_t, hina, z_gd_t, hbn, han]
          rcases cbt with cbt | ⟨cb1, cb2⟩
          · rw [if_neg (by rw [y_i_lt]; omega), z_gd_t, if_neg (by rw [y_i_eq]; omega), z_gd_t, z_gd_t]
            exact q2
          · rw [if_neg (by rw [y_i_lt]; omega), z_gd_t, if_pos (by rw [y_i_eq]; omega), z_gd_t, if_pos (by rw [y_i_lt]; omega), z_gd_t, z_gd_t]
            exact q2
        · obtain ⟨K', k1, k2, k3, k4⟩ := ih k (f + 1) x5 (x6 + Int32.ofInt 1) K hk hb (by omega) a2 a3' a4 a5 (zTBp_Q (stp _ _ (Or.inr ⟨cbt, rfl, rfl⟩)) hQ)
          refine ⟨K', k1, k2, k3, fun M => ?_⟩
          obtain ⟨M', q1, q2⟩ := k4 M
          refine ⟨M', q1, ?_⟩
          rw [show M + 2 * (i + 1) + 1 = (M + 2 * i + 1) + 2 by omega, pre, zb_M_behind_113, hinb, z_gd_t, z_gd_t, hina, z_gd_t, hbn, han]
          by_cases cg : (K 106 (81 * S + 9 * l + c)).toInt < zoc I n S l k f c + (K 106 (81 * (S + 2 ^ k) + 9 * k + (c + f))).toInt
          · rw [if_pos (by rw [y_i_lt]; omega)]
            exact q2
          · rw [if_neg (by rw [y_i_lt]; omega), z_gd_t, if_pos (by rw [y_i_eq]; omega), z_gd_t, if_neg (by rw [y_i_lt]; omega)]
            exact q2
  -- every order
  have lpk : ∀ i, ∀ (k : Nat) (x5 : Int32) (K : Nat → Nat → Int32), k + i = n → x5.toInt = k → (∀ x, x ≠ 106 → x ≠ 107 → K x = I x) → (∀ y, y ≠ 81 * S + 9 * l + c → K 106 y = J 106 y ∧ K 107 y = J 107 y) → zTBp I n S l c (zQb k 0) (K 106 (81 * S + 9 * l + c)).toInt (K 107 (81 * S + 9 * l + c)).toInt → ∃ K' : Nat → Nat → Int32, (∀ x, x ≠ 106 → x ≠ 107 → K' x = I x) ∧ (∀ y, y ≠ 81 * S + 9 * l + c → K' 106 y = J 106 y ∧ K' 107 y = J 107 y) ∧ zTBp I n S l c (zQb n 0) (K' 106 (81 * S + 9 * l + c)).toInt (K' 107 (81 * S + 9 * l + c)).toInt ∧
      ∀ M, z_loop X z_cf z_ff (z_pu (z_run X z_cf z_ff (d + 3))) 241 (M + 6 * i + 1) 45 [(0, .ref 55), (1, .int x1), (2, .int x2), (3, .int x3), (4, .int a), (5, .int x5)] [] (118, n0, ce, sl, K, L, z_rr t u r q g st) = some (.inl none, (118, n0, ce, sl, K', L, z_rr t u r q g st)) := by
    intro i
    induction i with
    | zero =>
      intro k x5 K a1 a2 a4 a5 a6
      have e : k = n := by omega
      subst e
      refine ⟨K, a4, a5, a6, fun M => ?_⟩
      rw [show M + 6 * 0 + 1 = M + 1 by omega, zb_M_behind_45, if_pos (by rw [y_i_le, (hOJ K a4).2.2.1]; omega)]
    | succ i ih =>
      intro k x5 K a1 a2 a4 a5 a6
      have hk : k < n := by omega
      have hx5 : x5 = Int32.ofNat k := y_nat a2
      have a2' : (x5 + Int32.ofInt 1).toInt = ((k + 1 : Nat) : Int) := by rw [y_adl (by omega) (by omega) (by omega) (by omega)]; omega
      have hbit := zbits_shr k (by omega) S (by omega)
      rw [← hx1, ← hx5, decide_eq_decide] at hbit
      have hb1 := zbt2_le S k
      have n45 : ¬ K 55 76 ≤ x5 := by rw [y_i_le, (hOJ K a4).2.2.1]; omega
      by_cases cb : zbt2 S k = 1
      · obtain ⟨K', k1, k2, k3, k4⟩ := ih (k + 1) (x5 + Int32.ofInt 1) K (by omega) a2' a4 a5 (zTBp_Q a6 (fun rs hr => by
          cases rs with
          | nil => exact Iff.rfl
          | cons x rs =>
            have h1 := hr.1.2.1
            have h2 : x.1 ≠ k := fun e => by rw [e] at h1; omega
            show (x.1 < k ∨ x.1 = k ∧ x.2 < 0) ↔ (x.1 < k + 1 ∨ x.1 = k + 1 ∧ x.2 < 0)
            omega))
        refine ⟨K', k1, k2, k3, fun M => ?_⟩
        rw [show M + 6 * (i + 1) + 1 = (M + 5 + 6 * i + 1) + 1 by omega, zb_M_behind_45, if_neg n45, if_pos (hbit.mpr cb)]
        exact k4 _
      · obtain ⟨K1, f1, f2, f3, f4⟩ := lpf 2 k 0 x5 (Int32.ofInt 0) K hk (by omega) (by omega) a2 rfl a4 a5 a6
        obtain ⟨K', k1, k2, k3, k4⟩ := ih (k + 1) (x5 + Int32.ofInt 1) K1 (by omega) a2' f1 f2 f3
        refine ⟨K', k1, k2, k3, fun M => ?_⟩
        obtain ⟨M', q1, q2⟩ := f4 (M + 6 * i + 1)
        rw [show M + 6 * (i + 1) + 1 = (M + 6 * i + 1 + 2 * 2 + 1) + 1 by omega, zb_M_behind_45, if_neg n45, if_neg (fun x => cb (hbit.mp x)), q2, show M' = (M' - 6 * i - 1) + 6 * i + 1 by omega]
        exact k4 _
  have hall : ((Int32.ofInt 1 <<< (J 55 76 &&& 31)) - Int32.ofInt 1).toInt = ((2 ^ n - 1 : Nat) : Int) := by
    have p1 : 0 < 2 ^ n := Nat.pow_pos (by omega)
    rw [(hOJ J hJ).2.1.2.2.2.2, zbits_one n (by omega), y_sbl (by omega) (by omega) (by rw [y_on (by omega)]; omega) (by rw [y_on (by omega)]; omega), y_on (by omega)]
    omega
  have fin : ∀ (v : Int32), (zTBp I n S l c (zQb 0 0) v.toInt 0) → (∀ M, z_loop X z_cf z_ff (z_pu (z_run X z_cf z_ff (d + 3))) 241 (M + 1) 0 [(0, .ref 55), (1, .int x1), (2, .int x2), (3, .int x3)] [] (118, n0, ce, sl, J, L, z_rr t u r q g st) = z_loop X z_cf z_ff (z_pu (z_run X z_cf z_ff (d + 3))) 241 M 45 [(0, .ref 55), (1, .int x1), (2, .int x2), (3, .int x3), (4, .int a), (5, .int (Int32.ofInt 0))] [] (118, n0, ce, sl, z_up (z_up J 106 (81 * S + 9 * l + c) v) 107 (81 * S + 9 * l + c) (Int32.ofInt 0), L, z_rr t u r q g st)) → ∃ K : Nat → Nat → Int32, (∀ x, x ≠ 106 → x ≠ 107 → K x = I x) ∧ (∀ y, y ≠ 81 * S + 9 * l + c → K 106 y = J 106 y ∧ K 107 y = J 107 y) ∧ zTE I K n S l c ∧
      z_pu (z_run X z_cf z_ff (d + 4)) 241 [.ref 55, .int x1, .int x2, .int x3] (118, n0, ce, sl, J, L, z_rr t u r q g st) = some (.inl none, (118, n0, ce, sl, K, L, z_rr t u r q g st)) := by
    intro v hv hs
    obtain ⟨K, k1, k2, k3, k4⟩ := lpk n 0 (Int32.ofInt 0) (z_up (z_up J 106 (81 * S + 9 * l + c) v) 107 (81 * S + 9 * l + c) (Int32.ofInt 0)) (by omega) rfl
      (fun x h1 h2 => by rw [z_up_r _ _ _ _ _ h2, z_up_r _ _ _ _ _ h1, hJ x h1 h2])
      (fun y hy => by rw [z_up_r _ _ _ _ _ (show (106 : Nat) ≠ 107 by omega), z_up_j _ _ _ _ _ hy, z_up_j _ _ _ _ _ hy, z_up_r _ _ _ _ _ (show (107 : Nat) ≠ 106 by omega)]; exact ⟨rfl, rfl⟩)
      (by
        rw [z_up_r _ _ _ _ _ (show (106 : Nat) ≠ 107 by omega), z_up_s, z_up_s]
        exact hv)
    have k3' : zTB I n S l c (K 106 (81 * S + 9 * l + c)).toInt (K 107 (81 * S + 9 * l + c)).toInt := by
      refine zTBp_Q k3 (fun rs hr => ?_)
      cases rs with
      | nil => exact Iff.rfl
      | cons x rs =>
        have h1 := hr.1.1
        exact ⟨fun _ => trivial, fun _ => Or.inl h1⟩
    have hcb := zTB_cb hO hS hl k3'
    have hhb := zTB_hb hn9 hS k3'
    refine ⟨K, k1, k2, ⟨k3', by omega, by omega, hhb.1, hhb.2⟩, ?_⟩
    refine z_en X (d + 1) _ _ [(0, .ref 55), (1, .int x1), (2, .int x2), (3, .int x3)] _ _ rfl rfl rfl ?_
    rw [show (100000000 : Nat) = (99999998 - 6 * n + 6 * n + 1) + 1 by omega, hs]
    exact k4 _
  by_cases cS : S = 2 ^ n - 1
  · refine fin (Int32.ofInt 0) ⟨fun rs hr hq => ?_, Or.inr ⟨[], ⟨trivial, cS, hc⟩, trivial, rfl, by show (c : Int) = c + 0; omega⟩⟩ (fun M => ?_)
    · cases rs with
      | nil => exact Or.inr ⟨rfl, by show (c : Int) + 0 ≤ (c : Nat); omega⟩
      | cons x rs =>
        have hq' : x.1 < 0 ∨ x.1 = 0 ∧ x.2 < 0 := hq
        omega
    · rw [zb_M_behind_0, if_pos (by rw [y_i_eq, hall]; omega), ← hae, hina, z_gd_t, z_gd_t, han]
  · refine fin (Int32.ofInt 1000000000) ⟨fun rs hr hq => ?_, Or.inl ⟨rfl, rfl⟩⟩ (fun M => ?_)
    · cases rs with
      | nil => exact absurd hr.2.1 cS
      | cons x rs =>
        have hq' : x.1 < 0 ∨ x.1 = 0 ∧ x.2 < 0 := hq
        omega
    · rw [zb_M_behind_0, if_neg (by rw [y_i_eq, hall]; omega), ← hae, hina, z_gd_t, z_gd_t, han]
