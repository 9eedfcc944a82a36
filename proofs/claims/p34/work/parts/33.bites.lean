/-! BITES: the press of one point, what is borne, what goes out: the class's and the law's -/
def zP (F D h x : Int) : Int := x * F / D * h / 10
def zB (F D h k o w v : Int) : Prop := zP F D h (w - v) ≤ (v - o) * k
/-- what goes out: all of it where the gap is no less than it, else the least that is borne -/
def zOut (F D h k o w v : Int) : Prop := (w ≤ o → v = w) ∧ (o < w → 1 ≤ v ∧ v ≤ w ∧ zB F D h k o w v ∧ (v = 1 ∨ ¬ zB F D h k o w (v - 1)))
theorem zP_mono {F D h x y : Int} (hF : 0 ≤ F) (hD : 0 < D) (hh : 0 ≤ h) (hxy : x ≤ y) : zP F D h x ≤ zP F D h y := by
  unfold zP
  have a := Int.mul_le_mul_of_nonneg_right hxy hF
  have b := Int.ediv_le_ediv hD a
  have c := Int.mul_le_mul_of_nonneg_right b hh
  exact Int.ediv_le_ediv (by omega) c
theorem zB_mono {F D h k o w a b : Int} (hF : 0 ≤ F) (hD : 0 < D) (hh : 0 ≤ h) (hk : 0 ≤ k) (hab : a ≤ b) (ha : zB F D h k o w a) : zB F D h k o w b := by
  unfold zB at *
  have h2 := zP_mono hF hD hh (x := w - b) (y := w - a) (by omega)
  have h3 := Int.mul_le_mul_of_nonneg_right (show a - o ≤ b - o by omega) hk
  omega
theorem zB_top {F D h k o w : Int} (hk : 0 ≤ k) (ho : o ≤ w) : zB F D h k o w w := by
  unfold zB zP
  rw [Int.sub_self, Int.zero_mul, Int.zero_ediv, Int.zero_mul, Int.zero_ediv]
  exact Int.mul_nonneg (by omega) hk
theorem zOut_one {F D h k o w v v' : Int} (hF : 0 ≤ F) (hD : 0 < D) (hh : 0 ≤ h) (hk : 0 ≤ k) (g : zOut F D h k o w v) (g' : zOut F D h k o w v') : v = v' := by
  rcases Int.lt_or_le o w with q | q
  · obtain ⟨a1, a2, a3, a4⟩ := g.2 q
    obtain ⟨b1, b2, b3, b4⟩ := g'.2 q
    rcases Int.lt_trichotomy v v' with r | r | r
    · rcases b4 with b4 | b4
      · omega
      · exact absurd (zB_mono hF hD hh hk (show v ≤ v' - 1 by omega) a3) b4
    · exact r
    · rcases a4 with a4 | a4
      · omega
      · exact absurd (zB_mono hF hD hh hk (show v' ≤ v - 1 by omega) b3) a4
  · rw [g.1 q, g'.1 q]
/-- the bounds of the numbers that are drawn -/
def zN (F D h k : Int) : Prop := (1 ≤ F ∧ F ≤ 900) ∧ (1 ≤ D ∧ D ≤ 40) ∧ (1 ≤ h ∧ h ≤ 60) ∧ (1 ≤ k ∧ k ≤ 99)
theorem zp_val {Z A B C H : Int64} {x F D h k : Int} (hN : zN F D h k) (hx : 0 ≤ x ∧ x ≤ 300) (hZ : Z.toInt = 0) (hAB : A.toInt * B.toInt = x * F) (hC : C.toInt = D) (hH : H.toInt = h) : (z_mnl (Int64.ofInt 999999999) (((Z + (A * B) / C) * H) / Int64.ofInt 10)).toInt32.toInt = zP F D h x := by
  obtain ⟨⟨f1, f2⟩, ⟨d1, d2⟩, ⟨h1, h2⟩, _⟩ := hN
  have p1 : 0 ≤ x * F := Int.mul_nonneg hx.1 (by omega)
  have p2 : x * F ≤ 300 * 900 := Int.le_trans (Int.mul_le_mul_of_nonneg_right hx.2 (by omega)) (Int.mul_le_mul_of_nonneg_left f2 (by omega))
  have e1 : (A * B).toInt = x * F := by rw [y_mu8 (by rw [hAB]; omega) (by rw [hAB]; omega), hAB]
  have e2 : (A * B / C).toInt = x * F / D := by rw [y_dv8 (by rw [e1]; exact p1) (by rw [hC]; omega), e1, hC]
  have q1 : 0 ≤ x * F / D := Int.ediv_nonneg p1 (by omega)
  have q2 : x * F / D ≤ x * F := Int.ediv_le_self _ p1
  have e3 : (Z + A * B / C).toInt = x * F / D := by rw [y_ad8 (by rw [hZ, e2]; omega) (by rw [hZ, e2]; omega), hZ, e2]; omega
  have r1 : 0 ≤ x * F / D * h := Int.mul_nonneg q1 (by omega)
  have r2 : x * F / D * h ≤ 270000 * 60 := Int.le_trans (Int.mul_le_mul_of_nonneg_right (show x * F / D ≤ 270000 by omega) (by omega)) (Int.mul_le_mul_of_nonneg_left h2 (by omega))
  have e4 : ((Z + A * B / C) * H).toInt = x * F / D * h := by rw [y_mu8 (by rw [e3, hH]; omega) (by rw [e3, hH]; omega), e3, hH]
  have t10 : (Int64.ofInt 10).toInt = 10 := rfl
  have t9 : (Int64.ofInt 999999999).toInt = 999999999 := rfl
  have e5 : ((Z + A * B / C) * H / Int64.ofInt 10).toInt = x * F / D * h / 10 := by rw [y_dv8 (by rw [e4]; exact r1) (by rw [t10]; omega), e4, t10]
  have s1 : 0 ≤ x * F / D * h / 10 := Int.ediv_nonneg r1 (by omega)
  have s2 : x * F / D * h / 10 ≤ x * F / D * h := Int.ediv_le_self _ r1
  have e6 : z_mnl (Int64.ofInt 999999999) ((Z + A * B / C) * H / Int64.ofInt 10) = (Z + A * B / C) * H / Int64.ofInt 10 := by
    unfold z_mnl
    rw [if_pos (by rw [y_l_lt, e5, t9]; omega)]
  rw [e6, y_li _ (by rw [e5]; omega) (by rw [e5]; omega), e5]
  rfl
theorem y_sub0 (x : Int32) : (x - 0).toInt = x.toInt := by rw [y_sb (by rw [y_i0]; have := y_lo x; omega) (by rw [y_i0]; have := y_hi x; omega), y_i0]; omega
theorem zr_pressFor (X : ZX) (d ce sl : Nat) (I : Nat → Nat → Int32) (L : Nat → Nat → Int64) (x h : Int32) {k : Int} (h22 : I 2 2 = Int32.ofInt 1) (h30 : I 3 0 = 0) (h40 : I 4 0 = 0) (hN : zN (I 4 1).toInt (I 3 1).toInt h.toInt k) (hx : 0 ≤ x.toInt ∧ x.toInt ≤ 300) : ∃ v, z_run X z_cf z_ff (d + 1) 35 [.ref 2, .int x, .int h] (0, 63, ce, sl, I, L, zeR1) = zI (0, 63, ce, sl, I, L, zeR1) v ∧ v.toInt = zP (I 4 1).toInt (I 3 1).toInt h.toInt x.toInt := by
  have b0 := fun N => zb_wBiteLaw_pressFor_0 X (z_run X z_cf z_ff d) N ce sl I L x h
  have b1 := fun N => zb_wBiteLaw_pressFor_12 X (z_run X z_cf z_ff d) N ce sl I L x h (Int32.ofInt 1)
  have e1 : (Int32.ofInt 1).toNatClampNeg = 1 := rfl
  have e0 : (Int32.ofInt 1 - Int32.ofInt 1).toNatClampNeg = 0 := rfl
  rw [h22] at b0
  rw [h22, e1, e0, h30, h40] at b1
  have i1 : z_in (Int32.ofInt 1) 11 = true := y_in_t (by decide) (by decide)
  have i0 : z_in (Int32.ofInt 1 - Int32.ofInt 1) 11 = true := y_in_t (by decide) (by decide)
  have hw := y_sub0 (I 3 1)
  have hD := hN.2.1
  refine ⟨_, zM.run (B := 2) rfl rfl (lo := [(0, .ref 2), (1, .int x), (2, .int h)]) rfl (zM.step (fun N => (b0 N).trans (if_pos (by decide))) (Nat.le_refl _) (zM.fin (fun N => (b1 N).trans ((if_pos (by decide)).trans ((z_gd_of i1 _).trans ((z_gd_of i0 _).trans ((if_pos (by rw [y_i_le, hw]; exact hD.1)).trans ((z_gd_of i0 _).trans ((z_gd_of i0 _).trans ((z_gd_of i1 _).trans ((z_gd_of i0 _).trans ((if_neg (by rw [y_l_eq, y_il, hw, y_l0]; omega)).trans (if_neg (by decide)))))))))))) (Nat.le_refl _))) (by decide), ?_⟩
  refine zp_val hN hx ?_ ?_ ?_ ?_
  · rfl
  · rw [y_il, y_il, y_sub0, y_sub0]
  · rw [y_il, hw]
  · rw [y_il]
theorem z_frame {x o k : Int32} (h1 : 0 ≤ x.toInt) (h2 : x.toInt ≤ 60000) (h3 : 0 ≤ o.toInt) (h4 : o.toInt ≤ 3000000) (h5 : 0 ≤ k.toInt) (h6 : k.toInt ≤ 999) : ((x - o).toInt64 * k.toInt64).toInt = (x.toInt - o.toInt) * k.toInt := by
  have e : (x - o).toInt = x.toInt - o.toInt := y_sb (by omega) (by omega)
  have a1 : (x.toInt - o.toInt) * k.toInt ≤ 60000 * 999 := by
    have b1 := Int.mul_le_mul_of_nonneg_right (show x.toInt - o.toInt ≤ 60000 by omega) h5
    have b2 := Int.mul_le_mul_of_nonneg_left h6 (show (0 : Int) ≤ 60000 by omega)
    omega
  have a2 : -3000000 * 999 ≤ (x.toInt - o.toInt) * k.toInt := by
    have b1 := Int.mul_le_mul_of_nonneg_right (show -3000000 ≤ x.toInt - o.toInt by omega) h5
    have b2 := Int.mul_le_mul_of_nonneg_left h6 (show (0 : Int) ≤ 3000000 by omega)
    omega
  rw [y_mu8 (by rw [y_il, y_il, e]; omega) (by rw [y_il, y_il, e]; omega), y_il, y_il, e]
/-- what the class's stand and law of bites hold -/
def zFc (I : Nat → Nat → Int32) : Prop := I 2 2 = Int32.ofInt 1 ∧ I 3 0 = 0 ∧ I 4 0 = 0 ∧ I 55 9 = 0
theorem zr_isBorne (X : ZX) (d ce sl : Nat) (I : Nat → Nat → Int32) (L : Nat → Nat → Int64) (w h o v : Int32) (hI : zFc I) (hN : zN (I 4 1).toInt (I 3 1).toInt h.toInt (I 55 0).toInt) (hv : 0 ≤ v.toInt ∧ v.toInt ≤ w.toInt) (hw : w.toInt ≤ 300) (ho : 0 ≤ o.toInt ∧ o.toInt ≤ 300) : ∃ r, z_run X z_cf z_ff (d + 2) 34 [.ref 55, .ref 2, .int w, .int h, .int o, .int v] (0, 63, ce, sl, I, L, zeR1) = zI (0, 63, ce, sl, I, L, zeR1) r ∧ ((r = 0 ∧ ¬ zB (I 4 1).toInt (I 3 1).toInt h.toInt (I 55 0).toInt o.toInt w.toInt v.toInt) ∨ (¬ r = 0 ∧ zB (I 4 1).toInt (I 3 1).toInt h.toInt (I 55 0).toInt o.toInt w.toInt v.toInt)) := by
  have ex : (w - v).toInt = w.toInt - v.toInt := y_sb (by omega) (by omega)
  obtain ⟨p, hp, ep⟩ := zr_pressFor X d ce sl I L (w - v) h (k := (I 55 0).toInt) hI.1 hI.2.1 hI.2.2.1 hN (by rw [ex]; omega)
  have ef := z_frame (x := v) (o := o) (k := I 55 0) hv.1 (by omega) ho.1 (by omega) (by have := hN.2.2.2; omega) (by have := hN.2.2.2; omega)
  rw [ex] at ep
  by_cases hb : zB (I 4 1).toInt (I 3 1).toInt h.toInt (I 55 0).toInt o.toInt w.toInt v.toInt
  · refine ⟨Int32.ofInt 1, zM.run (B := 2) rfl rfl (lo := [(0, .ref 55), (1, .ref 2), (2, .int w), (3, .int h), (4, .int o), (5, .int v)]) rfl (zM.step (fun N => (zb_wStand_isBorne_0 X _ N ce sl I L w h o v).trans (z_bi_of hp)) (Nat.le_refl _) (zM.fin (fun N => ((zb_wStand_isBorne_21 X _ N ce sl I L _ _).trans (if_neg ?_)).trans (z_gd_of z_b1_1 _)) (Nat.le_refl _))) (by decide), Or.inr ⟨by decide, hb⟩⟩
    rw [lg_cmp_lt, y_l_lt, ef, y_il, ep]
    exact Int.not_lt.mpr hb
  · refine ⟨Int32.ofInt 0, zM.run (B := 2) rfl rfl (lo := [(0, .ref 55), (1, .ref 2), (2, .int w), (3, .int h), (4, .int o), (5, .int v)]) rfl (zM.step (fun N => (zb_wStand_isBorne_0 X _ N ce sl I L w h o v).trans (z_bi_of hp)) (Nat.le_refl _) (zM.fin (fun N => ((zb_wStand_isBorne_21 X _ N ce sl I L _ _).trans (if_pos ?_)).trans (z_gd_of z_b1_0 _)) (Nat.le_refl _))) (by decide), Or.inl ⟨by decide, hb⟩⟩
    rw [lg_cmp_lt, y_l_lt, ef, y_il, ep]
    exact Int.not_le.mp hb
/-- the class's search by halves -/
theorem zr_halves (X : ZX) (d ce sl : Nat) (I : Nat → Nat → Int32) (L : Nat → Nat → Int64) (w h o : Int32) (hI : zFc I) (hN : zN (I 4 1).toInt (I 3 1).toInt h.toInt (I 55 0).toInt) (hw : w.toInt ≤ 300) (ho : 0 ≤ o.toInt ∧ o.toInt < w.toInt) : ∀ (n : Nat) (a b i : Int32), n ≤ 9 → 0 ≤ i.toInt → i.toInt + n ≤ 16 → 1 ≤ a.toInt → a.toInt ≤ b.toInt → b.toInt ≤ w.toInt → b.toInt - a.toInt < 2 ^ n → zB (I 4 1).toInt (I 3 1).toInt h.toInt (I 55 0).toInt o.toInt w.toInt b.toInt → (a.toInt = 1 ∨ ¬ zB (I 4 1).toInt (I 3 1).toInt h.toInt (I 55 0).toInt o.toInt w.toInt (a.toInt - 1)) →
    ∃ v, zM X (d + 2) 33 (2 * n + 1) 30 [(0, .ref 55), (1, .ref 2), (2, .int w), (3, .int h), (5, .int o), (6, .int a), (7, .int b), (8, .int i)] [] (0, 63, ce, sl, I, L, zeR1) (zI (0, 63, ce, sl, I, L, zeR1) v) ∧ 1 ≤ v.toInt ∧ v.toInt ≤ w.toInt ∧ zB (I 4 1).toInt (I 3 1).toInt h.toInt (I 55 0).toInt o.toInt w.toInt v.toInt ∧ (v.toInt = 1 ∨ ¬ zB (I 4 1).toInt (I 3 1).toInt h.toInt (I 55 0).toInt o.toInt w.toInt (v.toInt - 1)) := by
  intro n
  induction n with
  | zero =>
    intro a b i _ hi0 hi ha hab hb hn hB hA
    have hn1 : b.toInt - a.toInt < 1 := hn
    have e : b.toInt = a.toInt := by omega
    refine ⟨b, zM.fin (fun N => ?_) (by omega), by omega, hb, hB, by rw [e]; exact hA⟩
    by_cases h16 : Int32.ofInt 16 ≤ i
    · exact (zb_wStand_outFor_30 X _ N ce sl I L w h o a b i).trans (if_pos h16)
    · exact ((zb_wStand_outFor_30 X _ N ce sl I L w h o a b i).trans (if_neg h16)).trans (if_pos (by rw [y_i_le]; omega))
  | succ n ih =>
    intro a b i hn9 hi0 hi ha hab hb hn hB hA
    by_cases hq : b.toInt ≤ a.toInt
    · have e : b.toInt = a.toInt := by omega
      refine ⟨b, zM.fin (fun N => ?_) (by omega), by omega, hb, hB, by rw [e]; exact hA⟩
      by_cases h16 : Int32.ofInt 16 ≤ i
      · exact (zb_wStand_outFor_30 X _ N ce sl I L w h o a b i).trans (if_pos h16)
      · exact ((zb_wStand_outFor_30 X _ N ce sl I L w h o a b i).trans (if_neg h16)).trans (if_pos (by rw [y_i_le]; omega))
    · have h16 : ¬ Int32.ofInt 16 ≤ i := by
        rw [y_i_le, show (Int32.ofInt 16).toInt = 16 from rfl]; omega
      have es : (a + b).toInt = a.toInt + b.toInt := y_ad (by omega) (by omega)
      have em : ((a + b) / Int32.ofInt 2).toInt = (a.toInt + b.toInt) / 2 := by
        rw [y_dv (by rw [es]; omega) (by decide), es]; rfl
      have ei : (i + Int32.ofInt 1).toInt = i.toInt + 1 := by
        rw [y_ad (by rw [y_1]; omega) (by rw [y_1]; omega), y_1]
      have hpow : (2 : Int) ^ (n + 1) = 2 * 2 ^ n := by rw [Int.pow_succ]; omega
      rw [hpow] at hn
      generalize hm : (a + b) / Int32.ofInt 2 = m at em
      obtain ⟨r, hr, hc⟩ := zr_isBorne X d ce sl I L w h o m hI hN (by omega) hw (by omega)
      have st1 : ∀ N, z_loop X z_cf z_ff (z_run X z_cf z_ff (d + 2)) 33 (N + 1) 30 [(0, .ref 55), (1, .ref 2), (2, .int w), (3, .int h), (5, .int o), (6, .int a), (7, .int b), (8, .int i)] [] (0, 63, ce, sl, I, L, zeR1) = z_loop X z_cf z_ff (z_run X z_cf z_ff (d + 2)) 33 N 64 [(0, .ref 55), (1, .ref 2), (2, .int w), (3, .int h), (5, .int o), (6, .int a), (7, .int b), (8, .int i), (9, .int m)] [.int r] (0, 63, ce, sl, I, L, zeR1) := by
        intro N
        have hb9 := zb_wStand_outFor_30 X (z_run X z_cf z_ff (d + 2)) N ce sl I L w h o a b i
        rw [hm] at hb9
        exact ((hb9.trans (if_neg h16)).trans (if_neg (by rw [y_i_le]; omega))).trans ((if_neg (by decide)).trans (z_bi_of hr))
      rcases hc with ⟨hr0, hnb⟩ | ⟨hr1, hyb⟩
      · have em1 : (m + Int32.ofInt 1).toInt = m.toInt + 1 := by
          rw [y_ad (by rw [y_1]; omega) (by rw [y_1]; omega), y_1]
        obtain ⟨v, g, hv⟩ := ih (m + Int32.ofInt 1) b (i + Int32.ofInt 1) (by omega) (by omega) (by omega) (by omega) (by
          rcases Int.lt_or_le m.toInt b.toInt with q | q
          · omega
          · exact absurd (by rw [show m.toInt = b.toInt by omega]; exact hB) hnb) hb (by omega) hB (Or.inr (by rw [em1, Int.add_sub_cancel]; exact hnb))
        refine ⟨v, ?_, hv⟩
        refine zM.step st1 (B' := 2 * n + 2) (by omega) (zM.step (fun N => (zb_wStand_outFor_64 X _ N ce sl I L w h o a b i m r).trans (if_pos hr0)) (by omega) g)
      · obtain ⟨v, g, hv⟩ := ih a m (i + Int32.ofInt 1) (by omega) (by omega) (by omega) ha (by omega) (by omega) (by omega) hyb hA
        refine ⟨v, ?_, hv⟩
        refine zM.step st1 (B' := 2 * n + 2) (by omega) (zM.step (fun N => (zb_wStand_outFor_64 X _ N ce sl I L w h o a b i m r).trans (if_neg hr1)) (by omega) g)
theorem zr_outFor (X : ZX) (d ce sl : Nat) (I : Nat → Nat → Int32) (L : Nat → Nat → Int64) (w h o : Int32) (hI : zFc I) (hN : zN (I 4 1).toInt (I 3 1).toInt h.toInt (I 55 0).toInt) (hw : 1 ≤ w.toInt ∧ w.toInt ≤ 300) (ho : 0 ≤ o.toInt ∧ o.toInt ≤ 300) : ∃ v, z_run X z_cf z_ff (d + 3) 33 [.ref 55, .ref 2, .int w, .int h, .int o] (0, 63, ce, sl, I, L, zeR1) = zI (0, 63, ce, sl, I, L, zeR1) v ∧ zOut (I 4 1).toInt (I 3 1).toInt h.toInt (I 55 0).toInt o.toInt w.toInt v.toInt := by
  have b0 := fun N => zb_wStand_outFor_0 X (z_run X z_cf z_ff (d + 2)) N ce sl I L w h o
  have e0 : o + 0 / Int32.ofInt 1000 = o := by
    rw [show (0 / Int32.ofInt 1000 : Int32) = 0 from rfl, Int32.add_zero]
  rw [hI.2.2.2, e0] at b0
  by_cases hq : o.toInt < w.toInt
  · obtain ⟨v, g, h1, h2, h3, h4⟩ := zr_halves X d ce sl I L w h o hI hN hw.2 ⟨ho.1, hq⟩ 9 (Int32.ofInt 1) w (Int32.ofInt 0) (by omega) (by decide) (by decide) (by decide) (by rw [y_1]; omega) (by omega) (by rw [y_1, show (2 : Int) ^ 9 = 512 from rfl]; omega) (zB_top (by have := hN.2.2.2; omega) (by omega)) (Or.inl rfl)
    exact ⟨v, zM.run (B := 20) rfl rfl (lo := [(0, .ref 55), (1, .ref 2), (2, .int w), (3, .int h), (4, .int o)]) rfl (zM.step (fun N => ((b0 N).trans (if_neg (by decide))).trans (if_pos (by rw [y_i_lt]; exact hq))) (Nat.le_refl _) g) (by decide), fun q => absurd q (by omega), fun _ => ⟨h1, h2, h3, h4⟩⟩
  · exact ⟨w, zM.run (B := 1) rfl rfl (lo := [(0, .ref 55), (1, .ref 2), (2, .int w), (3, .int h), (4, .int o)]) rfl (zM.fin (fun N => ((b0 N).trans (if_neg (by decide))).trans (if_neg (by rw [y_i_lt]; exact hq))) (Nat.le_refl _)) (by decide), fun _ => rfl, fun q => absurd q hq⟩
/-! the law's own -/
theorem y_l0_sub (x : Int64) : (x - Int64.ofInt 0).toInt = x.toInt := by
  have e : (Int64.ofInt 0).toInt = 0 := rfl
  rw [y_sb8 (by rw [e]; have := Int64.le_toInt x; omega) (by rw [e]; have := Int64.toInt_lt x; omega), e]; omega
theorem zr_lpress (X : ZX) (d ce sl : Nat) (I : Nat → Nat → Int32) (L : Nat → Nat → Int64) (x h : Int32) {k : Int} (hN : zN (I 60 0).toInt (I 59 0).toInt h.toInt k) (hx : 0 ≤ x.toInt ∧ x.toInt ≤ 300) : ∃ v, z_run X z_cf z_ff (d + 1) 54 [.ref 59, .ref 60, .int (Int32.ofInt 1), .int x, .int h] (0, 63, ce, sl, I, L, zeR1) = zI (0, 63, ce, sl, I, L, zeR1) v ∧ v.toInt = zP (I 60 0).toInt (I 59 0).toInt h.toInt x.toInt := by
  have b1 := fun N => zb_wL_press_9 X (z_run X z_cf z_ff d) N ce sl I L (Int32.ofInt 1) x h (Int32.ofInt 0)
  have e0 : (Int32.ofInt 0).toNatClampNeg = 0 := rfl
  rw [e0] at b1
  have i0 : z_in (Int32.ofInt 0) 3 = true := y_in_t (by decide) (by decide)
  have hD := hN.2.1
  refine ⟨_, zM.run (B := 2) rfl rfl (lo := [(0, .ref 59), (1, .ref 60), (2, .int (Int32.ofInt 1)), (3, .int x), (4, .int h)]) rfl (zM.step (fun N => (zb_wL_press_0 X _ N ce sl I L (Int32.ofInt 1) x h).trans (if_neg (by decide))) (Nat.le_refl _) (zM.fin (fun N => (b1 N).trans ((if_pos (by decide)).trans ((if_pos (by decide)).trans ((if_pos (by decide)).trans ((z_gd_of i0 _).trans ((z_gd_of i0 _).trans ((if_neg (by rw [y_l_eq, y_l0_sub, y_il, y_l0]; omega)).trans (if_neg (by decide))))))))) (Nat.le_refl _))) (by decide), ?_⟩
  refine zp_val hN hx rfl ?_ ?_ ?_
  · rw [y_l0_sub, y_l0_sub, y_il, y_il, Int.mul_comm]
  · rw [y_l0_sub, y_il]
  · rw [y_il]
theorem zr_lsearch (X : ZX) (d ce sl : Nat) (I : Nat → Nat → Int32) (L : Nat → Nat → Int64) (k o w h : Int32) (hN : zN (I 60 0).toInt (I 59 0).toInt h.toInt k.toInt) (hw : w.toInt ≤ 300) (ho : 0 ≤ o.toInt ∧ o.toInt < w.toInt) : ∀ (n : Nat) (a : Int32), a.toInt + n = w.toInt → 1 ≤ a.toInt → (a.toInt = 1 ∨ ¬ zB (I 60 0).toInt (I 59 0).toInt h.toInt k.toInt o.toInt w.toInt (a.toInt - 1)) →
    ∃ v, zM X (d + 1) 53 (2 * n + 2) 3 [(0, .ref 59), (1, .ref 60), (2, .int (Int32.ofInt 1)), (3, .int k), (4, .int o), (5, .int w), (6, .int h), (7, .int a)] [] (0, 63, ce, sl, I, L, zeR1) (zI (0, 63, ce, sl, I, L, zeR1) v) ∧ 1 ≤ v.toInt ∧ v.toInt ≤ w.toInt ∧ zB (I 60 0).toInt (I 59 0).toInt h.toInt k.toInt o.toInt w.toInt v.toInt ∧ (v.toInt = 1 ∨ ¬ zB (I 60 0).toInt (I 59 0).toInt h.toInt k.toInt o.toInt w.toInt (v.toInt - 1)) := by
  intro n
  induction n with
  | zero =>
    intro a e ha hA
    have ew : w.toInt = a.toInt := by omega
    have hB : zB (I 60 0).toInt (I 59 0).toInt h.toInt k.toInt o.toInt w.toInt a.toInt := by
      rw [← ew]; exact zB_top (by have := hN.2.2.2; omega) (by omega)
    have ex : (w - a).toInt = w.toInt - a.toInt := y_sb (by omega) (by omega)
    obtain ⟨p, hp, ep⟩ := zr_lpress X d ce sl I L (w - a) h (k := k.toInt) hN (by rw [ex]; omega)
    have ef := z_frame (x := a) (o := o) (k := k) (by omega) (by omega) ho.1 (by omega) (by have := hN.2.2.2; omega) (by have := hN.2.2.2; omega)
    rw [ex] at ep
    refine ⟨a, ?_, ha, by omega, hB, hA⟩
    refine zM.step (fun N => ((zb_wL_out_3 X _ N ce sl I L (Int32.ofInt 1) k o w h a).trans (if_neg (by rw [y_i_le]; omega))).trans (z_bi_of hp)) (B' := 1) (by omega) ?_
    refine zM.fin (fun N => ((zb_wL_out_32 X _ N ce sl I L (Int32.ofInt 1) k o w h a p _).trans (if_pos ?_)).trans (if_neg (by rw [y_i_le]; omega))) (by omega)
    rw [lg_cmp_ge, y_l_le, ef, y_il, ep]
    exact hB
  | succ n ih =>
    intro a e ha hA
    have ex : (w - a).toInt = w.toInt - a.toInt := y_sb (by omega) (by omega)
    obtain ⟨p, hp, ep⟩ := zr_lpress X d ce sl I L (w - a) h (k := k.toInt) hN (by rw [ex]; omega)
    have ef := z_frame (x := a) (o := o) (k := k) (by omega) (by omega) ho.1 (by omega) (by have := hN.2.2.2; omega) (by have := hN.2.2.2; omega)
    rw [ex] at ep
    by_cases hB : zB (I 60 0).toInt (I 59 0).toInt h.toInt k.toInt o.toInt w.toInt a.toInt
    · refine ⟨a, ?_, ha, by omega, hB, hA⟩
      refine zM.step (fun N => ((zb_wL_out_3 X _ N ce sl I L (Int32.ofInt 1) k o w h a).trans (if_neg (by rw [y_i_le]; omega))).trans (z_bi_of hp)) (B' := 1) (by omega) ?_
      refine zM.fin (fun N => ((zb_wL_out_32 X _ N ce sl I L (Int32.ofInt 1) k o w h a p _).trans (if_pos ?_)).trans (if_neg (by rw [y_i_le]; omega))) (by omega)
      rw [lg_cmp_ge, y_l_le, ef, y_il, ep]
      exact hB
    · have ea : (a + Int32.ofInt 1).toInt = a.toInt + 1 := by
        rw [y_ad (by rw [y_1]; omega) (by rw [y_1]; omega), y_1]
      obtain ⟨v, g, hv⟩ := ih (a + Int32.ofInt 1) (by omega) (by omega) (Or.inr (by rw [ea, Int.add_sub_cancel]; exact hB))
      refine ⟨v, ?_, hv⟩
      refine zM.step (fun N => ((zb_wL_out_3 X _ N ce sl I L (Int32.ofInt 1) k o w h a).trans (if_neg (by rw [y_i_le]; omega))).trans (z_bi_of hp)) (B' := 2 * n + 3) (by omega) ?_
      refine zM.step (fun N => (zb_wL_out_32 X _ N ce sl I L (Int32.ofInt 1) k o w h a p _).trans (if_neg ?_)) (by omega) g
      rw [lg_cmp_ge, y_l_le, ef, y_il, ep]
      exact hB
theorem zr_lout (X : ZX) (d ce sl : Nat) (I : Nat → Nat → Int32) (L : Nat → Nat → Int64) (k o w h : Int32) (hN : zN (I 60 0).toInt (I 59 0).toInt h.toInt k.toInt) (hw : 1 ≤ w.toInt ∧ w.toInt ≤ 300) (ho : 0 ≤ o.toInt ∧ o.toInt ≤ 300) : ∃ v, z_run X z_cf z_ff (d + 2) 53 [.ref 59, .ref 60, .int (Int32.ofInt 1), .int k, .int o, .int w, .int h] (0, 63, ce, sl, I, L, zeR1) = zI (0, 63, ce, sl, I, L, zeR1) v ∧ zOut (I 60 0).toInt (I 59 0).toInt h.toInt k.toInt o.toInt w.toInt v.toInt := by
  by_cases hq : o.toInt < w.toInt
  · obtain ⟨v, g, h1, h2, h3, h4⟩ := zr_lsearch X d ce sl I L k o w h hN hw.2 ⟨ho.1, hq⟩ (w.toInt - 1).toNat (Int32.ofInt 1) (by rw [y_1]; omega) (by decide) (Or.inl rfl)
    exact ⟨v, zM.run (B := 1000) rfl rfl (lo := [(0, .ref 59), (1, .ref 60), (2, .int (Int32.ofInt 1)), (3, .int k), (4, .int o), (5, .int w), (6, .int h)]) rfl (zM.step (fun N => zb_wL_out_0 X _ N ce sl I L (Int32.ofInt 1) k o w h) (B' := 2 * (w.toInt - 1).toNat + 2) (by omega) g) (by decide), fun q => absurd q (by omega), fun _ => ⟨h1, h2, h3, h4⟩⟩
  · have hc : w ≤ o := by rw [y_i_le]; omega
    exact ⟨w, zM.run (B := 2) rfl rfl (lo := [(0, .ref 59), (1, .ref 60), (2, .int (Int32.ofInt 1)), (3, .int k), (4, .int o), (5, .int w), (6, .int h)]) rfl (zM.step (fun N => zb_wL_out_0 X _ N ce sl I L (Int32.ofInt 1) k o w h) (Nat.le_refl _) (zM.fin (fun N => ((zb_wL_out_3 X _ N ce sl I L (Int32.ofInt 1) k o w h _).trans (if_pos hc)).trans (if_pos hc)) (Nat.le_refl _))) (by decide), fun _ => rfl, fun q => absurd q hq⟩
