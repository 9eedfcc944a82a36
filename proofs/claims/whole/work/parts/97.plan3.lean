/-! PLAN, 3: the press from one thickness to another, in both -/
def zgp (I : Nat → Nat → Int32) (p s : Nat) (h0 : Int32) (w v : Int) : Int := zm_gap (zd I) (zf I) p (I 56 s).toInt (I 58 s).toInt (I 59 s).toInt ((I 65 s).toInt / 1000) w v (zhw I h0 s)
def zpp (I : Nat → Nat → Int32) (p s : Nat) (h0 : Int32) (w v : Int) : Int := if w < v ∨ (I 57 s).toInt < zm_pr (zd I) (zf I) p (w - v) (zhw I h0 s) ∨ zgp I p s h0 w v = -1 then -1 else zm_pr (zd I) (zf I) p (w - v) (zhw I h0 s)
theorem zg_S_w {C m : Nat} {I : Nat → Nat → Int32} (hS : zg_S C m I) : ∀ k < m, 0 ≤ (I (z_sd k) 7).toInt ∧ (I (z_sd k) 7).toInt ≤ 9 := by
  intro k hk
  obtain ⟨⟨s0, s1, s2, s3, s4, s5, s6, s7, s8, s9, s10⟩, f1, f2, f3, f4, f5, f6, f7, f8, f9, f10, f11, f12, f13, f14, f15, f16, f17, f18⟩ := hS.2.2.2.1 k hk
  rw [s7]
  omega
theorem zhw_r {C m : Nat} {I : Nat → Nat → Int32} (hS : zg_S C m I) {h0 : Int32} (hh0 : 0 ≤ h0.toInt) {s : Nat} (hs : s ≤ m) : 0 ≤ zhw I h0 s ∧ zhw I h0 s ≤ 99 := by
  have := zhs_r (zg_S_w hS) s hs
  unfold zhw
  omega
theorem zhw_0 {I : Nat → Nat → Int32} {h0 : Int32} (hh1 : h0.toInt ≤ 99) : zhw I h0 0 = h0.toInt := by
  show min 99 (h0.toInt + 0) = _
  omega
theorem zgp_r {C m : Nat} {I : Nat → Nat → Int32} (hS : zg_S C m I) {s : Nat} (hs : s < m) (p : Nat) (h0 : Int32) (w v : Int) : zgp I p s h0 w v = -1 ∨ 0 ≤ zgp I p s h0 w v ∧ zgp I p s h0 w v ≤ 60000 := by
  obtain ⟨⟨s0, s1, s2, s3, s4, s5, s6, s7, s8, s9, s10⟩, f1, f2, f3, f4, f5, f6, f7, f8, f9, f10, f11, f12, f13, f14, f15, f16, f17, f18⟩ := hS.2.2.2.1 s hs
  have := zm_gap_r (d := zd I) (f := zf I) (p := p) (k := (I 56 s).toInt) (lo := (I 58 s).toInt) (hi := (I 59 s).toInt) (wn := (I 65 s).toInt / 1000) (w := w) (v := v) (h := zhw I h0 s) f5
  unfold zgp
  omega
theorem zpp_r {C m p : Nat} {I : Nat → Nat → Int32} (hS : zg_S C m I) (hL : zg_L p I) {h0 : Int32} (hh0 : 0 ≤ h0.toInt) {s : Nat} (hs : s < m) (w v : Int) : zpp I p s h0 w v = -1 ∨ 0 ≤ zpp I p s h0 w v ∧ zpp I p s h0 w v ≤ 9999999 := by
  obtain ⟨⟨s0, s1, s2, s3, s4, s5, s6, s7, s8, s9, s10⟩, f1, f2, f3, f4, f5, f6, f7, f8, f9, f10, f11, f12, f13, f14, f15, f16, f17, f18⟩ := hS.2.2.2.1 s hs
  have hh := zhw_r hS hh0 (s := s) (by omega)
  unfold zpp
  by_cases c : w < v ∨ (I 57 s).toInt < zm_pr (zd I) (zf I) p (w - v) (zhw I h0 s) ∨ zgp I p s h0 w v = -1
  · rw [if_pos c]
    exact Or.inl rfl
  · rw [if_neg c]
    have := zm_pr_0 hL.2.2.2.1 (x := w - v) (h := zhw I h0 s) hh.1 (by omega)
    omega
theorem zr_planPress (X : ZX) (d m ce sl : Nat) (I : Nat → Nat → Int32) (L : Nat → Nat → Int64) (t u r q : Nat) {C p : Nat} (hS : zg_S C m I) (hL : zg_L p I) (h0 w v hd : Int32) (s : Nat) (hs : s < m) (hh0 : 0 ≤ h0.toInt) (hhd : hd.toInt = zhw I h0 s) (hw1 : w.toInt ≤ 60000) (hv0 : 1 ≤ v.toInt) (hv1 : v.toInt ≤ w.toInt) :
    z_pu (z_run X z_cf z_ff (d + 6)) 106 [.ref (z_sd s), .ref 2, .int w, .int hd, .int v] (118, z_sd m, ce, sl, I, L, z_rr t u r q (z_gg m) (z_sf m)) = some (.inl (some (.int (Int32.ofInt (zpp I p s h0 w.toInt v.toInt)))), (118, z_sd m, ce, sl, I, L, z_rr t u r q (z_gg m) (z_sf m))) := by
  obtain ⟨⟨s0, s1, s2, s3, s4, s5, s6, s7, s8, s9, s10⟩, f1, f2, f3, f4, f5, f6, f7, f8, f9, f10, f11, f12, f13, f14, f15, f16, f17, f18⟩ := hS.2.2.2.1 s hs
  have hh := zhw_r hS hh0 (s := s) (by omega)
  have h5 := hS.1
  have hok : z_ok (118, z_sd m, ce, sl, I, L, z_rr t u r q (z_gg m) (z_sf m)) (z_sd s) 10 = true := z_okS (k := s) (m := m) hs (by omega) 118 ce sl I L (z_rr t u r q (z_gg m) (z_sf m))
  have ed : (w - v).toInt = w.toInt - v.toInt := y_sb (by omega) (by omega)
  have a0 := zm_pr_0 hL.2.2.2.1 (x := w.toInt - v.toInt) (h := zhw I h0 s) hh.1 (by omega)
  have a1 := zm_pr_top (zd I) (zf I) p (w.toInt - v.toInt) (zhw I h0 s)
  have gr := zgp_r hS hs p h0 w.toInt v.toInt
  refine z_en X (d + 3) _ _ [(0, .ref (z_sd s)), (1, .ref 2), (2, .int w), (3, .int hd), (4, .int v)] _ _ rfl rfl rfl ?_
  rw [zb_Stand_planPress_0, zr_pressFor X (d + 2) (z_sd m) ce sl I L t u r q (z_gg m) (z_sf m) (w - v) hd hL (by omega) (by omega) (by omega) (by omega), z_bi_v, show (99999999 : Nat) = 99999998 + 1 by omega, zb_Stand_planPress_9, hok, z_gd_t, ed, hhd, s1]
  unfold zpp
  by_cases c : (I 57 s).toInt < zm_pr (zd I) (zf I) p (w.toInt - v.toInt) (zhw I h0 s)
  · rw [if_pos (by rw [y_i_lt, y_oi (by omega) (by omega)]; exact c), if_pos (Or.inr (Or.inl c))]
  · rw [if_neg (by rw [y_i_lt, y_oi (by omega) (by omega)]; exact c), z_gd_t, zr_planGap X d (z_sd m) ce sl I L t u r q (z_gg m) (z_sf m) (z_sd s) w hd v hL hok hw1 (by omega) (by omega) hv0 hv1 (by rw [s0]; omega) (by rw [s0]; omega) (by rw [s2]; omega) (by rw [s2, s3]; omega) (by rw [s3]; omega) (by rw [s9]; omega), z_bi_v, show (99999998 : Nat) = 99999997 + 1 by omega, zb_Stand_planPress_29, s0, s2, s3, s9, hhd]
    have eg : zm_gap (zd I) (zf I) p (I 56 s).toInt (I 58 s).toInt (I 59 s).toInt ((I 65 s).toInt / 1000) w.toInt v.toInt (zhw I h0 s) = zgp I p s h0 w.toInt v.toInt := rfl
    rw [eg]
    by_cases c2 : zgp I p s h0 w.toInt v.toInt = -1
    · rw [if_pos (by rw [c2]), if_pos (Or.inr (Or.inr c2))]
    · rw [if_neg (by rw [y_i_eq, y_oi (by omega) (by omega), y_oi (by omega) (by omega)]; exact c2), if_neg (by omega)]
/-- a thickness by its number, in the model -/
def zth (I : Nat → Nat → Int32) (f : Nat) : Int32 := if f = 12 then I 55 72 else I 91 f
theorem zr_thick (X : ZX) (d n ce sl : Nat) (I : Nat → Nat → Int32) (L : Nat → Nat → Int64) (t u r q g : Nat) (st : Nat → Option Nat) (x : Int32) (f : Nat) (hf : f < 13) (hx : x.toInt = f) : z_pu (z_run X z_cf z_ff (d + 3)) 230 [.ref 55, .int x] (118, n, ce, sl, I, L, z_rr t u r q g st) = some (.inl (some (.int (zth I f))), (118, n, ce, sl, I, L, z_rr t u r q g st)) := by
  have hxn : x.toNatClampNeg = f := by rw [y_tn, hx]; rfl
  have h12 : (Int32.ofInt 12).toInt = 12 := rfl
  refine z_en X d _ _ [(0, .ref 55), (1, .int x)] _ _ rfl rfl rfl ?_
  rw [zb_M_thicknessOf_0]
  unfold zth
  by_cases c : f = 12
  · rw [if_pos c, if_pos (by rw [y_i_eq, h12]; omega)]
  · rw [if_neg c, if_neg (by rw [y_i_eq, h12]; omega), y_in_t (by omega) (by omega), z_gd_t, hxn]
theorem zr_pressM_loop (X : ZX) (d m ce sl : Nat) (I : Nat → Nat → Int32) (L : Nat → Nat → Int64) (t u r q : Nat) {C : Nat} (hS : zg_S C m I) (h0 x1 x5 x6 : Int32) (s : Nat) (hs : s < m) (hx1 : x1.toInt = s) (hh0 : 0 ≤ h0.toInt) (j : Nat) : ∀ (N i : Nat) (x7 x8 : Int32), i + j = s → x8.toInt = i → x7.toInt = zhw I h0 i → ∃ x7' x8' : Int32, x8'.toInt = s ∧ x7'.toInt = zhw I h0 s ∧
    z_loop X z_cf z_ff (z_pu (z_run X z_cf z_ff (d + 3))) 229 (N + 2 * j) 30 [(0, .ref 55), (1, .int x1), (5, .int x5), (6, .int x6), (7, .int x7), (8, .int x8)] [] (118, z_sd m, ce, sl, I, L, z_rr t u r q (z_gg m) (z_sf m)) = z_loop X z_cf z_ff (z_pu (z_run X z_cf z_ff (d + 3))) 229 N 30 [(0, .ref 55), (1, .int x1), (5, .int x5), (6, .int x6), (7, .int x7'), (8, .int x8')] [] (118, z_sd m, ce, sl, I, L, z_rr t u r q (z_gg m) (z_sf m)) := by
  have h5 := hS.1
  have h99 : (Int32.ofInt 99).toInt = 99 := rfl
  induction j with
  | zero =>
    intro N i x7 x8 h1 h2 h3
    have e : i = s := by omega
    subst e
    exact ⟨x7, x8, h2, h3, rfl⟩
  | succ j ih =>
    intro N i x7 x8 h1 h2 h3
    obtain ⟨⟨s0, s1, s2, s3, s4, s5, s6, s7, s8, s9, s10⟩, f1, f2, f3, f4, f5, f6, f7, f8, f9, f10, f11, f12, f13, f14, f15, f16, f17, f18⟩ := hS.2.2.2.1 i (by omega)
    have hin : z_in x8 5 = true := y_in_t (by omega) (by omega)
    have hxn : x8.toNatClampNeg = i := by rw [y_tn, h2]; rfl
    have hr := zhw_r hS hh0 (s := i) (by omega)
    have hst := zhw_s (I := I) (h := h0) (n := i) (by rw [s7]; omega)
    rw [s7] at hst
    have e1 : (x7 + I 63 i).toInt = x7.toInt + (I 63 i).toInt := y_ad (by omega) (by omega)
    have e2 : (x8 + Int32.ofInt 1).toInt = i + 1 := by rw [y_adl (by omega) (by omega) (by omega) (by omega)]; omega
    rw [show N + 2 * (j + 1) = (N + 2 * j) + 2 by omega, zt_M_pressFor_30 X d, if_neg (by rw [y_i_le]; omega), hin, z_gd_t, hxn]
    by_cases c : (x7 + I 63 i).toInt ≤ 99
    · rw [if_pos (by rw [y_i_le, h99]; exact c), z_gd_t]
      exact ih N (i + 1) _ _ (by omega) (by omega) (by omega)
    · rw [if_neg (by rw [y_i_le, h99]; exact c)]
      exact ih N (i + 1) _ _ (by omega) (by omega) (by omega)
theorem zr_pressM (X : ZX) (d m ce sl : Nat) (I : Nat → Nat → Int32) (L : Nat → Nat → Int64) (t u r q : Nat) {C p : Nat} (hS : zg_S C m I) (hL : zg_L p I) (h0 x1 x2 x3 : Int32) (s f g : Nat) (hs : s < m) (hx1 : x1.toInt = s) (hf : f < 13) (hx2 : x2.toInt = f) (hg : g < 13) (hx3 : x3.toInt = g) (hh0 : 0 ≤ h0.toInt) (hh1 : h0.toInt ≤ 99) (hw1 : (zth I f).toInt ≤ 60000) (hv0 : 1 ≤ (zth I g).toInt) :
    z_pu (z_run X z_cf z_ff (d + 6)) 229 [.ref 55, .int x1, .int x2, .int x3, .int h0] (118, z_sd m, ce, sl, I, L, z_rr t u r q (z_gg m) (z_sf m)) = some (.inl (some (.int (Int32.ofInt (zpp I p s h0 (zth I f).toInt (zth I g).toInt)))), (118, z_sd m, ce, sl, I, L, z_rr t u r q (z_gg m) (z_sf m))) := by
  obtain ⟨⟨s0, s1, s2, s3, s4, s5, s6, s7, s8, s9, s10⟩, f1, f2, f3, f4, f5, f6, f7, f8, f9, f10, f11, f12, f13, f14, f15, f16, f17, f18⟩ := hS.2.2.2.1 s hs
  have hh := zhw_r hS hh0 (s := s) (by omega)
  have h5 := hS.1
  have hx1n : x1.toNatClampNeg = s := by rw [y_tn, hx1]; rfl
  refine z_en X (d + 3) _ _ [(0, .ref 55), (1, .int x1), (2, .int x2), (3, .int x3), (4, .int h0)] _ _ rfl rfl rfl ?_
  rw [zb_M_pressFor_0, zr_thick X (d + 2) _ ce sl I L t u r q _ _ x2 f hf hx2, z_bi_v, show (99999999 : Nat) = 99999998 + 1 by omega, zb_M_pressFor_5, zr_thick X (d + 2) _ ce sl I L t u r q _ _ x3 g hg hx3, z_bi_v, show (99999998 : Nat) = 99999997 + 1 by omega, zb_M_pressFor_12]
  by_cases c : (zth I g).toInt ≤ (zth I f).toInt
  · rw [if_pos (y_i_le.mpr c)]
    obtain ⟨x7, x8, l1, l2, l3⟩ := zr_pressM_loop X (d + 2) m ce sl I L t u r q hS h0 x1 (zth I f) (zth I g) s hs hx1 hh0 s (99999997 - 2 * s) 0 h0 (Int32.ofInt 0) (by omega) rfl (zhw_0 hh1).symm
    rw [show 99999997 - 2 * s + 2 * s = 99999997 by omega] at l3
    have ed : (zth I f - zth I g).toInt = (zth I f).toInt - (zth I g).toInt := y_sb (by omega) (by omega)
    have a0 := zm_pr_0 hL.2.2.2.1 (x := (zth I f).toInt - (zth I g).toInt) (h := zhw I h0 s) hh.1 (by omega)
    have a1 := zm_pr_top (zd I) (zf I) p ((zth I f).toInt - (zth I g).toInt) (zhw I h0 s)
    have gr := zgp_r hS hs p h0 (zth I f).toInt (zth I g).toInt
    rw [l3, show 99999997 - 2 * s = (99999997 - 2 * s - 3) + 1 + 1 + 1 by omega, zb_M_pressFor_30, if_pos (by rw [y_i_le]; omega), zr_pressOf X (d + 2) (z_sd m) ce sl I L t u r q (z_gg m) (z_sf m) (zth I f - zth I g) x7 hL (by omega) (by omega) (by omega) (by omega), z_bi_v, zb_M_pressFor_63, y_in_t (by omega) (by omega), z_gd_t, ed, l2, hx1n]
    unfold zpp
    by_cases c1 : (I 57 s).toInt < zm_pr (zd I) (zf I) p ((zth I f).toInt - (zth I g).toInt) (zhw I h0 s)
    · rw [if_neg (by rw [y_i_le, y_oi (by omega) (by omega)]; omega), if_pos (Or.inr (Or.inl c1))]
    · rw [if_pos (by rw [y_i_le, y_oi (by omega) (by omega)]; omega), zr_gapFor X d m ce sl I L t u r q x1 (zth I f) x7 (zth I g) hL (by omega) (by omega) hw1 (by omega) (by omega) hv0 c (by rw [hx1n]; omega) (by rw [hx1n]; omega) (by rw [hx1n]; omega) (by rw [hx1n]; omega) (by rw [hx1n]; omega) (by rw [hx1n]; omega), z_bi_v, zb_M_pressFor_89, hx1n, l2]
      have eg : zm_gap (zd I) (zf I) p (I 56 s).toInt (I 58 s).toInt (I 59 s).toInt ((I 65 s).toInt / 1000) (zth I f).toInt (zth I g).toInt (zhw I h0 s) = zgp I p s h0 (zth I f).toInt (zth I g).toInt := rfl
      rw [eg]
      by_cases c2 : zgp I p s h0 (zth I f).toInt (zth I g).toInt = -1
      · rw [if_pos (by rw [c2]), if_pos (Or.inr (Or.inr c2))]
      · rw [if_neg (by rw [y_i_eq, y_oi (by omega) (by omega), y_oi (by omega) (by omega)]; exact c2), if_neg (by omega)]
  · rw [if_neg (fun x => c (y_i_le.mp x))]
    unfold zpp
    rw [if_pos (Or.inl (by omega))]
