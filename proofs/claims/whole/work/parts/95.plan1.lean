/-! PLAN, 1: the greatest gap for what goes out -/
def zm_g0 (d f : Nat → Int) (p : Nat) (k hi wn w v h : Int) : Int := if v < w then min hi (v - wn - (zm_pr d f p (w - v) h + k - 1) / k) else hi
def zm_gap (d f : Nat → Int) (p : Nat) (k lo hi wn w v h : Int) : Int := if zm_g0 d f p k hi wn w v h < lo then -1 else if 1 < v ∧ zm_bb d f p k (zm_g0 d f p k hi wn w v h + wn) w h (v - 1) = true then -1 else zm_g0 d f p k hi wn w v h
theorem zm_le_bb {d f : Nat → Int} {p : Nat} (hp : zm_pts d f p) {k o w h v : Int} (hk : 1 ≤ k) (hh : 0 ≤ h) (h1 : 1 ≤ v) (h2 : v < w) : zm_out d f p k o w h ≤ v ↔ zm_bb d f p k o w h v = true := by
  by_cases c : w ≤ o
  · rw [zm_out_open c]
    have a0 := zm_pr_0 hp hh (x := w - v) (by omega)
    have a1 : (v - o) * k ≤ (-1) * k := Int.mul_le_mul_of_nonneg_right (by omega) (by omega)
    unfold zm_bb
    rw [decide_eq_true_iff]
    omega
  · obtain ⟨a1, a2, a3, a4⟩ := zm_out_is hp (k := k) (o := o) (w := w) (h := h) (by omega) (by omega) (by omega)
    refine ⟨fun g => zm_bb_mono hp (by omega) hh g a3, fun g => ?_⟩
    rcases Int.lt_or_le v (zm_out d f p k o w h) with c1 | c1
    · rcases a4 with a4 | a4
      · omega
      · exact absurd (zm_bb_mono hp (by omega) hh (show v ≤ zm_out d f p k o w h - 1 by omega) g) a4
    · exact c1
theorem zm_bb_iff {d f : Nat → Int} {p : Nat} {k o w h v : Int} (hk : 1 ≤ k) : zm_bb d f p k o w h v = true ↔ o ≤ v - (zm_pr d f p (w - v) h + k - 1) / k := by
  unfold zm_bb
  rw [decide_eq_true_iff]
  generalize zm_pr d f p (w - v) h = P
  generalize hx : v - o = x
  have e1 := Int.emod_add_mul_ediv (P + k - 1) k
  have e2 := Int.emod_nonneg (P + k - 1) (show k ≠ 0 by omega)
  have e3 := Int.emod_lt_of_pos (P + k - 1) (show 0 < k by omega)
  generalize (P + k - 1) / k = c at *
  generalize (P + k - 1) % k = r at *
  have ec : k * c = c * k := Int.mul_comm _ _
  constructor
  · intro g
    rcases Int.lt_or_le x c with c1 | c1
    · have : x * k ≤ (c - 1) * k := Int.mul_le_mul_of_nonneg_right (by omega) (by omega)
      rw [Int.sub_mul] at this
      omega
    · omega
  · intro g
    have : c * k ≤ x * k := Int.mul_le_mul_of_nonneg_right (by omega) (by omega)
    omega
theorem zm_g0_is {d f : Nat → Int} {p : Nat} (hp : zm_pts d f p) {k hi wn w h v g : Int} (hk : 1 ≤ k) (hh : 0 ≤ h) (h1 : 1 ≤ v) (h2 : v ≤ w) (hg : g ≤ hi) : zm_out d f p k (g + wn) w h ≤ v ↔ g ≤ zm_g0 d f p k hi wn w v h := by
  unfold zm_g0
  by_cases c : v < w
  · rw [if_pos c, zm_le_bb hp hk hh h1 c, zm_bb_iff hk]
    omega
  · rw [if_neg c]
    have := (zm_out_r hp (k := k) (o := g + wn) (w := w) (h := h) (by omega) (by omega)).2
    omega
theorem zm_out_at {d f : Nat → Int} {p : Nat} (hp : zm_pts d f p) {k o w h v : Int} (hk : 1 ≤ k) (hh : 0 ≤ h) (h1 : 1 ≤ v) (h2 : v ≤ w) (hg : zm_out d f p k o w h ≤ v) : zm_out d f p k o w h = v ↔ ¬ (1 < v ∧ zm_bb d f p k o w h (v - 1) = true) := by
  have a1 := (zm_out_r hp (k := k) (o := o) (w := w) (h := h) (by omega) (by omega)).1
  by_cases c : 1 < v
  · have e := zm_le_bb hp (o := o) (w := w) hk hh (v := v - 1) (by omega) (by omega)
    rw [← e]
    omega
  · omega
theorem zm_gap_r {d f : Nat → Int} {p : Nat} {k lo hi wn w v h : Int} (hl : 0 ≤ lo) : zm_gap d f p k lo hi wn w v h = -1 ∨ 0 ≤ zm_gap d f p k lo hi wn w v h ∧ zm_gap d f p k lo hi wn w v h ≤ hi := by
  have e : zm_g0 d f p k hi wn w v h ≤ hi := by
    unfold zm_g0
    split <;> omega
  unfold zm_gap
  split
  · exact Or.inl rfl
  · split
    · exact Or.inl rfl
    · exact Or.inr (by omega)
/-- the greatest gap, found by halving -/
theorem zm_gap_eq {d f : Nat → Int} {p : Nat} (hp : zm_pts d f p) {k lo hi wn w h v : Int} (hk : 1 ≤ k) (hh : 0 ≤ h) (h1 : 1 ≤ v) (h2 : v ≤ w) (hlo : lo ≤ zm_g0 d f p k hi wn w v h) : zm_gap d f p k lo hi wn w v h = if zm_out d f p k (zm_g0 d f p k hi wn w v h + wn) w h = v then zm_g0 d f p k hi wn w v h else -1 := by
  have e : zm_g0 d f p k hi wn w v h ≤ hi := by
    unfold zm_g0
    split <;> omega
  have e2 := (zm_g0_is hp (wn := wn) (w := w) hk hh h1 h2 e).mpr (Int.le_refl _)
  have e3 := zm_out_at hp hk hh h1 h2 e2
  unfold zm_gap
  rw [if_neg (by omega)]
  by_cases c : 1 < v ∧ zm_bb d f p k (zm_g0 d f p k hi wn w v h + wn) w h (v - 1) = true
  · rw [if_pos c, if_neg (fun g => (e3.mp g) c)]
  · rw [if_neg c, if_pos (e3.mpr c)]
theorem zm_gap_no {d f : Nat → Int} {p : Nat} {k lo hi wn w h v : Int} (hlo : zm_g0 d f p k hi wn w v h < lo) : zm_gap d f p k lo hi wn w v h = -1 := by
  unfold zm_gap
  rw [if_pos hlo]
theorem zr_planGap (X : ZX) (d n ce sl : Nat) (I : Nat → Nat → Int32) (L : Nat → Nat → Int64) (t u r q g : Nat) (st : Nat → Option Nat) (s : Nat) (w h v : Int32) {p : Nat} (hL : zg_L p I) (hok : z_ok (118, n, ce, sl, I, L, z_rr t u r q g st) s 10 = true)
    (hw1 : w.toInt ≤ 60000) (hh0 : 0 ≤ h.toInt) (hh1 : h.toInt ≤ 99) (hv0 : 1 ≤ v.toInt) (hv1 : v.toInt ≤ w.toInt) (hk0 : 1 ≤ (I s 0).toInt) (hk1 : (I s 0).toInt ≤ 999) (hl : 0 ≤ (I s 2).toInt) (hlh : (I s 2).toInt ≤ (I s 3).toInt) (hhi : (I s 3).toInt ≤ 60000) (hr : 0 ≤ (I s 9).toInt) :
    z_pu (z_run X z_cf z_ff (d + 5)) 107 [.ref s, .ref 2, .int w, .int h, .int v] (118, n, ce, sl, I, L, z_rr t u r q g st) = some (.inl (some (.int (Int32.ofInt (zm_gap (zd I) (zf I) p (I s 0).toInt (I s 2).toInt (I s 3).toInt ((I s 9).toInt / 1000) w.toInt v.toInt h.toInt)))), (118, n, ce, sl, I, L, z_rr t u r q g st)) := by
  have hP := hL.2.2.2.1
  have z10 : ¬ (Int32.ofInt 1 : Int32) = 0 := by decide
  have z00 : (Int32.ofInt 0 : Int32) = 0 := rfl
  have h1 : (Int32.ofInt 1).toInt = 1 := rfl
  have ew : (I s 9 / Int32.ofInt 1000).toInt = (I s 9).toInt / 1000 := y_dv hr (show (0 : Int) < 1000 by omega)
  have hw9 := y_hi (I s 9)
  have h1000 : ¬ (Int32.ofInt 1000 : Int32) = 0 := by decide
  refine z_en X (d + 2) _ _ [(0, .ref s), (1, .ref 2), (2, .int w), (3, .int h), (4, .int v)] _ _ rfl rfl rfl ?_
  -- what comes behind the gap that is found
  have tail : ∀ (M : Nat) (G wn : Int32), G.toInt = zm_g0 (zd I) (zf I) p (I s 0).toInt (I s 3).toInt ((I s 9).toInt / 1000) w.toInt v.toInt h.toInt → wn.toInt = (I s 9).toInt / 1000 →
      (if I s 2 ≤ G then if v ≤ Int32.ofInt 1 then if (Int32.ofInt 0 : Int32) = 0 then some (.inl (some (.int G)), (118, n, ce, sl, I, L, z_rr t u r q g st)) else some (.inl (some (.int (Int32.ofInt (-1)))), (118, n, ce, sl, I, L, z_rr t u r q g st)) else z_gd (z_ok (118, n, ce, sl, I, L, z_rr t u r q g st) s 10) (z_bi (z_x [] 102) (z_pu (z_run X z_cf z_ff (d + 4)) 53 [.ref s, .ref 2, .int w, .int h, .int (G + wn), .int (v - Int32.ofInt 1)] (118, n, ce, sl, I, L, z_rr t u r q g st)) (fun x y => z_loop X z_cf z_ff (z_pu (z_run X z_cf z_ff (d + 4))) 107 (M + 1) 105 [(6, .int G)] [.int x] y)) else some (.inl (some (.int (Int32.ofInt (-1)))), (118, n, ce, sl, I, L, z_rr t u r q g st)) : ZR) = some (.inl (some (.int (Int32.ofInt (zm_gap (zd I) (zf I) p (I s 0).toInt (I s 2).toInt (I s 3).toInt ((I s 9).toInt / 1000) w.toInt v.toInt h.toInt)))), (118, n, ce, sl, I, L, z_rr t u r q g st)) := by
    intro M G wn hG hwn
    have hGhi : G.toInt ≤ (I s 3).toInt := by
      rw [hG]
      unfold zm_g0
      split <;> omega
    by_cases c : (I s 2).toInt ≤ G.toInt
    · rw [if_pos (y_i_le.mpr c)]
      have ev : (v - Int32.ofInt 1).toInt = v.toInt - 1 := y_sbl (by omega) (by omega) (by omega) (by omega)
      have eo : (G + wn).toInt = G.toInt + (I s 9).toInt / 1000 := by rw [y_ad (by omega) (by omega), hwn]
      have eG : Int32.ofInt G.toInt = G := y_ofi G
      by_cases c1 : v.toInt ≤ 1
      · rw [if_pos (by rw [y_i_le, h1]; exact c1), if_pos z00]
        unfold zm_gap
        rw [← hG, if_neg (by omega), if_neg (by omega), eG]
      · rw [if_neg (by rw [y_i_le, h1]; exact c1), hok, z_gd_t, zr_isBorne X d n ce sl I L t u r q g st s w h (G + wn) (v - Int32.ofInt 1) hL hok hw1 hh0 hh1 (by omega) (by omega) (by omega) (by omega) (by omega) hk1, z_bi_v, zb_Stand_planGap_105, eo, ev]
        unfold zm_gap
        rw [← hG, if_neg (show ¬ G.toInt < (I s 2).toInt by omega)]
        by_cases c2 : zm_bb (zd I) (zf I) p (I s 0).toInt (G.toInt + (I s 9).toInt / 1000) w.toInt h.toInt (v.toInt - 1) = true
        · rw [if_pos c2, if_neg z10, if_neg z10, if_pos ⟨by omega, c2⟩]
        · rw [if_neg c2, if_pos z00, if_pos z00, if_neg (fun g => c2 g.2), eG]
    · rw [if_neg (fun g => c (y_i_le.mp g)), zm_gap_no (by omega)]
  rw [show (100000000 : Nat) = 99999997 + 1 + 1 + 1 by omega, zb_Stand_planGap_0, hok, z_gd_t, if_pos (by rw [y_i_le, h1]; exact hk0), z_gd_t, if_neg h1000, z_gd_t]
  by_cases c : w.toInt ≤ v.toInt
  · rw [if_pos (y_i_le.mpr c), z_gd_t]
    have hG : (I s 3).toInt = zm_g0 (zd I) (zf I) p (I s 0).toInt (I s 3).toInt ((I s 9).toInt / 1000) w.toInt v.toInt h.toInt := by
      unfold zm_g0
      rw [if_neg (by omega)]
    have tt := tail (99999997 + 1) (I s 3) (I s 9 / Int32.ofInt 1000) hG ew
    rw [hok] at tt
    exact tt
  · rw [if_neg (fun g => c (y_i_le.mp g))]
    have ed : (w - v).toInt = w.toInt - v.toInt := y_sb (by omega) (by omega)
    have a0 := zm_pr_0 hP hh0 (x := w.toInt - v.toInt) (by omega)
    have a1 := zm_pr_top (zd I) (zf I) p (w.toInt - v.toInt) h.toInt
    rw [zr_pressFor X (d + 1) n ce sl I L t u r q g st (w - v) h hL (by omega) (by omega) hh0 hh1, z_bi_v, ed, zb_Stand_planGap_41, hok, z_gd_t, z_gd_t, if_neg (by rw [y_i_eq, y_i0]; omega), z_gd_t, z_gd_t]
    generalize hP' : zm_pr (zd I) (zf I) p (w.toInt - v.toInt) h.toInt = P at *
    have eP : (Int32.ofInt P).toInt = P := y_oi (by omega) (by omega)
    have e1 : (Int32.ofInt P + I s 0).toInt = P + (I s 0).toInt := by rw [y_ad (by omega) (by omega), eP]
    have e2 : (Int32.ofInt P + I s 0 - Int32.ofInt 1).toInt = P + (I s 0).toInt - 1 := by rw [y_sbl (by omega) (by omega) (by omega) (by omega), e1]
    have e3 : ((Int32.ofInt P + I s 0 - Int32.ofInt 1) / I s 0).toInt = (P + (I s 0).toInt - 1) / (I s 0).toInt := by rw [y_dv (by omega) (by omega), e2]
    have b0 : 0 ≤ (P + (I s 0).toInt - 1) / (I s 0).toInt := Int.ediv_nonneg (by omega) (by omega)
    have b1 : (P + (I s 0).toInt - 1) / (I s 0).toInt ≤ P + (I s 0).toInt - 1 := Int.ediv_le_self _ (by omega)
    have e4 : (v - I s 9 / Int32.ofInt 1000).toInt = v.toInt - (I s 9).toInt / 1000 := by rw [y_sb (by omega) (by omega), ew]
    have e5 : (v - I s 9 / Int32.ofInt 1000 - (Int32.ofInt P + I s 0 - Int32.ofInt 1) / I s 0).toInt = v.toInt - (I s 9).toInt / 1000 - (P + (I s 0).toInt - 1) / (I s 0).toInt := by rw [y_sb (by omega) (by omega), e4, e3]
    have hG : (z_mni (I s 3) (v - I s 9 / Int32.ofInt 1000 - (Int32.ofInt P + I s 0 - Int32.ofInt 1) / I s 0)).toInt = zm_g0 (zd I) (zf I) p (I s 0).toInt (I s 3).toInt ((I s 9).toInt / 1000) w.toInt v.toInt h.toInt := by
      unfold zm_g0
      rw [if_pos (by omega), y_mni, e5, hP']
    have tt := tail 99999997 _ (I s 9 / Int32.ofInt 1000) hG ew
    rw [hok] at tt
    exact tt
theorem z_half1 {a b : Int32} (h1 : 0 ≤ a.toInt) (h2 : a.toInt < b.toInt) (h3 : b.toInt ≤ 60000) : ((a + b + Int32.ofInt 1) / Int32.ofInt 2).toInt = (a.toInt + b.toInt + 1) / 2 := by
  have e1 : (a + b).toInt = a.toInt + b.toInt := y_ad (by omega) (by omega)
  have e2 : (a + b + Int32.ofInt 1).toInt = a.toInt + b.toInt + 1 := by rw [y_adl (by omega) (by omega) (by omega) (by omega), e1]
  have h22 : (Int32.ofInt 2).toInt = 2 := rfl
  rw [y_dv (by omega) (by omega), e2, h22]
theorem zr_gapFor_loop (X : ZX) (d m ce sl : Nat) (I : Nat → Nat → Int32) (L : Nat → Nat → Int64) (t u r q : Nat) (s w h v : Int32) {p : Nat} (hL : zg_L p I) (hs0 : 0 ≤ s.toInt) (hs1 : s.toInt < 5)
    (hw1 : w.toInt ≤ 60000) (hh0 : 0 ≤ h.toInt) (hh1 : h.toInt ≤ 99) (hv0 : 1 ≤ v.toInt) (hv1 : v.toInt ≤ w.toInt) (hk0 : 1 ≤ (I 56 s.toNatClampNeg).toInt) (hk1 : (I 56 s.toNatClampNeg).toInt ≤ 999) (hl : 0 ≤ (I 58 s.toNatClampNeg).toInt) (hhi : (I 59 s.toNatClampNeg).toInt ≤ 60000) (hr : 0 ≤ (I 65 s.toNatClampNeg).toInt)
    (hlo : (I 58 s.toNatClampNeg).toInt ≤ zm_g0 (zd I) (zf I) p (I 56 s.toNatClampNeg).toInt (I 59 s.toNatClampNeg).toInt ((I 65 s.toNatClampNeg).toInt / 1000) w.toInt v.toInt h.toInt) (k : Nat) : ∀ (M : Nat) (a b : Int32), (I 58 s.toNatClampNeg).toInt ≤ a.toInt → a.toInt ≤ zm_g0 (zd I) (zf I) p (I 56 s.toNatClampNeg).toInt (I 59 s.toNatClampNeg).toInt ((I 65 s.toNatClampNeg).toInt / 1000) w.toInt v.toInt h.toInt → zm_g0 (zd I) (zf I) p (I 56 s.toNatClampNeg).toInt (I 59 s.toNatClampNeg).toInt ((I 65 s.toNatClampNeg).toInt / 1000) w.toInt v.toInt h.toInt ≤ b.toInt → b.toInt ≤ (I 59 s.toNatClampNeg).toInt → b.toInt - a.toInt ≤ k →
    z_loop X z_cf z_ff (z_pu (z_run X z_cf z_ff (d + 4))) 231 (M + 3 * k + 3) 37 [(0, .ref 55), (1, .int s), (2, .int w), (3, .int v), (4, .int h), (5, .int a), (6, .int b)] [] (118, z_sd m, ce, sl, I, L, z_rr t u r q (z_gg m) (z_sf m)) = some (.inl (some (.int (Int32.ofInt (zm_gap (zd I) (zf I) p (I 56 s.toNatClampNeg).toInt (I 58 s.toNatClampNeg).toInt (I 59 s.toNatClampNeg).toInt ((I 65 s.toNatClampNeg).toInt / 1000) w.toInt v.toInt h.toInt)))), (118, z_sd m, ce, sl, I, L, z_rr t u r q (z_gg m) (z_sf m))) := by
  have hP := hL.2.2.2.1
  have hin : z_in s 5 = true := y_in_t hs0 hs1
  have h1000 : ¬ (Int32.ofInt 1000 : Int32) = 0 := by decide
  have hge := zm_gap_eq hP (k := (I 56 s.toNatClampNeg).toInt) (lo := (I 58 s.toNatClampNeg).toInt) (hi := (I 59 s.toNatClampNeg).toInt) (wn := (I 65 s.toNatClampNeg).toInt / 1000) hk0 hh0 hv0 hv1 hlo
  have hout := fun x => zm_g0_is hP (k := (I 56 s.toNatClampNeg).toInt) (hi := (I 59 s.toNatClampNeg).toInt) (wn := (I 65 s.toNatClampNeg).toInt / 1000) (g := x) hk0 hh0 hv0 hv1
  generalize zm_g0 (zd I) (zf I) p (I 56 s.toNatClampNeg).toInt (I 59 s.toNatClampNeg).toInt ((I 65 s.toNatClampNeg).toInt / 1000) w.toInt v.toInt h.toInt = G at *
  have call : ∀ o : Int32, 0 ≤ o.toInt → o.toInt ≤ 60000 → z_pu (z_run X z_cf z_ff (d + 4)) 176 [.ref 55, .int s, .int w, .int h, .int (o + I 65 s.toNatClampNeg / Int32.ofInt 1000)] (118, z_sd m, ce, sl, I, L, z_rr t u r q (z_gg m) (z_sf m)) = some (.inl (some (.int (Int32.ofInt (zm_out (zd I) (zf I) p (I 56 s.toNatClampNeg).toInt (o.toInt + (I 65 s.toNatClampNeg).toInt / 1000) w.toInt h.toInt)))), (118, z_sd m, ce, sl, I, L, z_rr t u r q (z_gg m) (z_sf m))) := by
    intro o o0 o1
    obtain ⟨q1, q2, q3⟩ := z_open (a := o) (b := I 65 s.toNatClampNeg) o0 (by omega) hr
    rw [zr_outOf X d (z_sd m) ce sl I L t u r q (z_gg m) (z_sf m) s w h (o + I 65 s.toNatClampNeg / Int32.ofInt 1000) hL hs0 hs1 (by omega) hw1 hh0 hh1 (by omega) (by omega) (by omega) hk1, q1]
  have rng : ∀ o : Int, (Int32.ofInt (zm_out (zd I) (zf I) p (I 56 s.toNatClampNeg).toInt o w.toInt h.toInt)).toInt = zm_out (zd I) (zf I) p (I 56 s.toNatClampNeg).toInt o w.toInt h.toInt := by
    intro o
    have := zm_out_r hP (k := (I 56 s.toNatClampNeg).toInt) (o := o) (w := w.toInt) (h := h.toInt) (by omega) (by omega)
    exact y_oi (by omega) (by omega)
  induction k with
  | zero =>
    intro M a b h1 h2 h3 h4 h5
    have ea : a.toInt = G := by omega
    rw [show M + 3 * 0 + 3 = (M + 1) + 2 by omega, zt_M_gapFor_37 X (d + 1), if_pos (by rw [y_i_le]; omega), hin, z_gd_t, if_neg h1000, call a (by omega) (by omega), z_bi_v, zb_M_gapFor_105, hge, ← ea]
    by_cases c : zm_out (zd I) (zf I) p (I 56 s.toNatClampNeg).toInt (a.toInt + (I 65 s.toNatClampNeg).toInt / 1000) w.toInt h.toInt = v.toInt
    · rw [if_pos (by rw [y_i_eq, rng]; exact c), if_pos c, y_ofi]
    · rw [if_neg (by rw [y_i_eq, rng]; exact c), if_neg c]
  | succ k ih =>
    intro M a b h1 h2 h3 h4 h5
    by_cases hab : a.toInt = b.toInt
    · have ea : a.toInt = G := by omega
      rw [show M + 3 * (k + 1) + 3 = (M + 3 * k + 3 + 1) + 2 by omega, zt_M_gapFor_37 X (d + 1), if_pos (by rw [y_i_le]; omega), hin, z_gd_t, if_neg h1000, call a (by omega) (by omega), z_bi_v, zb_M_gapFor_105, hge, ← ea]
      by_cases c : zm_out (zd I) (zf I) p (I 56 s.toNatClampNeg).toInt (a.toInt + (I 65 s.toNatClampNeg).toInt / 1000) w.toInt h.toInt = v.toInt
      · rw [if_pos (by rw [y_i_eq, rng]; exact c), if_pos c, y_ofi]
      · rw [if_neg (by rw [y_i_eq, rng]; exact c), if_neg c]
    · have em := z_half1 (a := a) (b := b) (by omega) (by omega) (by omega)
      rw [show M + 3 * (k + 1) + 3 = (M + 3 * k + 3 + 1) + 2 by omega, zt_M_gapFor_37 X (d + 1), if_neg (by rw [y_i_le]; omega), if_neg z_i2z, hin, z_gd_t, if_neg h1000]
      generalize (a + b + Int32.ofInt 1) / Int32.ofInt 2 = c at *
      rw [call c (by omega) (by omega), z_bi_v, zb_M_gapFor_70]
      have hh := hout c.toInt (by omega)
      by_cases c1 : c.toInt ≤ G
      · rw [if_neg (by rw [y_i_lt, rng]; have := hh.mpr c1; omega)]
        exact ih M c b (by omega) c1 h3 h4 (by omega)
      · have e1 : (c - Int32.ofInt 1).toInt = c.toInt - 1 := y_sbl (by omega) (by omega) (by omega) (by omega)
        rw [if_pos (by rw [y_i_lt, rng]; have := fun x => c1 (hh.mp x); omega)]
        exact ih M a (c - Int32.ofInt 1) h1 h2 (by omega) (by omega) (by omega)
theorem zr_gapFor (X : ZX) (d m ce sl : Nat) (I : Nat → Nat → Int32) (L : Nat → Nat → Int64) (t u r q : Nat) (s w h v : Int32) {p : Nat} (hL : zg_L p I) (hs0 : 0 ≤ s.toInt) (hs1 : s.toInt < 5)
    (hw1 : w.toInt ≤ 60000) (hh0 : 0 ≤ h.toInt) (hh1 : h.toInt ≤ 99) (hv0 : 1 ≤ v.toInt) (hv1 : v.toInt ≤ w.toInt) (hk0 : 1 ≤ (I 56 s.toNatClampNeg).toInt) (hk1 : (I 56 s.toNatClampNeg).toInt ≤ 999) (hl : 0 ≤ (I 58 s.toNatClampNeg).toInt) (hlh : (I 58 s.toNatClampNeg).toInt ≤ (I 59 s.toNatClampNeg).toInt) (hhi : (I 59 s.toNatClampNeg).toInt ≤ 60000) (hr : 0 ≤ (I 65 s.toNatClampNeg).toInt) :
    z_pu (z_run X z_cf z_ff (d + 5)) 231 [.ref 55, .int s, .int w, .int v, .int h] (118, z_sd m, ce, sl, I, L, z_rr t u r q (z_gg m) (z_sf m)) = some (.inl (some (.int (Int32.ofInt (zm_gap (zd I) (zf I) p (I 56 s.toNatClampNeg).toInt (I 58 s.toNatClampNeg).toInt (I 59 s.toNatClampNeg).toInt ((I 65 s.toNatClampNeg).toInt / 1000) w.toInt v.toInt h.toInt)))), (118, z_sd m, ce, sl, I, L, z_rr t u r q (z_gg m) (z_sf m))) := by
  have hP := hL.2.2.2.1
  have hin : z_in s 5 = true := y_in_t hs0 hs1
  have h1000 : ¬ (Int32.ofInt 1000 : Int32) = 0 := by decide
  refine z_en X (d + 2) _ _ [(0, .ref 55), (1, .int s), (2, .int w), (3, .int v), (4, .int h)] _ _ rfl rfl rfl ?_
  obtain ⟨q1, q2, q3⟩ := z_open (a := I 58 s.toNatClampNeg) (b := I 65 s.toNatClampNeg) hl (by omega) hr
  have hr2 := zm_out_r hP (k := (I 56 s.toNatClampNeg).toInt) (o := (I 58 s.toNatClampNeg).toInt + (I 65 s.toNatClampNeg).toInt / 1000) (w := w.toInt) (h := h.toInt) (by omega) (by omega)
  have hh := zm_g0_is hP (k := (I 56 s.toNatClampNeg).toInt) (hi := (I 59 s.toNatClampNeg).toInt) (wn := (I 65 s.toNatClampNeg).toInt / 1000) (g := (I 58 s.toNatClampNeg).toInt) hk0 hh0 hv0 hv1 hlh
  have hg : zm_g0 (zd I) (zf I) p (I 56 s.toNatClampNeg).toInt (I 59 s.toNatClampNeg).toInt ((I 65 s.toNatClampNeg).toInt / 1000) w.toInt v.toInt h.toInt ≤ (I 59 s.toNatClampNeg).toInt := by
    unfold zm_g0
    split <;> omega
  rw [show (100000000 : Nat) = (99999997 + 1) + 2 by omega, zt_M_gapFor_0 X (d + 1), hin, z_gd_t, z_gd_t, z_gd_t, if_neg h1000, zr_outOf X d (z_sd m) ce sl I L t u r q (z_gg m) (z_sf m) s w h (I 58 s.toNatClampNeg + I 65 s.toNatClampNeg / Int32.ofInt 1000) hL hs0 hs1 (by omega) hw1 hh0 hh1 (by omega) (by omega) (by omega) hk1, z_bi_v, zb_M_gapFor_31, q1]
  by_cases c : zm_out (zd I) (zf I) p (I 56 s.toNatClampNeg).toInt ((I 58 s.toNatClampNeg).toInt + (I 65 s.toNatClampNeg).toInt / 1000) w.toInt h.toInt ≤ v.toInt
  · rw [if_pos (by rw [y_i_le, y_oi (by omega) (by omega)]; exact c), show (99999997 : Nat) = 99819994 + 3 * 60000 + 3 by omega]
    exact zr_gapFor_loop X d m ce sl I L t u r q s w h v hL hs0 hs1 hw1 hh0 hh1 hv0 hv1 hk0 hk1 hl hhi hr (hh.mp c) 60000 _ _ _ (Int.le_refl _) (hh.mp c) hg (Int.le_refl _) (by omega)
  · rw [if_neg (by rw [y_i_le, y_oi (by omega) (by omega)]; exact c), zm_gap_no (by have := fun x => c (hh.mpr x); omega)]
