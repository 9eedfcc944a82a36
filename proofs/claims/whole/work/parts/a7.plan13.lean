/-! PLAN, 13: the best plan that is kept, in the model -/
theorem zpp_pr {I : Nat → Nat → Int32} {p s : Nat} {h0 : Int32} {w v : Int} (h : zpp I p s h0 w v ≠ -1) : zpp I p s h0 w v = zm_pr (zd I) (zf I) p (w - v) (zhw I h0 s) := by
  unfold zpp at *
  by_cases c : w < v ∨ (I 57 s).toInt < zm_pr (zd I) (zf I) p (w - v) (zhw I h0 s) ∨ zgp I p s h0 w v = -1
  · rw [if_pos c] at h
    exact absurd rfl h
  · rw [if_neg c]
theorem zr_keeps (X : ZX) (d m ce sl : Nat) (I : Nat → Nat → Int32) (L : Nat → Nat → Int64) (t u r q : Nat) {C p P N gl : Nat} (hS : zg_S C m I) (hL : zg_L p I) (h0 : Int32) (hh0 : 0 ≤ h0.toInt) (hh1 : h0.toInt ≤ 99) {PP : Nat → Int32} {a : Int32} {F : Nat → Int32} (hst : zStp PP P a F N) (hth : zThs PP P a (zth I)) (hrg : ∀ i, i < N → 1 ≤ (F i).toInt ∧ (F i).toInt ≤ 60000) {B : Int} (x2 : Int64) (hB : x2.toInt = B)
    (hI : ∀ s, s < m → ∀ f, f < 13 → ∀ k, k < 13 → I 97 (169 * s + 13 * f + k) = Int32.ofInt (ztb I p P h0 (zth I) s f k)) (hrow : ∀ s, s ≤ m → ∀ k, k < 13 → (L 96 (13 * s + k)).toInt = zNV ∨ 0 ≤ (L 96 (13 * s + k)).toInt ∧ (L 96 (13 * s + k)).toInt ≤ 1000000000) (hcl : ∀ r, r ≤ m → ∀ f, f < 13 → (f < P ∨ f = 12) → ∀ i, i < N → zth I f = F i → (L 96 (13 * (m - r) + f)).toInt = zS (zpF I p h0 m F) N gl B r i) (hSn : zS (zpF I p h0 m F) N gl B m 0 ≠ zNV) : ∃ K : Nat → Nat → Int32, z_pu (z_run X z_cf z_ff (d + 7)) 234 [.ref 55, .int h0, .long x2] (118, z_sd m, ce, sl, I, L, z_rr t u r q (z_gg m) (z_sf m)) = some (.inl none, (118, z_sd m, ce, sl, K, L, z_rr t u r q (z_gg m) (z_sf m))) ∧
    (∀ x, x ≠ 55 → x ≠ 92 → x ≠ 93 → x ≠ 94 → K x = I x) ∧ (∀ j, j ≠ 65 → K 55 j = I 55 j) ∧ K 55 65 = Int32.ofNat m ∧ (∀ s, s < m → K 92 s = F (zgi (zpF I p h0 m F) N gl B m (s + 1)) ∧ K 93 s = Int32.ofInt (zm_pr (zd I) (zf I) p ((F (zgi (zpF I p h0 m F) N gl B m s)).toInt - (F (zgi (zpF I p h0 m F) N gl B m (s + 1))).toInt) (zhw I h0 s)) ∧ K 94 s = Int32.ofInt (zgp I p s h0 (F (zgi (zpF I p h0 m F) N gl B m s)).toInt (F (zgi (zpF I p h0 m F) N gl B m (s + 1))).toInt)) := by
  have h5 := hS.1
  have hm := hS.2.2.1
  have hNV : zNV = 1000000000000000 := rfl
  have h13 : (Int32.ofInt 13).toInt = 13 := rfl
  have h99 : (Int32.ofInt 99).toInt = 99 := rfl
  have hp9 := zpF_r hS hL hh0 F
  have hpok : zpok (zpF I p h0 m F) := fun r i j => by have := hp9 r i j; omega
  have hTok : ∀ s, s < m → ∀ f, zTok (ztb I p P h0 (zth I) s f) := by
    intro s hs f k
    unfold ztb
    by_cases c1 : f < P ∨ f = 12
    · rw [if_pos c1]
      by_cases c2 : k < P ∨ k = 12
      · rw [if_pos c2]
        exact zpp_r hS hL hh0 hs _ _
      · rw [if_neg c2]
        exact Or.inl rfl
    · rw [if_neg c1]
      exact Or.inl rfl
  have hN1 := hst.1
  have hgi := fun k hk => zgi_is hpok h5 hN1 hSn k hk
  obtain ⟨G, hG⟩ : ∃ G, G = zgi (zpF I p h0 m F) N gl B m := ⟨_, rfl⟩
  rw [← hG] at hgi
  rw [← hG]
  have lp : ∀ n, ∀ (s f : Nat) (J : Nat → Nat → Int32) (x4 x5 x6 : Int32), s + n = m → x6.toInt = s → f < 13 → (f < P ∨ f = 12) → x4.toInt = f → zth I f = F (G s) → x5.toInt = zhw I h0 s → (∀ x, x ≠ 55 → x ≠ 92 → x ≠ 93 → x ≠ 94 → J x = I x) → (∀ j, j ≠ 65 → J 55 j = I 55 j) → J 55 65 = Int32.ofNat m → (∀ s', s' < s → J 92 s' = F (G (s' + 1)) ∧ J 93 s' = Int32.ofInt (zm_pr (zd I) (zf I) p ((F (G s')).toInt - (F (G (s' + 1))).toInt) (zhw I h0 s')) ∧ J 94 s' = Int32.ofInt (zgp I p s' h0 (F (G s')).toInt (F (G (s' + 1))).toInt)) →
      ∃ K : Nat → Nat → Int32, (∀ M, z_loop X z_cf z_ff (z_pu (z_run X z_cf z_ff (d + 6))) 234 (M + 47 * n + 1) 18 [(0, .ref 55), (2, .long x2), (4, .int x4), (5, .int x5), (6, .int x6)] [] (118, z_sd m, ce, sl, J, L, z_rr t u r q (z_gg m) (z_sf m)) = some (.inl none, (118, z_sd m, ce, sl, K, L, z_rr t u r q (z_gg m) (z_sf m)))) ∧
        (∀ x, x ≠ 55 → x ≠ 92 → x ≠ 93 → x ≠ 94 → K x = I x) ∧ (∀ j, j ≠ 65 → K 55 j = I 55 j) ∧ K 55 65 = Int32.ofNat m ∧ (∀ s, s < m → K 92 s = F (G (s + 1)) ∧ K 93 s = Int32.ofInt (zm_pr (zd I) (zf I) p ((F (G s)).toInt - (F (G (s + 1))).toInt) (zhw I h0 s)) ∧ K 94 s = Int32.ofInt (zgp I p s h0 (F (G s)).toInt (F (G (s + 1))).toInt)) := by
    intro n
    induction n with
    | zero =>
      intro s f J x4 x5 x6 h1 h2 h3 h3' h4 h6 h7 q1 q2 q3 q4
      have e : s = m := by omega
      subst e
      refine ⟨J, fun M => ?_, q1, q2, q3, q4⟩
      rw [show M + 47 * 0 + 1 = M + 1 by omega, zb_M_keeps_18, if_pos (by rw [q2 1 (by omega), hm, y_i_le, y_on (by omega)]; omega)]
    | succ n ih =>
      intro s f J x4 x5 x6 h1 h2 h3 h3' h4 h6 h7 q1 q2 q3 q4
      have hs : s < m := by omega
      have hx6n : x6.toNatClampNeg = s := by rw [y_tn, h2]; rfl
      have hin6 : z_in x6 5 = true := y_in_t (by omega) (by omega)
      have hF : zPF I J := ⟨fun a a1 a2 a3 => q1 a a2 (by omega) (by omega) (by omega), by rw [q2 1 (by omega)], by rw [q2 13 (by omega)]⟩
      have hJth : ∀ k, zth J k = zth I k := by
        intro k
        unfold zth
        rw [q2 72 (by omega), q1 91 (by omega) (by omega) (by omega) (by omega)]
      have hJ97 : J 97 = I 97 := q1 97 (by omega) (by omega) (by omega) (by omega)
      have hsm : s ≤ m := by omega
      have hsm1 : s + 1 ≤ m := by omega
      have hGs := (hgi s hsm).1
      have hGn := (hgi (s + 1) hsm1).1
      obtain ⟨gA, gB, gC⟩ := (hgi m (Nat.le_refl _)).2.2 s hs
      obtain ⟨z1, z2, z3, z4⟩ := zgc_is gB
      have er : m - 1 - s < m := by omega
      have es : s = m - 1 - (m - 1 - s) := by omega
      have er1 : m - (m - 1 - s) = s + 1 := by omega
      have er2 : m - (m - 1 - s + 1) = s := by omega
      have hclR := hcl (m - 1 - s) (by omega)
      have hclS := hcl (m - 1 - s + 1) (by omega) f h3 h3' (G s) hGs h6
      rw [er1] at hclR
      rw [er2] at hclS
      obtain ⟨x7, x8, w1, w2, w3⟩ := zr_found X (d + 3) (z_sd m) ce sl J L t u r q (z_gg m) (z_sf m) (s := s) (f := f) (by omega) h3 (ztb I p P h0 (zth I) s f) (fun k => (L 96 (13 * (s + 1) + k)).toInt) ((L 96 (13 * s + f)).toInt) (hTok s hs f) (fun k hk => by rw [hJ97]; exact hI s hs f h3 k hk) (fun k hk => rfl) (fun k hk => hrow (s + 1) hsm1 k hk) rfl x2 x4 x5 x6 h2 h4 13 0 (Int32.ofInt (-1)) (Int32.ofInt 0) (by omega) rfl (Or.inl ⟨rfl, fun j hj => by omega⟩)
      -- the one that is found is the class's
      obtain ⟨g0, b1, b2, b3, b4⟩ := ztb_of (I := I) (p := p) (h0 := h0) hst hth (r := m - 1 - s) (j := G (s + 1)) er es h3' h6 hGn
      have hg0c : zkc x2.toInt (ztb I p P h0 (zth I) s f) (fun k => (L 96 (13 * (s + 1) + k)).toInt) ((L 96 (13 * s + f)).toInt) g0 := by
        have e := hclR g0 b1 b2 (G (s + 1)) hGn b3
        refine ⟨by rw [← b4]; exact z1, by rw [← b4, hB]; exact z2, ?_, ?_⟩
        · show (L 96 (13 * (s + 1) + g0)).toInt ≠ zNV
          rw [e]
          exact z3
        · show (L 96 (13 * (s + 1) + g0)).toInt + _ = _
          rw [e, ← b4, hclS, ← z4]
          omega
      obtain ⟨c, c1, c2, c3, c4⟩ : ∃ c : Nat, c < 13 ∧ x7.toInt = c ∧ zkc x2.toInt (ztb I p P h0 (zth I) s f) (fun k => (L 96 (13 * (s + 1) + k)).toInt) ((L 96 (13 * s + f)).toInt) c ∧ ∀ j, j < 13 → zkc x2.toInt (ztb I p P h0 (zth I) s f) (fun k => (L 96 (13 * (s + 1) + k)).toInt) ((L 96 (13 * s + f)).toInt) j → (zth J j).toInt ≤ (zth J c).toInt := by
        rcases w2 with w2 | w2
        · exact absurd hg0c (w2.2 g0 b1)
        · exact w2
      obtain ⟨k1, k2, k3, k4⟩ := c3
      obtain ⟨d1, j, d2, d3, d4, d5⟩ := ztb_to (I := I) (p := p) (h0 := h0) hst hth (r := m - 1 - s) er es h3' hGs h6 k1
      have hle0 := c4 g0 b1 hg0c
      rw [hJth, hJth, b3, d4] at hle0
      have hjc : zgc (zpF I p h0 m F) N gl B (m - 1 - s) (G s) j = true := by
        have e := hclR c c1 d1 j d3 d4
        have k3' : (L 96 (13 * (s + 1) + c)).toInt ≠ zNV := k3
        have k4' : (L 96 (13 * (s + 1) + c)).toInt + ztb I p P h0 (zth I) s f c = (L 96 (13 * s + f)).toInt := k4
        rw [e] at k3' k4'
        unfold zgc
        rw [decide_eq_true_iff, d5]
        refine ⟨?_, by rw [← hclS, ← k4']; omega⟩
        intro x
        rcases x with x | x | x
        · exact k1 x
        · omega
        · exact k3' x
      have hj : j = G (s + 1) := by
        rcases Nat.lt_trichotomy j (G (s + 1)) with x | x | x
        · have := gC j d2 x
          rw [hjc] at this
          exact absurd this (by decide)
        · exact x
        · have := (zStp_le hst j d3 (G (s + 1)) (by omega)).2 x
          omega
      rw [hj] at d4 d5
      have hr1 := hrg (G (s + 1)) hGn
      have hr0 := hrg (G s) hGs
      have hle1 := (zStp_le hst (G (s + 1)) hGn (G s) gA).1
      have hwr := zhw_r hS hh0 hsm
      obtain ⟨⟨s0, s1, s2, s3, s4, s5, s6, s7, s8, s9, s10⟩, f1, f2, f3, f4, f5, f6, f7, f8, f9, f10, f11, f12, f13, f14, f15, f16, f17, f18⟩ := hS.2.2.2.1 s hs
      have hix := z_tix h2 h4 c2 (by omega) h3 c1
      have hixn : (Int32.ofInt 169 * x6 + Int32.ofInt 13 * x4 + x7).toNatClampNeg = 169 * s + 13 * f + c := by rw [y_tn, hix]; rfl
      have hin : z_in (Int32.ofInt 169 * x6 + Int32.ofInt 13 * x4 + x7) 845 = true := y_in_t (by omega) (by omega)
      obtain ⟨V, hV⟩ : ∃ V, V = Int32.ofInt (ztb I p P h0 (zth I) s f c) := ⟨_, rfl⟩
      have hVe : V = Int32.ofInt (zm_pr (zd I) (zf I) p ((F (G s)).toInt - (F (G (s + 1))).toInt) (zhw I h0 s)) := by
        rw [hV, ← d5]
        have e : zpF I p h0 m F (m - 1 - s) (G s) (G (s + 1)) = zpp I p s h0 (F (G s)).toInt (F (G (s + 1))).toInt := by
          unfold zpF
          rw [if_pos er, ← es]
        rw [e] at z1 ⊢
        rw [zpp_pr z1]
      obtain ⟨U, hU⟩ : ∃ U, U = Int32.ofInt (zgp I p s h0 (F (G s)).toInt (F (G (s + 1))).toInt) := ⟨_, rfl⟩
      have hF1 : zPF I (z_up (z_up J 92 s (F (G (s + 1)))) 93 s V) := zPF_trans hF ⟨fun a a1 a2 a3 => by rw [z_up_r _ _ _ _ _ (by omega), z_up_r _ _ _ _ _ (by omega)], by rw [z_up_r _ _ _ _ _ (by omega), z_up_r _ _ _ _ _ (by omega)], by rw [z_up_r _ _ _ _ _ (by omega), z_up_r _ _ _ _ _ (by omega)]⟩
      have hth1 : ∀ k, zth (z_up (z_up J 92 s (F (G (s + 1)))) 93 s V) k = zth I k := by
        intro k
        rw [← hJth k]
        unfold zth
        rw [z_up_r _ _ _ _ _ (show (55 : Nat) ≠ 93 by omega), z_up_r _ _ _ _ _ (show (55 : Nat) ≠ 92 by omega), z_up_r _ _ _ _ _ (show (91 : Nat) ≠ 93 by omega), z_up_r _ _ _ _ _ (show (91 : Nat) ≠ 92 by omega)]
      have hm56 : ∀ x, 56 ≤ x → x ≤ 66 → z_up (z_up J 92 s (F (G (s + 1)))) 93 s V x = I x := fun x x1 x2 => hF1.1 x (by omega) (by omega) (by omega)
      have c231 : z_pu (z_run X z_cf z_ff (d + 6)) 231 [.ref 55, .int x6, .int (F (G s)), .int (F (G (s + 1))), .int x5] (118, z_sd m, ce, sl, z_up (z_up J 92 s (F (G (s + 1)))) 93 s V, L, z_rr t u r q (z_gg m) (z_sf m)) = some (.inl (some (.int U)), (118, z_sd m, ce, sl, z_up (z_up J 92 s (F (G (s + 1)))) 93 s V, L, z_rr t u r q (z_gg m) (z_sf m))) := by
        rw [zr_gapFor X (d + 1) m ce sl _ L t u r q x6 (F (G s)) x5 (F (G (s + 1))) (zPF_L hF1 hL) (by omega) (by omega) hr0.2 (by omega) (by omega) hr1.1 hle1 (by rw [hx6n, hm56 56 (by omega) (by omega)]; omega) (by rw [hx6n, hm56 56 (by omega) (by omega)]; omega) (by rw [hx6n, hm56 58 (by omega) (by omega)]; omega) (by rw [hx6n, hm56 58 (by omega) (by omega), hm56 59 (by omega) (by omega)]; omega) (by rw [hx6n, hm56 59 (by omega) (by omega)]; omega) (by rw [hx6n, hm56 65 (by omega) (by omega)]; omega), hx6n, hm56 56 (by omega) (by omega), hm56 58 (by omega) (by omega), hm56 59 (by omega) (by omega), hm56 65 (by omega) (by omega), (zPF_d hF1).1, (zPF_d hF1).2, h7, hU]
        rfl
      -- the strip is harder behind
      obtain ⟨x5', hx5', hcall⟩ : ∃ x5' : Int32, x5'.toInt = zhw I h0 (s + 1) ∧ z_pu (z_run X z_cf z_ff (d + 6)) 212 [.ref 55, .int x5, .int x6] (118, z_sd m, ce, sl, z_up (z_up (z_up J 92 s (F (G (s + 1)))) 93 s V) 94 s U, L, z_rr t u r q (z_gg m) (z_sf m)) = some (.inl (some (.int x5')), (118, z_sd m, ce, sl, z_up (z_up (z_up J 92 s (F (G (s + 1)))) 93 s V) 94 s U, L, z_rr t u r q (z_gg m) (z_sf m))) := by
        have e63 : z_up (z_up (z_up J 92 s (F (G (s + 1)))) 93 s V) 94 s U 63 = I 63 := by rw [z_up_r _ _ _ _ _ (by omega), hm56 63 (by omega) (by omega)]
        have hst' := zhw_s (I := I) (h := h0) (n := s) (by rw [s7]; omega)
        rw [s7] at hst'
        have e1 : (x5 + I 63 s).toInt = x5.toInt + (I 63 s).toInt := y_ad (by omega) (by omega)
        rw [zk_M_harder_0 X (d + 3), hin6, z_gd_t, hx6n, e63]
        by_cases cc : (x5 + I 63 s).toInt ≤ 99
        · rw [if_pos (by rw [y_i_le, h99]; exact cc)]
          exact ⟨_, by omega, rfl⟩
        · rw [if_neg (by rw [y_i_le, h99]; exact cc)]
          exact ⟨_, by rw [h99]; omega, rfl⟩
      obtain ⟨K, l1, l2, l3, l4, l5⟩ := ih (s + 1) c (z_up (z_up (z_up J 92 s (F (G (s + 1)))) 93 s V) 94 s U) x7 x5' (x6 + Int32.ofInt 1) (by omega) (by rw [y_adl (by omega) (by omega) (by omega) (by omega)]; omega) c1 d1 c2 d4 hx5'
        (fun x x1 x2 x3 x4 => by rw [z_up_r _ _ _ _ _ x4, z_up_r _ _ _ _ _ x3, z_up_r _ _ _ _ _ x2, q1 x x1 x2 x3 x4])
        (fun j hj => by rw [z_up_r _ _ _ _ _ (by omega), z_up_r _ _ _ _ _ (by omega), z_up_r _ _ _ _ _ (by omega), q2 j hj])
        (by rw [z_up_r _ _ _ _ _ (by omega), z_up_r _ _ _ _ _ (by omega), z_up_r _ _ _ _ _ (by omega), q3])
        (by
          intro s' hs'
          rw [z_up_r _ _ _ _ _ (show (92 : Nat) ≠ 94 by omega), z_up_r _ _ _ _ _ (show (92 : Nat) ≠ 93 by omega), z_up_r _ _ _ _ _ (show (93 : Nat) ≠ 94 by omega)]
          by_cases cs : s' = s
          · subst cs
            rw [z_up_s, z_up_s, z_up_s]
            exact ⟨rfl, hVe, hU⟩
          · rw [z_up_j _ _ _ _ _ cs, z_up_j _ _ _ _ _ cs, z_up_j _ _ _ _ _ cs, z_up_r _ _ _ _ _ (show (93 : Nat) ≠ 92 by omega), z_up_r _ _ _ _ _ (show (94 : Nat) ≠ 93 by omega), z_up_r _ _ _ _ _ (show (94 : Nat) ≠ 92 by omega)]
            exact q4 s' (by omega))
      refine ⟨K, fun M => ?_, l2, l3, l4, l5⟩
      obtain ⟨M', m1, m2⟩ := w3 (M + 47 * n + 8)
      rw [show M + 47 * (n + 1) + 1 = (M + 47 * n + 8 + 3 * 13) + 1 by omega, zb_M_keeps_18, if_neg (by rw [q2 1 (by omega), hm, y_i_le, y_on (by omega)]; omega), m2, show M' = (M' - 47 * n - 7 + 47 * n + 1) + 1 + 1 + 1 + 1 + 1 + 1 by omega, zb_M_keeps_33, if_pos (by rw [y_i_le, h13]; omega), zr_thick X (d + 3) (z_sd m) ce sl J L t u r q _ _ x7 c c1 c2, z_bi_v, zb_M_keeps_180, hin6, z_gd_t, hin, z_gd_t, z_gd_t, hx6n, hixn, hJth, d4, hJ97, hI s hs f h3 c c1, ← hV, zr_thick X (d + 3) (z_sd m) ce sl _ L t u r q _ _ x4 f h3 h4, z_bi_v, hth1, h6, zb_M_keeps_223, zr_thick X (d + 3) (z_sd m) ce sl _ L t u r q _ _ x7 c c1 c2, z_bi_v, hth1, d4, zb_M_keeps_229, c231, z_bi_v, zb_M_keeps_234, hin6, z_gd_t, hx6n, hcall, z_bi_v, zb_M_keeps_243]
      exact l1 _
  have hG0 : G 0 = 0 := by
    rw [hG]
    rfl
  obtain ⟨K, k1, k2, k3, k4, k5⟩ := lp m 0 12 (z_up I 55 65 (Int32.ofNat m)) (Int32.ofInt 12) h0 (Int32.ofInt 0) (by omega) rfl (by omega) (Or.inr rfl) rfl (by rw [hth.2.1, hG0, hst.2.2.1]) (zhw_0 hh1).symm (fun x x1 _ _ _ => z_up_r _ _ _ _ _ x1) (fun j hj => z_up_j _ _ _ _ _ hj) (z_up_s _ _ _ _) (fun s' hs' => by omega)
  refine ⟨K, ?_, k2, k3, k4, k5⟩
  refine z_en X (d + 4) _ _ [(0, .ref 55), (1, .int h0), (2, .long x2)] _ _ rfl rfl rfl ?_
  rw [show (100000000 : Nat) = (99999998 - 47 * m + 47 * m + 1) + 1 by omega, zb_M_keeps_0, hm]
  exact k1 _
