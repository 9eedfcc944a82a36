/-! CALLS, 40: run: where one stand's gap goes, in both -/
def zVC8 (l : List zcl) (I : Nat → Nat → Int32) : Prop := zclsC I 9 11 12 13 14 0 l ∧ (I 8 7).toInt = l.length
def zVC15 (l : List zcl) (I : Nat → Nat → Int32) : Prop := zclsC I 16 18 19 20 21 0 l ∧ (I 15 7).toInt = l.length
def zVM (l : List zcl) (I : Nat → Nat → Int32) : Prop := zbk I ∧ (I 55 28 = 0 ∧ l = [] ∨ ¬ I 55 28 = 0 ∧ ∃ b : Nat, b < 2 ∧ I 55 29 = Int32.ofNat b ∧ (I 71 b).toInt = l.length ∧ zclsM I (12 * b) l)
theorem zVC8_c {l : List zcl} {I J : Nat → Nat → Int32} (h : zVC8 l I) (h8 : J 8 = I 8) (h9 : J 9 = I 9) (h11 : J 11 = I 11) (h12 : J 12 = I 12) (h13 : J 13 = I 13) (h14 : J 14 = I 14) : zVC8 l J := by
  refine ⟨zclsC_c h9 h11 h12 h13 h14 l 0 h.1, ?_⟩
  rw [h8]
  exact h.2
theorem zVC15_c {l : List zcl} {I J : Nat → Nat → Int32} (h : zVC15 l I) (h8 : J 15 = I 15) (h9 : J 16 = I 16) (h11 : J 18 = I 18) (h12 : J 19 = I 19) (h13 : J 20 = I 20) (h14 : J 21 = I 21) : zVC15 l J := by
  refine ⟨zclsC_c h9 h11 h12 h13 h14 l 0 h.1, ?_⟩
  rw [h8]
  exact h.2
theorem zVM_c {l : List zcl} {I J : Nat → Nat → Int32} (h : zVM l I) (h28 : J 55 28 = I 55 28) (h29 : J 55 29 = I 55 29) (h71 : J 71 = I 71) (h72 : J 72 = I 72) (h73 : J 73 = I 73) (h74 : J 74 = I 74) (h75 : J 75 = I 75) : zVM l J := by
  obtain ⟨hb, h⟩ := h
  refine ⟨?_, ?_⟩
  · unfold zbk at *
    rw [h29]
    exact hb
  · rw [h28, h29]
    rcases h with h | ⟨h0, b, h1, h2, h3, h4⟩
    · exact Or.inl h
    · refine Or.inr ⟨h0, b, h1, h2, ?_, zclsM_c h72 h73 h74 h75 l _ h4⟩
      rw [h71]
      exact h3
theorem zr_moveC8 (X : ZX) (d m ce sl : Nat) (I : Nat → Nat → Int32) (L : Nat → Nat → Int64) (t u r q : Nat) (k : Nat) (hk : k < m) (h5 : m ≤ 5) (hs : I 5 2 = Int32.ofNat m) (T x : Int32) (hx : x.toInt = k) (hT0 : 0 ≤ T.toInt) (hT : T.toInt < 44) (l : List zcl) (hV : zVC8 l I) (hl : l.length ≤ 12) : ∃ J : Nat → Nat → Int32,
    (∀ a, a ≠ 10 → a ≠ 29 → a ≠ z_sd k → J a = I a) ∧ (∀ i, i ≠ 8 → J (z_sd k) i = I (z_sd k) i) ∧
    J (z_sd k) 8 = I (z_sd k) 8 + z_mxi (-(I (z_sd k) 4)) (z_mni (I (z_sd k) 4) (z_mxi (I (z_sd k) 2) (z_mni (I (z_sd k) 3) ((zwant (zvr I k T x 29) x.toInt l).getD (I (z_sd k) 8))) - I (z_sd k) 8)) ∧
    ∀ M, z_loop X z_cf z_ff (z_pu (z_run X z_cf z_ff (d + 6))) 93 (M + 15) 2 [(0, .ref 25), (1, .int T), (2, .ref 8), (3, .int x)] [] (118, z_sd m, ce, sl, I, L, z_rr t u r q (z_gg m) (z_sf m)) = z_loop X z_cf z_ff (z_pu (z_run X z_cf z_ff (d + 6))) 93 M 2 [(0, .ref 25), (1, .int T), (2, .ref 8), (3, .int (x + Int32.ofInt 1))] [] (118, z_sd m, ce, sl, J, L, z_rr t u r q (z_gg m) (z_sf m)) := by
  have hge := z_sd_ge k
  have hr : ∀ a, a ≠ 29 → zvr I k T x a = I a := by
    intro a ha
    unfold zvr
    simp only [z_up_r _ _ _ _ _ ha]
  have h0 : zvr I k T x 29 0 = I (z_sd k) 8 := rfl
  have hV' : zVC8 l (zvr I k T x) := zVC8_c hV (hr _ (by omega)) (hr _ (by omega)) (hr _ (by omega)) (hr _ (by omega)) (hr _ (by omega)) (hr _ (by omega))
  obtain ⟨J, g1, g2⟩ := zr_wanted8 X (d + 1) m ce sl L t u r q x l (zvr I k T x) hV'.1 hV'.2 hl
  have hs8 : J (z_sd k) = I (z_sd k) := by rw [g2 _ (by omega), hr _ (by omega)]
  have hok : z_ok (118, z_sd m, ce, sl, J, L, z_rr t u r q (z_gg m) (z_sf m)) (z_sd k) 10 = true := z_okS (k := k) (m := m) hk (by omega) 118 ce sl J L (z_rr t u r q (z_gg m) (z_sf m))
  refine ⟨z_up J (z_sd k) 8 (J (z_sd k) 8 + z_mxi (-(J (z_sd k) 4)) (z_mni (J (z_sd k) 4) (z_mxi (J (z_sd k) 2) (z_mni (J (z_sd k) 3) ((zwant (zvr I k T x 29) x.toInt l).getD (I (z_sd k) 8))) - J (z_sd k) 8))), ?_, ?_, ?_, ?_⟩
  · intro a a1 a2 a3
    rw [z_up_r _ _ _ _ _ a3, g2 a a1, hr a a2]
  · intro i hi
    rw [z_up_j _ _ _ _ _ hi, hs8]
  · rw [z_up_s, hs8]
  · intro M
    rw [show M + 15 = (M + 2) + 13 by omega, zr_vals8 X d (M + 2) m ce sl I L t u r q k hk h5 hs T x hx hT0 hT, g1, z_bi_v, zb_Run_moveGaps_25_8_145, hok, z_gd_t, zr_towards X (d + 3) m ce sl J L t u r q k hk h5, z_b0_v, zb_Run_moveGaps_25_8_148, h0]
theorem zr_moveC15 (X : ZX) (d m ce sl : Nat) (I : Nat → Nat → Int32) (L : Nat → Nat → Int64) (t u r q : Nat) (k : Nat) (hk : k < m) (h5 : m ≤ 5) (hs : I 5 2 = Int32.ofNat m) (T x : Int32) (hx : x.toInt = k) (hT0 : 0 ≤ T.toInt) (hT : T.toInt < 44) (l : List zcl) (hV : zVC15 l I) (hl : l.length ≤ 12) : ∃ J : Nat → Nat → Int32,
    (∀ a, a ≠ 17 → a ≠ 29 → a ≠ z_sd k → J a = I a) ∧ (∀ i, i ≠ 8 → J (z_sd k) i = I (z_sd k) i) ∧
    J (z_sd k) 8 = I (z_sd k) 8 + z_mxi (-(I (z_sd k) 4)) (z_mni (I (z_sd k) 4) (z_mxi (I (z_sd k) 2) (z_mni (I (z_sd k) 3) ((zwant (zvr I k T x 29) x.toInt l).getD (I (z_sd k) 8))) - I (z_sd k) 8)) ∧
    ∀ M, z_loop X z_cf z_ff (z_pu (z_run X z_cf z_ff (d + 6))) 93 (M + 15) 2 [(0, .ref 25), (1, .int T), (2, .ref 15), (3, .int x)] [] (118, z_sd m, ce, sl, I, L, z_rr t u r q (z_gg m) (z_sf m)) = z_loop X z_cf z_ff (z_pu (z_run X z_cf z_ff (d + 6))) 93 M 2 [(0, .ref 25), (1, .int T), (2, .ref 15), (3, .int (x + Int32.ofInt 1))] [] (118, z_sd m, ce, sl, J, L, z_rr t u r q (z_gg m) (z_sf m)) := by
  have hge := z_sd_ge k
  have hr : ∀ a, a ≠ 29 → zvr I k T x a = I a := by
    intro a ha
    unfold zvr
    simp only [z_up_r _ _ _ _ _ ha]
  have h0 : zvr I k T x 29 0 = I (z_sd k) 8 := rfl
  have hV' : zVC15 l (zvr I k T x) := zVC15_c hV (hr _ (by omega)) (hr _ (by omega)) (hr _ (by omega)) (hr _ (by omega)) (hr _ (by omega)) (hr _ (by omega))
  obtain ⟨J, g1, g2⟩ := zr_wanted15 X (d + 1) m ce sl L t u r q x l (zvr I k T x) hV'.1 hV'.2 hl
  have hs8 : J (z_sd k) = I (z_sd k) := by rw [g2 _ (by omega), hr _ (by omega)]
  have hok : z_ok (118, z_sd m, ce, sl, J, L, z_rr t u r q (z_gg m) (z_sf m)) (z_sd k) 10 = true := z_okS (k := k) (m := m) hk (by omega) 118 ce sl J L (z_rr t u r q (z_gg m) (z_sf m))
  refine ⟨z_up J (z_sd k) 8 (J (z_sd k) 8 + z_mxi (-(J (z_sd k) 4)) (z_mni (J (z_sd k) 4) (z_mxi (J (z_sd k) 2) (z_mni (J (z_sd k) 3) ((zwant (zvr I k T x 29) x.toInt l).getD (I (z_sd k) 8))) - J (z_sd k) 8))), ?_, ?_, ?_, ?_⟩
  · intro a a1 a2 a3
    rw [z_up_r _ _ _ _ _ a3, g2 a a1, hr a a2]
  · intro i hi
    rw [z_up_j _ _ _ _ _ hi, hs8]
  · rw [z_up_s, hs8]
  · intro M
    rw [show M + 15 = (M + 2) + 13 by omega, zr_vals15 X d (M + 2) m ce sl I L t u r q k hk h5 hs T x hx hT0 hT, g1, z_bi_v, zb_Run_moveGaps_25_15_145, hok, z_gd_t, zr_towards X (d + 3) m ce sl J L t u r q k hk h5, z_b0_v, zb_Run_moveGaps_25_15_148, h0]
theorem zr_moveM (X : ZX) (d m ce sl : Nat) (I : Nat → Nat → Int32) (L : Nat → Nat → Int64) (t u r q : Nat) (k : Nat) (hk : k < 5) (T x : Int32) (hx : x.toInt = k) (hT0 : 0 ≤ T.toInt) (hT : T.toInt < 44) (l : List zcl) (hV : zVM l I) (hl : l.length ≤ 12) (h0 : 0 ≤ (I 58 k).toInt) (h1 : (I 58 k).toInt ≤ (I 64 k).toInt) (h2 : (I 64 k).toInt ≤ (I 59 k).toInt) (h3 : (I 59 k).toInt ≤ 60000) (h4 : 0 ≤ (I 60 k).toInt) (h6 : (I 60 k).toInt ≤ 60000) : ∃ J : Nat → Nat → Int32,
    (∀ a, a ≠ 90 → a ≠ 89 → a ≠ 64 → J a = I a) ∧ (∀ i, i ≠ k → J 64 i = I 64 i) ∧
    J 64 k = Int32.ofInt (zgap (I 58 k).toInt (I 59 k).toInt (I 60 k).toInt (I 64 k).toInt ((zwant (zmr I k T 89) x.toInt l).getD (I 64 k)).toInt) ∧
    z_pu (z_run X z_cf z_ff (d + 5)) 216 [.ref 55, .int x, .int T] (118, z_sd m, ce, sl, I, L, z_rr t u r q (z_gg m) (z_sf m)) = some (.inl none, (118, z_sd m, ce, sl, J, L, z_rr t u r q (z_gg m) (z_sf m))) := by
  have hr : ∀ a, a ≠ 89 → zmr I k T a = I a := by
    intro a ha
    unfold zmr
    simp only [z_up_r _ _ _ _ _ ha]
  have stay : zgap (I 58 k).toInt (I 59 k).toInt (I 60 k).toInt (I 64 k).toInt (I 64 k).toInt = (I 64 k).toInt := by
    unfold zgap
    omega
  obtain ⟨hb, h⟩ := hV
  have hent : ∀ R, z_loop X z_cf z_ff (z_pu (z_run X z_cf z_ff (d + 4))) 216 99999999 132 [(0, .ref 55), (1, .int x), (3, .int (Int32.ofInt (-1))), (4, .int (Int32.ofInt 12 * I 55 29))] [] (118, z_sd m, ce, sl, zmr I k T, L, z_rr t u r q (z_gg m) (z_sf m)) = R → z_pu (z_run X z_cf z_ff (d + 5)) 216 [.ref 55, .int x, .int T] (118, z_sd m, ce, sl, I, L, z_rr t u r q (z_gg m) (z_sf m)) = R := by
    intro R hR
    refine z_en X (d + 2) _ _ [(0, .ref 55), (1, .int x), (2, .int T)] _ _ rfl rfl rfl ?_
    rw [show (100000000 : Nat) = 99999999 + 1 by omega, zr_mvals X _ 99999999 _ ce sl I L t u r q (z_gg m) (z_sf m) k hk T x hx hT0 hT]
    exact hR
  have hnone : ∀ J : Nat → Nat → Int32, (∀ a, a ≠ 90 → J a = zmr I k T a) → zwant (zmr I k T 89) x.toInt l = none → (∀ a, a ≠ 90 → a ≠ 89 → a ≠ 64 → J a = I a) ∧ (∀ i, i ≠ k → J 64 i = I 64 i) ∧ J 64 k = Int32.ofInt (zgap (I 58 k).toInt (I 59 k).toInt (I 60 k).toInt (I 64 k).toInt ((zwant (zmr I k T 89) x.toInt l).getD (I 64 k)).toInt) := by
    intro J hJ hn
    refine ⟨fun a a1 a2 _ => by rw [hJ a a1, hr a a2], fun i _ => by rw [hJ 64 (by omega), hr 64 (by omega)], ?_⟩
    rw [hn, hJ 64 (by omega), hr 64 (by omega)]
    show I 64 k = Int32.ofInt (zgap (I 58 k).toInt (I 59 k).toInt (I 60 k).toInt (I 64 k).toInt (I 64 k).toInt)
    rw [stay, y_ofi]
  rcases h with ⟨h28, hl0⟩ | ⟨h28, b, b2, h29, h71, hcl⟩
  · subst hl0
    obtain ⟨a1, a2, a3⟩ := hnone (zmr I k T) (fun _ _ => rfl) rfl
    refine ⟨zmr I k T, a1, a2, a3, hent _ ?_⟩
    rw [show (99999999 : Nat) = 99999998 + 1 by omega, zb_M_moves_132, if_pos (by rw [hr 55 (by omega)]; exact h28), if_pos rfl]
  · have hbi : (Int32.ofNat b).toInt = b := y_on (by omega)
    have hbn : (I 55 29).toNatClampNeg = b := by rw [h29, z_onn (by omega)]
    have h12 : Int32.ofInt 12 * I 55 29 = Int32.ofNat (12 * b) := by
      rw [h29]
      have : b = 0 ∨ b = 1 := by omega
      rcases this with rfl | rfl <;> decide
    have hin : z_in (I 55 29) 2 = true := by rw [h29]; exact z_in_n (by omega) (by omega)
    obtain ⟨J, M', g1, g2⟩ := zr_moves_loop X d m ce sl L t u r q x l (zmr I k T) (12 * b) (99999999 - 2 * l.length - 2) (zclsM_c (hr _ (by omega)) (hr _ (by omega)) (hr _ (by omega)) (hr _ (by omega)) l _ hcl) (by rw [hr 55 (by omega)]; exact h28) (by rw [hr 55 (by omega)]; exact hin) (by rw [hr 55 (by omega), hr 71 (by omega), h12, hbn, y_ad (by rw [y_on (by omega), h71]; omega) (by rw [y_on (by omega), h71]; omega), y_on (by omega), h71]) (by omega)
    rw [show 99999999 - 2 * l.length - 2 + 2 * l.length + 2 = 99999999 by omega] at g2
    cases hw : zwant (zmr I k T 89) x.toInt l with
    | none =>
      rw [hw] at g2
      obtain ⟨a1, a2, a3⟩ := hnone J g1 hw
      rw [hw] at a3
      refine ⟨J, a1, a2, a3, hent _ ?_⟩
      rw [h12]
      exact g2
    | some w =>
      rw [hw] at g2
      have e : ∀ a, a ≠ 89 → a ≠ 90 → J a = I a := fun a a1 a2 => by rw [g1 a a2, hr a a1]
      refine ⟨z_up J 64 k (Int32.ofInt (zgap (I 58 k).toInt (I 59 k).toInt (I 60 k).toInt (I 64 k).toInt w.toInt)), ?_, ?_, ?_, hent _ ?_⟩
      · intro a a1 a2 a3
        rw [z_up_r _ _ _ _ _ a3, e a a2 a1]
      · intro i hi
        rw [z_up_j _ _ _ _ _ hi, e 64 (by omega) (by omega)]
      · rw [z_up_s]
        rfl
      · have hT' := zr_movesT X (z_run X z_cf z_ff (d + 4)) M' (z_sd m) ce sl J L t u r q (z_gg m) (z_sf m) k hk x w hx
        rw [e 58 (by omega) (by omega), e 59 (by omega) (by omega), e 60 (by omega) (by omega), e 64 (by omega) (by omega)] at hT'
        rw [h12, g2]
        exact hT' h0 h1 h2 h3 h4 h6
