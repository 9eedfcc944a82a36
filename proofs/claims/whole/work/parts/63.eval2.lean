/-! RULES, 2: the code of the model -/
theorem zopc_r (v : Int) : 4 ≤ zopc v ∧ zopc v ≤ 11 := by
  unfold zopc
  repeat' split
  all_goals omega
theorem zr_worth_loop (X : ZX) (d m ce sl : Nat) (L : Nat → Nat → Int64) (t u r q : Nat) (l : List Int) : ∀ (I : Nat → Nat → Int32) (st : List Int32) (k M : Nat), zcd (I 75) k l → zwf l st.length → zstk (I 90) st → k + 2 * l.length < 2000 → st.length + l.length ≤ 420 →
    ∃ J : Nat → Nat → Int32, z_loop X z_cf z_ff (z_pu (z_run X z_cf z_ff (d + 3))) 217 (M + 2 * l.length + 1) 4 [(0, .ref 55), (2, .int (Int32.ofNat st.length)), (3, .int (Int32.ofNat k))] [] (118, z_sd m, ce, sl, I, L, z_rr t u r q (z_gg m) (z_sf m)) = some (.inl (some (.int ((zevs (I 89) l st).headD 0))), (118, z_sd m, ce, sl, J, L, z_rr t u r q (z_gg m) (z_sf m))) ∧ (∀ a, a ≠ 90 → J a = I a) := by
  induction l with
  | nil =>
    intro I st k M h1 h2 h3 h4 h6
    have hn : st.length = 1 := h2
    match st, hn, h3 with
    | [a], _, h3 =>
      refine ⟨I, ?_, fun _ _ => rfl⟩
      have h1' : I 75 k = Int32.ofInt 0 := h1
      have e0 : I 90 0 = a := h3.1
      simp only [List.length_nil] at h4
      rw [show M + 2 * ([] : List Int).length + 1 = M + 1 from rfl, show ([a] : List Int32).length = 1 from rfl, zb_M_worth_4, z_in_n (by omega) (by omega), z_gd_t, z_onn (by omega), h1', if_pos (show (Int32.ofInt 0 : Int32) = 0 from rfl), z_gd_inc (by omega) (by omega) (by omega), e0]
      rfl
  | cons v l ih =>
    intro I st k M h1 h2 h3 h4 h6
    simp only [List.length_cons] at h4 h6
    have hk : (Int32.ofNat k).toNatClampNeg = k := z_onn (by omega)
    have hin : z_in (Int32.ofNat k) 2000 = true := z_in_n (by omega) (by omega)
    have hin1 : z_in (Int32.ofNat (k + 1)) 2000 = true := z_in_n (by omega) (by omega)
    have hk1 : (Int32.ofNat (k + 1)).toNatClampNeg = k + 1 := z_onn (by omega)
    unfold zcd at h1
    unfold zwf at h2
    rw [show M + 2 * (v :: l).length + 1 = M + 2 * l.length + 2 + 1 by simp; omega]
    by_cases c0 : 0 ≤ v
    · rw [if_pos c0] at h1 h2
      obtain ⟨k1, k2, k3⟩ := h1
      obtain ⟨J, g1, g2⟩ := ih (z_up I 90 st.length (Int32.ofInt v)) (Int32.ofInt v :: st) (k + 2) (M + 1) (by rw [z_up_r _ _ _ _ _ (by omega)]; exact k3) h2.2 ⟨z_up_s _ _ _ _, zstk_up st h3 (fun j hj => z_up_j _ _ _ _ _ (by omega))⟩ (by omega) (by simp; omega)
      refine ⟨J, ?_, fun a ha => by rw [g2 a ha, z_up_r _ _ _ _ _ ha]⟩
      have e : zevs (I 89) (v :: l) st = zevs (z_up I 90 st.length (Int32.ofInt v) 89) l (Int32.ofInt v :: st) := by
        rw [z_up_r _ _ _ _ _ (by omega)]
        show zevs (I 89) l (zev1 (I 89) v st) = _
        unfold zev1
        rw [if_pos c0]
      rw [zb_M_worth_4, hin, z_gd_t, z_gd_t, hk, k1, if_neg (show ¬ (Int32.ofInt 1 : Int32) = 0 by decide), if_pos rfl, if_pos rfl, z_ofa (by omega), hin1, z_gd_t, z_in_n (by omega) (by omega), z_gd_t, z_onn (by omega), hk1, k2, z_ofa (by omega), z_ofa (by omega), e, ← g1, show M + 2 * l.length + 2 = M + 1 + 2 * l.length + 1 by omega]
      rfl
    · rw [if_neg c0] at h1 h2
      by_cases c1 : -109 ≤ v ∧ v ≤ -100
      · rw [if_pos c1] at h1 h2
        obtain ⟨k1, k2, k3⟩ := h1
        obtain ⟨J, g1, g2⟩ := ih (z_up I 90 st.length (I 89 (-v - 100).toNat)) (I 89 (-v - 100).toNat :: st) (k + 2) (M + 1) (by rw [z_up_r _ _ _ _ _ (by omega)]; exact k3) h2 ⟨z_up_s _ _ _ _, zstk_up st h3 (fun j hj => z_up_j _ _ _ _ _ (by omega))⟩ (by omega) (by simp; omega)
        refine ⟨J, ?_, fun a ha => by rw [g2 a ha, z_up_r _ _ _ _ _ ha]⟩
        have e : zevs (I 89) (v :: l) st = zevs (z_up I 90 st.length (I 89 (-v - 100).toNat) 89) l (I 89 (-v - 100).toNat :: st) := by
          rw [z_up_r _ _ _ _ _ (by omega)]
          show zevs (I 89) l (zev1 (I 89) v st) = _
          unfold zev1
          rw [if_neg c0, if_pos c1]
        have ek : (Int32.ofInt (-v - 100)).toInt = -v - 100 := y_oi (by omega) (by omega)
        rw [zb_M_worth_4, hin, z_gd_t, z_gd_t, hk, k1, if_neg (show ¬ (Int32.ofInt 2 : Int32) = 0 by decide), if_neg (show ¬ (Int32.ofInt 2 : Int32) = Int32.ofInt 1 by decide), if_pos rfl, if_neg (show ¬ (Int32.ofInt 2 : Int32) = Int32.ofInt 1 by decide), z_ofa (by omega), hin1, z_gd_t, hk1, k2, y_in_t (i := Int32.ofInt (-v - 100)) (by omega) (by omega), z_gd_t, z_in_n (by omega) (by omega), z_gd_t, z_onn (by omega), y_tn, ek, z_ofa (by omega), z_ofa (by omega), e, ← g1, show M + 2 * l.length + 2 = M + 1 + 2 * l.length + 1 by omega]
        rfl
      · rw [if_neg c1] at h1 h2
        obtain ⟨k1, k3⟩ := h1
        by_cases c2 : v = -110
        · rw [if_pos c2] at h2 k1
          match st, h2, h3, h6 with
          | a :: st, h2, h3, h6 =>
            obtain ⟨h3, h3'⟩ := h3
            have hlen : (a :: st).length = st.length + 1 := rfl
            simp only [List.length_cons] at h6
            have hs1 : Int32.ofNat (st.length + 1) - Int32.ofInt 1 = Int32.ofNat st.length := by rw [z_ofs (by omega) (by omega), Nat.add_sub_cancel]
            obtain ⟨w, hw⟩ : ∃ w, w = if a = 0 then Int32.ofInt 1 else Int32.ofInt 0 := ⟨_, rfl⟩
            obtain ⟨J, g1, g2⟩ := ih (z_up I 90 st.length w) (w :: st) (k + 1) (M + 1) (by rw [z_up_r _ _ _ _ _ (by omega)]; exact k3) h2.2 ⟨z_up_s _ _ _ _, zstk_up st h3' (fun j hj => z_up_j _ _ _ _ _ (by omega))⟩ (by omega) (by simp; omega)
            refine ⟨J, ?_, fun a ha => by rw [g2 a ha, z_up_r _ _ _ _ _ ha]⟩
            have e : zevs (I 89) (v :: l) (a :: st) = zevs (z_up I 90 st.length w 89) l (w :: st) := by
              rw [z_up_r _ _ _ _ _ (by omega)]
              show zevs (I 89) l (zev1 (I 89) v (a :: st)) = _
              unfold zev1
              rw [if_neg c0, if_neg c1]
              show zevs (I 89) l (if v = -110 then _ else _) = _
              rw [if_pos c2, hw]
            rw [hlen, zb_M_worth_4, hin, z_gd_t, z_gd_t, hk, k1, if_neg (show ¬ (Int32.ofInt 3 : Int32) = 0 by decide), if_neg (show ¬ (Int32.ofInt 3 : Int32) = Int32.ofInt 1 by decide), if_neg (show ¬ (Int32.ofInt 3 : Int32) = Int32.ofInt 2 by decide), if_pos rfl, hs1, z_in_n (by omega) (by omega), z_gd_t, z_onn (by omega), h3, z_ofa (by omega), e, ← g1, show M + 2 * l.length + 2 = M + 1 + 2 * l.length + 1 by omega]
            by_cases ca : a = 0
            · have hw1 : w = Int32.ofInt 1 := by rw [hw, if_pos ca]
              rw [if_pos ca, z_gd_t, hw1]
              rfl
            · have hw1 : w = Int32.ofInt 0 := by rw [hw, if_neg ca]
              rw [if_neg ca, z_gd_t, hw1]
              rfl
        · rw [if_neg c2] at h2 k1
          obtain ⟨hbv, h2a, h2b⟩ := h2
          have hop := zopc_r v
          have kt : (I 75 k).toInt = zopc v := by rw [k1, y_oi (by omega) (by omega)]
          match st, h2a, h2b, h3, h6 with
          | b :: a :: st, h2a, h2b, h3, h6 =>
            obtain ⟨h3, h3', h3''⟩ := h3
            have hlen : (b :: a :: st).length = st.length + 2 := rfl
            simp only [List.length_cons] at h6 h3
            have hs2 : Int32.ofNat (st.length + 2) + Int32.ofInt (-1) = Int32.ofNat (st.length + 1) := by rw [y_i_eq, y_adl (by omega) (by omega) (by rw [y_on (by omega)]; omega) (by rw [y_on (by omega)]; omega), y_on (by omega), y_on (by omega)]; omega
            have hs1 : Int32.ofNat (st.length + 1) - Int32.ofInt 1 = Int32.ofNat st.length := by rw [z_ofs (by omega) (by omega), Nat.add_sub_cancel]
            obtain ⟨J, g1, g2⟩ := ih (z_up I 90 st.length (zbin v a b)) (zbin v a b :: st) (k + 1) M (by rw [z_up_r _ _ _ _ _ (by omega)]; exact k3) h2b ⟨z_up_s _ _ _ _, zstk_up st h3'' (fun j hj => z_up_j _ _ _ _ _ (by omega))⟩ (by omega) (by simp; omega)
            refine ⟨J, ?_, fun a ha => by rw [g2 a ha, z_up_r _ _ _ _ _ ha]⟩
            have e : zevs (I 89) (v :: l) (b :: a :: st) = zevs (z_up I 90 st.length (zbin v a b) 89) l (zbin v a b :: st) := by
              rw [z_up_r _ _ _ _ _ (by omega)]
              show zevs (I 89) l (zev1 (I 89) v (b :: a :: st)) = _
              unfold zev1
              rw [if_neg c0, if_neg c1]
              show zevs (I 89) l (if v = -110 then _ else _) = _
              rw [if_neg c2]
            have ne : ∀ j : Int, 0 ≤ j → j ≤ 3 → ¬ I 75 k = Int32.ofInt j := by
              intro j j0 j1
              rw [y_i_eq, kt, y_oi (by omega) (by omega)]
              omega
            rw [hlen, zb_M_worth_4, hin, z_gd_t, z_gd_t, hk, if_neg (show ¬ I 75 k = 0 from ne 0 (by omega) (by omega)), if_neg (ne 1 (by omega) (by omega)), if_neg (ne 2 (by omega) (by omega)), if_neg (ne 3 (by omega) (by omega)), hs2, hs1, z_in_n (by omega) (by omega), z_gd_t, z_in_n (by omega) (by omega), z_gd_t, z_onn (by omega), z_onn (by omega), h3, h3', zr_works X d m ce sl I L t u r q (I 75 k) a b hbv kt, z_bi_v, show M + 2 * l.length + 2 = M + 2 * l.length + 1 + 1 by omega, zb_M_worth_139, z_in_n (by omega) (by omega), z_gd_t, z_onn (by omega), z_ofa (by omega), e, ← g1]
            rfl
theorem zr_worth (X : ZX) (d m ce sl : Nat) (L : Nat → Nat → Int64) (t u r q : Nat) (l : List Int) (I : Nat → Nat → Int32) (k : Nat) (h1 : zcd (I 75) k l) (h2 : zwf l 0) (h4 : k + 2 * l.length < 2000) (h6 : l.length ≤ 400) :
    ∃ J : Nat → Nat → Int32, z_pu (z_run X z_cf z_ff (d + 4)) 217 [.ref 55, .int (Int32.ofNat k)] (118, z_sd m, ce, sl, I, L, z_rr t u r q (z_gg m) (z_sf m)) = some (.inl (some (.int ((zevs (I 89) l []).headD 0))), (118, z_sd m, ce, sl, J, L, z_rr t u r q (z_gg m) (z_sf m))) ∧ (∀ a, a ≠ 90 → J a = I a) := by
  obtain ⟨J, g1, g2⟩ := zr_worth_loop X d m ce sl L t u r q l I [] k (99999998 - 2 * l.length) h1 h2 trivial h4 (by simp; omega)
  refine ⟨J, ?_, g2⟩
  refine z_en X (d + 1) _ _ [(0, .ref 55), (1, .int (Int32.ofNat k))] _ _ rfl rfl rfl ?_
  rw [zb_M_worth_0]
  rw [show 99999998 - 2 * l.length + 2 * l.length + 1 = 99999999 by omega] at g1
  exact g1
theorem zr_valueOf8 (X : ZX) (d m ce sl : Nat) (L : Nat → Nat → Int64) (t u r q : Nat) (l : List Int) (I : Nat → Nat → Int32) (fr to : Int32) (i : Nat) (h1 : zrow (I 9) i l) (h2 : zwf l 0) (hf : fr.toInt = i) (h4 : to.toInt = i + l.length) (h5 : i + l.length ≤ 400) :
    ∃ J : Nat → Nat → Int32, z_pu (z_run X z_cf z_ff (d + 4)) 96 [.ref 8, .int fr, .int to, .ref 29] (118, z_sd m, ce, sl, I, L, z_rr t u r q (z_gg m) (z_sf m)) = some (.inl (some (.int ((zevs (I 29) l []).headD 0))), (118, z_sd m, ce, sl, J, L, z_rr t u r q (z_gg m) (z_sf m))) ∧ (∀ a, a ≠ 10 → J a = I a) := by
  obtain ⟨J, g1, g2⟩ := zr_valueOf8_loop X d m ce sl L t u r q to l I [] i (99999998 - 2 * l.length) h1 h2 trivial h4 h5 (by simp; omega)
  refine ⟨J, ?_, g2⟩
  refine z_en X (d + 1) _ _ [(0, .ref 8), (1, .int fr), (2, .int to), (3, .ref 29)] _ _ rfl rfl rfl ?_
  have e : fr = Int32.ofNat i := y_i_eq.mpr (by rw [hf, y_on (by omega)])
  rw [zb_Rules_valueOf_8_29_0, e]
  rw [show 99999998 - 2 * l.length + 2 * l.length + 1 = 99999999 by omega] at g1
  exact g1
/-- no steps are worth 0 -/
theorem zr_valueOf8_0 (X : ZX) (d m ce sl : Nat) (L : Nat → Nat → Int64) (t u r q : Nat) (I : Nat → Nat → Int32) (fr : Int32) : z_pu (z_run X z_cf z_ff (d + 4)) 96 [.ref 8, .int fr, .int fr, .ref 29] (118, z_sd m, ce, sl, I, L, z_rr t u r q (z_gg m) (z_sf m)) = some (.inl (some (.int (Int32.ofInt 0))), (118, z_sd m, ce, sl, I, L, z_rr t u r q (z_gg m) (z_sf m))) := by
  refine z_en X (d + 1) _ _ [(0, .ref 8), (1, .int fr), (2, .int fr), (3, .ref 29)] _ _ rfl rfl rfl ?_
  rw [zb_Rules_valueOf_8_29_0, zb_Rules_valueOf_8_29_6, if_pos (by rw [y_i_le]; omega), if_pos (by decide)]
theorem zr_valueOf15 (X : ZX) (d m ce sl : Nat) (L : Nat → Nat → Int64) (t u r q : Nat) (l : List Int) (I : Nat → Nat → Int32) (fr to : Int32) (i : Nat) (h1 : zrow (I 16) i l) (h2 : zwf l 0) (hf : fr.toInt = i) (h4 : to.toInt = i + l.length) (h5 : i + l.length ≤ 400) :
    ∃ J : Nat → Nat → Int32, z_pu (z_run X z_cf z_ff (d + 4)) 96 [.ref 15, .int fr, .int to, .ref 29] (118, z_sd m, ce, sl, I, L, z_rr t u r q (z_gg m) (z_sf m)) = some (.inl (some (.int ((zevs (I 29) l []).headD 0))), (118, z_sd m, ce, sl, J, L, z_rr t u r q (z_gg m) (z_sf m))) ∧ (∀ a, a ≠ 17 → J a = I a) := by
  obtain ⟨J, g1, g2⟩ := zr_valueOf15_loop X d m ce sl L t u r q to l I [] i (99999998 - 2 * l.length) h1 h2 trivial h4 h5 (by simp; omega)
  refine ⟨J, ?_, g2⟩
  refine z_en X (d + 1) _ _ [(0, .ref 15), (1, .int fr), (2, .int to), (3, .ref 29)] _ _ rfl rfl rfl ?_
  have e : fr = Int32.ofNat i := y_i_eq.mpr (by rw [hf, y_on (by omega)])
  rw [zb_Rules_valueOf_15_29_0, e]
  rw [show 99999998 - 2 * l.length + 2 * l.length + 1 = 99999999 by omega] at g1
  exact g1
/-- no steps are worth 0 -/
theorem zr_valueOf15_0 (X : ZX) (d m ce sl : Nat) (L : Nat → Nat → Int64) (t u r q : Nat) (I : Nat → Nat → Int32) (fr : Int32) : z_pu (z_run X z_cf z_ff (d + 4)) 96 [.ref 15, .int fr, .int fr, .ref 29] (118, z_sd m, ce, sl, I, L, z_rr t u r q (z_gg m) (z_sf m)) = some (.inl (some (.int (Int32.ofInt 0))), (118, z_sd m, ce, sl, I, L, z_rr t u r q (z_gg m) (z_sf m))) := by
  refine z_en X (d + 1) _ _ [(0, .ref 15), (1, .int fr), (2, .int fr), (3, .ref 29)] _ _ rfl rfl rfl ?_
  rw [zb_Rules_valueOf_15_29_0, zb_Rules_valueOf_15_29_6, if_pos (by rw [y_i_le]; omega), if_pos (by decide)]
