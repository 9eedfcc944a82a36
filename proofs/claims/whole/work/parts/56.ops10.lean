/-! CALLS, 10: known -/
theorem zr_kfill (X : ZX) (call : ZC) (n0 ce sl : Nat) (L : Nat → Nat → Int64) (t u r q g : Nat) (st : Nat → Option Nat) (c w th e ev : Int32) (n : Nat) : ∀ (I : Nat → Nat → Int32) (i M : Nat), i + n = 40 → n < M →
    ∃ K : Nat → Nat → Int32, z_loop X z_cf z_ff (z_pu call) 250 M 73 [(0, .ref 55), (1, .int c), (2, .int w), (3, .int th), (4, .int e), (5, .int ev), (6, .int (Int32.ofNat i))] [] (118, n0, ce, sl, I, L, z_rr t u r q g st) = z_loop X z_cf z_ff (z_pu call) 250 (M - n - 1) 97 [(0, .ref 55), (1, .int c), (2, .int w), (3, .int th), (4, .int e), (5, .int ev), (6, .int (Int32.ofInt 0))] [] (118, n0, ce, sl, K, L, z_rr t u r q g st) ∧ (∀ a, a ≠ 116 → K a = I a) ∧ (∀ j, j < 40 → K 116 j = if j < i then I 116 j else Int32.ofInt (-1)) := by
  induction n with
  | zero =>
    intro I i M h1 h2
    obtain ⟨M, rfl⟩ : ∃ N, M = N + 1 := ⟨M - 1, by omega⟩
    refine ⟨I, ?_, fun _ _ => rfl, fun j hj => by rw [if_pos (by omega)]⟩
    rw [zb_M_known_73, if_pos (by rw [y_i_le, y_on (by omega), y_oi (by omega) (by omega)]; omega)]
    rfl
  | succ n ih =>
    intro I i M h1 h2
    obtain ⟨M, rfl⟩ : ∃ N, M = N + 1 := ⟨M - 1, by omega⟩
    obtain ⟨K, g1, g2, g3⟩ := ih (z_up I 116 i (Int32.ofInt (-1))) (i + 1) M (by omega) (by omega)
    refine ⟨K, ?_, ?_, ?_⟩
    · rw [zb_M_known_73, if_neg (by rw [y_i_le, y_on (by omega), y_oi (by omega) (by omega)]; omega), z_in_n (by omega) (by omega), z_gd_t, z_onn (by omega), z_ofa (by omega), g1, show M + 1 - (n + 1) - 1 = M - n - 1 by omega]
    · intro a ha
      rw [g2 a ha, z_up_r _ _ _ _ _ ha]
    · intro j hj
      rw [g3 j hj, y_at]
      by_cases h3 : j < i
      · rw [if_pos (by omega), if_neg (by omega), if_pos h3]
      · rw [if_neg h3]
        by_cases h4 : j = i
        · rw [if_pos (by omega), if_pos h4]
        · rw [if_neg (by omega)]
theorem zo_known (X : ZX) (d m ce sl : Nat) (I : Nat → Nat → Int32) (L : Nat → Nat → Int64) (t u r q : Nat) (hG : zg_R I) (c w th e ev : Int32) : zOL X (d + 200) 271 [.ref 0, .int c, .int w, .int th, .int e, .int ev, .ref 117] 250 [.ref 55, .int c, .int w, .int th, .int e, .int ev] (118, z_sd m, ce, sl, I, L, z_rr t u r q (z_gg m) (z_sf m)) (zQ m t u r q ce sl I L [54, 116] [] (zFs I)) := by
  obtain ⟨a1, a2, a3, a4, a5, a6, b1, b2, b3, b4, b5, b6⟩ := hG
  obtain ⟨N, hN⟩ : ∃ N : Nat, (I 48 6).toInt = N := ⟨(I 48 6).toInt.toNat, by omega⟩
  have hN2 : (I 55 90).toInt = N := by rw [← a4, hN]
  have hT : (I 55 89).toInt = (I 48 0).toInt := by rw [a1]
  have no1 : ∀ (k : Int) (_ : k = 1 ∨ k = 2), (∀ LL, z_pu (z_run X z_cf z_ff (d + 200)) 250 [.ref 55, .int c, .int w, .int th, .int e, .int ev] (118, z_sd m, ce + 1, sl + 6, I, LL, z_rr t u r q (z_gg m) (z_sf m)) = some (.inl (some (.int (Int32.ofInt 0))), (118, z_sd m, ce + 1, sl + 6, z_up (z_up I 55 0 (Int32.ofInt 0)) 55 0 (Int32.ofInt k), LL, z_rr t u r q (z_gg m) (z_sf m)))) →
      z_pu (z_run X z_cf z_ff (d + 199)) 161 [.ref 0, .int c, .int w, .int th, .int e, .int ev] (118, z_sd m, ce, sl, I, L, z_rr t u r q (z_gg m) (z_sf m)) = some (.inr (k.toNat - 1), (118, z_sd m, ce + 1, sl + 6, I, L, z_rr t u r q (z_gg m) (z_sf m))) → zOL X (d + 200) 271 [.ref 0, .int c, .int w, .int th, .int e, .int ev, .ref 117] 250 [.ref 55, .int c, .int w, .int th, .int e, .int ev] (118, z_sd m, ce, sl, I, L, z_rr t u r q (z_gg m) (z_sf m)) (zQ m t u r q ce sl I L [54, 116] [] (zFs I)) := by
    intro k hk h1 h2
    refine ⟨Int32.ofInt k, Int32.ofInt 0, zw m t u r q (ce + 1) (sl + 6) I L, zw m t u r q (ce + 1) (sl + 6) (z_up (z_up I 55 0 (Int32.ofInt 0)) 55 0 (Int32.ofInt k)) L, ?_, h1 L, rfl, ?_, zQ_no _ _ _ _ _ _ _ _ _ _ _ _ _ _ (zFs_up00 I _ _)⟩
    · refine z_en X (d + 197) _ _ [(0, .ref 0), (1, .int c), (2, .int w), (3, .int th), (4, .int e), (5, .int ev), (6, .ref 117)] _ _ rfl rfl rfl ?_
      rw [zb_L_known_0, h2, z_bi_e]
      rcases hk with hk | hk
      · subst hk
        exact z_x1 rfl rfl
      · subst hk
        exact z_x1 rfl rfl
    · intro hk0
      exfalso
      rcases hk with hk | hk
      · subst hk
        exact absurd hk0 (by decide)
      · subst hk
        exact absurd hk0 (by decide)
  by_cases c1 : 0 ≤ c.toInt ∧ c.toInt ≤ 9
  · have p1 : ¬ z_p_X_within c (Int32.ofInt 0) (Int32.ofInt 9) = 0 := by rw [y_wi0, y_oi0, y_oi (by omega) (by omega)]; omega
    have p1' : ¬ z_p_M_within c (Int32.ofInt 0) (Int32.ofInt 9) = 0 := p1
    by_cases c2 : 0 ≤ w.toInt ∧ w.toInt ≤ 3
    · have p2 : ¬ z_p_X_within w (Int32.ofInt 0) (Int32.ofInt 3) = 0 := by rw [y_wi0, y_oi0, y_oi (by omega) (by omega)]; omega
      have p2' : ¬ z_p_M_within w (Int32.ofInt 0) (Int32.ofInt 3) = 0 := p2
      by_cases c3 : 0 ≤ ev.toInt ∧ ev.toInt ≤ (I 48 0).toInt
      · have p3 : ¬ z_p_X_within ev (Int32.ofInt 0) (I 48 0) = 0 := by rw [y_wi0, y_oi0]; omega
        have p3' : ¬ z_p_M_within ev (Int32.ofInt 0) (I 55 89) = 0 := by rw [y_wm0, y_oi0]; omega
        by_cases c4 : 0 ≤ e.toInt
        · obtain ⟨J0, f1, f2, f3⟩ := zr_fill54 X (z_run X z_cf z_ff (d + 196)) (z_sd m) ce sl L t u r q (z_gg m) (z_sf m) (Int32.ofInt 0) 40 I 0 99999999 (by omega) (by omega)
          have hJ48 : (J0 48 6).toInt = N := by rw [f2 48 (by omega), hN]
          obtain ⟨J, g1, g2, g3⟩ := zr_recall X (z_run X z_cf z_ff (d + 197)) (z_sd m) ce sl L t u r q (z_gg m) (z_sf m) c ev (N := N) (by omega) N J0 0 99999998 hJ48 (fun k hk => by rw [f2 50 (by omega)]; have := b6 k (by omega); omega) (by omega) (by omega)
          obtain ⟨K0, hK0⟩ : ∃ K, K = z_up J 55 0 (Int32.ofInt 0) := ⟨_, rfl⟩
          have jj : ∀ a, a ≠ 54 → J a = I a := fun a ha => by rw [g2 a ha, f2 a ha]
          have kk : ∀ a, a ≠ 54 → a ≠ 55 → K0 a = I a := fun a ha hb => by rw [hK0, z_up_r _ _ _ _ _ hb, jj a ha]
          have kj : ∀ j, j ≠ 0 → K0 55 j = I 55 j := fun j hj => by rw [hK0, z_up_j _ _ _ _ _ hj, jj 55 (by omega)]
          have main : ∃ V : Int32, z_pu (z_run X z_cf z_ff (d + 199)) 161 [.ref 0, .int c, .int w, .int th, .int e, .int ev] (118, z_sd m, ce, sl, I, L, z_rr t u r q (z_gg m) (z_sf m)) = some (.inl (some (.int V)), (118, z_sd m, ce, sl, J, L, z_rr t u r q (z_gg m) (z_sf m))) ∧ ∃ K2 : Nat → Nat → Int32, z_pu (z_run X z_cf z_ff (d + 200)) 250 [.ref 55, .int c, .int w, .int th, .int e, .int ev] (118, z_sd m, ce, sl, J, z_up L 117 0 V.toInt64, z_rr t u r q (z_gg m) (z_sf m)) = some (.inl (some (.int V)), (118, z_sd m, ce, sl, K2, z_up L 117 0 V.toInt64, z_rr t u r q (z_gg m) (z_sf m))) ∧ (∀ a, a ≠ 116 → K2 a = K0 a) := by
            have hrow : ∀ LL : Nat → Nat → Int64, ∃ (K1 K2 : Nat → Nat → Int32) (M3 : Nat), 41 ≤ M3 ∧ (∀ a, a ≠ 116 → K2 a = K0 a) ∧ zkn (J 54) (K2 116) ∧ z_loop X z_cf z_ff (z_pu (z_run X z_cf z_ff (d + 199))) 250 99999997 73 [(0, .ref 55), (1, .int c), (2, .int w), (3, .int th), (4, .int e), (5, .int ev), (6, .int (Int32.ofInt 0))] [] (118, z_sd m, ce, sl, K0, LL, z_rr t u r q (z_gg m) (z_sf m)) = z_loop X z_cf z_ff (z_pu (z_run X z_cf z_ff (d + 199))) 250 (M3 + 1) 97 [(0, .ref 55), (1, .int c), (2, .int w), (3, .int th), (4, .int e), (5, .int ev), (6, .int (Int32.ofNat N))] [] (118, z_sd m, ce, sl, K2, LL, z_rr t u r q (z_gg m) (z_sf m)) := by
              intro LL
              obtain ⟨K1, h1, h2, h3⟩ := zr_kfill X (z_run X z_cf z_ff (d + 199)) (z_sd m) ce sl LL t u r q (z_gg m) (z_sf m) c w th e ev 40 K0 0 99999997 (by omega) (by omega)
              have hz : zkn (J0 54) (K1 116) := by
                intro j hj
                exact Or.inl ⟨by rw [f3 j hj]; exact if_neg (by omega), by rw [h3 j hj]; exact if_neg (by omega)⟩
              have k1 : ∀ a, a ≠ 116 → a ≠ 54 → a ≠ 55 → K1 a = J0 a := fun a ha hb hc => by rw [h2 a ha, kk a hb hc, f2 a hb]
              obtain ⟨K2, M3, q1, q2, q3, q4⟩ := g3 K1 99999956 w th e w (z_sd m) ce sl LL (z_run X z_cf z_ff (d + 199)) t u r q (z_gg m) (z_sf m) (by omega) (by rw [h2 55 (by omega), kj 90 (by omega), hN2]) (by rw [h2 111 (by omega), kk 111 (by omega) (by omega), f2 49 (by omega), b1]) (by rw [h2 112 (by omega), kk 112 (by omega) (by omega), f2 50 (by omega), b2]) (by rw [h2 113 (by omega), kk 113 (by omega) (by omega), f2 51 (by omega), b3]) (by rw [h2 114 (by omega), kk 114 (by omega) (by omega), f2 52 (by omega), b4]) (by rw [h2 115 (by omega), kk 115 (by omega) (by omega), f2 53 (by omega), b5]) (fun k hk => by rw [f2 51 (by omega)]; have := b6 k (by omega); omega) hz
              refine ⟨K1, K2, M3 - 1, by omega, fun a ha => by rw [q3 a ha, h2 a ha], q4, ?_⟩
              rw [show M3 - 1 + 1 = M3 by omega, ← q2]
              exact h1
            obtain ⟨_, KK, _, _, _, hzz, _⟩ := hrow L
            have hF : ∀ j, j < 40 → 0 ≤ (J 54 j).toInt ∧ (J 54 j).toInt ≤ 60000 := by
              intro j hj
              rcases hzz j hj with ⟨z1, _⟩ | ⟨_, z2, z3⟩
              · rw [z1]; decide
              · omega
            have hcls : ∃ V : Int32, V.toInt = zkres (J 54) th.toInt e.toInt w.toInt 0 0 (-1) 0 40 0 ∧ z_pu (z_run X z_cf z_ff (d + 199)) 161 [.ref 0, .int c, .int w, .int th, .int e, .int ev] (118, z_sd m, ce, sl, I, L, z_rr t u r q (z_gg m) (z_sf m)) = some (.inl (some (.int V)), (118, z_sd m, ce, sl, J, L, z_rr t u r q (z_gg m) (z_sf m))) := by
              have e112 : z_pu (z_run X z_cf z_ff (d + 198)) 112 [.ref 48, .int c, .int ev] (118, z_sd m, ce, sl, I, L, z_rr t u r q (z_gg m) (z_sf m)) = some (.inl none, (118, z_sd m, ce, sl, J, L, z_rr t u r q (z_gg m) (z_sf m))) := by
                refine z_en X (d + 195) _ _ [(0, .ref 48), (1, .int c), (2, .int ev)] _ _ rfl rfl rfl ?_
                have e18 : z_pu (z_run X z_cf z_ff (d + 197)) 18 [.ref 54, .int (Int32.ofInt 0)] (118, z_sd m, ce, sl, I, L, z_rr t u r q (z_gg m) (z_sf m)) = some (.inl none, (118, z_sd m, ce, sl, J0, L, z_rr t u r q (z_gg m) (z_sf m))) := by
                  refine z_en X (d + 194) _ _ [(0, .ref 54), (1, .int (Int32.ofInt 0))] _ _ rfl rfl rfl ?_
                  rw [zb_Arrays_fill2_54_0]
                  exact f1
                rw [zb_Readings_recall_0, e18, z_b0_v, zb_Readings_recall_8]
                exact g1
              have hpre : z_pu (z_run X z_cf z_ff (d + 199)) 161 [.ref 0, .int c, .int w, .int th, .int e, .int ev] (118, z_sd m, ce, sl, I, L, z_rr t u r q (z_gg m) (z_sf m)) = z_loop X z_cf z_ff (z_pu (z_run X z_cf z_ff (d + 198))) 161 99999998 62 [(0, .ref 0), (2, .int w), (3, .int th), (4, .int e)] [] (118, z_sd m, ce, sl, J, L, z_rr t u r q (z_gg m) (z_sf m)) := by
                refine z_en X (d + 196) _ _ [(0, .ref 0), (1, .int c), (2, .int w), (3, .int th), (4, .int e), (5, .int ev)] _ _ rfl rfl rfl ?_
                rw [zt_X_known_0 X (d + 195), if_neg p1, if_neg p2, if_neg p3, if_pos (by rw [y_i_le, y_i0]; exact c4), e112, z_b0_v]
              have w2 : ∀ v : Int, -2147483648 ≤ v → v ≤ 2147483647 → w.toInt ≠ v → ¬ w = Int32.ofInt v := by
                intro v v1 v2 v3
                rw [y_i_eq, y_oi v1 v2]
                exact v3
              have w3 : ∀ v : Int, -2147483648 ≤ v → v ≤ 2147483647 → w.toInt = v → w = Int32.ofInt v := by
                intro v v1 v2 v3
                rw [y_i_eq, y_oi v1 v2]
                exact v3
              by_cases d0 : w.toInt = 0
              · obtain ⟨V, v1, v2⟩ := zr_km X (z_run X z_cf z_ff (d + 197)) (z_sd m) ce sl J L t u r q (z_gg m) (z_sf m) 40 0 99999999 (Int32.ofInt 0) (by omega) (by omega) (by decide) (by decide)
                refine ⟨V, by unfold zkres; rw [if_pos d0, v1]; rfl, ?_⟩
                have e113 : z_pu (z_run X z_cf z_ff (d + 198)) 113 [.ref 48] (118, z_sd m, ce, sl, J, L, z_rr t u r q (z_gg m) (z_sf m)) = some (.inl (some (.int V)), (118, z_sd m, ce, sl, J, L, z_rr t u r q (z_gg m) (z_sf m))) := by
                  refine z_en X (d + 195) _ _ [(0, .ref 48)] _ _ rfl rfl rfl ?_
                  rw [zb_Readings_placesKnown_0]
                  exact v2
                rw [hpre, zb_X_known_62, if_pos (w3 0 (by omega) (by omega) d0), e113, z_bi_v, zb_X_known_95]
              · by_cases d1 : w.toInt = 1
                · obtain ⟨V, v1, v2⟩ := zr_ks X (z_run X z_cf z_ff (d + 197)) (z_sd m) ce sl J L t u r q (z_gg m) (z_sf m) hF 40 0 99999999 (Int32.ofInt 0) (by omega) (by omega) (by decide) (by decide)
                  refine ⟨V, by unfold zkres; rw [if_neg d0, if_pos d1, v1]; rfl, ?_⟩
                  have e114 : z_pu (z_run X z_cf z_ff (d + 198)) 114 [.ref 48] (118, z_sd m, ce, sl, J, L, z_rr t u r q (z_gg m) (z_sf m)) = some (.inl (some (.int V)), (118, z_sd m, ce, sl, J, L, z_rr t u r q (z_gg m) (z_sf m))) := by
                    refine z_en X (d + 195) _ _ [(0, .ref 48)] _ _ rfl rfl rfl ?_
                    rw [zb_Readings_sumKnown_0]
                    exact v2
                  rw [hpre, zb_X_known_62, if_neg (w2 0 (by omega) (by omega) d0), if_pos (w3 1 (by omega) (by omega) d1), e114, z_bi_v, zb_X_known_103]
                · by_cases d2 : w.toInt = 2
                  · obtain ⟨V, v1, v2⟩ := zr_kf X (d + 194) m ce sl J L t u r q th e hF 40 0 99999999 (by omega) (by omega)
                    refine ⟨V, by unfold zkres; rw [if_neg d0, if_neg d1, if_pos d2, if_pos rfl, v1], ?_⟩
                    have e115 : z_pu (z_run X z_cf z_ff (d + 198)) 115 [.ref 48, .int th, .int e] (118, z_sd m, ce, sl, J, L, z_rr t u r q (z_gg m) (z_sf m)) = some (.inl (some (.int V)), (118, z_sd m, ce, sl, J, L, z_rr t u r q (z_gg m) (z_sf m))) := by
                      refine z_en X (d + 195) _ _ [(0, .ref 48), (1, .int th), (2, .int e)] _ _ rfl rfl rfl ?_
                      rw [zb_Readings_leastOff_0]
                      exact v2
                    rw [hpre, zb_X_known_62, if_neg (w2 0 (by omega) (by omega) d0), if_neg (w2 1 (by omega) (by omega) d1), if_pos (w3 2 (by omega) (by omega) d2), e115, z_bi_v, zb_X_known_114]
                  · obtain ⟨V, v1, v2⟩ := zr_ko X (d + 194) m ce sl J L t u r q th e hF 40 0 99999999 (Int32.ofInt 0) (by omega) (by omega) (by decide) (by decide)
                    refine ⟨V, by unfold zkres; rw [if_neg d0, if_neg d1, if_neg d2, v1]; rfl, ?_⟩
                    have e117 : z_pu (z_run X z_cf z_ff (d + 198)) 117 [.ref 48, .int th, .int e] (118, z_sd m, ce, sl, J, L, z_rr t u r q (z_gg m) (z_sf m)) = some (.inl (some (.int V)), (118, z_sd m, ce, sl, J, L, z_rr t u r q (z_gg m) (z_sf m))) := by
                      refine z_en X (d + 195) _ _ [(0, .ref 48), (1, .int th), (2, .int e)] _ _ rfl rfl rfl ?_
                      rw [zb_Readings_manyOff_0]
                      exact v2
                    rw [hpre, zb_X_known_62, if_neg (w2 0 (by omega) (by omega) d0), if_neg (w2 1 (by omega) (by omega) d1), if_neg (w2 2 (by omega) (by omega) d2), e117, z_bi_v, zb_X_known_125]
            obtain ⟨V, v1, v2⟩ := hcls
            obtain ⟨K1, K2, M3, m1, m2, m3, m4⟩ := hrow (z_up L 117 0 V.toInt64)
            obtain ⟨V', v3, v4⟩ := zr_kall X (z_run X z_cf z_ff (d + 199)) (z_sd m) ce sl K2 (z_up L 117 0 V.toInt64) t u r q (z_gg m) (z_sf m) (J 54) m3 w th e (by omega) 40 0 M3 (Int32.ofInt 0) (Int32.ofInt 0) (Int32.ofInt (-1)) (Int32.ofInt 0) (by omega) (by omega) (by decide) (by decide) (by decide) (by decide) (by decide) (by decide)
            have hVV : V' = V := by
              rw [y_i_eq, v3, v1]
              rfl
            rw [hVV] at v4
            refine ⟨V, v2, K2, ?_, m2⟩
            refine z_en X (d + 197) _ _ [(0, .ref 55), (1, .int c), (2, .int w), (3, .int th), (4, .int e), (5, .int ev)] _ _ rfl rfl rfl ?_
            have p3j : ¬ z_p_M_within ev (Int32.ofInt 0) (J 55 89) = 0 := by rw [jj 55 (by omega)]; exact p3'
            rw [zt_M_known_0 X (d + 196), if_neg p1', if_neg p2', if_neg p3j, if_neg (by rw [y_i_lt, y_i0]; omega), ← hK0, m4, zb_M_known_97, if_pos (by rw [m2 55 (by omega), kj 90 (by omega), y_i_le, hN2, y_on (by omega)]; omega)]
            exact v4
          obtain ⟨V, v1, K2, v2, v3⟩ := main
          refine ⟨Int32.ofInt 0, V, zw m t u r q ce sl J (z_up L 117 0 V.toInt64), zw m t u r q ce sl K2 (z_up L 117 0 V.toInt64), ?_, v2, ?_, fun _ => rfl, ⟨ce, sl, K2, _, rfl, by omega, by omega, ⟨?_, ?_⟩, fun a ha => z_up117 L _ a ha, ?_⟩⟩
          · refine z_en X (d + 197) _ _ [(0, .ref 0), (1, .int c), (2, .int w), (3, .int th), (4, .int e), (5, .int ev), (6, .ref 117)] _ _ rfl rfl rfl ?_
            rw [zb_L_known_0, v1, z_bi_v, zb_L_known_14, z_gd_inc (by omega) (by omega) (by omega)]
            rfl
          · show K2 55 0 = _
            rw [v3 55 (by omega), hK0]
          · intro a x1 x2 x3
            simp only [List.mem_cons, List.not_mem_nil, or_false, not_or] at x3
            rw [v3 a x3.2, kk a x3.1 x2]
          · intro j x1 _
            rw [v3 55 (by omega), kj j x1]
          · intro k _
            have hge := z_sd_ge k
            rw [v3 _ (by omega), kk _ (by omega) (by omega)]
        · refine no1 2 (Or.inr rfl) (fun LL => ?_) ?_
          · refine z_en X (d + 197) _ _ [(0, .ref 55), (1, .int c), (2, .int w), (3, .int th), (4, .int e), (5, .int ev)] _ _ rfl rfl rfl ?_
            rw [zt_M_known_0 X (d + 196), if_neg p1', if_neg p2', if_neg p3', if_pos (by rw [y_i_lt, y_i0]; omega)]
          · refine z_en X (d + 196) _ _ [(0, .ref 0), (1, .int c), (2, .int w), (3, .int th), (4, .int e), (5, .int ev)] _ _ rfl rfl rfl ?_
            rw [zt_X_known_0 X (d + 195), if_neg p1, if_neg p2, if_neg p3, if_neg (by rw [y_i_le, y_i0]; exact c4)]
            rfl
      · have p3 : z_p_X_within ev (Int32.ofInt 0) (I 48 0) = 0 := by rw [y_wi0, y_oi0]; exact c3
        have p3' : z_p_M_within ev (Int32.ofInt 0) (I 55 89) = 0 := by rw [y_wm0, y_oi0, hT]; exact c3
        refine no1 2 (Or.inr rfl) (fun LL => ?_) ?_
        · refine z_en X (d + 197) _ _ [(0, .ref 55), (1, .int c), (2, .int w), (3, .int th), (4, .int e), (5, .int ev)] _ _ rfl rfl rfl ?_
          rw [zt_M_known_0 X (d + 196), if_neg p1', if_neg p2', if_pos p3']
        · refine z_en X (d + 196) _ _ [(0, .ref 0), (1, .int c), (2, .int w), (3, .int th), (4, .int e), (5, .int ev)] _ _ rfl rfl rfl ?_
          rw [zt_X_known_0 X (d + 195), if_neg p1, if_neg p2, if_pos p3]
          rfl
    · have p2 : z_p_X_within w (Int32.ofInt 0) (Int32.ofInt 3) = 0 := by rw [y_wi0, y_oi0, y_oi (by omega) (by omega)]; exact c2
      refine no1 1 (Or.inl rfl) (fun LL => ?_) ?_
      · refine z_en X (d + 197) _ _ [(0, .ref 55), (1, .int c), (2, .int w), (3, .int th), (4, .int e), (5, .int ev)] _ _ rfl rfl rfl ?_
        rw [zt_M_known_0 X (d + 196), if_neg p1', if_pos (show z_p_M_within w (Int32.ofInt 0) (Int32.ofInt 3) = 0 from p2)]
      · refine z_en X (d + 196) _ _ [(0, .ref 0), (1, .int c), (2, .int w), (3, .int th), (4, .int e), (5, .int ev)] _ _ rfl rfl rfl ?_
        rw [zt_X_known_0 X (d + 195), if_neg p1, if_pos p2]
        rfl
  · have p1 : z_p_X_within c (Int32.ofInt 0) (Int32.ofInt 9) = 0 := by rw [y_wi0, y_oi0, y_oi (by omega) (by omega)]; exact c1
    refine no1 1 (Or.inl rfl) (fun LL => ?_) ?_
    · refine z_en X (d + 197) _ _ [(0, .ref 55), (1, .int c), (2, .int w), (3, .int th), (4, .int e), (5, .int ev)] _ _ rfl rfl rfl ?_
      rw [zt_M_known_0 X (d + 196), if_pos (show z_p_M_within c (Int32.ofInt 0) (Int32.ofInt 9) = 0 from p1)]
    · refine z_en X (d + 196) _ _ [(0, .ref 0), (1, .int c), (2, .int w), (3, .int th), (4, .int e), (5, .int ev)] _ _ rfl rfl rfl ?_
      rw [zt_X_known_0 X (d + 195), if_pos p1]
      rfl
