/-! CALLS, 7: ran -/
theorem zo_ran1 (X : ZX) (d m ce sl : Nat) (I : Nat → Nat → Int32) (L : Nat → Nat → Int64) (t u r q : Nat) {C : Nat} (hS : zg_S C m I) (hC : zg_C I) (hU : zg_U m I) (a : Int32) (hne : a.toInt ≠ 4) : zOL X (d + 200) 259 [.ref 0, .int a, .ref 117] 219 [.ref 55, .int a] (118, z_sd m, ce, sl, I, L, z_rr t u r q (z_gg m) (z_sf m)) (zQ m t u r q ce sl I L [] [] (fun J => zFs I J)) := by
  obtain ⟨h5, hs, hm, h1, hf⟩ := hS
  have hs' : (I 5 2).toInt = m := by rw [hs, y_on (by omega)]
  have hm' : (I 55 1).toInt = m := by rw [hm, y_on (by omega)]
  obtain ⟨u1, u2, u3⟩ := hU
  have u1' : (I 25 2).toInt = (I 55 48).toInt := by rw [u1]
  have u2' : (I 25 2).toInt = 0 ∨ (I 25 2).toInt = 1 := by
    rcases u2 with u2 | u2
    · exact Or.inl (by rw [u2]; rfl)
    · exact Or.inr (by rw [u2]; rfl)
  by_cases c0 : (I 25 2).toInt = 1
  · obtain ⟨v1, v2, v3, v4, v5, v6, v7, v8, g1, g2, g3, g4, g5, g6, g7, g8⟩ := u3 (y_i_eq.mpr c0)
    have g1' : (I 25 12).toInt = (I 55 54).toInt := by rw [g1]
    by_cases c1 : 0 ≤ a.toInt ∧ a.toInt ≤ 4
    · by_cases c2 : a.toInt = 0
      · refine ⟨Int32.ofInt 0, I 55 43, (118, z_sd m, ce, sl, I, (z_up L 117 0 ((I 25 4).toInt64)), z_rr t u r q (z_gg m) (z_sf m)), (118, z_sd m, ce, sl, (z_up I 55 0 (Int32.ofInt 0)), (z_up L 117 0 ((I 25 4).toInt64)), z_rr t u r q (z_gg m) (z_sf m)), ?_, ?_, (by show (z_up I 55 0 (Int32.ofInt 0)) 55 0 = _; first | rfl | simp (disch := omega) only [z_up_s, z_up_j, z_up_rj, z_up_stj, z_up_r, z_up_st]), fun _ => ?_, ?_⟩
        · rw [zk_L_ran_0]; try simp (disch := omega) only [y_wiI, y_wmI, y_thI, y_haI, y_mtI, y_mhI, y_i_le, y_i_lt, y_i_eq, y_i0, y_oi, y_sbl, y_adl, y_lsb, y_ad, y_sb, y_tn, if_true, if_false, if_pos, if_neg, ite_self, z_gd_inc, z_gd_in, z_gd_ix, z_gd_ok, not_true_eq_false, not_false_eq_true, z_up_s, z_up_j, z_up_rj, z_up_stj, z_up_r, z_up_st]
        · refine z_en X (d + 197) _ _ [(0, .ref 55), (1, .int a)] _ _ rfl rfl rfl ?_; rw [zt_M_ran_0 X (d + 196)]; try simp (disch := omega) only [y_wiI, y_wmI, y_thI, y_haI, y_mtI, y_mhI, y_i_le, y_i_lt, y_i_eq, y_i0, y_oi, y_sbl, y_adl, y_lsb, y_ad, y_sb, y_tn, if_true, if_false, if_pos, if_neg, ite_self, z_gd_inc, z_gd_in, z_gd_ix, z_gd_ok, not_true_eq_false, not_false_eq_true, z_up_s, z_up_j, z_up_rj, z_up_stj, z_up_r, z_up_st]
        · show (I 25 4).toInt64 = (I 55 43).toInt64; rw [v4]
        · refine ⟨ce, sl, (z_up I 55 0 (Int32.ofInt 0)), (z_up L 117 0 ((I 25 4).toInt64)), rfl, by omega, by omega, ⟨fun a h1 h2 h3 => by rw [z_up_r _ _ _ _ _ (by omega)], fun j h2 h3 => by rw [z_up_k _ _ _ _ _ (z_beq_n (by omega))]⟩, fun a ha => z_up117 L _ a ha, ?_⟩
          exact fun k hk => by have hge := z_sd_ge k; rw [z_up_r _ _ _ _ _ (by omega)]
      · by_cases c3 : a.toInt = 1
        · refine ⟨Int32.ofInt 0, I 55 44, (118, z_sd m, ce, sl, I, (z_up L 117 0 ((I 25 5).toInt64)), z_rr t u r q (z_gg m) (z_sf m)), (118, z_sd m, ce, sl, (z_up I 55 0 (Int32.ofInt 0)), (z_up L 117 0 ((I 25 5).toInt64)), z_rr t u r q (z_gg m) (z_sf m)), ?_, ?_, (by show (z_up I 55 0 (Int32.ofInt 0)) 55 0 = _; first | rfl | simp (disch := omega) only [z_up_s, z_up_j, z_up_rj, z_up_stj, z_up_r, z_up_st]), fun _ => ?_, ?_⟩
          · rw [zk_L_ran_0]; try simp (disch := omega) only [y_wiI, y_wmI, y_thI, y_haI, y_mtI, y_mhI, y_i_le, y_i_lt, y_i_eq, y_i0, y_oi, y_sbl, y_adl, y_lsb, y_ad, y_sb, y_tn, if_true, if_false, if_pos, if_neg, ite_self, z_gd_inc, z_gd_in, z_gd_ix, z_gd_ok, not_true_eq_false, not_false_eq_true, z_up_s, z_up_j, z_up_rj, z_up_stj, z_up_r, z_up_st]
          · refine z_en X (d + 197) _ _ [(0, .ref 55), (1, .int a)] _ _ rfl rfl rfl ?_; rw [zt_M_ran_0 X (d + 196)]; try simp (disch := omega) only [y_wiI, y_wmI, y_thI, y_haI, y_mtI, y_mhI, y_i_le, y_i_lt, y_i_eq, y_i0, y_oi, y_sbl, y_adl, y_lsb, y_ad, y_sb, y_tn, if_true, if_false, if_pos, if_neg, ite_self, z_gd_inc, z_gd_in, z_gd_ix, z_gd_ok, not_true_eq_false, not_false_eq_true, z_up_s, z_up_j, z_up_rj, z_up_stj, z_up_r, z_up_st]
          · show (I 25 5).toInt64 = (I 55 44).toInt64; rw [v5]
          · refine ⟨ce, sl, (z_up I 55 0 (Int32.ofInt 0)), (z_up L 117 0 ((I 25 5).toInt64)), rfl, by omega, by omega, ⟨fun a h1 h2 h3 => by rw [z_up_r _ _ _ _ _ (by omega)], fun j h2 h3 => by rw [z_up_k _ _ _ _ _ (z_beq_n (by omega))]⟩, fun a ha => z_up117 L _ a ha, ?_⟩
            exact fun k hk => by have hge := z_sd_ge k; rw [z_up_r _ _ _ _ _ (by omega)]
        · by_cases c4 : a.toInt = 2
          · refine ⟨Int32.ofInt 0, I 55 45, (118, z_sd m, ce, sl, I, (z_up L 117 0 ((I 25 6).toInt64)), z_rr t u r q (z_gg m) (z_sf m)), (118, z_sd m, ce, sl, (z_up I 55 0 (Int32.ofInt 0)), (z_up L 117 0 ((I 25 6).toInt64)), z_rr t u r q (z_gg m) (z_sf m)), ?_, ?_, (by show (z_up I 55 0 (Int32.ofInt 0)) 55 0 = _; first | rfl | simp (disch := omega) only [z_up_s, z_up_j, z_up_rj, z_up_stj, z_up_r, z_up_st]), fun _ => ?_, ?_⟩
            · rw [zk_L_ran_0]; try simp (disch := omega) only [y_wiI, y_wmI, y_thI, y_haI, y_mtI, y_mhI, y_i_le, y_i_lt, y_i_eq, y_i0, y_oi, y_sbl, y_adl, y_lsb, y_ad, y_sb, y_tn, if_true, if_false, if_pos, if_neg, ite_self, z_gd_inc, z_gd_in, z_gd_ix, z_gd_ok, not_true_eq_false, not_false_eq_true, z_up_s, z_up_j, z_up_rj, z_up_stj, z_up_r, z_up_st]
            · refine z_en X (d + 197) _ _ [(0, .ref 55), (1, .int a)] _ _ rfl rfl rfl ?_; rw [zt_M_ran_0 X (d + 196)]; try simp (disch := omega) only [y_wiI, y_wmI, y_thI, y_haI, y_mtI, y_mhI, y_i_le, y_i_lt, y_i_eq, y_i0, y_oi, y_sbl, y_adl, y_lsb, y_ad, y_sb, y_tn, if_true, if_false, if_pos, if_neg, ite_self, z_gd_inc, z_gd_in, z_gd_ix, z_gd_ok, not_true_eq_false, not_false_eq_true, z_up_s, z_up_j, z_up_rj, z_up_stj, z_up_r, z_up_st]
            · show (I 25 6).toInt64 = (I 55 45).toInt64; rw [v6]
            · refine ⟨ce, sl, (z_up I 55 0 (Int32.ofInt 0)), (z_up L 117 0 ((I 25 6).toInt64)), rfl, by omega, by omega, ⟨fun a h1 h2 h3 => by rw [z_up_r _ _ _ _ _ (by omega)], fun j h2 h3 => by rw [z_up_k _ _ _ _ _ (z_beq_n (by omega))]⟩, fun a ha => z_up117 L _ a ha, ?_⟩
              exact fun k hk => by have hge := z_sd_ge k; rw [z_up_r _ _ _ _ _ (by omega)]
          · refine ⟨Int32.ofInt 0, I 55 46, (118, z_sd m, ce, sl, I, (z_up L 117 0 ((I 25 7).toInt64)), z_rr t u r q (z_gg m) (z_sf m)), (118, z_sd m, ce, sl, (z_up I 55 0 (Int32.ofInt 0)), (z_up L 117 0 ((I 25 7).toInt64)), z_rr t u r q (z_gg m) (z_sf m)), ?_, ?_, (by show (z_up I 55 0 (Int32.ofInt 0)) 55 0 = _; first | rfl | simp (disch := omega) only [z_up_s, z_up_j, z_up_rj, z_up_stj, z_up_r, z_up_st]), fun _ => ?_, ?_⟩
            · rw [zk_L_ran_0]; try simp (disch := omega) only [y_wiI, y_wmI, y_thI, y_haI, y_mtI, y_mhI, y_i_le, y_i_lt, y_i_eq, y_i0, y_oi, y_sbl, y_adl, y_lsb, y_ad, y_sb, y_tn, if_true, if_false, if_pos, if_neg, ite_self, z_gd_inc, z_gd_in, z_gd_ix, z_gd_ok, not_true_eq_false, not_false_eq_true, z_up_s, z_up_j, z_up_rj, z_up_stj, z_up_r, z_up_st]
            · refine z_en X (d + 197) _ _ [(0, .ref 55), (1, .int a)] _ _ rfl rfl rfl ?_; rw [zt_M_ran_0 X (d + 196)]; try simp (disch := omega) only [y_wiI, y_wmI, y_thI, y_haI, y_mtI, y_mhI, y_i_le, y_i_lt, y_i_eq, y_i0, y_oi, y_sbl, y_adl, y_lsb, y_ad, y_sb, y_tn, if_true, if_false, if_pos, if_neg, ite_self, z_gd_inc, z_gd_in, z_gd_ix, z_gd_ok, not_true_eq_false, not_false_eq_true, z_up_s, z_up_j, z_up_rj, z_up_stj, z_up_r, z_up_st]
            · show (I 25 7).toInt64 = (I 55 46).toInt64; rw [v7]
            · refine ⟨ce, sl, (z_up I 55 0 (Int32.ofInt 0)), (z_up L 117 0 ((I 25 7).toInt64)), rfl, by omega, by omega, ⟨fun a h1 h2 h3 => by rw [z_up_r _ _ _ _ _ (by omega)], fun j h2 h3 => by rw [z_up_k _ _ _ _ _ (z_beq_n (by omega))]⟩, fun a ha => z_up117 L _ a ha, ?_⟩
              exact fun k hk => by have hge := z_sd_ge k; rw [z_up_r _ _ _ _ _ (by omega)]
    · refine ⟨Int32.ofInt 1, Int32.ofInt 0, (118, z_sd m, (ce + 1), (sl + 6), I, L, z_rr t u r q (z_gg m) (z_sf m)), (118, z_sd m, (ce + 1), (sl + 6), (z_up (z_up I 55 0 (Int32.ofInt 0)) 55 0 (Int32.ofInt 1)), L, z_rr t u r q (z_gg m) (z_sf m)), ?_, ?_, (by show (z_up (z_up I 55 0 (Int32.ofInt 0)) 55 0 (Int32.ofInt 1)) 55 0 = _; first | rfl | simp (disch := omega) only [z_up_s, z_up_j, z_up_rj, z_up_stj, z_up_r, z_up_st]), fun hk => absurd hk (by decide), ?_⟩
      · rw [zk_L_ran_0]; try simp (disch := omega) only [y_wiI, y_wmI, y_thI, y_haI, y_mtI, y_mhI, y_i_le, y_i_lt, y_i_eq, y_i0, y_oi, y_sbl, y_adl, y_lsb, y_ad, y_sb, y_tn, if_true, if_false, if_pos, if_neg, ite_self, z_gd_inc, z_gd_in, z_gd_ix, z_gd_ok, not_true_eq_false, not_false_eq_true, z_up_s, z_up_j, z_up_rj, z_up_stj, z_up_r, z_up_st]
      · refine z_en X (d + 197) _ _ [(0, .ref 55), (1, .int a)] _ _ rfl rfl rfl ?_; rw [zt_M_ran_0 X (d + 196)]; try simp (disch := omega) only [y_wiI, y_wmI, y_thI, y_haI, y_mtI, y_mhI, y_i_le, y_i_lt, y_i_eq, y_i0, y_oi, y_sbl, y_adl, y_lsb, y_ad, y_sb, y_tn, if_true, if_false, if_pos, if_neg, ite_self, z_gd_inc, z_gd_in, z_gd_ix, z_gd_ok, not_true_eq_false, not_false_eq_true, z_up_s, z_up_j, z_up_rj, z_up_stj, z_up_r, z_up_st]
      · refine ⟨ce + 1, sl + 6, (z_up (z_up I 55 0 (Int32.ofInt 0)) 55 0 (Int32.ofInt 1)), L, rfl, by omega, by omega, ⟨fun a h1 h2 h3 => by rw [z_up_r _ _ _ _ _ (by omega), z_up_r _ _ _ _ _ (by omega)], fun j h2 h3 => by rw [z_up_k _ _ _ _ _ (z_beq_n (by omega)), z_up_k _ _ _ _ _ (z_beq_n (by omega))]⟩, fun _ _ => rfl, ?_⟩
        exact fun k hk => by have hge := z_sd_ge k; rw [z_up_r _ _ _ _ _ (by omega), z_up_r _ _ _ _ _ (by omega)]
  · refine ⟨Int32.ofInt 1, Int32.ofInt 0, (118, z_sd m, (ce + 1), (sl + 6), I, L, z_rr t u r q (z_gg m) (z_sf m)), (118, z_sd m, (ce + 1), (sl + 6), (z_up (z_up I 55 0 (Int32.ofInt 0)) 55 0 (Int32.ofInt 1)), L, z_rr t u r q (z_gg m) (z_sf m)), ?_, ?_, (by show (z_up (z_up I 55 0 (Int32.ofInt 0)) 55 0 (Int32.ofInt 1)) 55 0 = _; first | rfl | simp (disch := omega) only [z_up_s, z_up_j, z_up_rj, z_up_stj, z_up_r, z_up_st]), fun hk => absurd hk (by decide), ?_⟩
    · rw [zk_L_ran_0]; try simp (disch := omega) only [y_wiI, y_wmI, y_thI, y_haI, y_mtI, y_mhI, y_i_le, y_i_lt, y_i_eq, y_i0, y_oi, y_sbl, y_adl, y_lsb, y_ad, y_sb, y_tn, if_true, if_false, if_pos, if_neg, ite_self, z_gd_inc, z_gd_in, z_gd_ix, z_gd_ok, not_true_eq_false, not_false_eq_true, z_up_s, z_up_j, z_up_rj, z_up_stj, z_up_r, z_up_st]
    · refine z_en X (d + 197) _ _ [(0, .ref 55), (1, .int a)] _ _ rfl rfl rfl ?_; rw [zt_M_ran_0 X (d + 196)]; try simp (disch := omega) only [y_wiI, y_wmI, y_thI, y_haI, y_mtI, y_mhI, y_i_le, y_i_lt, y_i_eq, y_i0, y_oi, y_sbl, y_adl, y_lsb, y_ad, y_sb, y_tn, if_true, if_false, if_pos, if_neg, ite_self, z_gd_inc, z_gd_in, z_gd_ix, z_gd_ok, not_true_eq_false, not_false_eq_true, z_up_s, z_up_j, z_up_rj, z_up_stj, z_up_r, z_up_st]
    · refine ⟨ce + 1, sl + 6, (z_up (z_up I 55 0 (Int32.ofInt 0)) 55 0 (Int32.ofInt 1)), L, rfl, by omega, by omega, ⟨fun a h1 h2 h3 => by rw [z_up_r _ _ _ _ _ (by omega), z_up_r _ _ _ _ _ (by omega)], fun j h2 h3 => by rw [z_up_k _ _ _ _ _ (z_beq_n (by omega)), z_up_k _ _ _ _ _ (z_beq_n (by omega))]⟩, fun _ _ => rfl, ?_⟩
      exact fun k hk => by have hge := z_sd_ge k; rw [z_up_r _ _ _ _ _ (by omega), z_up_r _ _ _ _ _ (by omega)]
theorem zo_ran (X : ZX) (d m ce sl : Nat) (I : Nat → Nat → Int32) (L : Nat → Nat → Int64) (t u r q : Nat) {C : Nat} (hS : zg_S C m I) (hC : zg_C I) (hU : zg_U m I) (a : Int32) : zOL X (d + 200) 259 [.ref 0, .int a, .ref 117] 219 [.ref 55, .int a] (118, z_sd m, ce, sl, I, L, z_rr t u r q (z_gg m) (z_sf m)) (zQ m t u r q ce sl I L [] [] (fun J => zFs I J)) := by
  by_cases hne : a.toInt = 4
  · obtain ⟨h5, hs, hm, h1, hf⟩ := hS
    obtain ⟨q1, q2, q3, q4, q5, q6⟩ := hC
    obtain ⟨u1, u2, u3⟩ := hU
    obtain ⟨c, hc⟩ : ∃ c : Nat, (I 22 2).toInt = c := ⟨(I 22 2).toInt.toNat, by omega⟩
    have hc2 : (I 55 42).toInt = c := by rw [← q1, hc]
    have w1 : ¬ (z_p_X_within a (Int32.ofInt 0) (Int32.ofInt 4)) = 0 := by rw [y_wi0, y_oi0, y_oi (by omega) (by omega)]; omega
    have w2 : ∀ v : Int, -2147483648 ≤ v → v ≤ 2147483647 → v ≠ 4 → ¬ a = Int32.ofInt v := by
      intro v v1 v2 v3
      rw [y_i_eq, y_oi v1 v2]
      omega
    have w3 : a = Int32.ofInt 4 := y_i_eq.mpr (by rw [hne]; rfl)
    by_cases c0 : I 25 2 = 1
    · have c0' : ¬ I 25 2 = 0 := by rw [c0]; decide
      have c0'' : ¬ I 55 48 = 0 := by rw [← u1]; exact c0'
      obtain ⟨v1, v2, v3, v4, v5, v6, v7, v8, g1, g2, g3, g4, g5, g6, g7, g8⟩ := u3 c0
      obtain ⟨V, hV1, hV2⟩ := zr_len_loop X (z_run X z_cf z_ff (d + 198)) (z_sd m) ce sl (z_up I 55 0 (Int32.ofInt 0)) (z_up L 117 0 (I 25 8).toInt64) t u r q (z_gg m) (z_sf m) (m := m) (c := c) (by omega) hc2 h5 (by show (I 55 47).toInt = m; rw [v8, y_on (by omega)]) (fun k hk => by have g9 := g7 k hk; rw [g5] at g9; exact g9) (fun k hk => by have g9 := q6 k (by omega); rw [q4] at g9; exact ⟨g9.1, g9.2.1⟩) c 0 99999999 (Int32.ofInt 0) (by omega) (by omega) rfl (by decide) (by decide)
      have hVe : V = I 25 8 := by
        rw [y_i_eq, hV1, g8, hc]
        show zlen (I 80) (I 78) m c = zlen (I 26) (I 23) m c
        rw [g5, q4]
      rw [hVe] at hV2
      refine ⟨Int32.ofInt 0, I 25 8, zw m t u r q ce sl I (z_up L 117 0 (I 25 8).toInt64), zw m t u r q ce sl (z_up I 55 0 (Int32.ofInt 0)) (z_up L 117 0 (I 25 8).toInt64), ?_, ?_, rfl, fun _ => rfl, zQ_ro _ _ _ _ _ _ _ _ _ _ _ _ _ _ (zFs_up0 I _)⟩
      · rw [zk_L_ran_0, if_neg c0', if_neg w1, if_neg (w2 0 (by omega) (by omega) (by omega)), if_neg (w2 1 (by omega) (by omega) (by omega)), if_neg (w2 2 (by omega) (by omega) (by omega)), if_neg (w2 3 (by omega) (by omega) (by omega)), z_gd_inc (by omega) (by omega) (by omega)]
      · refine z_en X (d + 197) _ _ [(0, .ref 55), (1, .int a)] _ _ rfl rfl rfl ?_
        have e : z_pu (z_run X z_cf z_ff (d + 199)) 220 [.ref 55] (118, z_sd m, ce, sl, z_up I 55 0 (Int32.ofInt 0), z_up L 117 0 (I 25 8).toInt64, z_rr t u r q (z_gg m) (z_sf m)) = some (.inl (some (.int (I 25 8))), (118, z_sd m, ce, sl, z_up I 55 0 (Int32.ofInt 0), z_up L 117 0 (I 25 8).toInt64, z_rr t u r q (z_gg m) (z_sf m))) := by
          refine z_en X (d + 196) _ _ [(0, .ref 55)] _ _ rfl rfl rfl ?_
          rw [zb_M_lengths_0]
          exact hV2
        rw [zt_M_ran_0 X (d + 196), if_neg c0'', if_neg (by rw [y_i_lt, y_i0]; omega), if_neg (by rw [y_i_lt, y_oi (by omega) (by omega)]; omega), if_pos w3, e, z_bi_v, zb_M_ran_45]
    · have c0' : I 25 2 = 0 := u2.resolve_right c0
      have c0'' : I 55 48 = 0 := by rw [← u1]; exact c0'
      refine ⟨Int32.ofInt 1, Int32.ofInt 0, zw m t u r q (ce + 1) (sl + 6) I L, zw m t u r q (ce + 1) (sl + 6) (z_up (z_up I 55 0 (Int32.ofInt 0)) 55 0 (Int32.ofInt 1)) L, ?_, ?_, rfl, fun hk => absurd hk (by decide), zQ_no _ _ _ _ _ _ _ _ _ _ _ _ _ _ (zFs_up00 I _ _)⟩
      · rw [zk_L_ran_0, if_pos c0']
      · refine z_en X (d + 197) _ _ [(0, .ref 55), (1, .int a)] _ _ rfl rfl rfl ?_
        rw [zt_M_ran_0 X (d + 196), if_pos c0'']
  · exact zo_ran1 X d m ce sl I L t u r q hS hC hU a hne
