/-! CALLS, 4: point -/
theorem y_tnp (p : Nat) : ((p : Int) + 1).toNat = p + 1 := by omega
theorem zo_point (X : ZX) (d m ce sl : Nat) (I : Nat → Nat → Int32) (L : Nat → Nat → Int64) (t u r q : Nat) {p : Nat} (hL : zg_L p I) (a b : Int32) : zOX X (d + 200) 123 [.ref 0, .int a, .int b] 167 [.ref 55, .int a, .int b] (118, z_sd m, ce, sl, I, L, z_rr t u r q (z_gg m) (z_sf m)) (zQ m t u r q ce sl I L [2, 3, 4, 67, 68] [13] (fun J => (∃ p, zg_L p J) ∧ zFs I J)) := by
  have hL0 := hL
  obtain ⟨h9, k1, k2, hP, hd, hf⟩ := hL
  have d1 : 0 ≤ (I 3 p).toInt := by
    have := zm_inc' hP.2.2.1 (a := 0) (b := p) (by omega) (by omega)
    rw [hP.1] at this
    exact this
  have d2 : 0 ≤ (I 4 p).toInt := by
    have := zm_inc' hP.2.2.2.1 (a := 0) (b := p) (by omega) (by omega)
    rw [hP.2.1] at this
    exact this
  have d3 : (I 3 p).toInt ≤ 60000 := hP.2.2.2.2.1 p (by omega)
  have d4 : (I 4 p).toInt ≤ 99999 := hP.2.2.2.2.2 p (by omega)
  have e67 : p = 0 ∨ (I 67 ((p : Int) - 1).toNat).toInt = (I 3 p).toInt := by
    by_cases h0 : p = 0
    · exact Or.inl h0
    · refine Or.inr ?_
      rw [show ((p : Int) - 1).toNat = p - 1 by omega, hd (p - 1) (by omega), show p - 1 + 1 = p by omega]
  have e68 : p = 0 ∨ (I 68 ((p : Int) - 1).toNat).toInt = (I 4 p).toInt := by
    by_cases h0 : p = 0
    · exact Or.inl h0
    · refine Or.inr ?_
      rw [show ((p : Int) - 1).toNat = p - 1 by omega, hf (p - 1) (by omega), show p - 1 + 1 = p by omega]
  have e0 : p = 0 → (I 3 p).toInt = 0 ∧ (I 4 p).toInt = 0 := by
    intro h0
    rw [h0]
    exact ⟨hP.1, hP.2.1⟩
  have k3 : p = 0 ∨ 1 ≤ p := by omega
  have kq : I 2 2 = I 55 13 := by rw [k1, k2]
  have hp' : (I 55 13).toInt = p := by rw [k2, y_on (by omega)]
  by_cases c1 : p < 10
  · by_cases c2 : (I 3 p).toInt < a.toInt ∧ a.toInt ≤ 60000
    · by_cases c3 : (I 4 p).toInt < b.toInt ∧ b.toInt ≤ 99999
      · obtain ⟨J, hJ⟩ : ∃ J, J = (z_up (z_up (z_up I 2 2 (I 55 13 + Int32.ofInt 1)) 3 (p + 1) a) 4 (p + 1) b) := ⟨_, rfl⟩
        have j55 : J 55 = I 55 := by subst hJ; rfl
        have j67 : J 67 = I 67 := by subst hJ; rfl
        have j68 : J 68 = I 68 := by subst hJ; rfl
        refine ⟨I 55 13 + Int32.ofInt 1, (118, z_sd m, ce, sl, J, L, z_rr t u r q (z_gg m) (z_sf m)), (118, z_sd m, ce, sl, (z_up (z_up (z_up (z_up J 55 0 (Int32.ofInt 0)) 67 p a) 68 p b) 55 13 (I 55 13 + Int32.ofInt 1)), L, z_rr t u r q (z_gg m) (z_sf m)), ?_, ?_, ?_⟩
        · rw [hJ]; rw [zk_X_point_0, kq]; try simp (disch := (first | omega | (simp (disch := omega) only [y_adl, y_sbl, y_oi]; omega))) only [y_wiI, y_wmI, y_thI, y_haI, y_mtI, y_mhI, y_i_le, y_i_lt, y_i_eq, y_i0, y_oi, y_sbl, y_adl, y_lsb, y_ad, y_sb, y_tn, if_true, if_false, if_pos, if_neg, ite_self, z_gd_inc, z_gd_in, z_gd_ix, z_gd_ok, not_true_eq_false, not_false_eq_true, z_up_s, z_up_j, z_up_rj, z_up_stj, z_up_r, z_up_st, hp', Int.toNat_natCast, y_tnp]
        · rw [zk_M_point_0]; try simp (disch := (first | omega | (simp (disch := omega) only [y_adl, y_sbl, y_oi]; omega))) only [y_wiI, y_wmI, y_thI, y_haI, y_mtI, y_mhI, y_i_le, y_i_lt, y_i_eq, y_i0, y_oi, y_sbl, y_adl, y_lsb, y_ad, y_sb, y_tn, if_true, if_false, if_pos, if_neg, ite_self, z_gd_inc, z_gd_in, z_gd_ix, z_gd_ok, not_true_eq_false, not_false_eq_true, z_up_s, z_up_j, z_up_rj, z_up_stj, z_up_r, z_up_st, j55, j67, j68, hp', Int.toNat_natCast, y_tnp]
        · subst hJ
          refine ⟨ce, sl, (z_up (z_up (z_up (z_up (z_up (z_up (z_up I 2 2 (I 55 13 + Int32.ofInt 1)) 3 (p + 1) a) 4 (p + 1) b) 55 0 (Int32.ofInt 0)) 67 p a) 68 p b) 55 13 (I 55 13 + Int32.ofInt 1)), L, rfl, by omega, by omega, ⟨fun a h1 h2 h3 => by simp only [List.mem_cons, List.not_mem_nil, or_false, not_or] at h3; rw [z_up_r _ _ _ _ _ (by omega), z_up_r _ _ _ _ _ (by omega), z_up_r _ _ _ _ _ (by omega), z_up_r _ _ _ _ _ (by omega), z_up_r _ _ _ _ _ (by omega), z_up_r _ _ _ _ _ (by omega), z_up_r _ _ _ _ _ (by omega)], fun j h2 h3 => by simp only [List.mem_cons, List.not_mem_nil, or_false, not_or] at h3; rw [z_up_k _ _ _ _ _ (z_beq_n (by omega)), z_up_a _ _ _ _ _ _ rfl, z_up_a _ _ _ _ _ _ rfl, z_up_k _ _ _ _ _ (z_beq_n (by omega)), z_up_a _ _ _ _ _ _ rfl, z_up_a _ _ _ _ _ _ rfl, z_up_a _ _ _ _ _ _ rfl]⟩, fun _ _ => rfl, ?_⟩
          refine ⟨⟨p + 1, zg_L_add hL0 (x := a) (y := b) c1 c2.1 c2.2 c3.1 c3.2 (by rw [← k2]) (by rw [← k2]) rfl rfl rfl rfl⟩, fun k hk => by have hge := z_sd_ge k; rw [z_up_r _ _ _ _ _ (by omega), z_up_r _ _ _ _ _ (by omega), z_up_r _ _ _ _ _ (by omega), z_up_r _ _ _ _ _ (by omega), z_up_r _ _ _ _ _ (by omega), z_up_r _ _ _ _ _ (by omega), z_up_r _ _ _ _ _ (by omega)]⟩
      · refine ⟨Int32.ofInt (-1), (118, z_sd m, ce, sl, I, L, z_rr t u r q (z_gg m) (z_sf m)), (118, z_sd m, ce, sl, (z_up I 55 0 (Int32.ofInt 0)), L, z_rr t u r q (z_gg m) (z_sf m)), ?_, ?_, ?_⟩
        · rw [zk_X_point_0, kq]; try simp (disch := (first | omega | (simp (disch := omega) only [y_adl, y_sbl, y_oi]; omega))) only [y_wiI, y_wmI, y_thI, y_haI, y_mtI, y_mhI, y_i_le, y_i_lt, y_i_eq, y_i0, y_oi, y_sbl, y_adl, y_lsb, y_ad, y_sb, y_tn, if_true, if_false, if_pos, if_neg, ite_self, z_gd_inc, z_gd_in, z_gd_ix, z_gd_ok, not_true_eq_false, not_false_eq_true, z_up_s, z_up_j, z_up_rj, z_up_stj, z_up_r, z_up_st, hp', Int.toNat_natCast, y_tnp]
        · rw [zk_M_point_0]; try simp (disch := (first | omega | (simp (disch := omega) only [y_adl, y_sbl, y_oi]; omega))) only [y_wiI, y_wmI, y_thI, y_haI, y_mtI, y_mhI, y_i_le, y_i_lt, y_i_eq, y_i0, y_oi, y_sbl, y_adl, y_lsb, y_ad, y_sb, y_tn, if_true, if_false, if_pos, if_neg, ite_self, z_gd_inc, z_gd_in, z_gd_ix, z_gd_ok, not_true_eq_false, not_false_eq_true, z_up_s, z_up_j, z_up_rj, z_up_stj, z_up_r, z_up_st, hp', Int.toNat_natCast, y_tnp]
        · refine ⟨ce, sl, (z_up I 55 0 (Int32.ofInt 0)), L, rfl, by omega, by omega, ⟨fun a h1 h2 h3 => by simp only [List.mem_cons, List.not_mem_nil, or_false, not_or] at h3; rw [z_up_r _ _ _ _ _ (by omega)], fun j h2 h3 => by simp only [List.mem_cons, List.not_mem_nil, or_false, not_or] at h3; rw [z_up_k _ _ _ _ _ (z_beq_n (by omega))]⟩, fun _ _ => rfl, ?_⟩
          exact ⟨⟨p, zg_L_fr hL0 rfl rfl rfl rfl rfl rfl⟩, fun k hk => by have hge := z_sd_ge k; rw [z_up_r _ _ _ _ _ (by omega)]⟩
    · refine ⟨Int32.ofInt (-1), (118, z_sd m, ce, sl, I, L, z_rr t u r q (z_gg m) (z_sf m)), (118, z_sd m, ce, sl, (z_up I 55 0 (Int32.ofInt 0)), L, z_rr t u r q (z_gg m) (z_sf m)), ?_, ?_, ?_⟩
      · rw [zk_X_point_0, kq]; try simp (disch := (first | omega | (simp (disch := omega) only [y_adl, y_sbl, y_oi]; omega))) only [y_wiI, y_wmI, y_thI, y_haI, y_mtI, y_mhI, y_i_le, y_i_lt, y_i_eq, y_i0, y_oi, y_sbl, y_adl, y_lsb, y_ad, y_sb, y_tn, if_true, if_false, if_pos, if_neg, ite_self, z_gd_inc, z_gd_in, z_gd_ix, z_gd_ok, not_true_eq_false, not_false_eq_true, z_up_s, z_up_j, z_up_rj, z_up_stj, z_up_r, z_up_st, hp', Int.toNat_natCast, y_tnp]
      · rw [zk_M_point_0]; try simp (disch := (first | omega | (simp (disch := omega) only [y_adl, y_sbl, y_oi]; omega))) only [y_wiI, y_wmI, y_thI, y_haI, y_mtI, y_mhI, y_i_le, y_i_lt, y_i_eq, y_i0, y_oi, y_sbl, y_adl, y_lsb, y_ad, y_sb, y_tn, if_true, if_false, if_pos, if_neg, ite_self, z_gd_inc, z_gd_in, z_gd_ix, z_gd_ok, not_true_eq_false, not_false_eq_true, z_up_s, z_up_j, z_up_rj, z_up_stj, z_up_r, z_up_st, hp', Int.toNat_natCast, y_tnp]
      · refine ⟨ce, sl, (z_up I 55 0 (Int32.ofInt 0)), L, rfl, by omega, by omega, ⟨fun a h1 h2 h3 => by simp only [List.mem_cons, List.not_mem_nil, or_false, not_or] at h3; rw [z_up_r _ _ _ _ _ (by omega)], fun j h2 h3 => by simp only [List.mem_cons, List.not_mem_nil, or_false, not_or] at h3; rw [z_up_k _ _ _ _ _ (z_beq_n (by omega))]⟩, fun _ _ => rfl, ?_⟩
        exact ⟨⟨p, zg_L_fr hL0 rfl rfl rfl rfl rfl rfl⟩, fun k hk => by have hge := z_sd_ge k; rw [z_up_r _ _ _ _ _ (by omega)]⟩
  · refine ⟨Int32.ofInt (-1), (118, z_sd m, ce, sl, I, L, z_rr t u r q (z_gg m) (z_sf m)), (118, z_sd m, ce, sl, (z_up I 55 0 (Int32.ofInt 0)), L, z_rr t u r q (z_gg m) (z_sf m)), ?_, ?_, ?_⟩
    · rw [zk_X_point_0, kq]; try simp (disch := (first | omega | (simp (disch := omega) only [y_adl, y_sbl, y_oi]; omega))) only [y_wiI, y_wmI, y_thI, y_haI, y_mtI, y_mhI, y_i_le, y_i_lt, y_i_eq, y_i0, y_oi, y_sbl, y_adl, y_lsb, y_ad, y_sb, y_tn, if_true, if_false, if_pos, if_neg, ite_self, z_gd_inc, z_gd_in, z_gd_ix, z_gd_ok, not_true_eq_false, not_false_eq_true, z_up_s, z_up_j, z_up_rj, z_up_stj, z_up_r, z_up_st, hp', Int.toNat_natCast, y_tnp]
    · rw [zk_M_point_0]; try simp (disch := (first | omega | (simp (disch := omega) only [y_adl, y_sbl, y_oi]; omega))) only [y_wiI, y_wmI, y_thI, y_haI, y_mtI, y_mhI, y_i_le, y_i_lt, y_i_eq, y_i0, y_oi, y_sbl, y_adl, y_lsb, y_ad, y_sb, y_tn, if_true, if_false, if_pos, if_neg, ite_self, z_gd_inc, z_gd_in, z_gd_ix, z_gd_ok, not_true_eq_false, not_false_eq_true, z_up_s, z_up_j, z_up_rj, z_up_stj, z_up_r, z_up_st, hp', Int.toNat_natCast, y_tnp]
    · refine ⟨ce, sl, (z_up I 55 0 (Int32.ofInt 0)), L, rfl, by omega, by omega, ⟨fun a h1 h2 h3 => by simp only [List.mem_cons, List.not_mem_nil, or_false, not_or] at h3; rw [z_up_r _ _ _ _ _ (by omega)], fun j h2 h3 => by simp only [List.mem_cons, List.not_mem_nil, or_false, not_or] at h3; rw [z_up_k _ _ _ _ _ (z_beq_n (by omega))]⟩, fun _ _ => rfl, ?_⟩
      exact ⟨⟨p, zg_L_fr hL0 rfl rfl rfl rfl rfl rfl⟩, fun k hk => by have hge := z_sd_ge k; rw [z_up_r _ _ _ _ _ (by omega)]⟩
