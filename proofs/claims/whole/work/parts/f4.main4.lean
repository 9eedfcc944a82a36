/-! MAIN, 4: order with more facts; fits and back: the number told is 0 or 1 -/
theorem z_up_jj {α : Type} (f : Nat → Nat → α) (a k b j : Nat) (v : α) (h : j ≠ k) : z_up f a k v b j = f b j := by
  show z_c (Nat.beq b a) (z_c (Nat.beq j k) v (f b j)) (f b j) = _
  rw [z_beq_n h]
  cases Nat.beq b a <;> rfl
theorem zo_order2 (X : ZX) (d m ce sl : Nat) (I : Nat → Nat → Int32) (L : Nat → Nat → Int64) (t u r q : Nat) (hG : zg_O I) (a b c e : Int32) : zOX X (d + 200) 132 [.ref 0, .int a, .int b, .int c, .int e] 239 [.ref 55, .int a, .int b, .int c, .int e] (118, z_sd m, ce, sl, I, L, z_rr t u r q (z_gg m) (z_sf m)) (zQ m t u r q ce sl I L [41, 42, 43, 44, 45, 100, 101, 102, 103] [76] (fun J => (zg_O J ∧ zFs I J) ∧ J 41 8 = I 41 8 ∧ (I 41 4).toInt ≤ (J 41 4).toInt ∧ ∀ x, 42 ≤ x → x ≤ 45 → ∀ j : Nat, (j : Int) < (I 41 4).toInt → J x j = I x j)) := by
  have q1 := hG.1
  have q1' : (I 41 4).toInt = (I 55 76).toInt := by rw [q1]
  have q2 := hG.2.1
  have q3 := hG.2.2.1
  by_cases c1 : (I 55 76).toInt < 9
  · by_cases c2 : 1 ≤ a.toInt ∧ a.toInt ≤ 9999
    · by_cases c3 : 1 ≤ b.toInt ∧ b.toInt ≤ 60000
      · by_cases c4 : 1 ≤ c.toInt ∧ c.toInt ≤ 99
        · by_cases c5 : 0 ≤ e.toInt ∧ e.toInt ≤ 999
          · obtain ⟨J, hJ⟩ : ∃ J, J = (z_up (z_up (z_up (z_up (z_up I 42 ((I 55 76).toInt.toNat) a) 43 ((I 55 76).toInt.toNat) b) 44 ((I 55 76).toInt.toNat) c) 45 ((I 55 76).toInt.toNat) e) 41 4 (I 55 76 + Int32.ofInt 1)) := ⟨_, rfl⟩
            have j55 : J 55 = I 55 := by subst hJ; rfl
            refine ⟨(I 55 76 + Int32.ofInt 1) - Int32.ofInt 1, (118, z_sd m, ce, sl, J, L, z_rr t u r q (z_gg m) (z_sf m)), (118, z_sd m, ce, sl, (z_up (z_up (z_up (z_up (z_up (z_up J 55 0 (Int32.ofInt 0)) 100 ((I 55 76).toInt.toNat) a) 101 ((I 55 76).toInt.toNat) b) 102 ((I 55 76).toInt.toNat) c) 103 ((I 55 76).toInt.toNat) e) 55 76 (I 55 76 + Int32.ofInt 1)), L, z_rr t u r q (z_gg m) (z_sf m)), ?_, ?_, ?_⟩
            · rw [hJ]; rw [zk_X_order_0, q1]; try simp (disch := omega) only [y_wiI, y_wmI, y_thI, y_haI, y_mtI, y_mhI, y_i_le, y_i_lt, y_i_eq, y_i0, y_oi, y_sbl, y_adl, y_lsb, y_ad, y_sb, y_tn, if_true, if_false, if_pos, if_neg, ite_self, z_gd_inc, z_gd_in, z_gd_ix, z_gd_ok, not_true_eq_false, not_false_eq_true, z_up_s, z_up_j, z_up_rj, z_up_stj, z_up_r, z_up_st]
            · rw [zk_M_order_0]; try simp (disch := omega) only [y_wiI, y_wmI, y_thI, y_haI, y_mtI, y_mhI, y_i_le, y_i_lt, y_i_eq, y_i0, y_oi, y_sbl, y_adl, y_lsb, y_ad, y_sb, y_tn, if_true, if_false, if_pos, if_neg, ite_self, z_gd_inc, z_gd_in, z_gd_ix, z_gd_ok, not_true_eq_false, not_false_eq_true, z_up_s, z_up_j, z_up_rj, z_up_stj, z_up_r, z_up_st, j55]
            · subst hJ
              refine ⟨ce, sl, (z_up (z_up (z_up (z_up (z_up (z_up (z_up (z_up (z_up (z_up (z_up I 42 ((I 55 76).toInt.toNat) a) 43 ((I 55 76).toInt.toNat) b) 44 ((I 55 76).toInt.toNat) c) 45 ((I 55 76).toInt.toNat) e) 41 4 (I 55 76 + Int32.ofInt 1)) 55 0 (Int32.ofInt 0)) 100 ((I 55 76).toInt.toNat) a) 101 ((I 55 76).toInt.toNat) b) 102 ((I 55 76).toInt.toNat) c) 103 ((I 55 76).toInt.toNat) e) 55 76 (I 55 76 + Int32.ofInt 1)), L, rfl, by omega, by omega, ⟨fun a h1 h2 h3 => by simp only [List.mem_cons, List.not_mem_nil, or_false, not_or] at h3; rw [z_up_r _ _ _ _ _ (by omega), z_up_r _ _ _ _ _ (by omega), z_up_r _ _ _ _ _ (by omega), z_up_r _ _ _ _ _ (by omega), z_up_r _ _ _ _ _ (by omega), z_up_r _ _ _ _ _ (by omega), z_up_r _ _ _ _ _ (by omega), z_up_r _ _ _ _ _ (by omega), z_up_r _ _ _ _ _ (by omega), z_up_r _ _ _ _ _ (by omega), z_up_r _ _ _ _ _ (by omega)], fun j h2 h3 => by simp only [List.mem_cons, List.not_mem_nil, or_false, not_or] at h3; rw [z_up_k _ _ _ _ _ (z_beq_n (by omega)), z_up_a _ _ _ _ _ _ rfl, z_up_a _ _ _ _ _ _ rfl, z_up_a _ _ _ _ _ _ rfl, z_up_a _ _ _ _ _ _ rfl, z_up_k _ _ _ _ _ (z_beq_n (by omega)), z_up_a _ _ _ _ _ _ rfl, z_up_a _ _ _ _ _ _ rfl, z_up_a _ _ _ _ _ _ rfl, z_up_a _ _ _ _ _ _ rfl, z_up_a _ _ _ _ _ _ rfl]⟩, fun _ _ => rfl, ?_⟩
              refine ⟨⟨zg_O_add hG (k := (I 55 76).toInt.toNat) (w := a) (h := b) (t := c) (d := e) ?_ ?_ ?_ ?_ ?_ ?_ ?_ ?_ ?_ ?_ ?_ ?_ ?_ ?_ ?_ ?_ ?_ ?_ ?_ ?_, fun k hk => by have hge := z_sd_ge k; rw [z_up_r _ _ _ _ _ (by omega), z_up_r _ _ _ _ _ (by omega), z_up_r _ _ _ _ _ (by omega), z_up_r _ _ _ _ _ (by omega), z_up_r _ _ _ _ _ (by omega), z_up_r _ _ _ _ _ (by omega), z_up_r _ _ _ _ _ (by omega), z_up_r _ _ _ _ _ (by omega), z_up_r _ _ _ _ _ (by omega), z_up_r _ _ _ _ _ (by omega), z_up_r _ _ _ _ _ (by omega)]⟩, rfl, (by show (I 41 4).toInt ≤ (I 55 76 + Int32.ofInt 1).toInt; rw [z_p1 (by omega)]; omega), fun x x1 x2 j hj => by rw [z_up_r _ _ _ _ _ (by omega), z_up_r _ _ _ _ _ (by omega), z_up_r _ _ _ _ _ (by omega), z_up_r _ _ _ _ _ (by omega), z_up_r _ _ _ _ _ (by omega), z_up_r _ _ _ _ _ (by omega), z_up_r _ _ _ _ _ (by omega), z_up_jj _ _ _ _ _ _ (by omega), z_up_jj _ _ _ _ _ _ (by omega), z_up_jj _ _ _ _ _ _ (by omega), z_up_jj _ _ _ _ _ _ (by omega)]⟩
              all_goals first | omega | rfl | (simp only [q1]; rfl) | (simp only [q1])
          · refine ⟨Int32.ofInt (-1), (118, z_sd m, ce, sl, I, L, z_rr t u r q (z_gg m) (z_sf m)), (118, z_sd m, ce, sl, (z_up I 55 0 (Int32.ofInt 0)), L, z_rr t u r q (z_gg m) (z_sf m)), ?_, ?_, ?_⟩
            · rw [zk_X_order_0]; try simp (disch := omega) only [y_wiI, y_wmI, y_thI, y_haI, y_mtI, y_mhI, y_i_le, y_i_lt, y_i_eq, y_i0, y_oi, y_sbl, y_adl, y_lsb, y_ad, y_sb, y_tn, if_true, if_false, if_pos, if_neg, ite_self, z_gd_inc, z_gd_in, z_gd_ix, z_gd_ok, not_true_eq_false, not_false_eq_true, z_up_s, z_up_j, z_up_rj, z_up_stj, z_up_r, z_up_st]
            · rw [zk_M_order_0]; try simp (disch := omega) only [y_wiI, y_wmI, y_thI, y_haI, y_mtI, y_mhI, y_i_le, y_i_lt, y_i_eq, y_i0, y_oi, y_sbl, y_adl, y_lsb, y_ad, y_sb, y_tn, if_true, if_false, if_pos, if_neg, ite_self, z_gd_inc, z_gd_in, z_gd_ix, z_gd_ok, not_true_eq_false, not_false_eq_true, z_up_s, z_up_j, z_up_rj, z_up_stj, z_up_r, z_up_st]
            · refine ⟨ce, sl, (z_up I 55 0 (Int32.ofInt 0)), L, rfl, by omega, by omega, ⟨fun a h1 h2 h3 => by simp only [List.mem_cons, List.not_mem_nil, or_false, not_or] at h3; rw [z_up_r _ _ _ _ _ (by omega)], fun j h2 h3 => by simp only [List.mem_cons, List.not_mem_nil, or_false, not_or] at h3; rw [z_up_k _ _ _ _ _ (z_beq_n (by omega))]⟩, fun _ _ => rfl, ?_⟩
              exact ⟨⟨zg_O_fr hG rfl rfl rfl rfl rfl rfl rfl rfl rfl rfl, fun k hk => by have hge := z_sd_ge k; rw [z_up_r _ _ _ _ _ (by omega)]⟩, rfl, Int.le_refl _, fun x x1 x2 j hj => by rw [z_up_r _ _ _ _ _ (by omega)]⟩
        · refine ⟨Int32.ofInt (-1), (118, z_sd m, ce, sl, I, L, z_rr t u r q (z_gg m) (z_sf m)), (118, z_sd m, ce, sl, (z_up I 55 0 (Int32.ofInt 0)), L, z_rr t u r q (z_gg m) (z_sf m)), ?_, ?_, ?_⟩
          · rw [zk_X_order_0]; try simp (disch := omega) only [y_wiI, y_wmI, y_thI, y_haI, y_mtI, y_mhI, y_i_le, y_i_lt, y_i_eq, y_i0, y_oi, y_sbl, y_adl, y_lsb, y_ad, y_sb, y_tn, if_true, if_false, if_pos, if_neg, ite_self, z_gd_inc, z_gd_in, z_gd_ix, z_gd_ok, not_true_eq_false, not_false_eq_true, z_up_s, z_up_j, z_up_rj, z_up_stj, z_up_r, z_up_st]
          · rw [zk_M_order_0]; try simp (disch := omega) only [y_wiI, y_wmI, y_thI, y_haI, y_mtI, y_mhI, y_i_le, y_i_lt, y_i_eq, y_i0, y_oi, y_sbl, y_adl, y_lsb, y_ad, y_sb, y_tn, if_true, if_false, if_pos, if_neg, ite_self, z_gd_inc, z_gd_in, z_gd_ix, z_gd_ok, not_true_eq_false, not_false_eq_true, z_up_s, z_up_j, z_up_rj, z_up_stj, z_up_r, z_up_st]
          · refine ⟨ce, sl, (z_up I 55 0 (Int32.ofInt 0)), L, rfl, by omega, by omega, ⟨fun a h1 h2 h3 => by simp only [List.mem_cons, List.not_mem_nil, or_false, not_or] at h3; rw [z_up_r _ _ _ _ _ (by omega)], fun j h2 h3 => by simp only [List.mem_cons, List.not_mem_nil, or_false, not_or] at h3; rw [z_up_k _ _ _ _ _ (z_beq_n (by omega))]⟩, fun _ _ => rfl, ?_⟩
            exact ⟨⟨zg_O_fr hG rfl rfl rfl rfl rfl rfl rfl rfl rfl rfl, fun k hk => by have hge := z_sd_ge k; rw [z_up_r _ _ _ _ _ (by omega)]⟩, rfl, Int.le_refl _, fun x x1 x2 j hj => by rw [z_up_r _ _ _ _ _ (by omega)]⟩
      · refine ⟨Int32.ofInt (-1), (118, z_sd m, ce, sl, I, L, z_rr t u r q (z_gg m) (z_sf m)), (118, z_sd m, ce, sl, (z_up I 55 0 (Int32.ofInt 0)), L, z_rr t u r q (z_gg m) (z_sf m)), ?_, ?_, ?_⟩
        · rw [zk_X_order_0]; try simp (disch := omega) only [y_wiI, y_wmI, y_thI, y_haI, y_mtI, y_mhI, y_i_le, y_i_lt, y_i_eq, y_i0, y_oi, y_sbl, y_adl, y_lsb, y_ad, y_sb, y_tn, if_true, if_false, if_pos, if_neg, ite_self, z_gd_inc, z_gd_in, z_gd_ix, z_gd_ok, not_true_eq_false, not_false_eq_true, z_up_s, z_up_j, z_up_rj, z_up_stj, z_up_r, z_up_st]
        · rw [zk_M_order_0]; try simp (disch := omega) only [y_wiI, y_wmI, y_thI, y_haI, y_mtI, y_mhI, y_i_le, y_i_lt, y_i_eq, y_i0, y_oi, y_sbl, y_adl, y_lsb, y_ad, y_sb, y_tn, if_true, if_false, if_pos, if_neg, ite_self, z_gd_inc, z_gd_in, z_gd_ix, z_gd_ok, not_true_eq_false, not_false_eq_true, z_up_s, z_up_j, z_up_rj, z_up_stj, z_up_r, z_up_st]
        · refine ⟨ce, sl, (z_up I 55 0 (Int32.ofInt 0)), L, rfl, by omega, by omega, ⟨fun a h1 h2 h3 => by simp only [List.mem_cons, List.not_mem_nil, or_false, not_or] at h3; rw [z_up_r _ _ _ _ _ (by omega)], fun j h2 h3 => by simp only [List.mem_cons, List.not_mem_nil, or_false, not_or] at h3; rw [z_up_k _ _ _ _ _ (z_beq_n (by omega))]⟩, fun _ _ => rfl, ?_⟩
          exact ⟨⟨zg_O_fr hG rfl rfl rfl rfl rfl rfl rfl rfl rfl rfl, fun k hk => by have hge := z_sd_ge k; rw [z_up_r _ _ _ _ _ (by omega)]⟩, rfl, Int.le_refl _, fun x x1 x2 j hj => by rw [z_up_r _ _ _ _ _ (by omega)]⟩
    · refine ⟨Int32.ofInt (-1), (118, z_sd m, ce, sl, I, L, z_rr t u r q (z_gg m) (z_sf m)), (118, z_sd m, ce, sl, (z_up I 55 0 (Int32.ofInt 0)), L, z_rr t u r q (z_gg m) (z_sf m)), ?_, ?_, ?_⟩
      · rw [zk_X_order_0]; try simp (disch := omega) only [y_wiI, y_wmI, y_thI, y_haI, y_mtI, y_mhI, y_i_le, y_i_lt, y_i_eq, y_i0, y_oi, y_sbl, y_adl, y_lsb, y_ad, y_sb, y_tn, if_true, if_false, if_pos, if_neg, ite_self, z_gd_inc, z_gd_in, z_gd_ix, z_gd_ok, not_true_eq_false, not_false_eq_true, z_up_s, z_up_j, z_up_rj, z_up_stj, z_up_r, z_up_st]
      · rw [zk_M_order_0]; try simp (disch := omega) only [y_wiI, y_wmI, y_thI, y_haI, y_mtI, y_mhI, y_i_le, y_i_lt, y_i_eq, y_i0, y_oi, y_sbl, y_adl, y_lsb, y_ad, y_sb, y_tn, if_true, if_false, if_pos, if_neg, ite_self, z_gd_inc, z_gd_in, z_gd_ix, z_gd_ok, not_true_eq_false, not_false_eq_true, z_up_s, z_up_j, z_up_rj, z_up_stj, z_up_r, z_up_st]
      · refine ⟨ce, sl, (z_up I 55 0 (Int32.ofInt 0)), L, rfl, by omega, by omega, ⟨fun a h1 h2 h3 => by simp only [List.mem_cons, List.not_mem_nil, or_false, not_or] at h3; rw [z_up_r _ _ _ _ _ (by omega)], fun j h2 h3 => by simp only [List.mem_cons, List.not_mem_nil, or_false, not_or] at h3; rw [z_up_k _ _ _ _ _ (z_beq_n (by omega))]⟩, fun _ _ => rfl, ?_⟩
        exact ⟨⟨zg_O_fr hG rfl rfl rfl rfl rfl rfl rfl rfl rfl rfl, fun k hk => by have hge := z_sd_ge k; rw [z_up_r _ _ _ _ _ (by omega)]⟩, rfl, Int.le_refl _, fun x x1 x2 j hj => by rw [z_up_r _ _ _ _ _ (by omega)]⟩
  · refine ⟨Int32.ofInt (-1), (118, z_sd m, ce, sl, I, L, z_rr t u r q (z_gg m) (z_sf m)), (118, z_sd m, ce, sl, (z_up I 55 0 (Int32.ofInt 0)), L, z_rr t u r q (z_gg m) (z_sf m)), ?_, ?_, ?_⟩
    · rw [zk_X_order_0]; try simp (disch := omega) only [y_wiI, y_wmI, y_thI, y_haI, y_mtI, y_mhI, y_i_le, y_i_lt, y_i_eq, y_i0, y_oi, y_sbl, y_adl, y_lsb, y_ad, y_sb, y_tn, if_true, if_false, if_pos, if_neg, ite_self, z_gd_inc, z_gd_in, z_gd_ix, z_gd_ok, not_true_eq_false, not_false_eq_true, z_up_s, z_up_j, z_up_rj, z_up_stj, z_up_r, z_up_st]
    · rw [zk_M_order_0]; try simp (disch := omega) only [y_wiI, y_wmI, y_thI, y_haI, y_mtI, y_mhI, y_i_le, y_i_lt, y_i_eq, y_i0, y_oi, y_sbl, y_adl, y_lsb, y_ad, y_sb, y_tn, if_true, if_false, if_pos, if_neg, ite_self, z_gd_inc, z_gd_in, z_gd_ix, z_gd_ok, not_true_eq_false, not_false_eq_true, z_up_s, z_up_j, z_up_rj, z_up_stj, z_up_r, z_up_st]
    · refine ⟨ce, sl, (z_up I 55 0 (Int32.ofInt 0)), L, rfl, by omega, by omega, ⟨fun a h1 h2 h3 => by simp only [List.mem_cons, List.not_mem_nil, or_false, not_or] at h3; rw [z_up_r _ _ _ _ _ (by omega)], fun j h2 h3 => by simp only [List.mem_cons, List.not_mem_nil, or_false, not_or] at h3; rw [z_up_k _ _ _ _ _ (z_beq_n (by omega))]⟩, fun _ _ => rfl, ?_⟩
      exact ⟨⟨zg_O_fr hG rfl rfl rfl rfl rfl rfl rfl rfl rfl rfl, fun k hk => by have hge := z_sd_ge k; rw [z_up_r _ _ _ _ _ (by omega)]⟩, rfl, Int.le_refl _, fun x x1 x2 j hj => by rw [z_up_r _ _ _ _ _ (by omega)]⟩
theorem zo_backB (X : ZX) (d m ce sl : Nat) (I : Nat → Nat → Int32) (L : Nat → Nat → Int64) (t u r q : Nat) (hG : zg_R I) (a : Int32) : zOLB X (d + 200) 270 [.ref 0, .int a, .ref 117] 249 [.ref 55, .int a] (118, z_sd m, ce, sl, I, L, z_rr t u r q (z_gg m) (z_sf m)) (zQ m t u r q ce sl I L [53, 115] [] (fun J => zg_R J ∧ zFs I J)) := by
  have q1 := hG.2.2.2.1
  have q0 := hG.1
  have q1' : (I 48 6).toInt = (I 55 90).toInt := by rw [q1]
  have q2 := hG.2.2.2.2.1
  have q3 := hG.2.2.2.2.2.1
  have b5 := hG.2.2.2.2.2.2.2.2.2.2.1
  by_cases c1 : 0 ≤ a.toInt ∧ a.toInt < (I 55 90).toInt
  · have b5' : (I 53 a.toInt.toNat).toInt = (I 115 a.toInt.toNat).toInt := by rw [b5]
    by_cases c2 : (I 115 a.toInt.toNat).toInt = -1
    · obtain ⟨J, hJ⟩ : ∃ J, J = (z_up I 53 a.toInt.toNat (I 48 0)) := ⟨_, rfl⟩
      have j55 : J 55 = I 55 := by subst hJ; rfl
      have j115 : J 115 = I 115 := by subst hJ; rfl
      refine ⟨Int32.ofInt 0, Int32.ofInt 1, (118, z_sd m, ce, sl, J, (z_up L 117 0 (Int64.ofInt 1)), z_rr t u r q (z_gg m) (z_sf m)), (118, z_sd m, ce, sl, (z_up (z_up J 55 0 (Int32.ofInt 0)) 115 a.toInt.toNat (I 55 89)), (z_up L 117 0 (Int64.ofInt 1)), z_rr t u r q (z_gg m) (z_sf m)), (by decide), ?_, ?_, (by show (z_up (z_up J 55 0 (Int32.ofInt 0)) 115 a.toInt.toNat (I 55 89)) 55 0 = _; first | rfl | simp (disch := omega) only [z_up_s, z_up_j, z_up_rj, z_up_stj, z_up_r, z_up_st]), fun _ => ?_, ?_⟩
      · rw [hJ]; rw [zk_L_back_0]; try simp (disch := omega) only [y_wiI, y_wmI, y_thI, y_haI, y_mtI, y_mhI, y_i_le, y_i_lt, y_i_eq, y_i0, y_oi, y_sbl, y_adl, y_lsb, y_ad, y_sb, y_tn, if_true, if_false, if_pos, if_neg, ite_self, z_gd_inc, z_gd_in, z_gd_ix, z_gd_ok, not_true_eq_false, not_false_eq_true, z_up_s, z_up_j, z_up_rj, z_up_stj, z_up_r, z_up_st]
      · rw [zk_M_back_0]; try simp (disch := omega) only [y_wiI, y_wmI, y_thI, y_haI, y_mtI, y_mhI, y_i_le, y_i_lt, y_i_eq, y_i0, y_oi, y_sbl, y_adl, y_lsb, y_ad, y_sb, y_tn, if_true, if_false, if_pos, if_neg, ite_self, z_gd_inc, z_gd_in, z_gd_ix, z_gd_ok, not_true_eq_false, not_false_eq_true, z_up_s, z_up_j, z_up_rj, z_up_stj, z_up_r, z_up_st, j55, j115]
      · rfl
      · subst hJ
        refine ⟨ce, sl, (z_up (z_up (z_up I 53 a.toInt.toNat (I 48 0)) 55 0 (Int32.ofInt 0)) 115 a.toInt.toNat (I 55 89)), (z_up L 117 0 (Int64.ofInt 1)), rfl, by omega, by omega, ⟨fun a h1 h2 h3 => by simp only [List.mem_cons, List.not_mem_nil, or_false, not_or] at h3; rw [z_up_r _ _ _ _ _ (by omega), z_up_r _ _ _ _ _ (by omega), z_up_r _ _ _ _ _ (by omega)], fun j h2 h3 => by rw [z_up_a _ _ _ _ _ _ rfl, z_up_k _ _ _ _ _ (z_beq_n (by omega)), z_up_a _ _ _ _ _ _ rfl]⟩, fun a ha => z_up117 L _ a ha, ?_⟩
        refine ⟨?_, fun k hk => by have hge := z_sd_ge k; rw [z_up_r _ _ _ _ _ (by omega), z_up_r _ _ _ _ _ (by omega), z_up_r _ _ _ _ _ (by omega)]⟩
        obtain ⟨a1, a2, a3, a4, a5, a6, b1, b2, b3, b4, b5, b6⟩ := hG
        exact ⟨a1, a2, a3, a4, a5, a6, b1, b2, b3, b4, show z_up I 53 a.toInt.toNat (I 48 0) 53 = z_up I 115 a.toInt.toNat (I 55 89) 115 by rw [a1]; exact y_row b5, b6⟩
    · refine ⟨Int32.ofInt 0, Int32.ofInt 0, (118, z_sd m, ce, sl, I, (z_up L 117 0 (Int64.ofInt 0)), z_rr t u r q (z_gg m) (z_sf m)), (118, z_sd m, ce, sl, (z_up I 55 0 (Int32.ofInt 0)), (z_up L 117 0 (Int64.ofInt 0)), z_rr t u r q (z_gg m) (z_sf m)), (by decide), ?_, ?_, (by show (z_up I 55 0 (Int32.ofInt 0)) 55 0 = _; first | rfl | simp (disch := omega) only [z_up_s, z_up_j, z_up_rj, z_up_stj, z_up_r, z_up_st]), fun _ => ?_, ?_⟩
      · rw [zk_L_back_0]; try simp (disch := omega) only [y_wiI, y_wmI, y_thI, y_haI, y_mtI, y_mhI, y_i_le, y_i_lt, y_i_eq, y_i0, y_oi, y_sbl, y_adl, y_lsb, y_ad, y_sb, y_tn, if_true, if_false, if_pos, if_neg, ite_self, z_gd_inc, z_gd_in, z_gd_ix, z_gd_ok, not_true_eq_false, not_false_eq_true, z_up_s, z_up_j, z_up_rj, z_up_stj, z_up_r, z_up_st]
      · rw [zk_M_back_0]; try simp (disch := omega) only [y_wiI, y_wmI, y_thI, y_haI, y_mtI, y_mhI, y_i_le, y_i_lt, y_i_eq, y_i0, y_oi, y_sbl, y_adl, y_lsb, y_ad, y_sb, y_tn, if_true, if_false, if_pos, if_neg, ite_self, z_gd_inc, z_gd_in, z_gd_ix, z_gd_ok, not_true_eq_false, not_false_eq_true, z_up_s, z_up_j, z_up_rj, z_up_stj, z_up_r, z_up_st]
      · rfl
      · refine ⟨ce, sl, (z_up I 55 0 (Int32.ofInt 0)), (z_up L 117 0 (Int64.ofInt 0)), rfl, by omega, by omega, ⟨fun a h1 h2 h3 => by simp only [List.mem_cons, List.not_mem_nil, or_false, not_or] at h3; rw [z_up_r _ _ _ _ _ (by omega)], fun j h2 h3 => by rw [z_up_k _ _ _ _ _ (z_beq_n (by omega))]⟩, fun a ha => z_up117 L _ a ha, ?_⟩
        exact ⟨zg_R_fr hG rfl rfl rfl rfl rfl rfl rfl rfl rfl rfl rfl rfl rfl rfl, fun k hk => by have hge := z_sd_ge k; rw [z_up_r _ _ _ _ _ (by omega)]⟩
  · refine ⟨Int32.ofInt 1, Int32.ofInt 0, (118, z_sd m, (ce + 1), (sl + 6), I, L, z_rr t u r q (z_gg m) (z_sf m)), (118, z_sd m, (ce + 1), (sl + 6), (z_up (z_up I 55 0 (Int32.ofInt 0)) 55 0 (Int32.ofInt 1)), L, z_rr t u r q (z_gg m) (z_sf m)), (by decide), ?_, ?_, (by show (z_up (z_up I 55 0 (Int32.ofInt 0)) 55 0 (Int32.ofInt 1)) 55 0 = _; first | rfl | simp (disch := omega) only [z_up_s, z_up_j, z_up_rj, z_up_stj, z_up_r, z_up_st]), fun hk => absurd hk (by decide), ?_⟩
    · rw [zk_L_back_0]; try simp (disch := omega) only [y_wiI, y_wmI, y_thI, y_haI, y_mtI, y_mhI, y_i_le, y_i_lt, y_i_eq, y_i0, y_oi, y_sbl, y_adl, y_lsb, y_ad, y_sb, y_tn, if_true, if_false, if_pos, if_neg, ite_self, z_gd_inc, z_gd_in, z_gd_ix, z_gd_ok, not_true_eq_false, not_false_eq_true, z_up_s, z_up_j, z_up_rj, z_up_stj, z_up_r, z_up_st]
    · rw [zk_M_back_0]; try simp (disch := omega) only [y_wiI, y_wmI, y_thI, y_haI, y_mtI, y_mhI, y_i_le, y_i_lt, y_i_eq, y_i0, y_oi, y_sbl, y_adl, y_lsb, y_ad, y_sb, y_tn, if_true, if_false, if_pos, if_neg, ite_self, z_gd_inc, z_gd_in, z_gd_ix, z_gd_ok, not_true_eq_false, not_false_eq_true, z_up_s, z_up_j, z_up_rj, z_up_stj, z_up_r, z_up_st]
    · refine ⟨ce + 1, sl + 6, (z_up (z_up I 55 0 (Int32.ofInt 0)) 55 0 (Int32.ofInt 1)), L, rfl, by omega, by omega, ⟨fun a h1 h2 h3 => by simp only [List.mem_cons, List.not_mem_nil, or_false, not_or] at h3; rw [z_up_r _ _ _ _ _ (by omega), z_up_r _ _ _ _ _ (by omega)], fun j h2 h3 => by rw [z_up_k _ _ _ _ _ (z_beq_n (by omega)), z_up_k _ _ _ _ _ (z_beq_n (by omega))]⟩, fun _ _ => rfl, ?_⟩
      exact ⟨zg_R_fr hG rfl rfl rfl rfl rfl rfl rfl rfl rfl rfl rfl rfl rfl rfl, fun k hk => by have hge := z_sd_ge k; rw [z_up_r _ _ _ _ _ (by omega), z_up_r _ _ _ _ _ (by omega)]⟩
theorem zo_fitsB (X : ZX) (d m ce sl : Nat) (I : Nat → Nat → Int32) (L : Nat → Nat → Int64) (t u r q : Nat) {C : Nat} (hS : zg_S C m I) (s many : Int32) (a b c f : Int64) (e x y : Int32) : zOLB X (d + 200) 266 [.ref 0, .int s, .int many, .long a, .long b, .long c, .long f, .int e, .int x, .int y, .ref 117] 236 [.ref 55, .int s, .int many, .long a, .long b, .long c, .long f, .int e, .int x, .int y] (118, z_sd m, ce, sl, I, L, z_rr t u r q (z_gg m) (z_sf m)) (zQ m t u r q ce sl I L [] [] (zFs I)) := by
  obtain ⟨h5, hs, hm, h1, hf⟩ := hS
  have hs' : (I 5 2).toInt = m := by rw [hs, y_on (by omega)]
  have hm' : (I 55 1).toInt = m := by rw [hm, y_on (by omega)]
  have hs1 : (I 5 2 - Int32.ofInt 1).toInt = m - 1 := by rw [y_sbl (by omega) (by omega) (by omega) (by omega), hs']
  have no1 : ∀ (k : Int) (_ : k = 1 ∨ k = 2), (∀ LL, z_pu (z_run X z_cf z_ff (d + 200)) 236 [.ref 55, .int s, .int many, .long a, .long b, .long c, .long f, .int e, .int x, .int y] (118, z_sd m, ce + 1, sl + 6, I, LL, z_rr t u r q (z_gg m) (z_sf m)) = some (.inl (some (.int (Int32.ofInt 0))), (118, z_sd m, ce + 1, sl + 6, z_up (z_up I 55 0 (Int32.ofInt 0)) 55 0 (Int32.ofInt k), LL, z_rr t u r q (z_gg m) (z_sf m)))) →
      z_pu (z_run X z_cf z_ff (d + 199)) 152 [.ref 0, .int s, .int many, .long a, .long b, .long c, .long f, .int e, .int x, .int y] (118, z_sd m, ce, sl, I, L, z_rr t u r q (z_gg m) (z_sf m)) = some (.inr (k.toNat - 1), (118, z_sd m, ce + 1, sl + 6, I, L, z_rr t u r q (z_gg m) (z_sf m))) → zOLB X (d + 200) 266 [.ref 0, .int s, .int many, .long a, .long b, .long c, .long f, .int e, .int x, .int y, .ref 117] 236 [.ref 55, .int s, .int many, .long a, .long b, .long c, .long f, .int e, .int x, .int y] (118, z_sd m, ce, sl, I, L, z_rr t u r q (z_gg m) (z_sf m)) (zQ m t u r q ce sl I L [] [] (zFs I)) := by
    intro k hk g1 g2
    refine ⟨Int32.ofInt k, Int32.ofInt 0, zw m t u r q (ce + 1) (sl + 6) I L, zw m t u r q (ce + 1) (sl + 6) (z_up (z_up I 55 0 (Int32.ofInt 0)) 55 0 (Int32.ofInt k)) L, Or.inl rfl, ?_, g1 L, rfl, ?_, zQ_no _ _ _ _ _ _ _ _ _ _ _ _ _ _ (zFs_up00 I _ _)⟩
    · refine z_en X (d + 197) _ _ [(0, .ref 0), (1, .int s), (2, .int many), (3, .long a), (5, .long b), (7, .long c), (9, .long f), (11, .int e), (12, .int x), (13, .int y), (14, .ref 117)] _ _ rfl rfl rfl ?_
      rw [zb_L_fits_0, g2, z_bi_e]
      rcases hk with hk | hk
      · subst hk
        exact z_x1 rfl rfl
      · subst hk
        exact z_x1 rfl rfl
    · intro hk0
      exfalso
      rcases hk with hk | hk
      · subst hk
        exact absurd hk0 (by decide)
      · subst hk
        exact absurd hk0 (by decide)
  by_cases c1 : 0 ≤ s.toInt ∧ s.toInt < m
  · have hw1 : ¬ (z_p_X_within s (Int32.ofInt 0) (I 5 2 - Int32.ofInt 1)) = 0 := by rw [y_wi0, hs1, y_oi0]; omega
    have hix : z_ix s (I 5 2) m = true := y_ix_T c1.1 c1.2 h5 hs
    have ha1 : ¬ s < 0 := by rw [y_i_lt, y_i0]; omega
    have ha2 : ¬ I 55 1 ≤ s := by rw [y_i_le, hm']; omega
    have haN : s.toNatClampNeg = s.toInt.toNat := rfl
    obtain ⟨⟨q0, q1, q2, q3, q4, q5, q6, q7, q8, q9, q10⟩, hb⟩ := h1 s.toInt.toNat (by omega)
    have hok := z_okS (k := s.toInt.toNat) (m := m) (by omega) (by omega) 118 ce sl I L (z_rr t u r q (z_gg m) (z_sf m))
    by_cases c2 : (2 ≤ many.toInt ∧ many.toInt ≤ 10) ∧ 0 ≤ e.toInt ∧ (1 ≤ x.toInt ∧ x.toInt ≤ 60000) ∧ (1 ≤ y.toInt ∧ y.toInt ≤ 60000)
    · obtain ⟨d1, d2, d3, d4⟩ := c2
      obtain ⟨N, hN⟩ : ∃ N : Nat, many.toInt = N := ⟨many.toInt.toNat, by omega⟩
      have preC : z_pu (z_run X z_cf z_ff (d + 199)) 152 [.ref 0, .int s, .int many, .long a, .long b, .long c, .long f, .int e, .int x, .int y] (118, z_sd m, ce, sl, I, L, z_rr t u r q (z_gg m) (z_sf m)) = z_loop X z_cf z_ff (z_pu (z_run X z_cf z_ff (d + 198))) 152 99999998 52 [(2, .int many), (3, .long a), (5, .long b), (7, .long c), (9, .long f), (11, .int e), (12, .int x), (13, .int y), (14, .ref (z_sd s.toInt.toNat)), (15, .int (Int32.ofInt (-1))), (16, .int (Int32.ofInt 0))] [] (118, z_sd m, ce, sl, I, L, z_rr t u r q (z_gg m) (z_sf m)) := by
        refine z_en X (d + 196) _ _ [(0, .ref 0), (1, .int s), (2, .int many), (3, .long a), (5, .long b), (7, .long c), (9, .long f), (11, .int e), (12, .int x), (13, .int y)] _ _ rfl rfl rfl ?_
        rw [zt_X_fits_0 X (d + 191), if_neg hw1, hix, z_gd_t, if_neg (by rw [y_wi0, y_oi (by omega) (by omega), y_oi (by omega) (by omega)]; omega), if_neg (by rw [y_i_lt, y_i0]; omega), if_neg (by rw [y_th0]; omega), if_neg (by rw [y_th0]; omega), haN]
      have l1 := zr_ft1 X (z_run X z_cf z_ff (d + 198)) (z_sd m) ce sl I L t u r q (z_gg m) (z_sf m) (z_sd s.toInt.toNat) many e x y a b c f (N := N) (by omega) hN N 0 (99999998 - N - 1) (Int32.ofInt (-1)) (by omega) rfl
      rw [show 99999998 - N - 1 + N + 1 = 99999998 by omega] at l1
      have l1' := preC.trans l1
      have preM : ∀ (ce sl : Nat) (LL : Nat → Nat → Int64), z_pu (z_run X z_cf z_ff (d + 200)) 236 [.ref 55, .int s, .int many, .long a, .long b, .long c, .long f, .int e, .int x, .int y] (118, z_sd m, ce, sl, I, LL, z_rr t u r q (z_gg m) (z_sf m)) = z_loop X z_cf z_ff (z_pu (z_run X z_cf z_ff (d + 199))) 236 99999998 51 [(0, .ref 55), (1, .int s), (2, .int many), (3, .long a), (5, .long b), (7, .long c), (9, .long f), (11, .int e), (12, .int x), (13, .int y), (14, .int (Int32.ofInt 1)), (15, .int (Int32.ofInt 0))] [] (118, z_sd m, ce, sl, z_up I 55 0 (Int32.ofInt 0), LL, z_rr t u r q (z_gg m) (z_sf m)) := by
        intro ce sl LL
        refine z_en X (d + 197) _ _ [(0, .ref 55), (1, .int s), (2, .int many), (3, .long a), (5, .long b), (7, .long c), (9, .long f), (11, .int e), (12, .int x), (13, .int y)] _ _ rfl rfl rfl ?_
        rw [zt_M_fits_0 X (d + 195), if_neg ha1, if_neg ha2, if_neg (by rw [y_wm0, y_oi (by omega) (by omega), y_oi (by omega) (by omega)]; omega), if_neg (by rw [y_i_lt, y_i0]; omega), if_neg (by rw [y_mt0]; omega), if_neg (by rw [y_mt0]; omega)]
      by_cases hv : zand (zmv (zmp a b c f)) N 0 = true
      · rw [if_pos hv] at l1'
        have hp := zmv_inc hv (y_mk_all a b c f (i := 0) (by omega)).2.1
        have l3 := zr_ft2 X (d + 191) m ce sl I L t u r q (z_sd s.toInt.toNat) many e x y a b c f (N := N) (by omega) hN hok d2 d3.1 d3.2 d4.1 d4.2 (by rw [q6]; omega) (by rw [q6]; omega) hp (N - 1) 1 (99999998 - N - 1 - 2 * (N - 1) - 2) (by omega) (by omega)
        rw [show 99999998 - N - 1 - 2 * (N - 1) - 2 + 2 * (N - 1) + 2 = 99999998 - N - 1 by omega] at l3
        have l4 := l1'.trans l3
        have r0 : 100 * 1 ≤ (I 62 s.toInt.toNat).toInt * x.toInt := Int.mul_le_mul (by omega) d3.1 (by omega) (by omega)
        have r1 : (I 62 s.toInt.toNat).toInt * x.toInt ≤ 4000 * 60000 := Int.mul_le_mul (by omega) d3.2 (by omega) (by omega)
        have eR : ((I 62 s.toInt.toNat).toInt64 * x.toInt64).toInt = (I 62 s.toInt.toNat).toInt * x.toInt := by rw [y_mu8 (by rw [y_il, y_il]; omega) (by rw [y_il, y_il]; omega), y_il, y_il]
        rw [q6] at l4
        obtain ⟨B, hB⟩ : ∃ B, B = zand (fun j => zfo ((zmp a b c f j - zmp a b c f 0) * y.toInt) ((I 62 s.toInt.toNat).toInt * x.toInt) (e.toInt * y.toInt)) (N - 1) 1 := ⟨_, rfl⟩
        rw [← hB] at l4
        refine ⟨Int32.ofInt 0, if B = true then Int32.ofInt 1 else Int32.ofInt 0, zw m t u r q ce sl I (z_up L 117 0 (if B = true then Int64.ofInt 1 else Int64.ofInt 0)), zw m t u r q ce sl (z_up I 55 0 (Int32.ofInt 0)) (z_up L 117 0 (if B = true then Int64.ofInt 1 else Int64.ofInt 0)), (by cases B; exact Or.inl rfl; exact Or.inr rfl), ?_, ?_, rfl, ?_, zQ_ro _ _ _ _ _ _ _ _ _ _ _ _ _ _ (zFs_up0 I _)⟩
        · refine z_en X (d + 197) _ _ [(0, .ref 0), (1, .int s), (2, .int many), (3, .long a), (5, .long b), (7, .long c), (9, .long f), (11, .int e), (12, .int x), (13, .int y), (14, .ref 117)] _ _ rfl rfl rfl ?_
          rw [zb_L_fits_0, l4, z_bi_v, zb_L_fits_22, z_gd_inc (by omega) (by omega) (by omega), z_gd_inc (by omega) (by omega) (by omega)]
          cases B
          · rfl
          · rfl
        · have l5 := zr_fm1 X (d + 195) m ce sl (z_up I 55 0 (Int32.ofInt 0)) (z_up L 117 0 (if B = true then Int64.ofInt 1 else Int64.ofInt 0)) t u r q s many e x y a b c f (N := N) (by omega) hN rfl c1.1 (by omega) N 0 (99999998 - N - 3) (by omega)
          rw [show 99999998 - N - 3 + N + 3 = 99999998 by omega, if_pos hv] at l5
          refine ((preM ce sl _).trans l5).trans ?_
          have l6 := zr_fm2 X (z_run X z_cf z_ff (d + 199)) (z_sd m) ce sl (z_up I 55 0 (Int32.ofInt 0)) (z_up L 117 0 (if B = true then Int64.ofInt 1 else Int64.ofInt 0)) t u r q (z_gg m) (z_sf m) many e y a b c f ((I 62 s.toInt.toNat).toInt64 * x.toInt64) (N := N) (by omega) hN d2 d4.1 d4.2 eR (by omega) (by omega) hp (N - 1) 1 (99999998 - N - 3 + 1 - (N - 1) - 1) (Int32.ofInt 1) (by omega) (by omega) (Or.inr rfl)
          rw [show 99999998 - N - 3 + 1 - (N - 1) - 1 + (N - 1) + 1 = 99999998 - N - 3 + 1 by omega, ← hB] at l6
          refine Eq.trans l6 ?_
          cases B
          · rw [if_neg (fun h => absurd h.2 (by decide))]
            rfl
          · rw [if_pos ⟨rfl, rfl⟩]
            rfl
        · intro _
          cases B
          · rfl
          · rfl
      · rw [if_neg hv] at l1'
        refine no1 2 (Or.inr rfl) (fun LL => ?_) l1'
        have l5 := zr_fm1 X (d + 195) m (ce + 1) (sl + 6) (z_up I 55 0 (Int32.ofInt 0)) LL t u r q s many e x y a b c f (N := N) (by omega) hN rfl c1.1 (by omega) N 0 (99999998 - N - 3) (by omega)
        rw [show 99999998 - N - 3 + N + 3 = 99999998 by omega, if_neg hv] at l5
        exact (preM (ce + 1) (sl + 6) LL).trans l5
    · refine no1 2 (Or.inr rfl) (fun LL => ?_) ?_
      · refine z_en X (d + 197) _ _ [(0, .ref 55), (1, .int s), (2, .int many), (3, .long a), (5, .long b), (7, .long c), (9, .long f), (11, .int e), (12, .int x), (13, .int y)] _ _ rfl rfl rfl ?_
        have hrf : ∀ N : Nat, z_loop X z_cf z_ff (z_pu (z_run X z_cf z_ff (d + 195 + 4))) 236 (N + 2) 51 [(0, .ref 55), (1, .int s), (2, .int many), (3, .long a), (5, .long b), (7, .long c), (9, .long f), (11, .int e), (12, .int x), (13, .int y), (14, .int (Int32.ofInt 0)), (15, .int (Int32.ofInt 0))] [] (118, z_sd m, ce + 1, sl + 6, z_up I 55 0 (Int32.ofInt 0), LL, z_rr t u r q (z_gg m) (z_sf m)) = some (.inl (some (.int (Int32.ofInt 0))), (118, z_sd m, ce + 1, sl + 6, z_up (z_up I 55 0 (Int32.ofInt 0)) 55 0 (Int32.ofInt 2), LL, z_rr t u r q (z_gg m) (z_sf m))) := by
          intro N
          have n0 : (Int32.ofInt 0 : Int32) = 0 := rfl
          have hI0 : z_up I 55 0 (Int32.ofInt 0) 55 0 = 0 := rfl
          rw [zt_M_fits_51 X (d + 195)]
          by_cases h3 : many ≤ Int32.ofInt 0
          · rw [if_pos h3, if_pos hI0, if_pos n0]
          · rw [if_neg h3, if_pos n0, if_pos hI0, if_pos n0]
        have hrf2 := hrf 99999996
        rw [zt_M_fits_0 X (d + 195), if_neg ha1, if_neg ha2]
        by_cases d1 : 2 ≤ many.toInt ∧ many.toInt ≤ 10
        · rw [if_neg (by rw [y_wm0, y_oi (by omega) (by omega), y_oi (by omega) (by omega)]; omega)]
          by_cases d2 : 0 ≤ e.toInt
          · rw [if_neg (by rw [y_i_lt, y_i0]; omega)]
            by_cases d3 : 1 ≤ x.toInt ∧ x.toInt ≤ 60000
            · have d4 : ¬ (1 ≤ y.toInt ∧ y.toInt ≤ 60000) := fun d4 => c2 ⟨d1, d2, d3, d4⟩
              rw [if_neg (by rw [y_mt0]; omega), if_pos (by rw [y_mt0]; omega)]
              exact hrf2
            · rw [if_pos (by rw [y_mt0]; omega)]
              exact hrf2
          · rw [if_pos (by rw [y_i_lt, y_i0]; omega)]
            exact hrf2
        · rw [if_pos (by rw [y_wm0, y_oi (by omega) (by omega), y_oi (by omega) (by omega)]; omega)]
          exact hrf2
      · refine z_en X (d + 196) _ _ [(0, .ref 0), (1, .int s), (2, .int many), (3, .long a), (5, .long b), (7, .long c), (9, .long f), (11, .int e), (12, .int x), (13, .int y)] _ _ rfl rfl rfl ?_
        rw [zt_X_fits_0 X (d + 191), if_neg hw1, hix, z_gd_t]
        by_cases d1 : 2 ≤ many.toInt ∧ many.toInt ≤ 10
        · rw [if_neg (by rw [y_wi0, y_oi (by omega) (by omega), y_oi (by omega) (by omega)]; omega)]
          by_cases d2 : 0 ≤ e.toInt
          · rw [if_neg (by rw [y_i_lt, y_i0]; omega)]
            by_cases d3 : 1 ≤ x.toInt ∧ x.toInt ≤ 60000
            · have d4 : ¬ (1 ≤ y.toInt ∧ y.toInt ≤ 60000) := fun d4 => c2 ⟨d1, d2, d3, d4⟩
              rw [if_neg (by rw [y_th0]; omega), if_pos (by rw [y_th0]; omega)]
              rfl
            · rw [if_pos (by rw [y_th0]; omega)]
              rfl
          · rw [if_pos (by rw [y_i_lt, y_i0]; omega)]
            rfl
        · rw [if_pos (by rw [y_wi0, y_oi (by omega) (by omega), y_oi (by omega) (by omega)]; omega)]
          rfl
  · refine no1 1 (Or.inl rfl) (fun LL => ?_) ?_
    · refine z_en X (d + 197) _ _ [(0, .ref 55), (1, .int s), (2, .int many), (3, .long a), (5, .long b), (7, .long c), (9, .long f), (11, .int e), (12, .int x), (13, .int y)] _ _ rfl rfl rfl ?_
      rw [zt_M_fits_0 X (d + 195)]
      by_cases c4 : s.toInt < 0
      · rw [if_pos (by rw [y_i_lt, y_i0]; exact c4)]
      · rw [if_neg (by rw [y_i_lt, y_i0]; exact c4), if_pos (by rw [y_i_le, hm']; omega)]
    · refine z_en X (d + 196) _ _ [(0, .ref 0), (1, .int s), (2, .int many), (3, .long a), (5, .long b), (7, .long c), (9, .long f), (11, .int e), (12, .int x), (13, .int y)] _ _ rfl rfl rfl ?_
      rw [zt_X_fits_0 X (d + 191), if_pos (by rw [y_wi0, hs1, y_oi0]; omega)]
      rfl
