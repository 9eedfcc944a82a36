/-! PLAN, 7: the best plan that is kept, in the class -/
/-- where the best plan stands behind k stands -/
def zgi (p : Nat → Nat → Nat → Int) (N gl : Nat) (B : Int) (m : Nat) : Nat → Nat
  | 0 => 0
  | k + 1 => zfst (zgc p N gl B (m - 1 - k) (zgi p N gl B m k)) (N - zgi p N gl B m k) (zgi p N gl B m k)
theorem zgr_gi (p : Nat → Nat → Nat → Int) (N gl : Nat) (B : Int) (m : Nat) (t : Nat) : ∀ k, k + t < m → (zgr p N gl B (m - k) (zgi p N gl B m k)).getD t 0 = zgi p N gl B m (k + t + 1) := by
  induction t with
  | zero =>
    intro k hk
    rw [show m - k = (m - 1 - k) + 1 by omega]
    rfl
  | succ t ih =>
    intro k hk
    have := ih (k + 1) (by omega)
    rw [show m - k = (m - 1 - k) + 1 by omega]
    show (zgr p N gl B (m - 1 - k) (zgi p N gl B m (k + 1))).getD t 0 = _
    rw [show m - 1 - k = m - (k + 1) by omega, this, show k + 1 + t + 1 = k + (t + 1) + 1 by omega]
theorem zgr_len (p : Nat → Nat → Nat → Int) (N gl : Nat) (B : Int) : ∀ r i, (zgr p N gl B r i).length = r := by
  intro r
  induction r with
  | zero => intro i; rfl
  | succ r ih =>
    intro i
    show (_ :: zgr p N gl B r _).length = r + 1
    rw [List.length_cons, ih]
theorem zgi_is {p : Nat → Nat → Nat → Int} (hp : zpok p) {N gl : Nat} {B : Int} {m : Nat} (h5 : m ≤ 5) (h1 : 1 ≤ N) (h : zS p N gl B m 0 ≠ zNV) : ∀ k, k ≤ m → zgi p N gl B m k < N ∧ zS p N gl B (m - k) (zgi p N gl B m k) ≠ zNV ∧ (∀ k', k' < k → zgi p N gl B m k' ≤ zgi p N gl B m (k' + 1) ∧ zgc p N gl B (m - 1 - k') (zgi p N gl B m k') (zgi p N gl B m (k' + 1)) = true ∧ ∀ j, zgi p N gl B m k' ≤ j → j < zgi p N gl B m (k' + 1) → zgc p N gl B (m - 1 - k') (zgi p N gl B m k') j = false) := by
  intro k
  induction k with
  | zero =>
    intro _
    exact ⟨h1, h, fun k' hk' => by omega⟩
  | succ k ih =>
    intro hk
    obtain ⟨a1, a2, a3⟩ := ih (by omega)
    have e : m - k = (m - 1 - k) + 1 := by omega
    rw [e] at a2
    rcases (zS_step hp N gl B (m - 1 - k) (zgi p N gl B m k) (by omega) (by omega)).2 with s2 | ⟨j, k1, k2, k3, k4, k5, k6⟩
    · exact absurd s2 a2
    · have hc : zgc p N gl B (m - 1 - k) (zgi p N gl B m k) j = true := by
        unfold zgc
        rw [decide_eq_true_iff]
        exact ⟨by omega, k6.symm⟩
      obtain ⟨f1, f2, f3, f4⟩ := zfst_is (zgc p N gl B (m - 1 - k) (zgi p N gl B m k)) (N - zgi p N gl B m k) (zgi p N gl B m k) ⟨j, k1, by omega, hc⟩
      have f2' : zgi p N gl B m (k + 1) < N := by
        show zfst (zgc p N gl B (m - 1 - k) (zgi p N gl B m k)) (N - zgi p N gl B m k) (zgi p N gl B m k) < N
        omega
      refine ⟨f2', ?_, ?_⟩
      · have f3' := f3
        unfold zgc at f3'
        rw [decide_eq_true_iff] at f3'
        rw [show m - (k + 1) = m - 1 - k by omega]
        exact fun x => f3'.1 (Or.inr (Or.inr x))
      · intro k' hk'
        by_cases c : k' = k
        · subst c
          exact ⟨f1, f3, f4⟩
        · exact a3 k' (by omega)
theorem zgc_is {p : Nat → Nat → Nat → Int} {N gl : Nat} {B : Int} {r i j : Nat} (h : zgc p N gl B r i j = true) : p r i j ≠ -1 ∧ p r i j ≤ B ∧ zS p N gl B r j ≠ zNV ∧ p r i j + zS p N gl B r j = zS p N gl B (r + 1) i := by
  unfold zgc at h
  rw [decide_eq_true_iff] at h
  refine ⟨fun x => h.1 (Or.inl x), ?_, fun x => h.1 (Or.inr (Or.inr x)), h.2⟩
  rcases Int.lt_or_le B (p r i j) with c | c
  · exact absurd (Or.inr (Or.inl c)) h.1
  · exact c
theorem zW_off (p : Nat → Nat → Nat → Int) (hp : zpok p) {N gl : Nat} (hg : N ≤ gl) : ∀ r i, i < N → zW p N gl r i = zNV := by
  intro r
  induction r with
  | zero =>
    intro i hi
    show (if i = gl then 0 else zNV) = zNV
    rw [if_neg (by omega)]
  | succ r ih =>
    intro i hi
    rcases (zW_step hp N gl r i (by omega)).2 with w | ⟨j, j1, j2, j3, j4, j5⟩
    · exact w
    · exact absurd (ih j j2) j4
theorem zr_keepBest (X : ZX) (d m ce sl : Nat) (I : Nat → Nat → Int32) (L : Nat → Nat → Int64) (t u r q : Nat) {C p : Nat} (hS : zg_S C m I) (hL : zg_L p I) (h0 a : Int32) (hh0 : 0 ≤ h0.toInt) (hh1 : h0.toInt ≤ 99) {N : Nat} (hN13 : N ≤ 13) (hr : ∀ j, j < N → 1 ≤ (I 32 j).toInt ∧ (I 32 j).toInt ≤ 60000) (hle : ∀ j, j < N → ∀ i, i ≤ j → (I 32 j).toInt ≤ (I 32 i).toInt) (G : Nat → Nat) (hG0 : I 32 (G 0) = a) (hG : ∀ k, k < m → G k ≤ G (k + 1) ∧ G (k + 1) < N) (h35 : ∀ k, k < m → (I 35 k).toInt = G (k + 1)) : ∃ K : Nat → Nat → Int32, z_pu (z_run X z_cf z_ff (d + 7)) 109 [.ref 30, .int a, .int h0] (118, z_sd m, ce, sl, I, L, z_rr t u r q (z_gg m) (z_sf m)) = some (.inl none, (118, z_sd m, ce, sl, K, L, z_rr t u r q (z_gg m) (z_sf m))) ∧
    (∀ x, x ≠ 30 → x ≠ 36 → x ≠ 37 → x ≠ 38 → K x = I x) ∧ (∀ j, j ≠ 13 → K 30 j = I 30 j) ∧ K 30 13 = Int32.ofNat m ∧ (∀ s, s < m → K 36 s = I 32 (G (s + 1)) ∧ K 37 s = Int32.ofInt (zm_pr (zd I) (zf I) p ((I 32 (G s)).toInt - (I 32 (G (s + 1))).toInt) (zhw I h0 s)) ∧ K 38 s = Int32.ofInt (zgp I p s h0 (I 32 (G s)).toInt (I 32 (G (s + 1))).toInt)) := by
  have h5 := hS.1
  have hs5 := hS.2.1
  have lp : ∀ n, ∀ (s : Nat) (J : Nat → Nat → Int32) (x3 x4 : Int32), s + n = m → x4.toInt = s → x3 = I 32 (G s) → (∀ x, x ≠ 30 → x ≠ 36 → x ≠ 37 → x ≠ 38 → J x = I x) → (∀ j, j ≠ 13 → J 30 j = I 30 j) → J 30 13 = Int32.ofNat m → (∀ s', s' < s → J 36 s' = I 32 (G (s' + 1)) ∧ J 37 s' = Int32.ofInt (zm_pr (zd I) (zf I) p ((I 32 (G s')).toInt - (I 32 (G (s' + 1))).toInt) (zhw I h0 s')) ∧ J 38 s' = Int32.ofInt (zgp I p s' h0 (I 32 (G s')).toInt (I 32 (G (s' + 1))).toInt)) →
      ∃ K : Nat → Nat → Int32, (∀ M, z_loop X z_cf z_ff (z_pu (z_run X z_cf z_ff (d + 6))) 109 (M + 5 * n + 1) 16 [(0, .ref 30), (2, .int h0), (3, .int x3), (4, .int x4)] [] (118, z_sd m, ce, sl, J, L, z_rr t u r q (z_gg m) (z_sf m)) = some (.inl none, (118, z_sd m, ce, sl, K, L, z_rr t u r q (z_gg m) (z_sf m)))) ∧ (∀ x, x ≠ 30 → x ≠ 36 → x ≠ 37 → x ≠ 38 → K x = I x) ∧ (∀ j, j ≠ 13 → K 30 j = I 30 j) ∧ K 30 13 = Int32.ofNat m ∧ (∀ s, s < m → K 36 s = I 32 (G (s + 1)) ∧ K 37 s = Int32.ofInt (zm_pr (zd I) (zf I) p ((I 32 (G s)).toInt - (I 32 (G (s + 1))).toInt) (zhw I h0 s)) ∧ K 38 s = Int32.ofInt (zgp I p s h0 (I 32 (G s)).toInt (I 32 (G (s + 1))).toInt)) := by
    intro n
    induction n with
    | zero =>
      intro s J x3 x4 h1 h2 h3 q1 q2 q3 q4
      have e : s = m := by omega
      subst e
      refine ⟨J, fun M => ?_, q1, q2, q3, q4⟩
      rw [show M + 5 * 0 + 1 = M + 1 by omega, zb_Planner_keepBest_16, if_pos (by rw [q3, y_i_le, y_on (by omega)]; omega)]
    | succ n ih =>
      intro s J x3 x4 h1 h2 h3 q1 q2 q3 q4
      have hs : s < m := by omega
      have hx4n : x4.toNatClampNeg = s := by rw [y_tn, h2]; rfl
      have hin4 : z_in x4 5 = true := y_in_t (by omega) (by omega)
      obtain ⟨g1, g2⟩ := hG s hs
      have hJ5 : J 5 2 = Int32.ofNat m := by rw [q1 5 (by omega) (by omega) (by omega) (by omega), hs5]
      have hb := h35 s hs
      have hJ35 : J 35 s = I 35 s := by rw [q1 35 (by omega) (by omega) (by omega) (by omega)]
      have hbn : (I 35 s).toNatClampNeg = G (s + 1) := by rw [y_tn, hb]; rfl
      have hbi : z_in (I 35 s) 13 = true := y_in_t (by omega) (by omega)
      have hJ32 : J 32 = I 32 := q1 32 (by omega) (by omega) (by omega) (by omega)
      have hF : zPF I J := ⟨fun a a1 a2 a3 => q1 a (by omega) (by omega) (by omega) (by omega), by rw [q1 55 (by omega) (by omega) (by omega) (by omega)], by rw [q1 55 (by omega) (by omega) (by omega) (by omega)]⟩
      have hSJ := zPF_S hF hS
      have hwr := zhw_r hS hh0 (s := s) (by omega)
      have r1 := hr (G (s + 1)) g2
      have r2 := hr (G s) (by omega)
      have r3 := hle (G (s + 1)) g2 (G s) g1
      have ed : (I 32 (G s) - I 32 (G (s + 1))).toInt = (I 32 (G s)).toInt - (I 32 (G (s + 1))).toInt := y_sb (by omega) (by omega)
      have hd : (Int32.ofInt (zhw I h0 s)).toInt = zhw I h0 s := y_oi (by omega) (by omega)
      obtain ⟨⟨s0, s1, s2, s3, s4, s5, s6, s7, s8, s9, s10⟩, f1, f2, f3, f4, f5, f6, f7, f8, f9, f10, f11, f12, f13, f14, f15, f16, f17, f18⟩ := hS.2.2.2.1 s hs
      obtain ⟨V, hV⟩ : ∃ V, V = Int32.ofInt (zm_pr (zd I) (zf I) p ((I 32 (G s)).toInt - (I 32 (G (s + 1))).toInt) (zhw I h0 s)) := ⟨_, rfl⟩
      obtain ⟨U, hU⟩ : ∃ U, U = Int32.ofInt (zgp I p s h0 (I 32 (G s)).toInt (I 32 (G (s + 1))).toInt) := ⟨_, rfl⟩
      have hF1 : zPF I (z_up J 36 s (I 32 (G (s + 1)))) := zPF_trans hF ⟨fun a a1 a2 a3 => z_up_r _ _ _ _ _ (by omega), by rw [z_up_r _ _ _ _ _ (by omega)], by rw [z_up_r _ _ _ _ _ (by omega)]⟩
      have hF2 : zPF I (z_up (z_up J 36 s (I 32 (G (s + 1)))) 37 s V) := zPF_trans hF1 ⟨fun a a1 a2 a3 => z_up_r _ _ _ _ _ (by omega), by rw [z_up_r _ _ _ _ _ (by omega)], by rw [z_up_r _ _ _ _ _ (by omega)]⟩
      have c50 : z_pu (z_run X z_cf z_ff (d + 6)) 50 [.ref 2, .int (I 32 (G s) - I 32 (G (s + 1))), .int (Int32.ofInt (zhw I h0 s))] (118, z_sd m, ce, sl, z_up J 36 s (I 32 (G (s + 1))), L, z_rr t u r q (z_gg m) (z_sf m)) = some (.inl (some (.int V)), (118, z_sd m, ce, sl, z_up J 36 s (I 32 (G (s + 1))), L, z_rr t u r q (z_gg m) (z_sf m))) := by
        rw [zr_pressFor X (d + 3) (z_sd m) ce sl _ L t u r q (z_gg m) (z_sf m) _ _ (zPF_L hF1 hL) (by omega) (by omega) (by omega) (by omega), ed, hd, (zPF_d hF1).1, (zPF_d hF1).2, hV]
      have hok : z_ok (118, z_sd m, ce, sl, z_up (z_up J 36 s (I 32 (G (s + 1)))) 37 s V, L, z_rr t u r q (z_gg m) (z_sf m)) (z_sd s) 10 = true := z_okS (k := s) (m := m) hs (by omega) 118 ce sl _ L (z_rr t u r q (z_gg m) (z_sf m))
      have hsd : z_up (z_up J 36 s (I 32 (G (s + 1)))) 37 s V (z_sd s) = I (z_sd s) := zPF_sd hF2 s
      have c107 : z_pu (z_run X z_cf z_ff (d + 6)) 107 [.ref (z_sd s), .ref 2, .int (I 32 (G s)), .int (Int32.ofInt (zhw I h0 s)), .int (I 32 (G (s + 1)))] (118, z_sd m, ce, sl, z_up (z_up J 36 s (I 32 (G (s + 1)))) 37 s V, L, z_rr t u r q (z_gg m) (z_sf m)) = some (.inl (some (.int U)), (118, z_sd m, ce, sl, z_up (z_up J 36 s (I 32 (G (s + 1)))) 37 s V, L, z_rr t u r q (z_gg m) (z_sf m))) := by
        rw [zr_planGap X (d + 1) (z_sd m) ce sl _ L t u r q (z_gg m) (z_sf m) (z_sd s) _ _ _ (zPF_L hF2 hL) hok (by omega) (by omega) (by omega) (by omega) (by omega) (by rw [hsd, s0]; omega) (by rw [hsd, s0]; omega) (by rw [hsd, s2]; omega) (by rw [hsd, s2, s3]; omega) (by rw [hsd, s3]; omega) (by rw [hsd, s9]; omega), hsd, hd, (zPF_d hF2).1, (zPF_d hF2).2, s0, s2, s3, s9, hU]
        rfl
      obtain ⟨K, k1, k2, k3, k4, k5⟩ := ih (s + 1) (z_up (z_up (z_up J 36 s (I 32 (G (s + 1)))) 37 s V) 38 s U) (I 32 (G (s + 1))) (x4 + Int32.ofInt 1) (by omega) (by rw [y_adl (by omega) (by omega) (by omega) (by omega)]; omega) rfl
        (fun x x1 x2 x3 x4 => by rw [z_up_r _ _ _ _ _ x4, z_up_r _ _ _ _ _ x3, z_up_r _ _ _ _ _ x2, q1 x x1 x2 x3 x4])
        (fun j hj => by rw [z_up_r _ _ _ _ _ (by omega), z_up_r _ _ _ _ _ (by omega), z_up_r _ _ _ _ _ (by omega), q2 j hj])
        (by rw [z_up_r _ _ _ _ _ (by omega), z_up_r _ _ _ _ _ (by omega), z_up_r _ _ _ _ _ (by omega), q3])
        (by
          intro s' hs'
          rw [z_up_r _ _ _ _ _ (show (36 : Nat) ≠ 38 by omega), z_up_r _ _ _ _ _ (show (36 : Nat) ≠ 37 by omega), z_up_r _ _ _ _ _ (show (37 : Nat) ≠ 38 by omega)]
          by_cases c : s' = s
          · subst c
            rw [z_up_s, z_up_s, z_up_s]
            exact ⟨rfl, hV, hU⟩
          · rw [z_up_j _ _ _ _ _ c, z_up_j _ _ _ _ _ c, z_up_j _ _ _ _ _ c, z_up_r _ _ _ _ _ (show (37 : Nat) ≠ 36 by omega), z_up_r _ _ _ _ _ (show (38 : Nat) ≠ 37 by omega), z_up_r _ _ _ _ _ (show (38 : Nat) ≠ 36 by omega)]
            exact q4 s' (by omega))
      refine ⟨K, fun M => ?_, k2, k3, k4, k5⟩
      rw [show M + 5 * (n + 1) + 1 = (M + 5 * n + 1 + 1) + 2 + 1 + 1 by omega, zb_Planner_keepBest_16, if_neg (by rw [q3, y_i_le, y_on (by omega)]; omega), zr_hardAt X d m ce sl J L t u r q h5 hJ5 (zg_S_w hSJ) h0 x4 hh0 hh1 s h2 (by omega), z_bi_v, zPF_hw hF, zb_Planner_keepBest_35, hin4, z_gd_t, hx4n, hJ35, hbi, z_gd_t, z_gd_t, hbn, hJ32, h3, c50, z_bi_v, zt_Planner_keepBest_82 X d, hin4, z_gd_t, hx4n, y_ix_T (by omega) (by omega) h5 (by rw [z_up_r _ _ _ _ _ (by omega), hJ5]), z_gd_t, hok, z_gd_t, c107, z_bi_v, zb_Planner_keepBest_113, hin4, z_gd_t, hx4n]
      exact k1 M
  obtain ⟨K, k1, k2, k3, k4, k5⟩ := lp m 0 (z_up I 30 13 (Int32.ofNat m)) a (Int32.ofInt 0) (by omega) rfl hG0.symm (fun x x1 _ _ _ => z_up_r _ _ _ _ _ x1) (fun j hj => z_up_j _ _ _ _ _ hj) (z_up_s _ _ _ _) (fun s' hs' => by omega)
  refine ⟨K, ?_, k2, k3, k4, k5⟩
  refine z_en X (d + 4) _ _ [(0, .ref 30), (1, .int a), (2, .int h0)] _ _ rfl rfl rfl ?_
  rw [show (100000000 : Nat) = (99999997 - 5 * m + 5 * m + 1) + 2 by omega, zt_Planner_keepBest_0 X d, hs5]
  exact k1 _
