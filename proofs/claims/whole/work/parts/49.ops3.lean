/-! CALLS, 3: pass, point, press, bite -/
def zdup (F : Nat → Int32) (x : Int32) : Nat → Nat → Bool
  | 0, _ => false
  | n + 1, i => if F i = x then true else zdup F x n (i + 1)
theorem zdup_f (F : Nat → Int32) (x : Int32) : ∀ (n i : Nat), zdup F x n i = false → ∀ j, i ≤ j → j < i + n → F j ≠ x := by
  intro n
  induction n with
  | zero =>
    intro i _ j h1 h2
    omega
  | succ n ih =>
    intro i h j h1 h2
    unfold zdup at h
    by_cases e : F i = x
    · rw [if_pos e] at h
      exact absurd h (by decide)
    · rw [if_neg e] at h
      by_cases ej : j = i
      · rw [ej]
        exact e
      · exact ih (i + 1) h j (by omega) (by omega)
theorem zr_addPass_loop (X : ZX) (call : ZC) (n ce sl : Nat) (I : Nat → Nat → Int32) (L : Nat → Nat → Int64) (t u r q g : Nat) (st : Nat → Option Nat) (x : Int32) {p : Nat} (hp : p < 12) (h0 : I 30 2 = Int32.ofNat p) (k : Nat) : ∀ (i M : Nat), i + k = p → k < M →
    z_loop X z_cf z_ff (z_pu call) 37 M 20 [(0, .ref 30), (1, .int x), (2, .int (Int32.ofNat i))] [] (118, n, ce, sl, I, L, z_rr t u r q g st) = if zdup (I 31) x k i = true then some (.inl (some (.int (Int32.ofInt (-1)))), (118, n, ce, sl, I, L, z_rr t u r q g st)) else some (.inl (some (.int (Int32.ofNat (p + 1)))), (118, n, ce, sl, z_up (z_up I 31 p x) 30 2 (Int32.ofNat (p + 1)), L, z_rr t u r q g st)) := by
  induction k with
  | zero =>
    intro i M h1 h2
    obtain ⟨M, rfl⟩ : ∃ N, M = N + 1 := ⟨M - 1, by omega⟩
    rw [zb_Planner_addPass_20, if_pos (by rw [h0, y_i_le, y_on (by omega), y_on (by omega)]; omega), h0, z_in_n hp (by omega), z_gd_t, z_onn (by omega), z_ofa (by omega)]
    unfold zdup
    rw [if_neg (by decide)]
  | succ k ih =>
    intro i M h1 h2
    obtain ⟨M, rfl⟩ : ∃ N, M = N + 1 := ⟨M - 1, by omega⟩
    rw [zb_Planner_addPass_20, if_neg (by rw [h0, y_i_le, y_on (by omega), y_on (by omega)]; omega), z_in_n (show i < 12 by omega) (by omega), z_gd_t, z_onn (by omega)]
    unfold zdup
    by_cases e : I 31 i = x
    · rw [if_pos e, if_pos e, if_pos rfl]
    · rw [if_neg e, if_neg e, z_ofa (by omega)]
      exact ih (i + 1) M (by omega) (by omega)
theorem zr_pass_no (X : ZX) (call : ZC) (n ce sl : Nat) (I : Nat → Nat → Int32) (L : Nat → Nat → Int64) (t u r q g : Nat) (st : Nat → Option Nat) (x : Int32) {p : Nat} (hp : p ≤ 12) (h0 : I 55 64 = Int32.ofNat p) (k : Nat) : ∀ (i M : Nat), i + k = p → k < M →
    z_loop X z_cf z_ff (z_pu call) 226 M 29 [(0, .ref 55), (1, .int x), (2, .int (Int32.ofInt 0)), (3, .int (Int32.ofNat i))] [] (118, n, ce, sl, I, L, z_rr t u r q g st) = some (.inl (some (.int (Int32.ofInt (-1)))), (118, n, ce, sl, I, L, z_rr t u r q g st)) := by
  induction k with
  | zero =>
    intro i M h1 h2
    obtain ⟨M, rfl⟩ : ∃ N, M = N + 1 := ⟨M - 1, by omega⟩
    rw [zb_M_pass_29, if_pos (by rw [h0, y_i_le, y_on (by omega), y_on (by omega)]; omega), if_pos (by decide)]
  | succ k ih =>
    intro i M h1 h2
    obtain ⟨M, rfl⟩ : ∃ N, M = N + 1 := ⟨M - 1, by omega⟩
    rw [zb_M_pass_29, if_neg (by rw [h0, y_i_le, y_on (by omega), y_on (by omega)]; omega), if_pos (by decide), z_ofa (by omega)]
    exact ih (i + 1) M (by omega) (by omega)
theorem zr_pass_loop (X : ZX) (call : ZC) (n ce sl : Nat) (I : Nat → Nat → Int32) (L : Nat → Nat → Int64) (t u r q g : Nat) (st : Nat → Option Nat) (x : Int32) {p : Nat} (hp : p < 12) (h0 : I 55 64 = Int32.ofNat p) (k : Nat) : ∀ (i M : Nat), i + k = p → k < M →
    z_loop X z_cf z_ff (z_pu call) 226 M 29 [(0, .ref 55), (1, .int x), (2, .int (Int32.ofInt 1)), (3, .int (Int32.ofNat i))] [] (118, n, ce, sl, I, L, z_rr t u r q g st) = if zdup (I 91) x k i = true then some (.inl (some (.int (Int32.ofInt (-1)))), (118, n, ce, sl, I, L, z_rr t u r q g st)) else some (.inl (some (.int (Int32.ofNat (p + 1)))), (118, n, ce, sl, z_up (z_up I 91 p x) 55 64 (Int32.ofNat (p + 1)), L, z_rr t u r q g st)) := by
  induction k with
  | zero =>
    intro i M h1 h2
    obtain ⟨M, rfl⟩ : ∃ N, M = N + 1 := ⟨M - 1, by omega⟩
    rw [zb_M_pass_29, if_pos (by rw [h0, y_i_le, y_on (by omega), y_on (by omega)]; omega), if_neg (by decide), h0, z_in_n (show p < 13 by omega) (by omega), z_gd_t, z_onn (by omega), z_ofa (by omega)]
    unfold zdup
    rw [if_neg (by decide)]
  | succ k ih =>
    intro i M h1 h2
    obtain ⟨M, rfl⟩ : ∃ N, M = N + 1 := ⟨M - 1, by omega⟩
    rw [zb_M_pass_29, if_neg (by rw [h0, y_i_le, y_on (by omega), y_on (by omega)]; omega), if_neg (by decide), z_in_n (show i < 13 by omega) (by omega), z_gd_t, z_onn (by omega)]
    unfold zdup
    by_cases e : I 91 i = x
    · rw [if_pos e, if_pos e, if_pos rfl, z_ofa (by omega)]
      exact zr_pass_no X call n ce sl I L t u r q g st x (by omega) h0 k (i + 1) M (by omega) (by omega)
    · rw [if_neg e, if_neg e, z_ofa (by omega)]
      exact ih (i + 1) M (by omega) (by omega)
theorem zo_pass (X : ZX) (d m ce sl : Nat) (I : Nat → Nat → Int32) (L : Nat → Nat → Int64) (t u r q : Nat) (hG : zg_P I) (a : Int32) : zOX X (d + 200) 131 [.ref 0, .int a] 226 [.ref 55, .int a] (118, z_sd m, ce, sl, I, L, z_rr t u r q (z_gg m) (z_sf m)) (zQ m t u r q ce sl I L [30, 31, 91] [64] (fun J => zg_P J ∧ (∀ j, j ≠ 2 → J 30 j = I 30 j) ∧ zFs I J)) := by
  have hG0 := hG
  obtain ⟨h1, h2, h3, h4, h5, h6⟩ := hG
  obtain ⟨p, hk⟩ : ∃ k : Nat, (I 30 2).toInt = k := ⟨(I 30 2).toInt.toNat, by omega⟩
  have k1 : I 30 2 = Int32.ofNat p := y_i_eq.mpr (by rw [hk, y_on (by omega)])
  have k2 : I 55 64 = Int32.ofNat p := by rw [← h1, k1]
  by_cases c1 : p < 12 ∧ 1 ≤ a.toInt ∧ a.toInt ≤ 60000 ∧ zdup (I 31) a p 0 = false
  · obtain ⟨c1, c2, c3, c4⟩ := c1
    have c5 : ¬ zdup (I 31) a p 0 = true := by rw [c4]; decide
    obtain ⟨J, hJ⟩ : ∃ J, J = z_up (z_up I 31 p a) 30 2 (Int32.ofNat (p + 1)) := ⟨_, rfl⟩
    obtain ⟨K, hK⟩ : ∃ K, K = z_up J 55 0 (Int32.ofInt 0) := ⟨_, rfl⟩
    have e64 : K 55 64 = Int32.ofNat p := by rw [hK, hJ, z_up_j _ _ _ _ _ (by omega), z_up_rj _ _ _ _ _ _ (by omega), z_up_rj _ _ _ _ _ _ (by omega), k2]
    have e91 : K 91 = I 31 := by rw [hK, hJ, z_up_r _ _ _ _ _ (by omega), z_up_r _ _ _ _ _ (by omega), z_up_r _ _ _ _ _ (by omega), h4]
    refine ⟨Int32.ofNat (p + 1), zw m t u r q ce sl J L, zw m t u r q ce sl (z_up (z_up K 91 p a) 55 64 (Int32.ofNat (p + 1))) L, ?_, ?_, ⟨ce, sl, _, L, rfl, by omega, by omega, ⟨?_, ?_⟩, fun _ _ => rfl, ⟨?_, ?_, ?_, ?_, ?_, ?_⟩, ?_, ?_⟩⟩
    · refine z_en X (d + 197) _ _ [(0, .ref 0), (1, .int a)] _ _ rfl rfl rfl ?_
      rw [zb_X_pass_0]
      have e : z_pu (z_run X z_cf z_ff (d + 199)) 37 [.ref 30, .int a] (118, z_sd m, ce, sl, I, L, z_rr t u r q (z_gg m) (z_sf m)) = some (.inl (some (.int (Int32.ofNat (p + 1)))), (118, z_sd m, ce, sl, J, L, z_rr t u r q (z_gg m) (z_sf m))) := by
        refine z_en X (d + 196) _ _ [(0, .ref 30), (1, .int a)] _ _ rfl rfl rfl ?_
        rw [zb_Planner_addPass_0, if_neg (by rw [k1, y_i_le, y_on (by omega), y_oi (by omega) (by omega)]; omega), if_neg (by rw [y_th0]; omega)]
        have := zr_addPass_loop X (z_run X z_cf z_ff (d + 198)) (z_sd m) ce sl I L t u r q (z_gg m) (z_sf m) a c1 k1 p 0 99999999 (by omega) (by omega)
        rw [if_neg c5, ← hJ] at this
        exact this
      rw [e, z_bi_v, zb_X_pass_8]
    · refine z_en X (d + 197) _ _ [(0, .ref 55), (1, .int a)] _ _ rfl rfl rfl ?_
      have e64' : J 55 64 = Int32.ofNat p := by rw [hJ, z_up_rj _ _ _ _ _ _ (by omega), z_up_rj _ _ _ _ _ _ (by omega), k2]
      rw [zb_M_pass_0, if_neg (by rw [e64', y_i_le, y_on (by omega), y_oi (by omega) (by omega)]; omega), if_neg (by rw [y_mt0]; omega), ← hK]
      have := zr_pass_loop X (z_run X z_cf z_ff (d + 199)) (z_sd m) ce sl K L t u r q (z_gg m) (z_sf m) a c1 e64 p 0 99999999 (by omega) (by omega)
      rw [e91, if_neg c5] at this
      exact this
    · intro x x1 x2 x3
      simp only [List.mem_cons, List.not_mem_nil, or_false, not_or] at x3
      rw [z_up_r _ _ _ _ _ (by omega), z_up_r _ _ _ _ _ (by omega), hK, z_up_r _ _ _ _ _ (by omega), hJ, z_up_r _ _ _ _ _ (by omega), z_up_r _ _ _ _ _ (by omega)]
    · intro j x2 x3
      simp only [List.mem_cons, List.not_mem_nil, or_false] at x3
      rw [z_up_j _ _ _ _ _ x3, z_up_rj _ _ _ _ _ _ (by omega), hK, z_up_j _ _ _ _ _ x2, hJ, z_up_rj _ _ _ _ _ _ (by omega), z_up_rj _ _ _ _ _ _ (by omega)]
    · subst hK hJ
      rfl
    · subst hK hJ
      show 0 ≤ (Int32.ofNat (p + 1)).toInt
      rw [y_on (by omega)]
      omega
    · subst hK hJ
      show (Int32.ofNat (p + 1)).toInt ≤ 12
      rw [y_on (by omega)]
      omega
    · subst hK hJ
      show z_up I 31 p a 31 = z_up I 91 p a 91
      exact y_row h4
    · subst hK hJ
      intro k hk2
      have hk3 : (k : Int) < (Int32.ofNat (p + 1)).toInt := hk2
      rw [y_on (by omega)] at hk3
      show 1 ≤ (z_up I 31 p a 31 k).toInt ∧ (z_up I 31 p a 31 k).toInt ≤ 60000
      rw [y_at]
      by_cases e : k = p
      · rw [if_pos e]
        exact ⟨c2, c3⟩
      · rw [if_neg e]
        exact h5 k (by omega)
    · subst hK hJ
      intro j k hjk hk2
      have hk3 : (k : Int) < (Int32.ofNat (p + 1)).toInt := hk2
      rw [y_on (by omega)] at hk3
      show z_up I 31 p a 31 j ≠ z_up I 31 p a 31 k
      rw [y_at, y_at, if_neg (by omega)]
      by_cases e : k = p
      · rw [if_pos e]
        exact zdup_f (I 31) a p 0 c4 j (by omega) (by omega)
      · rw [if_neg e]
        exact h6 j k hjk (by omega)
    · intro j hj
      rw [z_up_rj _ _ _ _ _ _ (by omega), z_up_rj _ _ _ _ _ _ (by omega), hK, z_up_rj _ _ _ _ _ _ (by omega), hJ, z_up_j _ _ _ _ _ hj, z_up_rj _ _ _ _ _ _ (by omega)]
    · intro k' _
      have hge := z_sd_ge k'
      rw [z_up_r _ _ _ _ _ (by omega), z_up_r _ _ _ _ _ (by omega), hK, z_up_r _ _ _ _ _ (by omega), hJ, z_up_r _ _ _ _ _ (by omega), z_up_r _ _ _ _ _ (by omega)]
  · refine ⟨Int32.ofInt (-1), zw m t u r q ce sl I L, zw m t u r q ce sl (z_up I 55 0 (Int32.ofInt 0)) L, ?_, ?_, ⟨ce, sl, _, L, rfl, by omega, by omega, ⟨fun x _ x2 _ => z_up_r _ _ _ _ _ x2, fun j x2 _ => z_up_j _ _ _ _ _ x2⟩, fun _ _ => rfl, zg_P_fr hG0 rfl rfl rfl rfl, fun _ _ => rfl, fun k' _ => z_up_r _ _ _ _ _ (by have := z_sd_ge k'; omega)⟩⟩
    · refine z_en X (d + 197) _ _ [(0, .ref 0), (1, .int a)] _ _ rfl rfl rfl ?_
      rw [zb_X_pass_0]
      have e : z_pu (z_run X z_cf z_ff (d + 199)) 37 [.ref 30, .int a] (118, z_sd m, ce, sl, I, L, z_rr t u r q (z_gg m) (z_sf m)) = some (.inl (some (.int (Int32.ofInt (-1)))), (118, z_sd m, ce, sl, I, L, z_rr t u r q (z_gg m) (z_sf m))) := by
        refine z_en X (d + 196) _ _ [(0, .ref 30), (1, .int a)] _ _ rfl rfl rfl ?_
        rw [zb_Planner_addPass_0]
        by_cases b1 : 12 ≤ p
        · rw [if_pos (by rw [k1, y_i_le, y_on (by omega), y_oi (by omega) (by omega)]; omega)]
        · rw [if_neg (by rw [k1, y_i_le, y_on (by omega), y_oi (by omega) (by omega)]; omega)]
          by_cases b2 : 1 ≤ a.toInt ∧ a.toInt ≤ 60000
          · rw [if_neg (by rw [y_th0]; omega)]
            have := zr_addPass_loop X (z_run X z_cf z_ff (d + 198)) (z_sd m) ce sl I L t u r q (z_gg m) (z_sf m) a (show p < 12 by omega) k1 p 0 99999999 (by omega) (by omega)
            have b3 : zdup (I 31) a p 0 = true := by
              cases b4 : zdup (I 31) a p 0
              · exact absurd ⟨by omega, b2.1, b2.2, b4⟩ c1
              · rfl
            rw [if_pos b3] at this
            exact this
          · rw [if_pos (by rw [y_th0]; exact b2)]
      rw [e, z_bi_v, zb_X_pass_8]
    · refine z_en X (d + 197) _ _ [(0, .ref 55), (1, .int a)] _ _ rfl rfl rfl ?_
      rw [zb_M_pass_0]
      obtain ⟨K, hK⟩ : ∃ K, K = z_up I 55 0 (Int32.ofInt 0) := ⟨_, rfl⟩
      have e64 : K 55 64 = Int32.ofNat p := by rw [hK, z_up_j _ _ _ _ _ (by omega), k2]
      have e91 : K 91 = I 31 := by rw [hK, z_up_r _ _ _ _ _ (by omega), h4]
      rw [← hK]
      have hno := zr_pass_no X (z_run X z_cf z_ff (d + 199)) (z_sd m) ce sl K L t u r q (z_gg m) (z_sf m) a (show p ≤ 12 by omega) e64 p 0 99999999 (by omega) (by omega)
      by_cases b1 : 12 ≤ p
      · rw [if_pos (by rw [k2, y_i_le, y_on (by omega), y_oi (by omega) (by omega)]; omega)]
        exact hno
      · rw [if_neg (by rw [k2, y_i_le, y_on (by omega), y_oi (by omega) (by omega)]; omega)]
        by_cases b2 : 1 ≤ a.toInt ∧ a.toInt ≤ 60000
        · rw [if_neg (by rw [y_mt0]; omega)]
          have := zr_pass_loop X (z_run X z_cf z_ff (d + 199)) (z_sd m) ce sl K L t u r q (z_gg m) (z_sf m) a (show p < 12 by omega) e64 p 0 99999999 (by omega) (by omega)
          have b3 : zdup (I 31) a p 0 = true := by
            cases b4 : zdup (I 31) a p 0
            · exact absurd ⟨by omega, b2.1, b2.2, b4⟩ c1
            · rfl
          rw [e91, if_pos b3] at this
          exact this
        · rw [if_pos (by rw [y_mt0]; exact b2)]
          exact hno
