/-! CALLS, 12: waves, together -/
def zand (f : Nat → Bool) : Nat → Nat → Bool
  | 0, _ => true
  | n + 1, i => if f i = true then zand f n (i + 1) else false
theorem zr_areT (X : ZX) (call : ZC) (n0 ce sl : Nat) (I : Nat → Nat → Int32) (L : Nat → Nat → Int64) (t u r q g : Nat) (st : Nat → Option Nat) (c : Nat) : ∀ (i M : Nat), i + c = 5 →
    z_loop X z_cf z_ff (z_pu call) 156 (M + c + 1) 7 [(1, .ref 39), (2, .int (Int32.ofNat 5)), (3, .int (Int32.ofNat i))] [] (118, n0, ce, sl, I, L, z_rr t u r q g st) = some (.inl (some (.int (if zand (fun j => decide (1 ≤ (I 39 j).toInt ∧ (I 39 j).toInt ≤ 60000)) c i = true then Int32.ofInt 1 else Int32.ofInt 0))), (118, n0, ce, sl, I, L, z_rr t u r q g st)) := by
  induction c with
  | zero =>
    intro i M h1
    rw [zb_X_areThicknesses_7, if_pos (by rw [y_i_le, y_on (by omega), y_on (by omega)]; omega), z_b1_1]
    rfl
  | succ c ih =>
    intro i M h1
    rw [show M + (c + 1) + 1 = M + c + 1 + 1 by omega, zb_X_areThicknesses_7, if_neg (by rw [y_i_le, y_on (by omega), y_on (by omega)]; omega), z_in_n (by omega) (by omega), z_gd_t, z_onn (by omega), z_ofa (by omega)]
    unfold zand
    by_cases hb : 1 ≤ (I 39 i).toInt ∧ (I 39 i).toInt ≤ 60000
    · rw [if_neg (by rw [y_th0]; exact fun h => h hb), if_pos (decide_eq_true hb)]
      exact ih (i + 1) M (by omega)
    · rw [if_pos (by rw [y_th0]; exact hb), if_neg (c := decide _ = true) (fun h => hb (of_decide_eq_true h)), z_b1_0]
      rfl
theorem zsm_c {F G : Nat → Int32} (h : ∀ j, j < 5 → F j = G j) (n : Nat) : ∀ i, i + n = 5 → zsm F n i = zsm G n i := by
  induction n with
  | zero => intro i _; rfl
  | succ n ih =>
    intro i hi
    unfold zsm
    rw [h i (by omega), ih (i + 1) (by omega)]
theorem zbt_c {f g : Nat → Bool} (h : ∀ j, j < 5 → f j = g j) (n : Nat) : ∀ i v, i + n = 5 → zbt f n i v = zbt g n i v := by
  induction n with
  | zero => intro i v _; rfl
  | succ n ih =>
    intro i v hi
    unfold zbt
    rw [h i (by omega), ih (i + 1) _ (by omega)]
theorem zwb_c {F G F' G' : Nat → Int32} {a b a' b' n : Int} (ha : a = a') (hb : b = b') {i : Nat} (h1 : F i = F' i) (h2 : G i = G' i) : zwb F G a b n i = zwb F' G' a' b' n i := by
  unfold zwb
  rw [ha, hb, h1, h2]
theorem zo_waves (X : ZX) (d m ce sl : Nat) (I : Nat → Nat → Int32) (L : Nat → Nat → Int64) (t u r q : Nat) {C p : Nat} (hS : zg_S C m I) (hL : zg_L p I) (a s0 s1 s2 s3 s4 h b n : Int32) : zOL X (d + 200) 267 [.ref 0, .int a, .int s0, .int s1, .int s2, .int s3, .int s4, .int h, .int b, .int n, .ref 117] 238 [.ref 55, .int a, .int s0, .int s1, .int s2, .int s3, .int s4, .int h, .int b, .int n] (118, z_sd m, ce, sl, I, L, z_rr t u r q (z_gg m) (z_sf m)) (zQ m t u r q ce sl I L [39, 40, 98, 99] [] (zFs I)) := by
  obtain ⟨h5, hs, hm, h1, hf⟩ := hS
  have hs' : (I 5 2).toInt = m := by rw [hs, y_on (by omega)]
  have hm' : (I 55 1).toInt = m := by rw [hm, y_on (by omega)]
  have hs1 : (I 5 2 - Int32.ofInt 1).toInt = m - 1 := by rw [y_sbl (by omega) (by omega) (by omega) (by omega), hs']
  obtain ⟨J1, hJ1⟩ : ∃ J, J = z_up (z_up (z_up (z_up (z_up I 39 0 s0) 39 1 s1) 39 2 s2) 39 3 s3) 39 4 s4 := ⟨_, rfl⟩
  have j1 : ∀ x, x ≠ 39 → J1 x = I x := by
    intro x hx
    rw [hJ1, z_up_r _ _ _ _ _ hx, z_up_r _ _ _ _ _ hx, z_up_r _ _ _ _ _ hx, z_up_r _ _ _ _ _ hx, z_up_r _ _ _ _ _ hx]
  have r0 : J1 39 0 = s0 := by rw [hJ1]
  have r1 : J1 39 1 = s1 := by rw [hJ1]
  have r2 : J1 39 2 = s2 := by rw [hJ1]
  have r3 : J1 39 3 = s3 := by rw [hJ1]
  have r4 : J1 39 4 = s4 := by rw [hJ1]
  -- a call that is refused behind the rows
  have no2 : ∀ (k : Int) (_ : k = 1 ∨ k = 2) (Jx : Nat → Nat → Int32), (Jx = I ∨ Jx = J1) → (∀ LL, z_pu (z_run X z_cf z_ff (d + 200)) 238 [.ref 55, .int a, .int s0, .int s1, .int s2, .int s3, .int s4, .int h, .int b, .int n] (118, z_sd m, ce + 1, sl + 6, Jx, LL, z_rr t u r q (z_gg m) (z_sf m)) = some (.inl (some (.int (Int32.ofInt 0))), (118, z_sd m, ce + 1, sl + 6, z_up (z_up Jx 55 0 (Int32.ofInt 0)) 55 0 (Int32.ofInt k), LL, z_rr t u r q (z_gg m) (z_sf m)))) →
      z_pu (z_run X z_cf z_ff (d + 199)) 155 [.ref 0, .int a, .int s0, .int s1, .int s2, .int s3, .int s4, .int h, .int b, .int n] (118, z_sd m, ce, sl, I, L, z_rr t u r q (z_gg m) (z_sf m)) = some (.inr (k.toNat - 1), (118, z_sd m, ce + 1, sl + 6, Jx, L, z_rr t u r q (z_gg m) (z_sf m))) → zOL X (d + 200) 267 [.ref 0, .int a, .int s0, .int s1, .int s2, .int s3, .int s4, .int h, .int b, .int n, .ref 117] 238 [.ref 55, .int a, .int s0, .int s1, .int s2, .int s3, .int s4, .int h, .int b, .int n] (118, z_sd m, ce, sl, I, L, z_rr t u r q (z_gg m) (z_sf m)) (zQ m t u r q ce sl I L [39, 40, 98, 99] [] (zFs I)) := by
    intro k hk Jx hJx h1 h2
    have hx : ∀ x, x ≠ 39 → Jx x = I x := by
      intro x hx
      rcases hJx with e | e
      · rw [e]
      · rw [e, j1 x hx]
    refine ⟨Int32.ofInt k, Int32.ofInt 0, zw m t u r q (ce + 1) (sl + 6) Jx L, zw m t u r q (ce + 1) (sl + 6) (z_up (z_up Jx 55 0 (Int32.ofInt 0)) 55 0 (Int32.ofInt k)) L, ?_, h1 L, rfl, ?_, ⟨ce + 1, sl + 6, _, L, rfl, by omega, by omega, ⟨?_, ?_⟩, fun _ _ => rfl, ?_⟩⟩
    · refine z_en X (d + 197) _ _ [(0, .ref 0), (1, .int a), (2, .int s0), (3, .int s1), (4, .int s2), (5, .int s3), (6, .int s4), (7, .int h), (8, .int b), (9, .int n), (10, .ref 117)] _ _ rfl rfl rfl ?_
      rw [zb_L_waves_0, h2, z_bi_e]
      rcases hk with hk | hk
      · subst hk
        exact z_x1 rfl rfl
      · subst hk
        exact z_x1 rfl rfl
    · intro hk0
      exfalso
      rcases hk with hk | hk
      · subst hk
        exact absurd hk0 (by decide)
      · subst hk
        exact absurd hk0 (by decide)
    · intro x x1 x2 x3
      simp only [List.mem_cons, List.not_mem_nil, or_false, not_or] at x3
      rw [z_up_r _ _ _ _ _ x2, z_up_r _ _ _ _ _ x2, hx x (by omega)]
    · intro j x1 _
      rw [z_up_j _ _ _ _ _ x1, z_up_j _ _ _ _ _ x1, hx 55 (by omega)]
    · intro k' _
      have hge := z_sd_ge k'
      rw [z_up_r _ _ _ _ _ (by omega), z_up_r _ _ _ _ _ (by omega), hx _ (by omega)]
  by_cases c1 : 0 ≤ a.toInt ∧ a.toInt < m
  · have hw1 : ¬ (z_p_X_within a (Int32.ofInt 0) (I 5 2 - Int32.ofInt 1)) = 0 := by rw [y_wi0, hs1, y_oi0]; omega
    have hix : z_ix a (I 5 2) m = true := y_ix_T c1.1 c1.2 h5 hs
    have ha1 : ¬ a < 0 := by rw [y_i_lt, y_i0]; omega
    have ha2 : ∀ J : Nat → Nat → Int32, J 55 1 = I 55 1 → ¬ J 55 1 ≤ a := by intro J e; rw [e, y_i_le, hm']; omega
    have haN : a.toNatClampNeg = a.toInt.toNat := rfl
    obtain ⟨⟨q0, q1, q2, q3, q4, q5, q6, q7, q8, q9, q10⟩, hb⟩ := h1 a.toInt.toNat (by omega)
    have hge := z_sd_ge a.toInt.toNat
    have in5 : ∀ k : Int, 0 ≤ k → k < 5 → z_in (Int32.ofInt k) 5 = true := fun k k0 k1 => y_in_t (by rw [y_oi (by omega) (by omega)]; exact k0) (by rw [y_oi (by omega) (by omega)]; omega)
    obtain ⟨B, hB⟩ : ∃ B, B = zand (fun j => decide (1 ≤ (J1 39 j).toInt ∧ (J1 39 j).toInt ≤ 60000)) 5 0 := ⟨_, rfl⟩
    have hBt : B = true ↔ ((1 ≤ s0.toInt ∧ s0.toInt ≤ 60000) ∧ (1 ≤ s1.toInt ∧ s1.toInt ≤ 60000) ∧ (1 ≤ s2.toInt ∧ s2.toInt ≤ 60000) ∧ (1 ≤ s3.toInt ∧ s3.toInt ≤ 60000) ∧ (1 ≤ s4.toInt ∧ s4.toInt ≤ 60000)) := by
      rw [hB]
      simp only [zand, r0, r1, r2, r3, r4, decide_eq_true_eq, Nat.zero_add, Nat.reduceAdd]
      constructor
      · intro h
        by_cases e0 : 1 ≤ s0.toInt ∧ s0.toInt ≤ 60000
        · by_cases e1 : 1 ≤ s1.toInt ∧ s1.toInt ≤ 60000
          · by_cases e2 : 1 ≤ s2.toInt ∧ s2.toInt ≤ 60000
            · by_cases e3 : 1 ≤ s3.toInt ∧ s3.toInt ≤ 60000
              · by_cases e4 : 1 ≤ s4.toInt ∧ s4.toInt ≤ 60000
                · exact ⟨e0, e1, e2, e3, e4⟩
                · rw [if_pos e0, if_pos e1, if_pos e2, if_pos e3, if_neg e4] at h
                  exact absurd h (by decide)
              · rw [if_pos e0, if_pos e1, if_pos e2, if_neg e3] at h
                exact absurd h (by decide)
            · rw [if_pos e0, if_pos e1, if_neg e2] at h
              exact absurd h (by decide)
          · rw [if_pos e0, if_neg e1] at h
            exact absurd h (by decide)
        · rw [if_neg e0] at h
          exact absurd h (by decide)
      · rintro ⟨e0, e1, e2, e3, e4⟩
        rw [if_pos e0, if_pos e1, if_pos e2, if_pos e3, if_pos e4]
    have e156 : z_pu (z_run X z_cf z_ff (d + 198)) 156 [.ref 39] (118, z_sd m, ce, sl, J1, L, z_rr t u r q (z_gg m) (z_sf m)) = some (.inl (some (.int (if B = true then Int32.ofInt 1 else Int32.ofInt 0))), (118, z_sd m, ce, sl, J1, L, z_rr t u r q (z_gg m) (z_sf m))) := by
      refine z_en X (d + 195) _ _ [(0, .ref 39)] _ _ rfl rfl rfl ?_
      rw [zb_X_areThicknesses_0, hB]
      exact zr_areT X _ (z_sd m) ce sl J1 L t u r q (z_gg m) (z_sf m) 5 0 99999993 (by omega)
    have pre : z_pu (z_run X z_cf z_ff (d + 199)) 155 [.ref 0, .int a, .int s0, .int s1, .int s2, .int s3, .int s4, .int h, .int b, .int n] (118, z_sd m, ce, sl, I, L, z_rr t u r q (z_gg m) (z_sf m)) = z_loop X z_cf z_ff (z_pu (z_run X z_cf z_ff (d + 198))) 155 99999998 52 [(0, .ref 0), (7, .int h), (8, .int b), (9, .int n), (10, .ref (z_sd a.toInt.toNat))] [.int (if B = true then Int32.ofInt 1 else Int32.ofInt 0)] (118, z_sd m, ce, sl, J1, L, z_rr t u r q (z_gg m) (z_sf m)) := by
      refine z_en X (d + 196) _ _ [(0, .ref 0), (1, .int a), (2, .int s0), (3, .int s1), (4, .int s2), (5, .int s3), (6, .int s4), (7, .int h), (8, .int b), (9, .int n)] _ _ rfl rfl rfl ?_
      rw [zt_X_waves_0 X (d + 191), if_neg hw1, hix, z_gd_t, in5 0 (by omega) (by omega), z_gd_t, in5 1 (by omega) (by omega), z_gd_t, in5 2 (by omega) (by omega), z_gd_t, in5 3 (by omega) (by omega), z_gd_t, in5 4 (by omega) (by omega), z_gd_t, ← hJ1, e156, z_bi_v]
      rfl
    by_cases c2 : B = true ∧ (1 ≤ h.toInt ∧ h.toInt ≤ 99) ∧ (-999 ≤ b.toInt ∧ b.toInt ≤ 999) ∧ (0 ≤ n.toInt ∧ n.toInt ≤ 1000)
    · obtain ⟨d1, d2, d3, d4⟩ := c2
      obtain ⟨t0, t1, t2, t3, t4⟩ := hBt.mp d1
      have h39 : ∀ j, j < 5 → 1 ≤ (J1 39 j).toInt ∧ (J1 39 j).toInt ≤ 60000 := by
        intro j hj
        have hc : j = 0 ∨ j = 1 ∨ j = 2 ∨ j = 3 ∨ j = 4 := by omega
        rcases hc with e | e | e | e | e
        · rw [e, r0]; exact t0
        · rw [e, r1]; exact t1
        · rw [e, r2]; exact t2
        · rw [e, r3]; exact t3
        · rw [e, r4]; exact t4
      have hL1 : zg_L p J1 := zg_L_fr hL (by rw [j1 2 (by omega)]) (j1 3 (by omega)) (j1 4 (by omega)) (by rw [j1 55 (by omega)]) (j1 67 (by omega)) (j1 68 (by omega))
      have hsd : J1 (z_sd a.toInt.toNat) = I (z_sd a.toInt.toNat) := j1 _ (by omega)
      obtain ⟨J2, g1, g2, g3⟩ := zr_wvC X (d + 193) (z_sd m) ce sl J1 L t u r q (z_gg m) (z_sf m) (z_sd a.toInt.toNat) hge h b n hL1 (fun J => z_okS (k := a.toInt.toNat) (m := m) (by omega) (by omega) 118 ce sl J L _) (by omega) (by omega) d3.1 d3.2 h39 (by rw [hsd, q8]; omega) (by rw [hsd, q8]; omega) (by rw [hsd, q0]; omega) (by rw [hsd, q0]; omega) (by rw [hsd, q9]; omega) 5 J1 0 99999987 (by omega) (fun _ _ => rfl)
      have V40 : ∀ j, j < 5 → J2 40 j = zwv I p (I 56 a.toInt.toNat) (I 65 a.toInt.toNat) h (I 64 a.toInt.toNat) b (J1 39 j) j := by
        intro j hj
        rw [g2 j hj, if_neg (by omega), hsd, q0, q8, q9]
        unfold zwv
        have e1 : zd J1 = zd I := by
          funext k
          show (J1 3 k).toInt = (I 3 k).toInt
          rw [j1 3 (by omega)]
        have e2 : zf J1 = zf I := by
          funext k
          show (J1 4 k).toInt = (I 4 k).toInt
          rw [j1 4 (by omega)]
        rw [e1, e2]
      have zwr : ∀ w : Int32, 1 ≤ w.toInt → w.toInt ≤ 60000 → ∀ j, 0 ≤ (zwv I p (I 56 a.toInt.toNat) (I 65 a.toInt.toNat) h (I 64 a.toInt.toNat) b w j).toInt ∧ (zwv I p (I 56 a.toInt.toNat) (I 65 a.toInt.toNat) h (I 64 a.toInt.toNat) b w j).toInt ≤ 60000 := by
        intro w w1 w2 j
        obtain ⟨x1, x2⟩ := zm_out_r hL.2.2.2.1 (k := (I 56 a.toInt.toNat).toInt) (o := max 0 ((I 64 a.toInt.toNat).toInt + (zmo b j).toInt) + (I 65 a.toInt.toNat).toInt / 1000) (w := w.toInt) (h := h.toInt) (by omega) w1
        unfold zwv
        rw [y_oi (by omega) (by omega)]
        omega
      have h39' : ∀ j, j < 5 → 0 ≤ (J2 39 j).toInt ∧ (J2 39 j).toInt ≤ 60000 := by
        intro j hj
        rw [g1 39 (by omega)]
        have := h39 j hj
        omega
      have h40' : ∀ j, j < 5 → 0 ≤ (J2 40 j).toInt ∧ (J2 40 j).toInt ≤ 60000 := by
        intro j hj
        rw [V40 j hj]
        exact zwr _ (h39 j hj).1 (h39 j hj).2 j
      obtain ⟨A, A', u1, u2, u3, u4, u5, u6, u7⟩ := zr_wbS X (z_run X z_cf z_ff (d + 197)) (z_sd m) ce sl J2 L t u r q (z_gg m) (z_sf m) n h39' h40' 5 0 99999993 (Int64.ofInt 0) (Int64.ofInt 0) (by omega) (by decide) (by decide) (by decide) (by decide)
      have u8 := zr_wbB X (z_run X z_cf z_ff (d + 197)) (z_sd m) ce sl J2 L t u r q (z_gg m) (z_sf m) n d4.1 d4.2 A A' u3 u4 u5 u6 h39' h40' 5 0 99999987 (Int32.ofInt 0) (by omega)
      obtain ⟨R, hR⟩ : ∃ R, R = zbt (zwb (J2 39) (J2 40) A.toInt A'.toInt n.toInt) 5 0 (Int32.ofInt 0) := ⟨_, rfl⟩
      have e157 : z_pu (z_run X z_cf z_ff (d + 198)) 157 [.ref 0, .int n] (118, z_sd m, ce, sl, J2, L, z_rr t u r q (z_gg m) (z_sf m)) = some (.inl (some (.int R)), (118, z_sd m, ce, sl, J2, L, z_rr t u r q (z_gg m) (z_sf m))) := by
        refine z_en X (d + 195) _ _ [(0, .ref 0), (1, .int n)] _ _ rfl rfl rfl ?_
        rw [zb_X_waveBits_0, hR]
        exact u7.trans u8
      obtain ⟨K0, hK0⟩ : ∃ K, K = z_up (z_up (z_up (z_up (z_up (z_up J2 55 0 (Int32.ofInt 0)) 98 0 s0) 98 1 s1) 98 2 s2) 98 3 s3) 98 4 s4 := ⟨_, rfl⟩
      have k1 : ∀ x, x ≠ 55 → x ≠ 98 → K0 x = J2 x := by
        intro x hx hy
        rw [hK0, z_up_r _ _ _ _ _ hy, z_up_r _ _ _ _ _ hy, z_up_r _ _ _ _ _ hy, z_up_r _ _ _ _ _ hy, z_up_r _ _ _ _ _ hy, z_up_r _ _ _ _ _ hx]
      have k2 : ∀ x, x ≠ 39 → x ≠ 40 → x ≠ 55 → x ≠ 98 → K0 x = I x := by
        intro x x1 x2 x3 x4
        rw [k1 x x3 x4, g1 x x2, j1 x x1]
      have k55 : ∀ j, j ≠ 0 → K0 55 j = I 55 j := by
        intro j hj
        rw [hK0]
        show z_up J2 55 0 (Int32.ofInt 0) 55 j = I 55 j
        rw [z_up_j _ _ _ _ _ hj, g1 55 (by omega), j1 55 (by omega)]
      have k98 : ∀ j, j < 5 → K0 98 j = J1 39 j := by
        intro j hj
        have hc : j = 0 ∨ j = 1 ∨ j = 2 ∨ j = 3 ∨ j = 4 := by omega
        rcases hc with e | e | e | e | e
        · rw [e, r0, hK0]
        · rw [e, r1, hK0]
        · rw [e, r2, hK0]
        · rw [e, r3, hK0]
        · rw [e, r4, hK0]
      have hLK : zg_L p K0 := zg_L_fr hL (by rw [k2 2 (by omega) (by omega) (by omega) (by omega)]) (k2 3 (by omega) (by omega) (by omega) (by omega)) (k2 4 (by omega) (by omega) (by omega) (by omega)) (k55 13 (by omega)) (k2 67 (by omega) (by omega) (by omega) (by omega)) (k2 68 (by omega) (by omega) (by omega) (by omega))
      obtain ⟨K, S1, S2, v1, v2, v3, v4, v5, v6, v7, v8, v9⟩ := zr_wvM X (d + 195) m ce sl K0 (z_up L 117 0 R.toInt64) t u r q a h b n hLK c1.1 (by omega) (by omega) (by omega) d3.1 d3.2 (fun j hj => by rw [k98 j hj]; exact h39 j hj) (by rw [k2 64 (by omega) (by omega) (by omega) (by omega), haN]; omega) (by rw [k2 64 (by omega) (by omega) (by omega) (by omega), haN]; omega) (by rw [k2 56 (by omega) (by omega) (by omega) (by omega), haN]; omega) (by rw [k2 56 (by omega) (by omega) (by omega) (by omega), haN]; omega) (by rw [k2 65 (by omega) (by omega) (by omega) (by omega), haN]; omega) 5 K0 0 99999981 (Int64.ofInt 0) (Int64.ofInt 0) (by omega) (fun _ _ => rfl) (by decide) (by decide) (by decide) (by decide)
      have V99 : ∀ j, j < 5 → zwv K0 p (K0 56 a.toNatClampNeg) (K0 65 a.toNatClampNeg) h (K0 64 a.toNatClampNeg) b (K0 98 j) j = J2 40 j := by
        intro j hj
        rw [V40 j hj, k98 j hj, k2 56 (by omega) (by omega) (by omega) (by omega), k2 64 (by omega) (by omega) (by omega) (by omega), k2 65 (by omega) (by omega) (by omega) (by omega), haN]
        unfold zwv
        have e1 : zd K0 = zd I := by
          funext k
          show (K0 3 k).toInt = (I 3 k).toInt
          rw [k2 3 (by omega) (by omega) (by omega) (by omega)]
        have e2 : zf K0 = zf I := by
          funext k
          show (K0 4 k).toInt = (I 4 k).toInt
          rw [k2 4 (by omega) (by omega) (by omega) (by omega)]
        rw [e1, e2]
      have K99 : ∀ j, j < 5 → K 99 j = J2 40 j := by
        intro j hj
        rw [v2 j hj, if_neg (by omega), V99 j hj]
      have K98 : ∀ j, j < 5 → K 98 j = J2 39 j := by
        intro j hj
        rw [v1 98 (by omega), k98 j hj, g1 39 (by omega)]
      have w9 := zr_wbM X (z_run X z_cf z_ff (d + 199)) (z_sd m) ce sl K (z_up L 117 0 R.toInt64) t u r q (z_gg m) (z_sf m) n d4.1 d4.2 S1 S2 v5 v6 v7 v8 (fun j hj => by rw [K98 j hj]; exact h39' j hj) (fun j hj => by rw [K99 j hj]; exact h40' j hj) 5 0 99999975 (Int32.ofInt 0) (by omega)
      have eS1 : S1.toInt = A.toInt := by
        rw [v3, u1]
        congr 1
        exact zsm_c (fun j hj => by rw [k98 j hj, g1 39 (by omega)]) 5 0 (by omega)
      have eS2 : S2.toInt = A'.toInt := by
        rw [v4, u2]
        congr 1
        exact zsm_c (fun j hj => V99 j hj) 5 0 (by omega)
      have eR : zbt (zwb (K 98) (K 99) S1.toInt S2.toInt n.toInt) 5 0 (Int32.ofInt 0) = R := by
        rw [hR]
        exact zbt_c (fun j hj => zwb_c eS1 eS2 (K98 j hj) (K99 j hj)) 5 0 _ (by omega)
      rw [eR] at w9
      refine ⟨Int32.ofInt 0, R, zw m t u r q ce sl J2 (z_up L 117 0 R.toInt64), zw m t u r q ce sl K (z_up L 117 0 R.toInt64), ?_, ?_, ?_, fun _ => rfl, ⟨ce, sl, K, _, rfl, by omega, by omega, ⟨?_, ?_⟩, fun x hx => z_up117 L _ x hx, ?_⟩⟩
      · refine z_en X (d + 197) _ _ [(0, .ref 0), (1, .int a), (2, .int s0), (3, .int s1), (4, .int s2), (5, .int s3), (6, .int s4), (7, .int h), (8, .int b), (9, .int n), (10, .ref 117)] _ _ rfl rfl rfl ?_
        have ee : z_pu (z_run X z_cf z_ff (d + 199)) 155 [.ref 0, .int a, .int s0, .int s1, .int s2, .int s3, .int s4, .int h, .int b, .int n] (118, z_sd m, ce, sl, I, L, z_rr t u r q (z_gg m) (z_sf m)) = some (.inl (some (.int R)), (118, z_sd m, ce, sl, J2, L, z_rr t u r q (z_gg m) (z_sf m))) := by
          rw [pre, if_pos d1, zb_X_waves_52, if_neg (by decide), if_neg (by rw [y_ha0]; omega), if_neg (by rw [y_wi0, y_oi (by omega) (by omega), y_oi (by omega) (by omega)]; omega), if_neg (by rw [y_wi0, y_oi (by omega) (by omega), y_oi (by omega) (by omega)]; omega)]
          refine Eq.trans g3 ?_
          rw [zb_X_waves_100, if_pos (by decide), e157, z_bi_v, zb_X_waves_172]
        rw [zb_L_waves_0, ee, z_bi_v, zb_L_waves_22, z_gd_inc (by omega) (by omega) (by omega)]
        rfl
      · refine z_en X (d + 197) _ _ [(0, .ref 55), (1, .int a), (2, .int s0), (3, .int s1), (4, .int s2), (5, .int s3), (6, .int s4), (7, .int h), (8, .int b), (9, .int n)] _ _ rfl rfl rfl ?_
        rw [zt_M_waves_0 X (d + 195), if_neg ha1, if_neg (ha2 J2 (by rw [g1 55 (by omega), j1 55 (by omega)])), if_neg (by rw [y_mt0]; omega), if_neg (by rw [y_mt0]; omega), if_neg (by rw [y_mt0]; omega), if_neg (by rw [y_mt0]; omega), if_neg (by rw [y_mt0]; omega), if_neg (by rw [y_mh0]; omega), if_neg (by rw [y_wm0, y_oi (by omega) (by omega), y_oi (by omega) (by omega)]; omega), if_neg (by rw [y_wm0, y_oi (by omega) (by omega), y_oi (by omega) (by omega)]; omega), in5 0 (by omega) (by omega), z_gd_t, in5 1 (by omega) (by omega), z_gd_t, in5 2 (by omega) (by omega), z_gd_t, in5 3 (by omega) (by omega), z_gd_t, in5 4 (by omega) (by omega), z_gd_t, ← hK0]
        exact v9.trans w9
      · show K 55 0 = _
        rw [v1 55 (by omega), hK0]
      · intro x x1 x2 x3
        simp only [List.mem_cons, List.not_mem_nil, or_false, not_or] at x3
        rw [v1 x (by omega), k2 x (by omega) (by omega) x2 (by omega)]
      · intro j x1 _
        rw [v1 55 (by omega), k55 j x1]
      · intro k' _
        have hge' := z_sd_ge k'
        rw [v1 _ (by omega), k2 _ (by omega) (by omega) (by omega) (by omega)]
    · refine no2 2 (Or.inr rfl) J1 (Or.inr rfl) (fun LL => ?_) ?_
      · refine z_en X (d + 197) _ _ [(0, .ref 55), (1, .int a), (2, .int s0), (3, .int s1), (4, .int s2), (5, .int s3), (6, .int s4), (7, .int h), (8, .int b), (9, .int n)] _ _ rfl rfl rfl ?_
        rw [zt_M_waves_0 X (d + 195), if_neg ha1, if_neg (ha2 J1 (by rw [j1 55 (by omega)]))]
        by_cases d1 : B = true
        · obtain ⟨t0, t1, t2, t3, t4⟩ := hBt.mp d1
          rw [if_neg (by rw [y_mt0]; omega), if_neg (by rw [y_mt0]; omega), if_neg (by rw [y_mt0]; omega), if_neg (by rw [y_mt0]; omega), if_neg (by rw [y_mt0]; omega)]
          by_cases d2 : 1 ≤ h.toInt ∧ h.toInt ≤ 99
          · rw [if_neg (by rw [y_mh0]; omega)]
            by_cases d3 : -999 ≤ b.toInt ∧ b.toInt ≤ 999
            · have d4 : ¬ (0 ≤ n.toInt ∧ n.toInt ≤ 1000) := fun d4 => c2 ⟨d1, d2, d3, d4⟩
              rw [if_neg (by rw [y_wm0, y_oi (by omega) (by omega), y_oi (by omega) (by omega)]; omega), if_pos (by rw [y_wm0, y_oi (by omega) (by omega), y_oi (by omega) (by omega)]; omega)]
            · rw [if_pos (by rw [y_wm0, y_oi (by omega) (by omega), y_oi (by omega) (by omega)]; omega)]
          · rw [if_pos (by rw [y_mh0]; omega)]
        · have dn : ¬ ((1 ≤ s0.toInt ∧ s0.toInt ≤ 60000) ∧ (1 ≤ s1.toInt ∧ s1.toInt ≤ 60000) ∧ (1 ≤ s2.toInt ∧ s2.toInt ≤ 60000) ∧ (1 ≤ s3.toInt ∧ s3.toInt ≤ 60000) ∧ (1 ≤ s4.toInt ∧ s4.toInt ≤ 60000)) := fun g => d1 (hBt.mpr g)
          by_cases e0 : 1 ≤ s0.toInt ∧ s0.toInt ≤ 60000
          · rw [if_neg (by rw [y_mt0]; omega)]
            by_cases e1 : 1 ≤ s1.toInt ∧ s1.toInt ≤ 60000
            · rw [if_neg (by rw [y_mt0]; omega)]
              by_cases e2 : 1 ≤ s2.toInt ∧ s2.toInt ≤ 60000
              · rw [if_neg (by rw [y_mt0]; omega)]
                by_cases e3 : 1 ≤ s3.toInt ∧ s3.toInt ≤ 60000
                · rw [if_neg (by rw [y_mt0]; omega), if_pos (by rw [y_mt0]; omega)]
                · rw [if_pos (by rw [y_mt0]; omega)]
              · rw [if_pos (by rw [y_mt0]; omega)]
            · rw [if_pos (by rw [y_mt0]; omega)]
          · rw [if_pos (by rw [y_mt0]; omega)]
      · rw [pre, zb_X_waves_52]
        by_cases d1 : B = true
        · rw [if_pos d1, if_neg (by decide)]
          by_cases d2 : 1 ≤ h.toInt ∧ h.toInt ≤ 99
          · rw [if_neg (by rw [y_ha0]; omega)]
            by_cases d3 : -999 ≤ b.toInt ∧ b.toInt ≤ 999
            · have d4 : ¬ (0 ≤ n.toInt ∧ n.toInt ≤ 1000) := fun d4 => c2 ⟨d1, d2, d3, d4⟩
              rw [if_neg (by rw [y_wi0, y_oi (by omega) (by omega), y_oi (by omega) (by omega)]; omega), if_pos (by rw [y_wi0, y_oi (by omega) (by omega), y_oi (by omega) (by omega)]; omega)]
              rfl
            · rw [if_pos (by rw [y_wi0, y_oi (by omega) (by omega), y_oi (by omega) (by omega)]; omega)]
              rfl
          · rw [if_pos (by rw [y_ha0]; omega)]
            rfl
        · rw [if_neg d1, if_pos (by decide)]
          rfl
  · refine no2 1 (Or.inl rfl) I (Or.inl rfl) (fun LL => ?_) ?_
    · refine z_en X (d + 197) _ _ [(0, .ref 55), (1, .int a), (2, .int s0), (3, .int s1), (4, .int s2), (5, .int s3), (6, .int s4), (7, .int h), (8, .int b), (9, .int n)] _ _ rfl rfl rfl ?_
      rw [zt_M_waves_0 X (d + 195)]
      by_cases c4 : a.toInt < 0
      · rw [if_pos (by rw [y_i_lt, y_i0]; exact c4)]
      · rw [if_neg (by rw [y_i_lt, y_i0]; exact c4), if_pos (by rw [y_i_le, hm']; omega)]
    · refine z_en X (d + 196) _ _ [(0, .ref 0), (1, .int a), (2, .int s0), (3, .int s1), (4, .int s2), (5, .int s3), (6, .int s4), (7, .int h), (8, .int b), (9, .int n)] _ _ rfl rfl rfl ?_
      rw [zt_X_waves_0 X (d + 191), if_pos (by rw [y_wi0, hs1, y_oi0]; omega)]
      rfl
