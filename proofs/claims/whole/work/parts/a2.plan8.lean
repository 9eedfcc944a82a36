/-! PLAN, 8: plan in the class -/
def zpF (I : Nat → Nat → Int32) (p : Nat) (h0 : Int32) (m : Nat) (F : Nat → Int32) (r i j : Nat) : Int := if r < m then zpp I p (m - 1 - r) h0 (F i).toInt (F j).toInt else -1
theorem zpF_r {C m p : Nat} {I : Nat → Nat → Int32} (hS : zg_S C m I) (hL : zg_L p I) {h0 : Int32} (hh0 : 0 ≤ h0.toInt) (F : Nat → Int32) : ∀ r i j, zpF I p h0 m F r i j = -1 ∨ 0 ≤ zpF I p h0 m F r i j ∧ zpF I p h0 m F r i j ≤ 9999999 := by
  intro r i j
  unfold zpF
  by_cases c : r < m
  · rw [if_pos c]
    exact zpp_r hS hL hh0 (by omega) _ _
  · rw [if_neg c]
    exact Or.inl rfl
/-- what plan leaves and answers -/
def zPl (I K : Nat → Nat → Int32) (p m P : Nat) (h0 : Int32) (F : Nat → Int32) (N gl : Nat) (res : Int32) : Prop :=
  ((m = 0 ∨ zW (zpF I p h0 m F) N gl m 0 = zNV) ∧ res = Int32.ofInt (-1) ∧ K 30 13 = I 30 13 ∧ K 36 = I 36 ∧ K 37 = I 37 ∧ K 38 = I 38) ∨
  (1 ≤ m ∧ zW (zpF I p h0 m F) N gl m 0 ≠ zNV ∧ res.toInt = zW (zpF I p h0 m F) N gl m 0 ∧ K 30 13 = Int32.ofNat m ∧ ∀ s, s < m → K 36 s = F (zgi (zpF I p h0 m F) N gl (zW (zpF I p h0 m F) N gl m 0) m (s + 1)) ∧
    K 37 s = Int32.ofInt (zm_pr (zd I) (zf I) p ((F (zgi (zpF I p h0 m F) N gl (zW (zpF I p h0 m F) N gl m 0) m s)).toInt - (F (zgi (zpF I p h0 m F) N gl (zW (zpF I p h0 m F) N gl m 0) m (s + 1))).toInt) (zhw I h0 s)) ∧
    K 38 s = Int32.ofInt (zgp I p s h0 (F (zgi (zpF I p h0 m F) N gl (zW (zpF I p h0 m F) N gl m 0) m s)).toInt (F (zgi (zpF I p h0 m F) N gl (zW (zpF I p h0 m F) N gl m 0) m (s + 1))).toInt))
theorem zr_findPlan (X : ZX) (d m ce sl : Nat) (I : Nat → Nat → Int32) (L : Nat → Nat → Int64) (t u r q : Nat) {C p : Nat} (hS : zg_S C m I) (hL : zg_L p I) (hP : zg_P I) (a h0 v : Int32) (ha0 : 1 ≤ a.toInt) (ha1 : a.toInt ≤ 60000) (hh0 : 0 ≤ h0.toInt) (hh1 : h0.toInt ≤ 99) : ∃ (K : Nat → Nat → Int32) (res : Int32) (F : Nat → Int32) (N gl : Nat), zStp (I 31) (I 30 2).toInt.toNat a F N ∧ (gl < N ∧ F gl = v ∨ gl = N ∧ ∀ i, i < N → F i ≠ v) ∧
    z_pu (z_run X z_cf z_ff (d + 13)) 101 [.ref 30, .int a, .int h0, .int v] (118, z_sd m, ce, sl, I, L, z_rr t u r q (z_gg m) (z_sf m)) = some (.inl (some (.int res)), (118, z_sd m, ce, sl, K, L, z_rr t u r q (z_gg m) (z_sf m))) ∧ (∀ x, (x < 30 ∨ 38 < x) → K x = I x) ∧ K 31 = I 31 ∧ K 30 2 = I 30 2 ∧ zPl I K p m (I 30 2).toInt.toNat h0 F N gl res := by
  have h5 := hS.1
  have hs5 := hS.2.1
  have hm1 : (Int32.ofInt (-1)).toInt = -1 := rfl
  have h1' : (Int32.ofInt 1).toInt = 1 := rfl
  have hPr : ∀ j, j < (I 30 2).toInt.toNat → 1 ≤ (I 31 j).toInt ∧ (I 31 j).toInt ≤ 60000 := fun j hj => hP.2.2.2.2.1 j (by omega)
  have hP12 : (I 30 2).toInt.toNat ≤ 12 := by
    have := hP.2.2.1
    omega
  obtain ⟨K1, N, a1, a2, a3, a4, a5⟩ := zr_setSteps X (d + 9) m ce sl I L t u r q a hP
  have hN1 := a5.1
  have hN13 := a5.2.1
  have hle : ∀ j, j < N → ∀ i, i ≤ j → (K1 32 j).toInt ≤ (K1 32 i).toInt := fun j hj i hi => (zStp_le a5 j hj i hi).1
  have hrg := zStp_rng a5 ha0 ha1 hPr
  have hF1 : zPF I K1 := ⟨fun x x1 x2 x3 => a2 x (by omega) (by omega), by rw [a2 55 (by omega) (by omega)], by rw [a2 55 (by omega) (by omega)]⟩
  have hS1 := zPF_S hF1 hS
  have hL1 := zPF_L hF1 hL
  obtain ⟨x, b1, b2⟩ := zr_stepOf X (d + 9) (z_sd m) ce sl K1 L t u r q (z_gg m) (z_sf m) v a4 (by omega)
  have hp9 := zpF_r hS hL hh0 (K1 32)
  have hpok : zpok (zpF I p h0 m (K1 32)) := fun r i j => by have := hp9 r i j; omega
  have ent : ∀ R, z_loop X z_cf z_ff (z_pu (z_run X z_cf z_ff (d + 12))) 101 99999998 10 [(0, .ref 30), (1, .int a), (2, .int h0)] [.int x] (118, z_sd m, ce, sl, K1, L, z_rr t u r q (z_gg m) (z_sf m)) = R → z_pu (z_run X z_cf z_ff (d + 13)) 101 [.ref 30, .int a, .int h0, .int v] (118, z_sd m, ce, sl, I, L, z_rr t u r q (z_gg m) (z_sf m)) = R := by
    intro R hR
    refine z_en X (d + 10) _ _ [(0, .ref 30), (1, .int a), (2, .int h0), (3, .int v)] _ _ rfl rfl rfl ?_
    rw [show (100000000 : Nat) = 99999998 + 1 + 1 by omega, zb_Planner_findPlan_0, a1, z_b0_v, zb_Planner_findPlan_5, b1, z_bi_v]
    exact hR
  have hno : ∀ gl, (gl < N ∧ K1 32 gl = v ∨ gl = N ∧ ∀ i, i < N → K1 32 i ≠ v) → (m = 0 ∨ zW (zpF I p h0 m (K1 32)) N gl m 0 = zNV) → z_loop X z_cf z_ff (z_pu (z_run X z_cf z_ff (d + 12))) 101 99999998 10 [(0, .ref 30), (1, .int a), (2, .int h0)] [.int x] (118, z_sd m, ce, sl, K1, L, z_rr t u r q (z_gg m) (z_sf m)) = some (.inl (some (.int (Int32.ofInt (-1)))), (118, z_sd m, ce, sl, K1, L, z_rr t u r q (z_gg m) (z_sf m))) → ∃ (K : Nat → Nat → Int32) (res : Int32) (F : Nat → Int32) (N gl : Nat), zStp (I 31) (I 30 2).toInt.toNat a F N ∧ (gl < N ∧ F gl = v ∨ gl = N ∧ ∀ i, i < N → F i ≠ v) ∧
    z_pu (z_run X z_cf z_ff (d + 13)) 101 [.ref 30, .int a, .int h0, .int v] (118, z_sd m, ce, sl, I, L, z_rr t u r q (z_gg m) (z_sf m)) = some (.inl (some (.int res)), (118, z_sd m, ce, sl, K, L, z_rr t u r q (z_gg m) (z_sf m))) ∧ (∀ x, (x < 30 ∨ 38 < x) → K x = I x) ∧ K 31 = I 31 ∧ K 30 2 = I 30 2 ∧ zPl I K p m (I 30 2).toInt.toNat h0 F N gl res := by
    intro gl g1 g2 g3
    exact ⟨K1, Int32.ofInt (-1), K1 32, N, gl, a5, g1, ent _ g3, fun x x1 => a2 x (by omega) (by omega), a2 31 (by omega) (by omega), a3 2 (by omega), Or.inl ⟨g2, rfl, a3 13 (by omega), a2 36 (by omega) (by omega), a2 37 (by omega) (by omega), a2 38 (by omega) (by omega)⟩⟩
  rcases b2 with ⟨gl, gl1, gl2, gl3⟩ | ⟨b2, b3⟩
  · have hx1 : ¬ x = Int32.ofInt (-1) := by rw [y_i_eq, hm1]; omega
    have hK15 : (K1 5 2).toInt = m := by rw [a2 5 (by omega) (by omega), hs5, y_on (by omega)]
    by_cases cm : m = 0
    · refine hno gl (Or.inl ⟨gl1, gl3⟩) (Or.inl cm) ?_
      rw [show (99999998 : Nat) = 99999996 + 2 by omega, zt_Planner_findPlan_10 X (d + 8), if_neg hx1, if_neg (by rw [y_i_le, hK15, h1']; omega)]
    · obtain ⟨K2, c1, c2, c3⟩ := zr_setPresses X (d + 5) m ce sl K1 L t u r q hS1 hL1 h0 hh0 hh1 a4 hN1 (by omega) hrg hle
      obtain ⟨K3, hK3⟩ : ∃ K3, K3 = z_up K2 30 8 (Int32.ofInt (-1)) := ⟨_, rfl⟩
      have k3r : ∀ y, y ≠ 30 → K3 y = K2 y := fun y hy => by rw [hK3, z_up_r _ _ _ _ _ hy]
      have h35 : K3 5 2 = Int32.ofNat m := by rw [k3r 5 (by omega), c1 5 (by omega), a2 5 (by omega) (by omega), hs5]
      have hT : ∀ r, r < m → ∀ i, i < (if r = m - 1 then 1 else N) → ∀ j, i ≤ j → j < N → K3 33 (169 * (m - 1 - r) + 13 * i + j) = Int32.ofInt (zpF I p h0 m (K1 32) r i j) := by
        intro r r1 i i1 j j1 j2
        rw [k3r 33 (by omega)]
        unfold zpF
        rw [if_pos r1, ← zPF_pp hF1]
        refine c2 (m - 1 - r) (by omega) i ?_ j j1 j2
        by_cases cr : r = m - 1
        · rw [if_pos (by omega)]
          rw [if_pos cr] at i1
          exact i1
        · rw [if_neg (by omega)]
          rw [if_neg cr] at i1
          exact i1
      obtain ⟨K4, d1, d2, d3, d4, d5⟩ := zr_try X (d + 7 - m) m ce sl L t u r q h5 (zpF I p h0 m (K1 32)) hp9 N gl gl1 (by omega) x gl2 m (Nat.le_refl _) K3 0 0 0 none [] (Int32.ofInt 0) (Int32.ofInt 0) (Int32.ofInt 0) (Int32.ofInt 0) h35 hT (by omega) (fun r0 => absurd r0 cm) (fun _ => rfl) (by rw [Nat.sub_self]; rfl) rfl rfl (by omega) (by omega) rfl (by omega) (by omega) (by rw [Nat.sub_self]; rfl) (fun k hk => by omega) (by show K3 30 8 = _; rw [hK3, z_up_s])
      rw [show d + 7 - m + m + 5 = d + 12 by omega] at d1
      have d5' : zst m K4 ((zbe (zpF I p h0 m (K1 32)) N gl m 0 0).map (fun x => (x.1, 0 + x.2.1, [] ++ x.2.2))) := d5
      obtain ⟨e1, e2⟩ := zbe_is hpok N gl m h5 0 (by omega) 0 (by omega) (by omega)
      have hWr := zW_r hpok N gl m 0
      have hNV : zNV = 1000000000000000 := rfl
      have pre : ∀ R, z_loop X z_cf z_ff (z_pu (z_run X z_cf z_ff (d + 12))) 101 99999995 51 [(0, .ref 30), (1, .int a), (2, .int h0)] [] (118, z_sd m, ce, sl, K4, L, z_rr t u r q (z_gg m) (z_sf m)) = R → z_loop X z_cf z_ff (z_pu (z_run X z_cf z_ff (d + 12))) 101 99999998 10 [(0, .ref 30), (1, .int a), (2, .int h0)] [.int x] (118, z_sd m, ce, sl, K1, L, z_rr t u r q (z_gg m) (z_sf m)) = R := by
        intro R hR
        rw [show (99999998 : Nat) = 99999995 + 1 + 2 by omega, zt_Planner_findPlan_10 X (d + 8), if_neg hx1, if_pos (by rw [y_i_le, hK15, h1']; omega), c3, z_b0_v, zb_Planner_findPlan_36, ← hK3, d1, z_b0_v]
        exact hR
      have f4 : ∀ y, y ≠ 30 → y ≠ 33 → y ≠ 34 → y ≠ 35 → K4 y = K1 y := fun y y1 y2 y3 y4 => by rw [d2 y y1 y3 y4, k3r y y1, c1 y y2]
      have f40 : ∀ j, j ≠ 8 → j ≠ 9 → K4 30 j = K1 30 j := fun j j1 j2 => by rw [d3 j j1 j2, hK3, z_up_j _ _ _ _ _ j1, c1 30 (by omega)]
      by_cases cw : zW (zpF I p h0 m (K1 32)) N gl m 0 = zNV
      · rw [e1 cw] at d5'
        have d6 : K4 30 8 = Int32.ofInt (-1) := d5'
        refine ⟨K4, Int32.ofInt (-1), K1 32, N, gl, a5, Or.inl ⟨gl1, gl3⟩, ent _ (pre _ ?_), ?_, ?_, ?_, Or.inl ⟨Or.inr cw, rfl, ?_, ?_, ?_, ?_⟩⟩
        · rw [show (99999995 : Nat) = 99999994 + 1 by omega, zb_Planner_findPlan_51, if_pos d6]
        · intro y y1
          rw [f4 y (by omega) (by omega) (by omega) (by omega), a2 y (by omega) (by omega)]
        · rw [f4 31 (by omega) (by omega) (by omega) (by omega), a2 31 (by omega) (by omega)]
        · rw [f40 2 (by omega) (by omega), a3 2 (by omega)]
        · rw [f40 13 (by omega) (by omega), a3 13 (by omega)]
        · rw [f4 36 (by omega) (by omega) (by omega) (by omega), a2 36 (by omega) (by omega)]
        · rw [f4 37 (by omega) (by omega) (by omega) (by omega), a2 37 (by omega) (by omega)]
        · rw [f4 38 (by omega) (by omega) (by omega) (by omega), a2 38 (by omega) (by omega)]
      · rw [e2 cw, show max 0 (zW (zpF I p h0 m (K1 32)) N gl m 0) = zW (zpF I p h0 m (K1 32)) N gl m 0 by omega] at d5'
        obtain ⟨t1, t2, t3, t4, t5⟩ := d5'
        have t1' : (K4 30 8).toInt = zW (zpF I p h0 m (K1 32)) N gl m 0 := t1
        have t5' : ∀ k, k < m → (K4 35 k).toInt = (((zgr (zpF I p h0 m (K1 32)) N gl (zW (zpF I p h0 m (K1 32)) N gl m 0) m 0).getD k 0 : Nat) : Int) := t5
        have hSn := (zWS hpok N gl (B := zW (zpF I p h0 m (K1 32)) N gl m 0) (by omega) m h5 0 (by omega)).2 cw (Int.le_refl _)
        have hgi := zgi_is hpok h5 hN1 hSn m (Nat.le_refl _)
        have hF4 : zPF I K4 := zPF_trans hF1 ⟨fun x x1 x2 x3 => f4 x (by omega) (by omega) (by omega) (by omega), by rw [f4 55 (by omega) (by omega) (by omega) (by omega)], by rw [f4 55 (by omega) (by omega) (by omega) (by omega)]⟩
        have hK432 : K4 32 = K1 32 := f4 32 (by omega) (by omega) (by omega) (by omega)
        obtain ⟨K5, g1, g2, g3, g4, g5⟩ := zr_keepBest X (d + 5) m ce sl K4 L t u r q (zPF_S hF4 hS) (zPF_L hF4 hL) h0 a hh0 hh1 (N := N) (by omega) (by rw [hK432]; exact hrg) (by rw [hK432]; exact hle) (zgi (zpF I p h0 m (K1 32)) N gl (zW (zpF I p h0 m (K1 32)) N gl m 0) m) (by rw [hK432]; exact a5.2.2.1)
          (by
            intro k hk
            have h1 := hgi.2.2 k hk
            have h2 := (zgi_is hpok h5 hN1 hSn (k + 1) (by omega)).1
            exact ⟨h1.1, h2⟩)
          (by
            intro k hk
            have := zgr_gi (zpF I p h0 m (K1 32)) N gl (zW (zpF I p h0 m (K1 32)) N gl m 0) m k 0 (by omega)
            rw [t5' k hk]
            rw [Nat.sub_zero, Nat.zero_add] at this
            exact congrArg (fun (z : Nat) => (z : Int)) this)
        refine ⟨K5, K4 30 8, K1 32, N, gl, a5, Or.inl ⟨gl1, gl3⟩, ent _ (pre _ ?_), ?_, ?_, ?_, Or.inr ⟨by omega, cw, t1', g4, ?_⟩⟩
        · rw [show (99999995 : Nat) = 99999993 + 1 + 1 by omega, zb_Planner_findPlan_51, if_neg (by rw [y_i_eq, t1', hm1]; omega), g1, z_b0_v, zb_Planner_findPlan_67, g3 8 (by omega)]
        · intro y y1
          rw [g2 y (by omega) (by omega) (by omega) (by omega), f4 y (by omega) (by omega) (by omega) (by omega), a2 y (by omega) (by omega)]
        · rw [g2 31 (by omega) (by omega) (by omega) (by omega), f4 31 (by omega) (by omega) (by omega) (by omega), a2 31 (by omega) (by omega)]
        · rw [g3 2 (by omega), f40 2 (by omega) (by omega), a3 2 (by omega)]
        · intro s hs
          have := g5 s hs
          rw [hK432, (zPF_d hF4).1, (zPF_d hF4).2, zPF_hw hF4, zPF_gp hF4] at this
          exact this
  · refine hno N (Or.inr ⟨rfl, b3⟩) (Or.inr (zW_off _ hpok (Nat.le_refl _) m 0 (by omega))) ?_
    rw [show (99999998 : Nat) = 99999997 + 1 by omega, zb_Planner_findPlan_10, if_pos b2]
