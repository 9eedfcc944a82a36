/-! CALLS, 20: run: one stand of a tick, in the model -/
/-- the model's cells behind a bite -/
def zmJ (p : Nat) (I : Nat → Nat → Int32) (k : Nat) (w h : Int32) : Nat → Nat → Int32 :=
  z_up (z_up (z_up (z_up (z_up (z_up I 83 k (Int32.ofInt 1)) 84 k w) 87 k h) 85 k (zbo p I (I 56 k).toInt (I 64 k).toInt (I 65 k).toInt w h)) 86 k (zbp p I w (zbo p I (I 56 k).toInt (I 64 k).toInt (I 65 k).toInt w h) h)) 55 45 (z_mxi (I 55 45) (zbp p I w (zbo p I (I 56 k).toInt (I 64 k).toInt (I 65 k).toInt w h) h))
def zms (I : Nat → Nat → Int32) (k : Nat) : Prop := 0 ≤ (I 64 k).toInt ∧ (I 64 k).toInt ≤ 60000 ∧ 0 ≤ (I 56 k).toInt ∧ (I 56 k).toInt ≤ 999 ∧ 0 ≤ (I 65 k).toInt
theorem zr_mbites (X : ZX) (d m ce sl : Nat) (I : Nat → Nat → Int32) (L : Nat → Nat → Int64) (t u r q : Nat) {p : Nat} (hL : zg_L p I) (k j : Nat) (h5 : k < 5) (hj : j < 40) (hk : zms I k) (x1 x2 w h : Int32) (hx1 : x1.toInt = k) (hx2 : x2.toInt = j)
    (hw : w = if k = 0 then I 78 j else I 80 (40 * (k - 1) + j)) (hw0 : 1 ≤ w.toInt) (hw1 : w.toInt ≤ 60000) (hh : h = I 88 j) (hh0 : 0 ≤ h.toInt) (hh1 : h.toInt ≤ 99) :
    z_pu (z_run X z_cf z_ff (d + 6)) 210 [.ref 55, .int x1, .int x2] (118, z_sd m, ce, sl, I, L, z_rr t u r q (z_gg m) (z_sf m)) = some (.inl none, (118, z_sd m, ce, sl, zmJ p I k w h, L, z_rr t u r q (z_gg m) (z_sf m))) := by
  refine z_en X (d + 3) _ _ [(0, .ref 55), (1, .int x1), (2, .int x2)] _ _ rfl rfl rfl ?_
  obtain ⟨k1, k2, k3, k4, k5⟩ := hk
  have hkn : x1.toNatClampNeg = k := by rw [y_tn, hx1]; rfl
  have hjn : x2.toNatClampNeg = j := by rw [y_tn, hx2]; rfl
  have hin : z_in x1 5 = true := y_in_t (by omega) (by omega)
  have hjn2 : z_in x2 40 = true := y_in_t (by omega) (by omega)
  obtain ⟨o1, o2, o3⟩ := z_open (a := I 64 k) (b := I 65 k) k1 (by omega) k5
  obtain ⟨v1, v2⟩ := zbo_r hL (k := (I 56 k).toInt) (g := (I 64 k).toInt) (r := (I 65 k).toInt) (w := w) (h := h) k3 hw0
  have hfin : ∀ N, z_bi (z_x [] 83) ((z_pu (z_run X z_cf z_ff (d + 3 + 2))) 176 [.ref 55, .int x1, .int w, .int h, .int ((I 64 k) + ((I 65 k) / (Int32.ofInt 1000)))] (118, (z_sd m), ce, sl, (z_up (z_up (z_up I 83 k (Int32.ofInt 1)) 84 k w) 87 k h), L, z_rr t u r q (z_gg m) (z_sf m))) (fun v w => z_loop X z_cf z_ff (z_pu (z_run X z_cf z_ff (d + 3 + 2))) 210 (N + 2) 86 [(0, .ref 55), (1, .int x1), (3, .int ((I 64 k) + ((I 65 k) / (Int32.ofInt 1000))))] [.int v, .int x1, .ref 85] w) = some (.inl none, (118, z_sd m, ce, sl, zmJ p I k w h, L, z_rr t u r q (z_gg m) (z_sf m))) := by
    intro N
    have hL3 : zg_L p (z_up (z_up (z_up I 83 k (Int32.ofInt 1)) 84 k w) 87 k h) := zg_L_fr hL rfl rfl rfl rfl rfl rfl
    have e56 : (z_up (z_up (z_up I 83 k (Int32.ofInt 1)) 84 k w) 87 k h) 56 x1.toNatClampNeg = I 56 k := by rw [hkn]
    rw [zr_outOf X (d + 1) _ _ _ _ _ _ _ _ _ _ _ x1 w h _ hL3 (by omega) (by omega) hw0 hw1 hh0 hh1 (by rw [o1]; exact o2) (by rw [o1]; exact o3) (by rw [e56]; exact k3) (by rw [e56]; exact k4), z_bi_v, e56, o1]
    obtain ⟨V, hV⟩ : ∃ V, V = zbo p I (I 56 k).toInt (I 64 k).toInt (I 65 k).toInt w h := ⟨_, rfl⟩
    have eV : Int32.ofInt (zm_out (zd (z_up (z_up (z_up I 83 k (Int32.ofInt 1)) 84 k w) 87 k h)) (zf (z_up (z_up (z_up I 83 k (Int32.ofInt 1)) 84 k w) 87 k h)) p (I 56 k).toInt ((I 64 k).toInt + (I 65 k).toInt / 1000) w.toInt h.toInt) = V := by rw [hV]; rfl
    have hVi : V.toInt = zm_out (zd I) (zf I) p (I 56 k).toInt ((I 64 k).toInt + (I 65 k).toInt / 1000) w.toInt h.toInt := by
      have a := zm_out_r hL.2.2.2.1 (k := (I 56 k).toInt) (o := (I 64 k).toInt + (I 65 k).toInt / 1000) (w := w.toInt) (h := h.toInt) k3 hw0
      rw [hV]
      exact y_oi (by omega) (by omega)
    unfold zmJ
    rw [← hV] at v1 v2 ⊢
    rw [eV, zb_M_bites_86, hin, z_gd_t, z_gd_t, z_gd_t, z_gd_t, hkn]
    have f1 : (z_up (z_up (z_up (z_up I 83 k (Int32.ofInt 1)) 84 k w) 87 k h) 85 k V) 85 k = V := z_up_s _ _ _ _
    have f2 : (z_up (z_up (z_up I 83 k (Int32.ofInt 1)) 84 k w) 87 k h) 84 k = w := by
      rw [z_up_r _ _ _ _ _ (show (84 : Nat) ≠ 87 by omega)]
      exact z_up_s _ _ _ _
    have f3 : (z_up (z_up (z_up I 83 k (Int32.ofInt 1)) 84 k w) 87 k h) 87 k = h := z_up_s _ _ _ _
    have hL4 : zg_L p (z_up (z_up (z_up (z_up I 83 k (Int32.ofInt 1)) 84 k w) 87 k h) 85 k V) := zg_L_fr hL rfl rfl rfl rfl rfl rfl
    rw [f1, f2, f3, zr_pressBy X (d + 1) _ _ _ _ _ _ _ _ _ _ _ w V h _ hL4 hw1 (by omega) v2 hh0 hh1 (by intro g; rw [o1] at g; rw [hVi, zm_out_open g]), z_bi_v, zb_M_bites_115, hin, z_gd_t, z_gd_t, hkn]
    obtain ⟨P, hP⟩ : ∃ P, P = zbp p I w V h := ⟨_, rfl⟩
    have eP : Int32.ofInt (zm_pr (zd (z_up (z_up (z_up (z_up I 83 k (Int32.ofInt 1)) 84 k w) 87 k h) 85 k V)) (zf (z_up (z_up (z_up (z_up I 83 k (Int32.ofInt 1)) 84 k w) 87 k h) 85 k V)) p (w.toInt - V.toInt) h.toInt) = P := by rw [hP]; rfl
    rw [eP, ← hP]
    have f4 : (z_up (z_up (z_up (z_up (z_up I 83 k (Int32.ofInt 1)) 84 k w) 87 k h) 85 k V) 86 k P) 86 k = P := z_up_s _ _ _ _
    have f5 : (z_up (z_up (z_up (z_up I 83 k (Int32.ofInt 1)) 84 k w) 87 k h) 85 k V) 55 45 = I 55 45 := rfl
    rw [f4, f5]
    by_cases g : (I 55 45).toInt < P.toInt
    · rw [if_neg (by rw [y_i_le]; omega), z_gd_t, show z_mxi (I 55 45) P = P by unfold z_mxi; rw [if_pos (y_i_lt.mpr g)]]
    · rw [if_pos (by rw [y_i_le]; omega), show z_mxi (I 55 45) P = I 55 45 by unfold z_mxi; rw [if_neg (fun e => g (y_i_lt.mp e))]]
  rw [zt_M_bites_0 X (d + 2), hin, z_gd_t, z_gd_t, if_neg z_1000z, z_gd_t, hkn, hjn, hjn2]
  have g84 : ∀ v, (z_up (z_up (z_up I 83 k (Int32.ofInt 1)) 84 k v) 87 k (I 88 j)) 84 k = v := by
    intro v
    rw [z_up_r _ _ _ _ _ (show (84 : Nat) ≠ 87 by omega)]
    exact z_up_s _ _ _ _
  have g87 : ∀ v, (z_up (z_up (z_up I 83 k (Int32.ofInt 1)) 84 k v) 87 k (I 88 j)) 87 k = I 88 j := fun v => z_up_s _ _ _ _
  by_cases h0 : k = 0
  · rw [if_pos (by rw [y_i_eq, hx1, h0]; rfl), z_gd_t, z_gd_t, z_gd_t, z_gd_t, z_gd_t, z_gd_t, g84, g87, ← hh]
    rw [if_pos h0] at hw
    rw [← hw]
    exact hfin _
  · have hp : (x1 - Int32.ofInt 1).toInt = (k - 1 : Nat) := by rw [y_sbl (by omega) (by omega) (by omega) (by omega)]; omega
    obtain ⟨p1, p2, p3⟩ := y_xo hp hx2 (by omega) hj
    rw [if_neg (by rw [y_i_eq, hx1, y_i0]; omega), p3, z_gd_t, z_gd_t, z_gd_t, z_gd_t, z_gd_t, z_gd_t, p2, g84, g87, ← hh]
    rw [if_neg h0] at hw
    rw [← hw]
    exact hfin _
