/-! CALLS, 5: press, bite -/
theorem zg_L_up0 {p : Nat} {I : Nat → Nat → Int32} (h : zg_L p I) (v : Int32) : zg_L p (z_up I 55 0 v) := zg_L_fr h rfl rfl rfl rfl rfl rfl
/-- what is refused through the law's helper: the class throws, the model marks it -/
theorem zQ_no (m t u r q ce sl : Nat) (I : Nat → Nat → Int32) (L : Nat → Nat → Int64) (A B : List Nat) (G : (Nat → Nat → Int32) → Prop) (v v' : Int32) (hG : G (z_up (z_up I 55 0 v) 55 0 v')) : zQ m t u r q ce sl I L A B G (zw m t u r q (ce + 1) (sl + 6) (z_up (z_up I 55 0 v) 55 0 v') L) :=
  ⟨ce + 1, sl + 6, _, L, rfl, by omega, by omega, ⟨fun a _ h2 _ => by rw [z_up_r _ _ _ _ _ h2, z_up_r _ _ _ _ _ h2], fun j h2 _ => by rw [z_up_j _ _ _ _ _ h2, z_up_j _ _ _ _ _ h2]⟩, fun _ _ => rfl, hG⟩
/-- what changes nothing through the law's helper -/
theorem zQ_ro (m t u r q ce sl : Nat) (I : Nat → Nat → Int32) (L : Nat → Nat → Int64) (A B : List Nat) (G : (Nat → Nat → Int32) → Prop) (v : Int32) (x : Int64) (hG : G (z_up I 55 0 v)) : zQ m t u r q ce sl I L A B G (zw m t u r q ce sl (z_up I 55 0 v) (z_up L 117 0 x)) :=
  ⟨ce, sl, _, _, rfl, by omega, by omega, ⟨fun a _ h2 _ => by rw [z_up_r _ _ _ _ _ h2], fun j h2 _ => by rw [z_up_j _ _ _ _ _ h2]⟩, fun a ha => z_up117 L x a ha, hG⟩
theorem zFs_up0 (I : Nat → Nat → Int32) (v : Int32) : zFs I (z_up I 55 0 v) := fun k _ => z_up_r _ _ _ _ _ (by have := z_sd_ge k; omega)
theorem zFs_up00 (I : Nat → Nat → Int32) (v v' : Int32) : zFs I (z_up (z_up I 55 0 v) 55 0 v') := fun k _ => by rw [z_up_r _ _ _ _ _ (by have := z_sd_ge k; omega), z_up_r _ _ _ _ _ (by have := z_sd_ge k; omega)]
theorem z_x1 {hs : List ZH} {pc E : Nat} {w : ZW} {v : Int} (hE : Nat.ble E 1 = true) (h : z_hd hs pc E = some v) : z_x hs pc E w = some (.inl (some (.int (Int32.ofInt v))), w) := by
  show z_gd (Nat.ble E 1) (match z_hd hs pc E with
    | some v => some (.inl (some (.int (Int32.ofInt v))), w)
    | none => some (.inr E, w)) = _
  rw [hE, h]
theorem zo_press (X : ZX) (d m ce sl : Nat) (I : Nat → Nat → Int32) (L : Nat → Nat → Int64) (t u r q : Nat) {p : Nat} (hL : zg_L p I) (a b : Int32) : zOL X (d + 200) 252 [.ref 0, .int a, .int b, .ref 117] 168 [.ref 55, .int a, .int b] (118, z_sd m, ce, sl, I, L, z_rr t u r q (z_gg m) (z_sf m)) (zQ m t u r q ce sl I L [] [] (zFs I)) := by
  by_cases c : 0 ≤ a.toInt ∧ a.toInt ≤ 60000 ∧ 1 ≤ b.toInt ∧ b.toInt ≤ 99
  · obtain ⟨c1, c2, c3, c4⟩ := c
    obtain ⟨V, hV⟩ : ∃ V, V = Int32.ofInt (zm_pr (zd I) (zf I) p a.toInt b.toInt) := ⟨_, rfl⟩
    refine ⟨Int32.ofInt 0, V, zw m t u r q ce sl I (z_up L 117 0 V.toInt64), zw m t u r q ce sl (z_up I 55 0 (Int32.ofInt 0)) (z_up L 117 0 V.toInt64), ?_, ?_, rfl, fun _ => rfl, zQ_ro _ _ _ _ _ _ _ _ _ _ _ _ _ _ (zFs_up0 I _)⟩
    · refine z_en X (d + 197) _ _ [(0, .ref 0), (1, .int a), (2, .int b), (3, .ref 117)] _ _ rfl rfl rfl ?_
      have e : z_pu (z_run X z_cf z_ff (d + 199)) 135 [.ref 0, .int a, .int b] (118, z_sd m, ce, sl, I, L, z_rr t u r q (z_gg m) (z_sf m)) = some (.inl (some (.int V)), (118, z_sd m, ce, sl, I, L, z_rr t u r q (z_gg m) (z_sf m))) := by
        refine z_en X (d + 196) _ _ [(0, .ref 0), (1, .int a), (2, .int b)] _ _ rfl rfl rfl ?_
        rw [zb_X_press_0, if_neg (by rw [y_wi0, y_oi (by omega) (by omega), y_oi (by omega) (by omega)]; omega), if_neg (by rw [y_ha0]; omega), zr_pressFor X (d + 195) _ _ _ _ _ _ _ _ _ _ _ a b hL c1 c2 (by omega) c4, z_bi_v, zb_X_press_37, hV]
      rw [zb_L_press_0, e, z_bi_v, zb_L_press_8, z_gd_inc (by omega) (by omega) (by omega)]
      rfl
    · refine z_en X (d + 197) _ _ [(0, .ref 55), (1, .int a), (2, .int b)] _ _ rfl rfl rfl ?_
      rw [zt_M_press_0 X (d + 196), if_neg (by rw [y_i_lt, y_i0]; omega), if_neg (by rw [y_i_lt, y_oi (by omega) (by omega)]; omega), if_neg (by rw [y_mh0]; omega), zr_pressOf X (d + 196) _ _ _ _ _ _ _ _ _ _ _ a b (zg_L_up0 hL _) c1 c2 (by omega) c4, z_bi_v, zb_M_press_43, hV]
  · refine ⟨Int32.ofInt 1, Int32.ofInt 0, zw m t u r q (ce + 1) (sl + 6) I L, zw m t u r q (ce + 1) (sl + 6) (z_up (z_up I 55 0 (Int32.ofInt 0)) 55 0 (Int32.ofInt 1)) L, ?_, ?_, rfl, fun hk => absurd hk (by decide), zQ_no _ _ _ _ _ _ _ _ _ _ _ _ _ _ (zFs_up00 I _ _)⟩
    · refine z_en X (d + 197) _ _ [(0, .ref 0), (1, .int a), (2, .int b), (3, .ref 117)] _ _ rfl rfl rfl ?_
      have e : z_pu (z_run X z_cf z_ff (d + 199)) 135 [.ref 0, .int a, .int b] (118, z_sd m, ce, sl, I, L, z_rr t u r q (z_gg m) (z_sf m)) = some (.inr 1, (118, z_sd m, ce + 1, sl + 6, I, L, z_rr t u r q (z_gg m) (z_sf m))) := by
        refine z_en X (d + 196) _ _ [(0, .ref 0), (1, .int a), (2, .int b)] _ _ rfl rfl rfl ?_
        rw [zb_X_press_0]
        by_cases c1 : 0 ≤ a.toInt ∧ a.toInt ≤ 60000
        · rw [if_neg (by rw [y_wi0, y_oi (by omega) (by omega), y_oi (by omega) (by omega)]; omega), if_pos (by rw [y_ha0]; omega)]
        · rw [if_pos (by rw [y_wi0, y_oi (by omega) (by omega), y_oi (by omega) (by omega)]; omega)]
      rw [zb_L_press_0, e, z_bi_e]
      exact z_x1 rfl rfl
    · refine z_en X (d + 197) _ _ [(0, .ref 55), (1, .int a), (2, .int b)] _ _ rfl rfl rfl ?_
      rw [zt_M_press_0 X (d + 196)]
      by_cases c1 : a.toInt < 0
      · rw [if_pos (by rw [y_i_lt, y_i0]; omega)]
      · rw [if_neg (by rw [y_i_lt, y_i0]; omega)]
        by_cases c2 : 60000 < a.toInt
        · rw [if_pos (by rw [y_i_lt, y_oi (by omega) (by omega)]; omega)]
        · rw [if_neg (by rw [y_i_lt, y_oi (by omega) (by omega)]; omega), if_pos (by rw [y_mh0]; omega)]
theorem zr_pressBy (X : ZX) (d n ce sl : Nat) (I : Nat → Nat → Int32) (L : Nat → Nat → Int64) (t u r q g : Nat) (st : Nat → Option Nat) (w v h o : Int32) {p : Nat} (hL : zg_L p I)
    (hw1 : w.toInt ≤ 60000) (hv0 : 0 ≤ v.toInt) (hv1 : v.toInt ≤ w.toInt) (hh0 : 0 ≤ h.toInt) (hh1 : h.toInt ≤ 99) (hov : w.toInt ≤ o.toInt → v.toInt = w.toInt) : z_pu (z_run X z_cf z_ff (d + 4)) 177 [.ref 55, .int w, .int v, .int h, .int o] (118, n, ce, sl, I, L, z_rr t u r q g st) = some (.inl (some (.int (Int32.ofInt (zm_pr (zd I) (zf I) p (w.toInt - v.toInt) h.toInt)))), (118, n, ce, sl, I, L, z_rr t u r q g st)) := by
  refine z_en X (d + 1) _ _ [(0, .ref 55), (1, .int w), (2, .int v), (3, .int h), (4, .int o)] _ _ rfl rfl rfl ?_
  have e : (w - v).toInt = w.toInt - v.toInt := y_sb (by omega) (by omega)
  rw [zb_M_pressBy_0]
  by_cases c : o.toInt < w.toInt
  · rw [if_pos (y_i_lt.mpr c), zr_pressOf X d n ce sl I L t u r q g st (w - v) h hL (by rw [e]; omega) (by rw [e]; omega) hh0 hh1, z_bi_v, zb_M_pressBy_18, e]
  · rw [if_neg (fun g => c (y_i_lt.mp g)), zb_M_pressBy_18, hov (by omega), Int.sub_self, zm_pr_at0 hL.2.2.2.1]
theorem zm_out_open {d f : Nat → Int} {p : Nat} {k o w h : Int} (ho : w ≤ o) : zm_out d f p k o w h = w := by
  unfold zm_out
  rw [if_pos ho]
theorem zo_bite (X : ZX) (d m ce sl : Nat) (I : Nat → Nat → Int32) (L : Nat → Nat → Int64) (t u r q : Nat) {C p : Nat} (hS : zg_S C m I) (hL : zg_L p I) (a b c e : Int32) : zOL X (d + 200) 253 [.ref 0, .int a, .int b, .int c, .int e, .ref 117] 172 [.ref 55, .int a, .int b, .int c, .int e] (118, z_sd m, ce, sl, I, L, z_rr t u r q (z_gg m) (z_sf m)) (zQ m t u r q ce sl I L [] [] (zFs I)) := by
  obtain ⟨h5, hs, hm, h1, hf⟩ := hS
  have hs' : (I 5 2).toInt = m := by rw [hs, y_on (by omega)]
  have hm' : (I 55 1).toInt = m := by rw [hm, y_on (by omega)]
  have hs1 : (I 5 2 - Int32.ofInt 1).toInt = m - 1 := by rw [y_sbl (by omega) (by omega) (by omega) (by omega), hs']
  by_cases c1 : 0 ≤ a.toInt ∧ a.toInt < m
  · have hw1 : ¬ (z_p_X_within a (Int32.ofInt 0) (I 5 2 - Int32.ofInt 1)) = 0 := by rw [y_wi0, hs1, y_oi0]; omega
    have hix : z_ix a (I 5 2) m = true := y_ix_T c1.1 c1.2 h5 hs
    have ha1 : ¬ a < 0 := by rw [y_i_lt, y_i0]; omega
    have ha2 : ¬ I 55 1 ≤ a := by rw [y_i_le, hm']; omega
    have haN : a.toNatClampNeg = a.toInt.toNat := rfl
    obtain ⟨⟨s0, s1, s2, s3, s4, s5, s6, s7, s8, s9, s10⟩, hb⟩ := h1 a.toInt.toNat (by omega)
    by_cases c2 : e.toInt = 0 ∨ e.toInt = 1
    · have hw2 : ¬ (z_p_X_within e (Int32.ofInt 0) (Int32.ofInt 1)) = 0 := by rw [y_wi0, y_oi0, y_oi1]; omega
      have he : e = 0 ∨ (¬ e = 0 ∧ e = Int32.ofInt 1) := by
        rcases c2 with c2 | c2
        · exact Or.inl (y_i_eq.mpr (by rw [c2, y_i0]))
        · exact Or.inr ⟨by rw [y_i_eq, c2, y_i0]; decide, y_i_eq.mpr (by rw [c2, y_oi1])⟩
      by_cases c3 : 1 ≤ b.toInt ∧ b.toInt ≤ 60000 ∧ 1 ≤ c.toInt ∧ c.toInt ≤ 99
      · obtain ⟨b1, b2, b3, b4⟩ := c3
        have hw3 : ¬ (z_p_X_isThickness b) = 0 := by rw [y_th0]; omega
        have hw4 : ¬ (z_p_X_isHardness c) = 0 := by rw [y_ha0]; omega
        have hw5 : ¬ (z_p_M_isThick b) = 0 := by rw [y_mt0]; omega
        have hw6 : ¬ (z_p_M_isHard c) = 0 := by rw [y_mh0]; omega
        obtain ⟨o1, o2, o3⟩ := z_open (a := I 64 a.toInt.toNat) (b := I 65 a.toInt.toNat) (by omega) (by omega) (by omega)
        have hP := hL.2.2.2.1
        obtain ⟨V, hV⟩ : ∃ V, V = Int32.ofInt (zm_out (zd I) (zf I) p (I 56 a.toInt.toNat).toInt ((I 64 a.toInt.toNat).toInt + (I 65 a.toInt.toNat).toInt / 1000) b.toInt c.toInt) := ⟨_, rfl⟩
        obtain ⟨v1, v2⟩ := zm_out_r hP (k := (I 56 a.toInt.toNat).toInt) (o := (I 64 a.toInt.toNat).toInt + (I 65 a.toInt.toNat).toInt / 1000) (w := b.toInt) (h := c.toInt) (by omega) b1
        have hVi : V.toInt = zm_out (zd I) (zf I) p (I 56 a.toInt.toNat).toInt ((I 64 a.toInt.toNat).toInt + (I 65 a.toInt.toNat).toInt / 1000) b.toInt c.toInt := by rw [hV, y_oi (by omega) (by omega)]
        have hbV : (b - V).toInt = b.toInt - V.toInt := y_sb (by omega) (by omega)
        have hok := z_okS (k := a.toInt.toNat) (m := m) (by omega) (by omega) 118 ce sl I L (z_rr t u r q (z_gg m) (z_sf m))
        obtain ⟨R, hR⟩ : ∃ R, R = if e = 0 then V else Int32.ofInt (zm_pr (zd I) (zf I) p (b.toInt - V.toInt) c.toInt) := ⟨_, rfl⟩
        refine ⟨Int32.ofInt 0, R, zw m t u r q ce sl I (z_up L 117 0 R.toInt64), zw m t u r q ce sl (z_up I 55 0 (Int32.ofInt 0)) (z_up L 117 0 R.toInt64), ?_, ?_, rfl, fun _ => rfl, zQ_ro _ _ _ _ _ _ _ _ _ _ _ _ _ _ (zFs_up0 I _)⟩
        · refine z_en X (d + 197) _ _ [(0, .ref 0), (1, .int a), (2, .int b), (3, .int c), (4, .int e), (5, .ref 117)] _ _ rfl rfl rfl ?_
          have ee : z_pu (z_run X z_cf z_ff (d + 199)) 136 [.ref 0, .int a, .int b, .int c, .int e] (118, z_sd m, ce, sl, I, L, z_rr t u r q (z_gg m) (z_sf m)) = some (.inl (some (.int R)), (118, z_sd m, ce, sl, I, L, z_rr t u r q (z_gg m) (z_sf m))) := by
            refine z_en X (d + 196) _ _ [(0, .ref 0), (1, .int a), (2, .int b), (3, .int c), (4, .int e)] _ _ rfl rfl rfl ?_
            rw [zt_X_bite_0 X (d + 191), if_neg hw1, hix, z_gd_t, if_neg hw2, if_neg hw3, if_neg hw4, haN, hok, z_gd_t, z_gd_t, zr_outFor X (d + 193) _ _ _ _ _ _ _ _ _ _ _ (z_sd a.toInt.toNat) b c (I (z_sd a.toInt.toNat) 8) hL hok b1 b2 (by omega) b4 (by rw [s8]; omega) (by rw [s8]; omega) (by rw [s0]; omega) (by rw [s0]; omega) (by rw [s9]; omega), s0, s8, s9, ← hV, z_bi_v, zb_X_bite_54, hR]
            rcases he with he | ⟨he, _⟩
            · rw [if_pos he, if_pos he, zb_X_bite_81]
            · rw [if_neg he, if_neg he, zr_pressFor X (d + 195) _ _ _ _ _ _ _ _ _ _ _ (b - V) c hL (by omega) (by omega) (by omega) b4, z_bi_v, zb_X_bite_81, hbV]
          rw [zb_L_bite_0, ee, z_bi_v, zb_L_bite_12, z_gd_inc (by omega) (by omega) (by omega)]
          rfl
        · refine z_en X (d + 197) _ _ [(0, .ref 55), (1, .int a), (2, .int b), (3, .int c), (4, .int e)] _ _ rfl rfl rfl ?_
          have hL0 := zg_L_up0 hL (Int32.ofInt 0)
          have hT : z_bi (z_x [] 80) (z_pu (z_run X z_cf z_ff (d + 199)) 176 [.ref 55, .int a, .int b, .int c, .int (I 64 a.toInt.toNat + I 65 a.toInt.toNat / Int32.ofInt 1000)] (118, z_sd m, ce, sl, z_up I 55 0 (Int32.ofInt 0), z_up L 117 0 R.toInt64, z_rr t u r q (z_gg m) (z_sf m))) (fun v w => z_loop X z_cf z_ff (z_pu (z_run X z_cf z_ff (d + 199))) 172 (99999995) 83 [(0, .ref 55), (2, .int b), (3, .int c), (4, .int e), (5, .int (I 64 a.toInt.toNat + I 65 a.toInt.toNat / Int32.ofInt 1000))] [.int v] w) = some (.inl (some (.int R)), (118, z_sd m, ce, sl, z_up I 55 0 (Int32.ofInt 0), z_up L 117 0 R.toInt64, z_rr t u r q (z_gg m) (z_sf m))) := by
            rw [zr_outOf X (d + 195) _ _ _ _ _ _ _ _ _ _ _ a b c _ hL0 c1.1 (by omega) b1 b2 (by omega) b4 (by rw [o1]; exact o2) (by rw [o1]; exact o3) (by show 0 ≤ (I 56 a.toInt.toNat).toInt; omega) (by show (I 56 a.toInt.toNat).toInt ≤ 999; omega), z_bi_v, zb_M_bite_83, o1]
            show (if e = 0 then z_loop X z_cf z_ff (z_pu (z_run X z_cf z_ff (d + 199))) 172 99999994 105 [] [.int (Int32.ofInt (zm_out (zd I) (zf I) p (I 56 a.toInt.toNat).toInt ((I 64 a.toInt.toNat).toInt + (I 65 a.toInt.toNat).toInt / 1000) b.toInt c.toInt))] _ else z_bi _ (z_pu _ 177 [.ref 55, .int b, .int (Int32.ofInt (zm_out (zd I) (zf I) p (I 56 a.toInt.toNat).toInt ((I 64 a.toInt.toNat).toInt + (I 65 a.toInt.toNat).toInt / 1000) b.toInt c.toInt)), .int c, .int _] _) _) = _
            rw [← hV, hR]
            rcases he with he | ⟨he, _⟩
            · rw [if_pos he, if_pos he, zb_M_bite_105]
            · rw [if_neg he, if_neg he, zr_pressBy X (d + 195) _ _ _ _ _ _ _ _ _ _ _ b V c _ hL0 b2 (by omega) (by omega) (by omega) b4 (by intro g; rw [o1] at g; rw [hVi, zm_out_open g]), z_bi_v, zb_M_bite_105]
          rw [zt_M_bite_0 X (d + 195), if_neg ha1, if_neg ha2, if_neg hw5, if_neg hw6, haN, y_in_t c1.1 (by omega), z_gd_t, z_gd_t, if_neg z_1000z]
          rcases he with he | ⟨he, he1⟩
          · rw [if_pos he]
            exact hT
          · rw [if_neg he, if_pos he1]
            exact hT
      · refine ⟨Int32.ofInt 2, Int32.ofInt 0, zw m t u r q (ce + 1) (sl + 6) I L, zw m t u r q (ce + 1) (sl + 6) (z_up (z_up I 55 0 (Int32.ofInt 0)) 55 0 (Int32.ofInt 2)) L, ?_, ?_, rfl, fun hk => absurd hk (by decide), zQ_no _ _ _ _ _ _ _ _ _ _ _ _ _ _ (zFs_up00 I _ _)⟩
        · refine z_en X (d + 197) _ _ [(0, .ref 0), (1, .int a), (2, .int b), (3, .int c), (4, .int e), (5, .ref 117)] _ _ rfl rfl rfl ?_
          have ee : z_pu (z_run X z_cf z_ff (d + 199)) 136 [.ref 0, .int a, .int b, .int c, .int e] (118, z_sd m, ce, sl, I, L, z_rr t u r q (z_gg m) (z_sf m)) = some (.inr 1, (118, z_sd m, ce + 1, sl + 6, I, L, z_rr t u r q (z_gg m) (z_sf m))) := by
            refine z_en X (d + 196) _ _ [(0, .ref 0), (1, .int a), (2, .int b), (3, .int c), (4, .int e)] _ _ rfl rfl rfl ?_
            rw [zt_X_bite_0 X (d + 191), if_neg hw1, hix, z_gd_t, if_neg hw2]
            by_cases c4 : 1 ≤ b.toInt ∧ b.toInt ≤ 60000
            · rw [if_neg (by rw [y_th0]; omega), if_pos (by rw [y_ha0]; omega)]
            · rw [if_pos (by rw [y_th0]; omega)]
          rw [zb_L_bite_0, ee, z_bi_e]
          exact z_x1 rfl rfl
        · refine z_en X (d + 197) _ _ [(0, .ref 55), (1, .int a), (2, .int b), (3, .int c), (4, .int e)] _ _ rfl rfl rfl ?_
          rw [zt_M_bite_0 X (d + 195), if_neg ha1, if_neg ha2]
          by_cases c4 : 1 ≤ b.toInt ∧ b.toInt ≤ 60000
          · have g1 : ¬ (z_p_M_isThick b) = 0 := by rw [y_mt0]; omega
            have g2 : (z_p_M_isHard c) = 0 := by rw [y_mh0]; omega
            rcases he with he | ⟨he, he1⟩
            · rw [if_pos he, if_neg g1, if_pos g2]
            · rw [if_neg he, if_pos he1, if_neg g1, if_pos g2]
          · have g1 : (z_p_M_isThick b) = 0 := by rw [y_mt0]; omega
            rcases he with he | ⟨he, he1⟩
            · rw [if_pos he, if_pos g1]
            · rw [if_neg he, if_pos he1, if_pos g1]
    · refine ⟨Int32.ofInt 1, Int32.ofInt 0, zw m t u r q (ce + 1) (sl + 6) I L, zw m t u r q (ce + 1) (sl + 6) (z_up (z_up I 55 0 (Int32.ofInt 0)) 55 0 (Int32.ofInt 1)) L, ?_, ?_, rfl, fun hk => absurd hk (by decide), zQ_no _ _ _ _ _ _ _ _ _ _ _ _ _ _ (zFs_up00 I _ _)⟩
      · refine z_en X (d + 197) _ _ [(0, .ref 0), (1, .int a), (2, .int b), (3, .int c), (4, .int e), (5, .ref 117)] _ _ rfl rfl rfl ?_
        have ee : z_pu (z_run X z_cf z_ff (d + 199)) 136 [.ref 0, .int a, .int b, .int c, .int e] (118, z_sd m, ce, sl, I, L, z_rr t u r q (z_gg m) (z_sf m)) = some (.inr 0, (118, z_sd m, ce + 1, sl + 6, I, L, z_rr t u r q (z_gg m) (z_sf m))) := by
          refine z_en X (d + 196) _ _ [(0, .ref 0), (1, .int a), (2, .int b), (3, .int c), (4, .int e)] _ _ rfl rfl rfl ?_
          rw [zt_X_bite_0 X (d + 191), if_neg hw1, hix, z_gd_t, if_pos (by rw [y_wi0, y_oi0, y_oi1]; omega)]
        rw [zb_L_bite_0, ee, z_bi_e]
        exact z_x1 rfl rfl
      · refine z_en X (d + 197) _ _ [(0, .ref 55), (1, .int a), (2, .int b), (3, .int c), (4, .int e)] _ _ rfl rfl rfl ?_
        rw [zt_M_bite_0 X (d + 195), if_neg ha1, if_neg ha2, if_neg (by rw [y_i_eq, y_i0]; omega), if_neg (by rw [y_i_eq, y_oi1]; omega)]
  · refine ⟨Int32.ofInt 1, Int32.ofInt 0, zw m t u r q (ce + 1) (sl + 6) I L, zw m t u r q (ce + 1) (sl + 6) (z_up (z_up I 55 0 (Int32.ofInt 0)) 55 0 (Int32.ofInt 1)) L, ?_, ?_, rfl, fun hk => absurd hk (by decide), zQ_no _ _ _ _ _ _ _ _ _ _ _ _ _ _ (zFs_up00 I _ _)⟩
    · refine z_en X (d + 197) _ _ [(0, .ref 0), (1, .int a), (2, .int b), (3, .int c), (4, .int e), (5, .ref 117)] _ _ rfl rfl rfl ?_
      have ee : z_pu (z_run X z_cf z_ff (d + 199)) 136 [.ref 0, .int a, .int b, .int c, .int e] (118, z_sd m, ce, sl, I, L, z_rr t u r q (z_gg m) (z_sf m)) = some (.inr 0, (118, z_sd m, ce + 1, sl + 6, I, L, z_rr t u r q (z_gg m) (z_sf m))) := by
        refine z_en X (d + 196) _ _ [(0, .ref 0), (1, .int a), (2, .int b), (3, .int c), (4, .int e)] _ _ rfl rfl rfl ?_
        rw [zt_X_bite_0 X (d + 191), if_pos (by rw [y_wi0, hs1, y_oi0]; omega)]
      rw [zb_L_bite_0, ee, z_bi_e]
      exact z_x1 rfl rfl
    · refine z_en X (d + 197) _ _ [(0, .ref 55), (1, .int a), (2, .int b), (3, .int c), (4, .int e)] _ _ rfl rfl rfl ?_
      rw [zt_M_bite_0 X (d + 195)]
      by_cases c4 : a.toInt < 0
      · rw [if_pos (by rw [y_i_lt, y_i0]; exact c4)]
      · rw [if_neg (by rw [y_i_lt, y_i0]; exact c4), if_pos (by rw [y_i_le, hm']; omega)]
