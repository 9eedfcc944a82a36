/-! CALLS, 17: run: a stand bites, in the class -/
theorem zg_L_st {p : Nat} {I : Nat → Nat → Int32} (h : zg_L p I) (k j : Nat) (v : Int32) : zg_L p (z_up I (z_sd k) j v) :=
  zg_L_fr h (congrFun (z_up_st I k j 2 v (by omega)) 2) (z_up_st I k j 3 v (by omega)) (z_up_st I k j 4 v (by omega)) (congrFun (z_up_st I k j 55 v (by omega)) 13) (z_up_st I k j 67 v (by omega)) (z_up_st I k j 68 v (by omega))
theorem zd_st (I : Nat → Nat → Int32) (k j : Nat) (v : Int32) : zd (z_up I (z_sd k) j v) = zd I := by
  unfold zd
  rw [z_up_st I k j 3 v (by omega)]
theorem zf_st (I : Nat → Nat → Int32) (k j : Nat) (v : Int32) : zf (z_up I (z_sd k) j v) = zf I := by
  unfold zf
  rw [z_up_st I k j 4 v (by omega)]
/-- what goes out, and the press, as ints -/
def zbo (p : Nat) (I : Nat → Nat → Int32) (k g r : Int) (w h : Int32) : Int32 := Int32.ofInt (zm_out (zd I) (zf I) p k (g + r / 1000) w.toInt h.toInt)
def zbp (p : Nat) (I : Nat → Nat → Int32) (w v h : Int32) : Int32 := Int32.ofInt (zm_pr (zd I) (zf I) p (w.toInt - v.toInt) h.toInt)
theorem zbo_r {p : Nat} {I : Nat → Nat → Int32} (hL : zg_L p I) {k g r : Int} {w h : Int32} (hk : 0 ≤ k) (hw : 1 ≤ w.toInt) : 1 ≤ (zbo p I k g r w h).toInt ∧ (zbo p I k g r w h).toInt ≤ w.toInt := by
  have a := zm_out_r hL.2.2.2.1 (k := k) (o := g + r / 1000) (w := w.toInt) (h := h.toInt) hk hw
  have b := y_hi w
  unfold zbo
  rw [y_oi (by omega) (by omega)]
  exact a
theorem zr_biteStrip (X : ZX) (d m ce sl : Nat) (I : Nat → Nat → Int32) (L : Nat → Nat → Int64) (t u r q : Nat) {p : Nat} (hL : zg_L p I) (k : Nat) (hkm : k < m) (h5 : m ≤ 5) (w h : Int32)
    (hw0 : 1 ≤ w.toInt) (hw1 : w.toInt ≤ 60000) (hh0 : 0 ≤ h.toInt) (hh1 : h.toInt ≤ 99) (ho0 : 0 ≤ (I (z_sd k) 8).toInt) (ho1 : (I (z_sd k) 8).toInt ≤ 100000) (hk0 : 0 ≤ (I (z_sd k) 0).toInt) (hk1 : (I (z_sd k) 0).toInt ≤ 999) (hr : 0 ≤ (I (z_sd k) 9).toInt) :
    z_pu (z_run X z_cf z_ff (d + 6)) 87 [.ref (z_sd k), .ref 2, .int w, .int h] (118, z_sd m, ce, sl, I, L, z_rr t u r q (z_gg m) (z_sf m)) = some (.inl none, (118, z_sd m, ce, sl, z_up (z_up (z_up (z_up I (z_sd k) 11 w) (z_sd k) 12 h) (z_sd k) 13 (zbo p I (I (z_sd k) 0).toInt (I (z_sd k) 8).toInt (I (z_sd k) 9).toInt w h)) (z_sd k) 14 (zbp p I w (zbo p I (I (z_sd k) 0).toInt (I (z_sd k) 8).toInt (I (z_sd k) 9).toInt w h) h), L, z_rr t u r q (z_gg m) (z_sf m))) := by
  refine z_en X (d + 3) _ _ [(0, .ref (z_sd k)), (1, .ref 2), (2, .int w), (3, .int h)] _ _ rfl rfl rfl ?_
  have hok : ∀ J, z_ok (118, z_sd m, ce, sl, J, L, z_rr t u r q (z_gg m) (z_sf m)) (z_sd k) 10 = true := fun J => z_okS (k := k) (m := m) hkm (by omega) 118 ce sl J L (z_rr t u r q (z_gg m) (z_sf m))
  have e8 : (z_up (z_up I (z_sd k) 11 w) (z_sd k) 12 h) (z_sd k) 8 = I (z_sd k) 8 := by rw [z_up_j _ _ _ _ _ (by omega), z_up_j _ _ _ _ _ (by omega)]
  have e9 : (z_up (z_up I (z_sd k) 11 w) (z_sd k) 12 h) (z_sd k) 9 = I (z_sd k) 9 := by rw [z_up_j _ _ _ _ _ (by omega), z_up_j _ _ _ _ _ (by omega)]
  have e0 : (z_up (z_up I (z_sd k) 11 w) (z_sd k) 12 h) (z_sd k) 0 = I (z_sd k) 0 := by rw [z_up_j _ _ _ _ _ (by omega), z_up_j _ _ _ _ _ (by omega)]
  obtain ⟨v1, v2⟩ := zbo_r hL (k := (I (z_sd k) 0).toInt) (g := (I (z_sd k) 8).toInt) (r := (I (z_sd k) 9).toInt) (w := w) (h := h) hk0 hw0
  obtain ⟨V, hV⟩ : ∃ V, V = zbo p I (I (z_sd k) 0).toInt (I (z_sd k) 8).toInt (I (z_sd k) 9).toInt w h := ⟨_, rfl⟩
  have eV : Int32.ofInt (zm_out (zd I) (zf I) p (I (z_sd k) 0).toInt ((I (z_sd k) 8).toInt + (I (z_sd k) 9).toInt / 1000) w.toInt h.toInt) = V := by rw [hV]; rfl
  rw [← hV] at v1 v2 ⊢
  have e13 : ∀ J : Nat → Nat → Int32, (z_up J (z_sd k) 13 V) (z_sd k) 13 = V := fun J => z_up_s _ _ _ _
  rw [zb_Stand_biteStrip_0]
  simp only [hok, z_gd_t]
  rw [zr_outFor X d _ _ _ _ _ _ _ _ _ _ _ (z_sd k) w h _ (zg_L_st (zg_L_st hL k 11 w) k 12 h) (hok _) hw0 hw1 hh0 hh1 (by rw [e8]; exact ho0) (by rw [e8]; exact ho1) (by rw [e0]; exact hk0) (by rw [e0]; exact hk1) (by rw [e9]; exact hr), z_bi_v, e8, e9, e0, zd_st, zd_st, zf_st, zf_st, eV,
    zb_Stand_biteStrip_22]
  simp only [hok, z_gd_t, e13]
  rw [ zr_pressFor X (d + 2) _ _ _ _ _ _ _ _ _ _ _ _ h (zg_L_st (zg_L_st (zg_L_st hL k 11 w) k 12 h) k 13 V) (by rw [y_sb (by omega) (by omega)]; omega) (by rw [y_sb (by omega) (by omega)]; omega) hh0 hh1, z_bi_v, zd_st, zd_st, zd_st, zf_st, zf_st, zf_st, y_sb (by omega) (by omega),
    zb_Stand_biteStrip_37]
  simp only [hok, z_gd_t]
  rfl
