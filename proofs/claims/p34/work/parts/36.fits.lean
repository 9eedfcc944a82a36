/-! FITS: the class's marks -/
abbrev zA (a : Nat → Int32) (j : Nat) : Nat := (a j).toInt.toNat
abbrev zwd (a : Nat → Int32) (n q : Nat) : Int64 := Int64.ofNat (zmw (zA a) n q)
theorem zA_lt {a : Nat → Int32} {n : Nat} (ha : ∀ j < n, 0 ≤ (a j).toInt ∧ (a j).toInt ≤ 99999) : ∀ j < n, zA a j < 131072 := fun j hj => by
  have := ha j hj
  show (a j).toInt.toNat < 131072
  omega
theorem zplc_a {a : Nat → Int32} {n i : Nat} (ha : ∀ j < n, 0 ≤ (a j).toInt ∧ (a j).toInt ≤ 99999) (hi : i < n) {u : UInt64} (hu : u.toNat = 17 * (i % 3)) : ((zwd a n (i / 3)).toUInt64 >>> u).toInt64.toInt32 &&& Int32.ofInt 131071 = a i := by
  rw [zplc_val _ (17 * (i % 3)) (zmw_lt (zA_lt ha) _) (by omega) u hu, zmw_at (zA_lt ha) hi]
  have := ha i hi
  rw [y_i_eq, y_on (by show (a i).toInt.toNat ≤ 2147483647; omega)]
  show ((a i).toInt.toNat : Int) = _
  omega
theorem zr_placeOf (X : ZX) (d : Nat) (w : ZW) (a : Nat → Int32) (n i : Nat) (hn : n ≤ 10) (ha : ∀ j < n, 0 ≤ (a j).toInt ∧ (a j).toInt ≤ 99999) (hi : i < n) : z_run X z_cf z_ff (d + 1) 45 [.int (Int32.ofInt (i : Int)), .long (zwd a n 0), .long (zwd a n 1), .long (zwd a n 2), .long (zwd a n 3)] w = zI w (a i) := by
  have n3 : ¬ (Int32.ofInt 3 : Int32) = 0 := by decide
  match i, hi with
  | 0, hi =>
    refine zM.run (B := 1) rfl rfl (lo := [(0, .int (Int32.ofInt 0)), (1, .long (zwd a n 0)), (3, .long (zwd a n 1)), (5, .long (zwd a n 2)), (7, .long (zwd a n 3))]) rfl (zM.fin (fun N => ((zb_X_placeOf_0 X _ N w (Int32.ofInt 0) (zwd a n 0) (zwd a n 1) (zwd a n 2) (zwd a n 3)).trans ((if_neg (by decide)).trans (if_neg n3))).trans ?_) (Nat.le_refl _)) (by decide)
    exact congrArg (fun v => zI w v) (zplc_a ha hi (by decide))
  | 1, hi =>
    refine zM.run (B := 1) rfl rfl (lo := [(0, .int (Int32.ofInt 1)), (1, .long (zwd a n 0)), (3, .long (zwd a n 1)), (5, .long (zwd a n 2)), (7, .long (zwd a n 3))]) rfl (zM.fin (fun N => ((zb_X_placeOf_0 X _ N w (Int32.ofInt 1) (zwd a n 0) (zwd a n 1) (zwd a n 2) (zwd a n 3)).trans ((if_neg (by decide)).trans (if_neg n3))).trans ?_) (Nat.le_refl _)) (by decide)
    exact congrArg (fun v => zI w v) (zplc_a ha hi (by decide))
  | 2, hi =>
    refine zM.run (B := 1) rfl rfl (lo := [(0, .int (Int32.ofInt 2)), (1, .long (zwd a n 0)), (3, .long (zwd a n 1)), (5, .long (zwd a n 2)), (7, .long (zwd a n 3))]) rfl (zM.fin (fun N => ((zb_X_placeOf_0 X _ N w (Int32.ofInt 2) (zwd a n 0) (zwd a n 1) (zwd a n 2) (zwd a n 3)).trans ((if_neg (by decide)).trans (if_neg n3))).trans ?_) (Nat.le_refl _)) (by decide)
    exact congrArg (fun v => zI w v) (zplc_a ha hi (by decide))
  | 3, hi =>
    refine zM.run (B := 1) rfl rfl (lo := [(0, .int (Int32.ofInt 3)), (1, .long (zwd a n 0)), (3, .long (zwd a n 1)), (5, .long (zwd a n 2)), (7, .long (zwd a n 3))]) rfl (zM.fin (fun N => ((zb_X_placeOf_0 X _ N w (Int32.ofInt 3) (zwd a n 0) (zwd a n 1) (zwd a n 2) (zwd a n 3)).trans ((if_pos (by decide)).trans ((if_neg (by decide)).trans (if_neg n3)))).trans ?_) (Nat.le_refl _)) (by decide)
    exact congrArg (fun v => zI w v) (zplc_a ha hi (by decide))
  | 4, hi =>
    refine zM.run (B := 1) rfl rfl (lo := [(0, .int (Int32.ofInt 4)), (1, .long (zwd a n 0)), (3, .long (zwd a n 1)), (5, .long (zwd a n 2)), (7, .long (zwd a n 3))]) rfl (zM.fin (fun N => ((zb_X_placeOf_0 X _ N w (Int32.ofInt 4) (zwd a n 0) (zwd a n 1) (zwd a n 2) (zwd a n 3)).trans ((if_pos (by decide)).trans ((if_neg (by decide)).trans (if_neg n3)))).trans ?_) (Nat.le_refl _)) (by decide)
    exact congrArg (fun v => zI w v) (zplc_a ha hi (by decide))
  | 5, hi =>
    refine zM.run (B := 1) rfl rfl (lo := [(0, .int (Int32.ofInt 5)), (1, .long (zwd a n 0)), (3, .long (zwd a n 1)), (5, .long (zwd a n 2)), (7, .long (zwd a n 3))]) rfl (zM.fin (fun N => ((zb_X_placeOf_0 X _ N w (Int32.ofInt 5) (zwd a n 0) (zwd a n 1) (zwd a n 2) (zwd a n 3)).trans ((if_pos (by decide)).trans ((if_neg (by decide)).trans (if_neg n3)))).trans ?_) (Nat.le_refl _)) (by decide)
    exact congrArg (fun v => zI w v) (zplc_a ha hi (by decide))
  | 6, hi =>
    refine zM.run (B := 1) rfl rfl (lo := [(0, .int (Int32.ofInt 6)), (1, .long (zwd a n 0)), (3, .long (zwd a n 1)), (5, .long (zwd a n 2)), (7, .long (zwd a n 3))]) rfl (zM.fin (fun N => ((zb_X_placeOf_0 X _ N w (Int32.ofInt 6) (zwd a n 0) (zwd a n 1) (zwd a n 2) (zwd a n 3)).trans ((if_pos (by decide)).trans ((if_pos (by decide)).trans ((if_neg (by decide)).trans (if_neg n3))))).trans ?_) (Nat.le_refl _)) (by decide)
    exact congrArg (fun v => zI w v) (zplc_a ha hi (by decide))
  | 7, hi =>
    refine zM.run (B := 1) rfl rfl (lo := [(0, .int (Int32.ofInt 7)), (1, .long (zwd a n 0)), (3, .long (zwd a n 1)), (5, .long (zwd a n 2)), (7, .long (zwd a n 3))]) rfl (zM.fin (fun N => ((zb_X_placeOf_0 X _ N w (Int32.ofInt 7) (zwd a n 0) (zwd a n 1) (zwd a n 2) (zwd a n 3)).trans ((if_pos (by decide)).trans ((if_pos (by decide)).trans ((if_neg (by decide)).trans (if_neg n3))))).trans ?_) (Nat.le_refl _)) (by decide)
    exact congrArg (fun v => zI w v) (zplc_a ha hi (by decide))
  | 8, hi =>
    refine zM.run (B := 1) rfl rfl (lo := [(0, .int (Int32.ofInt 8)), (1, .long (zwd a n 0)), (3, .long (zwd a n 1)), (5, .long (zwd a n 2)), (7, .long (zwd a n 3))]) rfl (zM.fin (fun N => ((zb_X_placeOf_0 X _ N w (Int32.ofInt 8) (zwd a n 0) (zwd a n 1) (zwd a n 2) (zwd a n 3)).trans ((if_pos (by decide)).trans ((if_pos (by decide)).trans ((if_neg (by decide)).trans (if_neg n3))))).trans ?_) (Nat.le_refl _)) (by decide)
    exact congrArg (fun v => zI w v) (zplc_a ha hi (by decide))
  | 9, hi =>
    refine zM.run (B := 1) rfl rfl (lo := [(0, .int (Int32.ofInt 9)), (1, .long (zwd a n 0)), (3, .long (zwd a n 1)), (5, .long (zwd a n 2)), (7, .long (zwd a n 3))]) rfl (zM.fin (fun N => ((zb_X_placeOf_0 X _ N w (Int32.ofInt 9) (zwd a n 0) (zwd a n 1) (zwd a n 2) (zwd a n 3)).trans ((if_pos (by decide)).trans ((if_pos (by decide)).trans ((if_pos (by decide)).trans (if_neg n3))))).trans ?_) (Nat.le_refl _)) (by decide)
    exact congrArg (fun v => zI w v) (zplc_a ha hi (by decide))
  | i + 10, hi => omega
def zAll (a : Nat → Int32) (n : Nat) (T y e : Int) : Prop := ∀ j, 1 ≤ j → j < n → zNear (((a j).toInt - (a 0).toInt) * y) T (e * y)
theorem z_rise {a : Nat → Int32} {n : Nat} (h : ∀ j, j + 1 < n → (a j).toInt < (a (j + 1)).toInt) : ∀ j, j < n → (a 0).toInt ≤ (a j).toInt := by
  intro j
  induction j with
  | zero => intro _; exact Int.le_refl _
  | succ j ih =>
    intro hj
    have h1 := ih (by omega)
    have h2 := h j hj
    omega
abbrev zlF (n : Nat) (a : Nat → Int32) (e x y : Int32) (r : ZL) : ZL := (2, .int (Int32.ofInt (n : Int))) :: (3, .long (zwd a n 0)) :: (5, .long (zwd a n 1)) :: (7, .long (zwd a n 2)) :: (9, .long (zwd a n 3)) :: (11, .int e) :: (12, .int x) :: (13, .int y) :: (14, .ref 55) :: r
theorem zr_fits2 (X : ZX) (d ce sl : Nat) (I : Nat → Nat → Int32) (L : Nat → Nat → Int64) (a : Nat → Int32) (n : Nat) (hn : 2 ≤ n ∧ n ≤ 10) (ha : ∀ j < n, 0 ≤ (a j).toInt ∧ (a j).toInt ≤ 99999) (hr : ∀ j, j + 1 < n → (a j).toInt < (a (j + 1)).toInt) (e x y : Int32) (hT : 100 ≤ (I 55 6).toInt ∧ (I 55 6).toInt ≤ 400) (he : 0 ≤ e.toInt ∧ e.toInt ≤ 12) (hx : 1 ≤ x.toInt ∧ x.toInt ≤ 50) (hy : 1 ≤ y.toInt ∧ y.toInt ≤ 50) : ∀ (m i : Nat), i + m = n → 1 ≤ i → (∀ j, 1 ≤ j → j < i → zNear (((a j).toInt - (a 0).toInt) * y.toInt) ((I 55 6).toInt * x.toInt) (e.toInt * y.toInt)) →
    ∃ v, zM X (d + 1) 42 (3 * m + 1) 120 (zlF n a e x y [(16, .int (a 0)), (17, .int (Int32.ofInt (i : Int)))]) [] (0, 59, ce, sl, I, L, zeR1) (zI (0, 59, ce, sl, I, L, zeR1) v) ∧ ((v = Int32.ofInt 1 ∧ zAll a n ((I 55 6).toInt * x.toInt) y.toInt e.toInt) ∨ (v = Int32.ofInt 0 ∧ ¬ zAll a n ((I 55 6).toInt * x.toInt) y.toInt e.toInt)) := by
  have t0 : 100 * 1 ≤ (I 55 6).toInt * x.toInt := Int.le_trans (Int.mul_le_mul_of_nonneg_right hT.1 (by omega)) (Int.mul_le_mul_of_nonneg_left hx.1 (by omega))
  have t1 : (I 55 6).toInt * x.toInt ≤ 400 * 50 := Int.le_trans (Int.mul_le_mul_of_nonneg_right hT.2 (by omega)) (Int.mul_le_mul_of_nonneg_left hx.2 (by omega))
  have eT : ((I 55 6).toInt64 * x.toInt64).toInt = (I 55 6).toInt * x.toInt := by rw [y_mu8 (by rw [y_il, y_il]; omega) (by rw [y_il, y_il]; omega), y_il, y_il]
  intro m
  induction m with
  | zero =>
    intro i hi hi1 hO
    have : i = n := by omega
    subst this
    refine ⟨Int32.ofInt 1, zM.fin (fun N => ((zb_fX_fits_120 X _ N ce sl I L _ _ _ _ _ _ _ _ _ _).trans (if_pos (by rw [y_i_le]; omega))).trans (z_gd_of z_b1_1 _)) (by omega), Or.inl ⟨rfl, hO⟩⟩
  | succ m ih =>
    intro i hi hi1 hO
    have hin : i < n := by omega
    have hai := ha i hin
    have ha0 := ha 0 (by omega)
    have hri := z_rise hr i hin
    have eD : (a i - a 0).toInt = (a i).toInt - (a 0).toInt := y_sb (by omega) (by omega)
    obtain ⟨r, hq, hc⟩ := zr_whole X d (0, 59, ce, sl, I, L, zeR1) (a i - a 0) y e ((I 55 6).toInt64 * x.toInt64) (by rw [eD]; omega) hy he (by rw [eT]; omega)
    rw [eD, eT] at hc
    have hs : ¬ Int32.ofInt (n : Int) ≤ Int32.ofInt (i : Int) := by
      rw [y_i_le, y_ofn (by omega), y_ofn (by omega)]; omega
    rcases hc with ⟨h0, hnn⟩ | ⟨h1, hyn⟩
    · refine ⟨Int32.ofInt 0, ?_, Or.inr ⟨rfl, fun hA => hnn (hA i hi1 hin)⟩⟩
      refine zM.step (fun N => ((zb_fX_fits_120 X _ N ce sl I L _ _ _ _ _ _ _ _ _ _).trans (if_neg hs)).trans (z_bi_of (zr_placeOf X d _ a n i hn.2 ha hin))) (B' := 3 * m + 3) (by omega) ?_
      refine zM.step (fun N => (zb_fX_fits_138 X _ N ce sl I L _ _ _ _ _ _ _ _ _ _ _).trans (z_bi_of hq)) (B' := 3 * m + 2) (by omega) ?_
      exact zM.fin (fun N => ((zb_fX_fits_158 X _ N ce sl I L _ _ _ _ _ _ _ _ _ _ _).trans (if_pos h0)).trans (z_gd_of z_b1_0 _)) (by omega)
    · obtain ⟨v, g, hv⟩ := ih (i + 1) (by omega) (by omega) (fun j hj1 hj2 => by
        by_cases hji : j = i
        · rw [hji]; exact hyn
        · exact hO j hj1 (by omega))
      refine ⟨v, ?_, hv⟩
      refine zM.step (fun N => ((zb_fX_fits_120 X _ N ce sl I L _ _ _ _ _ _ _ _ _ _).trans (if_neg hs)).trans (z_bi_of (zr_placeOf X d _ a n i hn.2 ha hin))) (B' := 3 * m + 3) (by omega) ?_
      refine zM.step (fun N => (zb_fX_fits_138 X _ N ce sl I L _ _ _ _ _ _ _ _ _ _ _).trans (z_bi_of hq)) (B' := 3 * m + 2) (by omega) ?_
      refine zM.step (fun N => (zb_fX_fits_158 X _ N ce sl I L _ _ _ _ _ _ _ _ _ _ _).trans (if_neg h1)) (B' := 3 * m + 1) (by omega) ?_
      rw [y_ofs (by omega)]
      exact g
theorem zr_fits1 (X : ZX) (d ce sl : Nat) (I : Nat → Nat → Int32) (L : Nat → Nat → Int64) (a : Nat → Int32) (n : Nat) (hn : 2 ≤ n ∧ n ≤ 10) (ha : ∀ j < n, 0 ≤ (a j).toInt ∧ (a j).toInt ≤ 99999) (hr : ∀ j, j + 1 < n → (a j).toInt < (a (j + 1)).toInt) (e x y : Int32) {r : ZR} {B : Nat} (g : zM X (d + 1) 42 B 120 (zlF n a e x y [(16, .int (a 0)), (17, .int (Int32.ofInt 1))]) [] (0, 59, ce, sl, I, L, zeR1) r) : ∀ (m i : Nat) (h : Int32), i + m = n → -1 ≤ h.toInt → h.toInt ≤ 99999 → (i < n → h.toInt < (a i).toInt) →
    zM X (d + 1) 42 (3 * m + B + 2) 52 (zlF n a e x y [(15, .int h), (16, .int (Int32.ofInt (i : Int)))]) [] (0, 59, ce, sl, I, L, zeR1) r := by
  intro m
  induction m with
  | zero =>
    intro i h hi h1 h2 h3
    have : i = n := by omega
    subst this
    refine zM.step (fun N => ((zb_fX_fits_52 X _ N ce sl I L _ _ _ _ _ _ _ _ _ _).trans (if_pos (by rw [y_i_le]; omega))).trans (z_bi_of (zr_placeOf X d _ a i 0 hn.2 ha (by omega)))) (B' := B + 1) (by omega) ?_
    exact zM.step (fun N => zb_fX_fits_115 X _ N ce sl I L _ _ _ _ _ _ _ _ _) (B' := B) (by omega) g
  | succ m ih =>
    intro i h hi h1 h2 h3
    have hin : i < n := by omega
    have hai := ha i hin
    have h3 := h3 hin
    have hs : ¬ Int32.ofInt (n : Int) ≤ Int32.ofInt (i : Int) := by
      rw [y_i_le, y_ofn (by omega), y_ofn (by omega)]; omega
    have eh : (h + Int32.ofInt 1).toInt = h.toInt + 1 := by
      rw [y_ad (by rw [y_1]; omega) (by rw [y_1]; omega), y_1]
    refine zM.step (fun N => ((zb_fX_fits_52 X _ N ce sl I L _ _ _ _ _ _ _ _ _ _).trans (if_neg hs)).trans (z_bi_of (zr_placeOf X d _ a n i hn.2 ha hin))) (B' := 3 * m + B + 4) (by omega) ?_
    refine zM.step (fun N => (zb_fX_fits_70 X _ N ce sl I L _ _ _ _ _ _ _ _ _ _ _).trans (z_bi_of (zr_within X d _ (a i) _ _ (by rw [eh]; omega) (by rw [show (Int32.ofInt 99999).toInt = 99999 from rfl]; omega)))) (B' := 3 * m + B + 3) (by omega) ?_
    refine zM.step (fun N => (zb_fX_fits_83 X _ N ce sl I L _ _ _ _ _ _ _ _ _ _ _).trans (if_neg (by decide))) (B' := 3 * m + B + 2) (by omega) ?_
    rw [y_ofs (by omega)]
    exact ih (i + 1) (a i) (by omega) (by omega) (by omega) (fun hq => hr i hq)
theorem zr_fits (X : ZX) (d ce sl : Nat) (I : Nat → Nat → Int32) (L : Nat → Nat → Int64) (a : Nat → Int32) (n : Nat) (hn : 2 ≤ n ∧ n ≤ 10) (ha : ∀ j < n, 0 ≤ (a j).toInt ∧ (a j).toInt ≤ 99999) (hr : ∀ j, j + 1 < n → (a j).toInt < (a (j + 1)).toInt) (e x y : Int32) (h52 : I 5 2 = Int32.ofInt 1) (hT : 100 ≤ (I 55 6).toInt ∧ (I 55 6).toInt ≤ 400) (he : 0 ≤ e.toInt ∧ e.toInt ≤ 12) (hx : 1 ≤ x.toInt ∧ x.toInt ≤ 50) (hy : 1 ≤ y.toInt ∧ y.toInt ≤ 50) :
    ∃ v, z_run X z_cf z_ff (d + 6) 42 [.ref 0, .int (Int32.ofInt 0), .int (Int32.ofInt (n : Int)), .long (zwd a n 0), .long (zwd a n 1), .long (zwd a n 2), .long (zwd a n 3), .int e, .int x, .int y] (0, 59, ce, sl, I, L, zeR1) = zI (0, 59, ce, sl, I, L, zeR1) v ∧ ((v = Int32.ofInt 1 ∧ zAll a n ((I 55 6).toInt * x.toInt) y.toInt e.toInt) ∨ (v = Int32.ofInt 0 ∧ ¬ zAll a n ((I 55 6).toInt * x.toInt) y.toInt e.toInt)) := by
  have hn1 : ¬ (Int32.ofInt 1 : Int32) = 0 := by decide
  obtain ⟨v, g, hv⟩ := zr_fits2 X (d + 4) ce sl I L a n hn ha hr e x y hT he hx hy (n - 1) 1 (by omega) (by omega) (fun j h1 h2 => by omega)
  have g1 := zr_fits1 X (d + 4) ce sl I L a n hn ha hr e x y g n 0 (Int32.ofInt (-1)) (by omega) (by decide) (by decide) (fun h => by have := ha 0 h; rw [show (Int32.ofInt (-1)).toInt = -1 from rfl]; omega)
  refine ⟨v, zM.run (B := 100) rfl rfl (lo := [(0, .ref 0), (1, .int (Int32.ofInt 0)), (2, .int (Int32.ofInt (n : Int))), (3, .long (zwd a n 0)), (5, .long (zwd a n 1)), (7, .long (zwd a n 2)), (9, .long (zwd a n 3)), (11, .int e), (12, .int x), (13, .int y)]) rfl ?_ (by decide), hv⟩
  refine zM.step (fun N => (zb_fX_fits_0 X _ N ce sl I L _ _ _ _ _ _ _ _ _).trans (z_br_of (zr_fstandAt X d ce sl I L h52))) (B' := 99) (by omega) ?_
  refine zM.step (fun N => (zb_fX_fits_5 X _ N ce sl I L _ _ _ _ _ _ _ _).trans (z_bi_of (zr_within X (d + 4) _ _ _ _ (by rw [y_ofn (by omega), show (Int32.ofInt 2).toInt = 2 from rfl]; omega) (by rw [y_ofn (by omega), show (Int32.ofInt 10).toInt = 10 from rfl]; omega)))) (B' := 98) (by omega) ?_
  refine zM.step (fun N => (((zb_fX_fits_14 X _ N ce sl I L _ _ _ _ _ _ _ _ _).trans (if_neg hn1)).trans (if_neg (by rw [y_i_lt, y_i0]; omega))).trans (z_bi_of (zr_isThickness X (d + 3) _ x hx.1 (by omega)))) (B' := 97) (by omega) ?_
  refine zM.step (fun N => ((zb_fX_fits_27 X _ N ce sl I L _ _ _ _ _ _ _ _ _).trans (if_neg hn1)).trans (z_bi_of (zr_isThickness X (d + 3) _ y hy.1 (by omega)))) (B' := 96) (by omega) ?_
  exact zM.step (fun N => (zb_fX_fits_35 X _ N ce sl I L _ _ _ _ _ _ _ _ _).trans (if_neg hn1)) (B' := 3 * n + (3 * (n - 1) + 1) + 2) (by omega) g1
