/-! CALLS, 16: run -/
/-- water behind the first n stands -/
def zhs (I : Nat → Nat → Int32) : Nat → Int
  | 0 => 0
  | n + 1 => zhs I n + (I (z_sd n) 7).toInt
theorem zhs_r {I : Nat → Nat → Int32} {m : Nat} (hb : ∀ k < m, 0 ≤ (I (z_sd k) 7).toInt ∧ (I (z_sd k) 7).toInt ≤ 9) : ∀ n, n ≤ m → 0 ≤ zhs I n ∧ zhs I n ≤ 9 * n := by
  intro n
  induction n with
  | zero =>
    intro _
    exact ⟨Int.le_refl _, Int.le_refl _⟩
  | succ n ih =>
    intro h
    have a := ih (by omega)
    have b := hb n (by omega)
    show 0 ≤ zhs I n + (I (z_sd n) 7).toInt ∧ zhs I n + (I (z_sd n) 7).toInt ≤ 9 * ((n + 1 : Nat) : Int)
    omega
theorem zhs_fr {I J : Nat → Nat → Int32} {m : Nat} (hb : ∀ k < m, J (z_sd k) 7 = I (z_sd k) 7) : ∀ n, n ≤ m → zhs J n = zhs I n := by
  intro n
  induction n with
  | zero =>
    intro _
    rfl
  | succ n ih =>
    intro h
    show zhs J n + _ = zhs I n + _
    rw [ih (by omega), hb n (by omega)]
theorem y_mni (a b : Int32) : (z_mni a b).toInt = min a.toInt b.toInt := by
  unfold z_mni
  split
  · rename_i h
    rw [y_i_lt] at h
    omega
  · rename_i h
    rw [y_i_lt] at h
    omega
theorem y_mxi (a b : Int32) : (z_mxi a b).toInt = max a.toInt b.toInt := by
  unfold z_mxi
  split
  · rename_i h
    rw [y_i_lt] at h
    omega
  · rename_i h
    rw [y_i_lt] at h
    omega
/-- how hard a strip is that h units hard went in and that n stands have bitten -/
def zhw (I : Nat → Nat → Int32) (h : Int32) (n : Nat) : Int := min 99 (h.toInt + zhs I n)
theorem zr_hardAt_loop (X : ZX) (d m ce sl : Nat) (I : Nat → Nat → Int32) (L : Nat → Nat → Int64) (t u r q : Nat) (h5 : m ≤ 5) (hs : I 5 2 = Int32.ofNat m) (hb : ∀ k < m, 0 ≤ (I (z_sd k) 7).toInt ∧ (I (z_sd k) 7).toInt ≤ 9)
    (h x1 : Int32) (hh0 : 0 ≤ h.toInt) (hh1 : h.toInt ≤ 99) (s : Nat) (hx : x1.toInt = s) (hsm : s ≤ m) (j : Nat) : ∀ (M i : Nat) (x3 x4 : Int32), i + j = s → x4.toInt = i → x3.toInt = h.toInt + zhs I i →
    z_loop X z_cf z_ff (z_pu (z_run X z_cf z_ff (d + 5))) 86 (M + 3 * j + 3) 5 [(0, .ref 1), (1, .int x1), (3, .int x3), (4, .int x4)] [] (118, z_sd m, ce, sl, I, L, z_rr t u r q (z_gg m) (z_sf m)) = some (.inl (some (.int (Int32.ofInt (zhw I h s)))), (118, z_sd m, ce, sl, I, L, z_rr t u r q (z_gg m) (z_sf m))) := by
  have hs' : (I 5 2).toInt = m := by rw [hs, y_on (by omega)]
  induction j with
  | zero =>
    intro M i x3 x4 h1 h2 h3
    have e : i = s := by omega
    subst e
    have e2 : z_mni (Int32.ofInt 99) x3 = Int32.ofInt (zhw I h i) := by
      apply y_eqi
      rw [y_mni, y_oi (by omega) (by omega), h3]
      rfl
    rw [zt_Line_hardnessAt_5, if_pos (by rw [y_i_le]; omega), e2]
  | succ j ih =>
    intro M i x3 x4 h1 h2 h3
    have a := zhs_r hb i (by omega)
    have b := hb i (by omega)
    have c : x4.toNatClampNeg = i := by rw [y_tn, h2]; rfl
    have hok := z_okS (k := i) (m := m) (by omega) (by omega) 118 ce sl I L (z_rr t u r q (z_gg m) (z_sf m))
    rw [show M + 3 * (j + 1) + 3 = (M + 3 * j + 3) + 3 by omega, zt_Line_hardnessAt_5, if_neg (by rw [y_i_le]; omega), if_neg (by rw [y_i_le]; omega), y_ix_T (by omega) (by omega) h5 hs, z_gd_t, c, hok, z_gd_t, z_gd_t]
    exact ih M (i + 1) _ _ (by omega) (by rw [y_adl (by omega) (by omega) (by omega) (by omega)]; omega) (by rw [y_ad (by omega) (by omega)]; show _ = h.toInt + (zhs I i + _); omega)
theorem zr_hardAt (X : ZX) (d m ce sl : Nat) (I : Nat → Nat → Int32) (L : Nat → Nat → Int64) (t u r q : Nat) (h5 : m ≤ 5) (hs : I 5 2 = Int32.ofNat m) (hb : ∀ k < m, 0 ≤ (I (z_sd k) 7).toInt ∧ (I (z_sd k) 7).toInt ≤ 9)
    (h x1 : Int32) (hh0 : 0 ≤ h.toInt) (hh1 : h.toInt ≤ 99) (s : Nat) (hx : x1.toInt = s) (hsm : s ≤ m) :
    z_pu (z_run X z_cf z_ff (d + 6)) 86 [.ref 1, .int x1, .int h] (118, z_sd m, ce, sl, I, L, z_rr t u r q (z_gg m) (z_sf m)) = some (.inl (some (.int (Int32.ofInt (zhw I h s)))), (118, z_sd m, ce, sl, I, L, z_rr t u r q (z_gg m) (z_sf m))) := by
  refine z_en X (d + 3) _ _ [(0, .ref 1), (1, .int x1), (2, .int h)] _ _ rfl rfl rfl ?_
  rw [zb_Line_hardnessAt_0, show (99999999 : Nat) = (99999999 - 3 * s - 3) + 3 * s + 3 by omega]
  exact zr_hardAt_loop X d m ce sl I L t u r q h5 hs hb h x1 hh0 hh1 s hx hsm s (99999999 - 3 * s - 3) 0 h (Int32.ofInt 0) (by omega) rfl (by show _ = h.toInt + 0; omega)
