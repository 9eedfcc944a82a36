/-! CALLS, 11: waves -/
theorem y_d10 {x : Int32} (h1 : -4000 ≤ x.toInt) (h2 : x.toInt ≤ 4000) : -400 ≤ (x / Int32.ofInt 10).toInt ∧ (x / Int32.ofInt 10).toInt ≤ 400 := by
  have e : (Int32.ofInt 10).toInt = 10 := rfl
  rw [Int32.toInt_div, e]
  by_cases h : 0 ≤ x.toInt
  · rw [Int.tdiv_eq_ediv_of_nonneg h, y_bm _ (by omega) (by omega)]
    omega
  · have e2 : x.toInt.tdiv 10 = -((-x.toInt) / 10) := by
      have := Int.neg_tdiv (-x.toInt) 10
      rw [Int.neg_neg] at this
      rw [this, Int.tdiv_eq_ediv_of_nonneg (by omega)]
    rw [e2, y_bm _ (by omega) (by omega)]
    omega
def zmo (b : Int32) (i : Nat) : Int32 := if i = 2 then Int32.ofInt 0 else if i = 0 ∨ i = 4 then (Int32.ofInt 4 * b) / Int32.ofInt 10 else b / Int32.ofInt 10
theorem y_10z : ¬ (Int32.ofInt 10 : Int32) = 0 := by decide
theorem zmo_r {b : Int32} (h1 : -999 ≤ b.toInt) (h2 : b.toInt ≤ 999) (i : Nat) : -400 ≤ (zmo b i).toInt ∧ (zmo b i).toInt ≤ 400 := by
  unfold zmo
  split
  · decide
  · split
    · have e : (Int32.ofInt 4 * b).toInt = 4 * b.toInt := y_lmu (by omega) (by omega) (by omega) (by omega)
      exact y_d10 (by omega) (by omega)
    · exact y_d10 (by omega) (by omega)
theorem zmo_c (b : Int32) {i : Nat} (hi : i < 5) : (z_bend i * b) / Int32.ofInt 10 = zmo b i := by
  have h1 : Int32.ofInt 1 * b = b := by
    rw [y_i_eq, Int32.toInt_mul]
    have := y_lo b
    have := y_hi b
    rw [y_oi1, Int.one_mul, y_bm _ (by omega) (by omega)]
  have h0 : Int32.ofInt 0 * b = Int32.ofInt 0 := by
    rw [y_i_eq, Int32.toInt_mul, y_oi0, Int.zero_mul]
    rfl
  have hc : i = 0 ∨ i = 1 ∨ i = 2 ∨ i = 3 ∨ i = 4 := by omega
  rcases hc with h | h | h | h | h
  · subst h
    rfl
  · subst h
    show (Int32.ofInt 1 * b) / Int32.ofInt 10 = b / Int32.ofInt 10
    rw [h1]
  · subst h
    show (Int32.ofInt 0 * b) / Int32.ofInt 10 = Int32.ofInt 0
    rw [h0]
    decide
  · subst h
    show (Int32.ofInt 1 * b) / Int32.ofInt 10 = b / Int32.ofInt 10
    rw [h1]
  · subst h
    rfl
/-- what goes out of a slice: of thickness w, with the gap g and the wear r -/
def zwv (I : Nat → Nat → Int32) (p : Nat) (k r h : Int32) (g b w : Int32) (i : Nat) : Int32 := Int32.ofInt (zm_out (zd I) (zf I) p k.toInt (max 0 (g.toInt + (zmo b i).toInt) + r.toInt / 1000) w.toInt h.toInt)
theorem zr_wvC (X : ZX) (d n0 ce sl : Nat) (I0 : Nat → Nat → Int32) (L : Nat → Nat → Int64) (t u r q g : Nat) (st : Nat → Option Nat) (s : Nat) (hs : 118 ≤ s) (h b n : Int32) {p : Nat} (hL : zg_L p I0) (hok : ∀ J, z_ok (118, n0, ce, sl, J, L, z_rr t u r q g st) s 10 = true) (hh0 : 0 ≤ h.toInt) (hh1 : h.toInt ≤ 99) (hb0 : -999 ≤ b.toInt) (hb1 : b.toInt ≤ 999)
    (hw : ∀ j, j < 5 → 1 ≤ (I0 39 j).toInt ∧ (I0 39 j).toInt ≤ 60000) (hg0 : 0 ≤ (I0 s 8).toInt) (hg1 : (I0 s 8).toInt ≤ 60000) (hk0 : 0 ≤ (I0 s 0).toInt) (hk1 : (I0 s 0).toInt ≤ 999) (hr : 0 ≤ (I0 s 9).toInt) (c : Nat) : ∀ (I : Nat → Nat → Int32) (i M : Nat), i + c = 5 → (∀ a, a ≠ 40 → I a = I0 a) →
    ∃ J : Nat → Nat → Int32, (∀ a, a ≠ 40 → J a = I0 a) ∧ (∀ j, j < 5 → J 40 j = if j < i then I 40 j else zwv I0 p (I0 s 0) (I0 s 9) h (I0 s 8) b (I0 39 j) j) ∧
      z_loop X z_cf z_ff (z_pu (z_run X z_cf z_ff (d + 5))) 155 (M + 2 * c) 100 [(0, .ref 0), (7, .int h), (8, .int b), (9, .int n), (10, .ref s), (11, .int (Int32.ofNat i))] [] (118, n0, ce, sl, I, L, z_rr t u r q g st) = z_loop X z_cf z_ff (z_pu (z_run X z_cf z_ff (d + 5))) 155 M 100 [(0, .ref 0), (7, .int h), (8, .int b), (9, .int n), (10, .ref s), (11, .int (Int32.ofNat 5))] [] (118, n0, ce, sl, J, L, z_rr t u r q g st) := by
  induction c with
  | zero =>
    intro I i M h1 h2
    have hi : i = 5 := by omega
    subst hi
    exact ⟨I, h2, fun j hj => by rw [if_pos hj], rfl⟩
  | succ c ih =>
    intro I i M h1 h2
    have hzd : zd I = zd I0 := by
      funext k
      show (I 3 k).toInt = (I0 3 k).toInt
      rw [h2 3 (by omega)]
    have hzf : zf I = zf I0 := by
      funext k
      show (I 4 k).toInt = (I0 4 k).toInt
      rw [h2 4 (by omega)]
    have hL2 : zg_L p I := zg_L_fr hL (by rw [h2 2 (by omega)]) (h2 3 (by omega)) (h2 4 (by omega)) (by rw [h2 55 (by omega)]) (h2 67 (by omega)) (h2 68 (by omega))
    have hmo := zmo_r hb0 hb1 i
    have hwi := hw i (by omega)
    have e1 : (I0 s 8 + zmo b i).toInt = (I0 s 8).toInt + (zmo b i).toInt := y_ad (by omega) (by omega)
    have e2 : (z_mxi (Int32.ofInt 0) (I0 s 8 + zmo b i)).toInt = max 0 ((I0 s 8).toInt + (zmo b i).toInt) := by
      unfold z_mxi
      split
      · rename_i g1
        rw [y_i_lt, e1, y_oi0] at g1
        rw [e1]
        omega
      · rename_i g1
        rw [y_i_lt, e1, y_oi0] at g1
        rw [y_oi0]
        omega
    obtain ⟨J, g1, g2, g3⟩ := ih (z_up I 40 i (zwv I0 p (I0 s 0) (I0 s 9) h (I0 s 8) b (I0 39 i) i)) (i + 1) M (by omega) (fun a ha => by rw [z_up_r _ _ _ _ _ ha, h2 a ha])
    refine ⟨J, g1, ?_, ?_⟩
    · intro j hj
      rw [g2 j hj, y_at]
      by_cases h3 : j < i
      · rw [if_pos (by omega), if_neg (by omega), if_pos h3]
      · rw [if_neg h3]
        by_cases h4 : j = i
        · rw [if_pos (by omega), if_pos h4, h4]
        · rw [if_neg (by omega)]
    · have hIs : I s = I0 s := h2 s (by omega)
      rw [show M + 2 * (c + 1) = M + 2 * c + 1 + 1 by omega, zb_X_waves_100, if_neg (by rw [y_i_le, y_on (by omega), y_oi (by omega) (by omega)]; omega), hok, z_gd_t, z_in_n (show i < 5 by omega) (by omega), z_gd_t, if_neg y_10z, z_gd_t, z_gd_t, z_onn (by omega), zmo_c b (by omega), hIs, h2 39 (by omega), zr_outFor X d n0 ce sl I L t u r q g st s (I0 39 i) h (z_mxi (Int32.ofInt 0) (I0 s 8 + zmo b i)) hL2 (hok I) hwi.1 hwi.2 hh0 hh1 (by rw [e2]; omega) (by rw [e2]; omega) (by rw [hIs]; exact hk0) (by rw [hIs]; exact hk1) (by rw [hIs]; exact hr), z_bi_v, zb_X_waves_159, z_in_n (show i < 5 by omega) (by omega), z_gd_t, z_onn (by omega), z_ofa (by omega), e2, hzd, hzf, hIs]
      exact g3
def zsm (F : Nat → Int32) : Nat → Nat → Int
  | 0, _ => 0
  | n + 1, i => (F i).toInt + zsm F n (i + 1)
/-- the bits of the slices that wave -/
def zbt (f : Nat → Bool) : Nat → Nat → Int32 → Int32
  | 0, _, v => v
  | n + 1, i, v => zbt f n (i + 1) (if f i = true then v ||| (Int32.ofInt 1 <<< (Int32.ofNat i &&& 31)) else v)
def zwb (F G : Nat → Int32) (a b n : Int) (i : Nat) : Bool := decide ((1000 + n) * a * (G i).toInt < (F i).toInt * b * 1000)
theorem zr_wbS (X : ZX) (call : ZC) (n0 ce sl : Nat) (I : Nat → Nat → Int32) (L : Nat → Nat → Int64) (t u r q g : Nat) (st : Nat → Option Nat) (n : Int32) (h39 : ∀ j, j < 5 → 0 ≤ (I 39 j).toInt ∧ (I 39 j).toInt ≤ 60000) (h40 : ∀ j, j < 5 → 0 ≤ (I 40 j).toInt ∧ (I 40 j).toInt ≤ 60000) (c : Nat) : ∀ (i M : Nat) (a b : Int64), i + c = 5 → 0 ≤ a.toInt → a.toInt ≤ 60000 * i → 0 ≤ b.toInt → b.toInt ≤ 60000 * i →
    ∃ a' b' : Int64, a'.toInt = a.toInt + zsm (I 39) c i ∧ b'.toInt = b.toInt + zsm (I 40) c i ∧ 0 ≤ a'.toInt ∧ a'.toInt ≤ 300000 ∧ 0 ≤ b'.toInt ∧ b'.toInt ≤ 300000 ∧ z_loop X z_cf z_ff (z_pu call) 157 (M + c + 1) 8 [(0, .ref 0), (1, .int n), (2, .long a), (4, .long b), (6, .int (Int32.ofNat i))] [] (118, n0, ce, sl, I, L, z_rr t u r q g st) = z_loop X z_cf z_ff (z_pu call) 157 M 50 [(0, .ref 0), (1, .int n), (2, .long a'), (4, .long b'), (6, .int (Int32.ofInt 0)), (7, .int (Int32.ofInt 0))] [] (118, n0, ce, sl, I, L, z_rr t u r q g st) := by
  induction c with
  | zero =>
    intro i M a b h1 h2 h3 h4 h5
    refine ⟨a, b, by unfold zsm; omega, by unfold zsm; omega, h2, by omega, h4, by omega, ?_⟩
    rw [zb_X_waveBits_8, if_pos (by rw [y_i_le, y_on (by omega), y_oi (by omega) (by omega)]; omega)]
  | succ c ih =>
    intro i M a b h1 h2 h3 h4 h5
    have f1 := h39 i (by omega)
    have f2 := h40 i (by omega)
    have e1 : (a + (I 39 i).toInt64).toInt = a.toInt + (I 39 i).toInt := by rw [y_ad8 (by rw [y_il]; omega) (by rw [y_il]; omega), y_il]
    have e2 : (b + (I 40 i).toInt64).toInt = b.toInt + (I 40 i).toInt := by rw [y_ad8 (by rw [y_il]; omega) (by rw [y_il]; omega), y_il]
    obtain ⟨a', b', g1, g2, g3, g4, g5, g6, g7⟩ := ih (i + 1) M (a + (I 39 i).toInt64) (b + (I 40 i).toInt64) (by omega) (by omega) (by omega) (by omega) (by omega)
    refine ⟨a', b', by unfold zsm; omega, by unfold zsm; omega, g3, g4, g5, g6, ?_⟩
    rw [show M + (c + 1) + 1 = M + c + 1 + 1 by omega, zb_X_waveBits_8, if_neg (by rw [y_i_le, y_on (by omega), y_oi (by omega) (by omega)]; omega), z_in_n (by omega) (by omega), z_gd_t, z_gd_t, z_onn (by omega), z_ofa (by omega), g7]
theorem z_prod {x b : Int64} {X B : Int} (h1 : x.toInt = X) (h2 : b.toInt = B) (x0 : 0 ≤ X) (x1 : X ≤ 60000) (b0 : 0 ≤ B) (b1 : B ≤ 300000) : (x * b).toInt = X * B ∧ 0 ≤ X * B ∧ X * B ≤ 18000000000 := by
  have e1 : 0 ≤ X * B := Int.mul_nonneg x0 b0
  have e2 : X * B ≤ 60000 * 300000 := Int.mul_le_mul x1 b1 b0 (by omega)
  refine ⟨?_, e1, by omega⟩
  rw [y_mu8 (by rw [h1, h2]; omega) (by rw [h1, h2]; omega), h1, h2]
theorem z_prod3 {x b c : Int64} {X B C : Int} (h1 : x.toInt = X) (h2 : b.toInt = B) (h3 : c.toInt = C) (x0 : 0 ≤ X) (x1 : X ≤ 60000) (b0 : 0 ≤ B) (b1 : B ≤ 300000) (c0 : 0 ≤ C) (c1 : C ≤ 2000) : (x * b * c).toInt = X * B * C ∧ (c * b * x).toInt = C * B * X := by
  obtain ⟨e1, e2, e3⟩ := z_prod h1 h2 x0 x1 b0 b1
  have e4 : 0 ≤ X * B * C := Int.mul_nonneg e2 c0
  have e5 : X * B * C ≤ 18000000000 * 2000 := Int.mul_le_mul e3 c1 c0 (by omega)
  have f1 : 0 ≤ C * B := Int.mul_nonneg c0 b0
  have f2 : C * B ≤ 2000 * 300000 := Int.mul_le_mul c1 b1 b0 (by omega)
  have f3 : (c * b).toInt = C * B := by rw [y_mu8 (by rw [h3, h2]; omega) (by rw [h3, h2]; omega), h3, h2]
  have f4 : 0 ≤ C * B * X := Int.mul_nonneg f1 x0
  have f5 : C * B * X ≤ 600000000 * 60000 := Int.mul_le_mul f2 x1 x0 (by omega)
  refine ⟨?_, ?_⟩
  · rw [y_mu8 (by rw [e1, h3]; omega) (by rw [e1, h3]; omega), e1, h3]
  · rw [y_mu8 (by rw [f3, h1]; omega) (by rw [f3, h1]; omega), f3, h1]
theorem zr_wbB (X : ZX) (call : ZC) (n0 ce sl : Nat) (I : Nat → Nat → Int32) (L : Nat → Nat → Int64) (t u r q g : Nat) (st : Nat → Option Nat) (n : Int32) (n1 : 0 ≤ n.toInt) (n2 : n.toInt ≤ 1000) (a b : Int64) (a0 : 0 ≤ a.toInt) (a1 : a.toInt ≤ 300000) (b0 : 0 ≤ b.toInt) (b1 : b.toInt ≤ 300000) (h39 : ∀ j, j < 5 → 0 ≤ (I 39 j).toInt ∧ (I 39 j).toInt ≤ 60000) (h40 : ∀ j, j < 5 → 0 ≤ (I 40 j).toInt ∧ (I 40 j).toInt ≤ 60000) (c : Nat) : ∀ (i M : Nat) (v : Int32), i + c = 5 →
    z_loop X z_cf z_ff (z_pu call) 157 (M + c + 1) 50 [(0, .ref 0), (1, .int n), (2, .long a), (4, .long b), (6, .int v), (7, .int (Int32.ofNat i))] [] (118, n0, ce, sl, I, L, z_rr t u r q g st) = some (.inl (some (.int (zbt (zwb (I 39) (I 40) a.toInt b.toInt n.toInt) c i v))), (118, n0, ce, sl, I, L, z_rr t u r q g st)) := by
  induction c with
  | zero =>
    intro i M v h1
    rw [zb_X_waveBits_50, if_pos (by rw [y_i_le, y_on (by omega), y_oi (by omega) (by omega)]; omega)]
    rfl
  | succ c ih =>
    intro i M v h1
    have f1 := h39 i (by omega)
    have f2 := h40 i (by omega)
    have e0 : (Int32.ofInt 1000 + n).toInt64.toInt = 1000 + n.toInt := by rw [y_il, y_ad (by rw [y_oi (by omega) (by omega)]; omega) (by rw [y_oi (by omega) (by omega)]; omega), y_oi (by omega) (by omega)]
    have e1 := (z_prod3 (x := (I 39 i).toInt64) (b := b) (c := Int64.ofInt 1000) (y_il _) rfl (y_ol (by omega) (by omega)) f1.1 f1.2 b0 b1 (by omega) (by omega)).1
    have e2 := (z_prod3 (x := (I 40 i).toInt64) (b := a) (c := (Int32.ofInt 1000 + n).toInt64) (y_il _) rfl e0 f2.1 f2.2 a0 a1 (by omega) (by omega)).2
    rw [show M + (c + 1) + 1 = M + c + 1 + 1 by omega, zb_X_waveBits_50, if_neg (by rw [y_i_le, y_on (by omega), y_oi (by omega) (by omega)]; omega), z_in_n (by omega) (by omega), z_gd_t, z_gd_t, z_onn (by omega), z_ofa (by omega)]
    simp only [z_lg_le, e1, e2]
    unfold zbt
    by_cases hb : (I 39 i).toInt * b.toInt * 1000 ≤ (1000 + n.toInt) * a.toInt * (I 40 i).toInt
    · have hw : ¬ zwb (I 39) (I 40) a.toInt b.toInt n.toInt i = true := fun h => by
        have := of_decide_eq_true h
        omega
      rw [if_pos hb, if_neg hw]
      exact ih (i + 1) M v (by omega)
    · have hw : zwb (I 39) (I 40) a.toInt b.toInt n.toInt i = true := decide_eq_true (by omega)
      rw [if_neg hb, if_pos hw]
      exact ih (i + 1) M _ (by omega)
theorem zr_wvM (X : ZX) (d m ce sl : Nat) (I0 : Nat → Nat → Int32) (L : Nat → Nat → Int64) (t u r q : Nat) (a h b n : Int32) {p : Nat} (hL : zg_L p I0) (ha0 : 0 ≤ a.toInt) (ha1 : a.toInt < 5) (hh0 : 0 ≤ h.toInt) (hh1 : h.toInt ≤ 99) (hb0 : -999 ≤ b.toInt) (hb1 : b.toInt ≤ 999)
    (hw : ∀ j, j < 5 → 1 ≤ (I0 98 j).toInt ∧ (I0 98 j).toInt ≤ 60000) (hg0 : 0 ≤ (I0 64 a.toNatClampNeg).toInt) (hg1 : (I0 64 a.toNatClampNeg).toInt ≤ 60000) (hk0 : 0 ≤ (I0 56 a.toNatClampNeg).toInt) (hk1 : (I0 56 a.toNatClampNeg).toInt ≤ 999) (hr : 0 ≤ (I0 65 a.toNatClampNeg).toInt) (c : Nat) : ∀ (I : Nat → Nat → Int32) (i M : Nat) (s1 s2 : Int64), i + c = 5 → (∀ a, a ≠ 99 → I a = I0 a) → 0 ≤ s1.toInt → s1.toInt ≤ 60000 * i → 0 ≤ s2.toInt → s2.toInt ≤ 60000 * i →
    ∃ (J : Nat → Nat → Int32) (s1' s2' : Int64), (∀ a, a ≠ 99 → J a = I0 a) ∧ (∀ j, j < 5 → J 99 j = if j < i then I 99 j else zwv I0 p (I0 56 a.toNatClampNeg) (I0 65 a.toNatClampNeg) h (I0 64 a.toNatClampNeg) b (I0 98 j) j) ∧
      s1'.toInt = s1.toInt + zsm (I0 98) c i ∧ s2'.toInt = s2.toInt + zsm (fun j => zwv I0 p (I0 56 a.toNatClampNeg) (I0 65 a.toNatClampNeg) h (I0 64 a.toNatClampNeg) b (I0 98 j) j) c i ∧ 0 ≤ s1'.toInt ∧ s1'.toInt ≤ 300000 ∧ 0 ≤ s2'.toInt ∧ s2'.toInt ≤ 300000 ∧
      z_loop X z_cf z_ff (z_pu (z_run X z_cf z_ff (d + 4))) 238 (M + 3 * c + 1) 156 [(0, .ref 55), (1, .int a), (7, .int h), (8, .int b), (9, .int n), (11, .long s1), (13, .long s2), (15, .int (Int32.ofNat i))] [] (118, z_sd m, ce, sl, I, L, z_rr t u r q (z_gg m) (z_sf m)) = z_loop X z_cf z_ff (z_pu (z_run X z_cf z_ff (d + 4))) 238 M 290 [(0, .ref 55), (9, .int n), (11, .long s1'), (13, .long s2'), (15, .int (Int32.ofInt 0)), (16, .int (Int32.ofInt 0))] [] (118, z_sd m, ce, sl, J, L, z_rr t u r q (z_gg m) (z_sf m)) := by
  induction c with
  | zero =>
    intro I i M s1 s2 h1 h2 h3 h4 h5 h6
    have hi : i = 5 := by omega
    refine ⟨I, s1, s2, h2, fun j hj => by rw [if_pos (by omega)], by unfold zsm; omega, by unfold zsm; omega, h3, by omega, h5, by omega, ?_⟩
    rw [zb_M_waves_156, if_pos (by rw [y_i_le, y_on (by omega), y_oi (by omega) (by omega)]; omega)]
  | succ c ih =>
    intro I i M s1 s2 h1 h2 h3 h4 h5 h6
    have hzd : zd I = zd I0 := by
      funext k
      show (I 3 k).toInt = (I0 3 k).toInt
      rw [h2 3 (by omega)]
    have hzf : zf I = zf I0 := by
      funext k
      show (I 4 k).toInt = (I0 4 k).toInt
      rw [h2 4 (by omega)]
    have hL2 : zg_L p I := zg_L_fr hL (by rw [h2 2 (by omega)]) (h2 3 (by omega)) (h2 4 (by omega)) (by rw [h2 55 (by omega)]) (h2 67 (by omega)) (h2 68 (by omega))
    have hmo := zmo_r hb0 hb1 i
    have hwi := hw i (by omega)
    have hin := y_in_t ha0 (show a.toInt < (5 : Nat) by omega)
    have hini : z_in (Int32.ofNat i) 5 = true := z_in_n (by omega) (by omega)
    have hP := hL.2.2.2.1
    obtain ⟨V, hV⟩ : ∃ V, V = zwv I0 p (I0 56 a.toNatClampNeg) (I0 65 a.toNatClampNeg) h (I0 64 a.toNatClampNeg) b (I0 98 i) i := ⟨_, rfl⟩
    have hVr := zm_out_r hP (k := (I0 56 a.toNatClampNeg).toInt) (o := max 0 ((I0 64 a.toNatClampNeg).toInt + (zmo b i).toInt) + (I0 65 a.toNatClampNeg).toInt / 1000) (w := (I0 98 i).toInt) (h := h.toInt) hk0 hwi.1
    have hVi : V.toInt = zm_out (zd I0) (zf I0) p (I0 56 a.toNatClampNeg).toInt (max 0 ((I0 64 a.toNatClampNeg).toInt + (zmo b i).toInt) + (I0 65 a.toNatClampNeg).toInt / 1000) (I0 98 i).toInt h.toInt := by
      rw [hV]
      unfold zwv
      rw [y_oi (by omega) (by omega)]
    have e1 : (s1 + (I0 98 i).toInt64).toInt = s1.toInt + (I0 98 i).toInt := by rw [y_ad8 (by rw [y_il]; omega) (by rw [y_il]; omega), y_il]
    have e2 : (s2 + V.toInt64).toInt = s2.toInt + V.toInt := by rw [y_ad8 (by rw [y_il]; omega) (by rw [y_il]; omega), y_il]
    obtain ⟨J, s1', s2', g1, g2, g3, g4, g5, g6, g7, g8, g9⟩ := ih (z_up I 99 i V) (i + 1) M (s1 + (I0 98 i).toInt64) (s2 + V.toInt64) (by omega) (fun a ha => by rw [z_up_r _ _ _ _ _ ha, h2 a ha]) (by omega) (by omega) (by omega) (by omega)
    refine ⟨J, s1', s2', g1, ?_, ?_, ?_, g5, g6, g7, g8, ?_⟩
    · intro j hj
      rw [g2 j hj, y_at]
      by_cases h3 : j < i
      · rw [if_pos (by omega), if_neg (by omega), if_pos h3]
      · rw [if_neg h3]
        by_cases h4 : j = i
        · rw [if_pos (by omega), if_pos h4, h4, hV]
        · rw [if_neg (by omega)]
    · unfold zsm
      omega
    · have : zsm (fun j => zwv I0 p (I0 56 a.toNatClampNeg) (I0 65 a.toNatClampNeg) h (I0 64 a.toNatClampNeg) b (I0 98 j) j) (c + 1) i = V.toInt + zsm (fun j => zwv I0 p (I0 56 a.toNatClampNeg) (I0 65 a.toNatClampNeg) h (I0 64 a.toNatClampNeg) b (I0 98 j) j) c (i + 1) := by
        rw [hV]
        rfl
      omega
    · have fin : ∀ o : Int32, o.toInt = max 0 ((I0 64 a.toNatClampNeg).toInt + (zmo b i).toInt) + (I0 65 a.toNatClampNeg).toInt / 1000 → z_bi (z_x [] 248) (z_pu (z_run X z_cf z_ff (d + 4)) 176 [.ref 55, .int a, .int (I 98 i), .int h, .int o] (118, z_sd m, ce, sl, I, L, z_rr t u r q (z_gg m) (z_sf m))) (fun v w => z_loop X z_cf z_ff (z_pu (z_run X z_cf z_ff (d + 4))) 238 (M + 3 * c + 2) 251 [(0, .ref 55), (1, .int a), (7, .int h), (8, .int b), (9, .int n), (11, .long s1), (13, .long s2), (15, .int (Int32.ofNat i))] [.int v, .int (Int32.ofNat i), .ref 99] w) = z_loop X z_cf z_ff (z_pu (z_run X z_cf z_ff (d + 4))) 238 M 290 [(0, .ref 55), (9, .int n), (11, .long s1'), (13, .long s2'), (15, .int (Int32.ofInt 0)), (16, .int (Int32.ofInt 0))] [] (118, z_sd m, ce, sl, J, L, z_rr t u r q (z_gg m) (z_sf m)) := by
        intro o ho
        have hrw := y_hi (I0 65 a.toNatClampNeg)
        rw [h2 98 (by omega), zr_outOf X d (z_sd m) ce sl I L t u r q (z_gg m) (z_sf m) a (I0 98 i) h o hL2 ha0 ha1 hwi.1 hwi.2 hh0 hh1 (by omega) (by omega) (by rw [h2 56 (by omega)]; exact hk0) (by rw [h2 56 (by omega)]; exact hk1), z_bi_v, show M + 3 * c + 2 = M + 3 * c + 1 + 1 by omega, zb_M_waves_251, hini, z_gd_t, z_gd_t, z_gd_t, z_onn (by omega), z_ofa (by omega), h2 98 (by omega), hzd, hzf, h2 56 (by omega), ho]
        have hVe : Int32.ofInt (zm_out (zd I0) (zf I0) p (I0 56 a.toNatClampNeg).toInt (max 0 ((I0 64 a.toNatClampNeg).toInt + (zmo b i).toInt) + (I0 65 a.toNatClampNeg).toInt / 1000) (I0 98 i).toInt h.toInt) = V := hV.symm
        rw [hVe, z_up_s]
        exact g9
      have br : ∀ mm : Int32, mm = zmo b i → (if 0 ≤ I 64 a.toNatClampNeg + mm then z_gd true (z_gd true (z_gd true (if (Int32.ofInt 1000) = 0 then none else z_bi (z_x [] 248) (z_pu (z_run X z_cf z_ff (d + 4)) 176 [.ref 55, .int a, .int (I 98 i), .int h, .int ((I 64 a.toNatClampNeg + mm) + (I 65 a.toNatClampNeg / Int32.ofInt 1000))] (118, z_sd m, ce, sl, I, L, z_rr t u r q (z_gg m) (z_sf m))) (fun v w => z_loop X z_cf z_ff (z_pu (z_run X z_cf z_ff (d + 4))) 238 (M + 3 * c + 2) 251 [(0, .ref 55), (1, .int a), (7, .int h), (8, .int b), (9, .int n), (11, .long s1), (13, .long s2), (15, .int (Int32.ofNat i))] [.int v, .int (Int32.ofNat i), .ref 99] w)))) else z_gd true (z_gd true (if (Int32.ofInt 1000) = 0 then none else z_bi (z_x [] 248) (z_pu (z_run X z_cf z_ff (d + 4)) 176 [.ref 55, .int a, .int (I 98 i), .int h, .int (Int32.ofInt 0 + (I 65 a.toNatClampNeg / Int32.ofInt 1000))] (118, z_sd m, ce, sl, I, L, z_rr t u r q (z_gg m) (z_sf m))) (fun v w => z_loop X z_cf z_ff (z_pu (z_run X z_cf z_ff (d + 4))) 238 (M + 3 * c + 2) 251 [(0, .ref 55), (1, .int a), (7, .int h), (8, .int b), (9, .int n), (11, .long s1), (13, .long s2), (15, .int (Int32.ofNat i))] [.int v, .int (Int32.ofNat i), .ref 99] w)))) = z_loop X z_cf z_ff (z_pu (z_run X z_cf z_ff (d + 4))) 238 M 290 [(0, .ref 55), (9, .int n), (11, .long s1'), (13, .long s2'), (15, .int (Int32.ofInt 0)), (16, .int (Int32.ofInt 0))] [] (118, z_sd m, ce, sl, J, L, z_rr t u r q (z_gg m) (z_sf m)) := by
        intro mm hmm
        rw [z_gd_t, z_gd_t, z_gd_t, z_gd_t, z_gd_t, if_neg z_1000z, if_neg z_1000z]
        have e64 : I 64 a.toNatClampNeg = I0 64 a.toNatClampNeg := by rw [h2 64 (by omega)]
        have e65 : I 65 a.toNatClampNeg = I0 65 a.toNatClampNeg := by rw [h2 65 (by omega)]
        have e3 : (I 64 a.toNatClampNeg + mm).toInt = (I0 64 a.toNatClampNeg).toInt + (zmo b i).toInt := by
          rw [e64, hmm]
          exact y_ad (by omega) (by omega)
        by_cases h7 : 0 ≤ I 64 a.toNatClampNeg + mm
        · rw [if_pos h7]
          rw [y_i_le, y_i0, e3] at h7
          refine fin _ ?_
          rw [(z_open (by rw [e3]; exact h7) (by rw [e3]; omega) (by rw [e65]; exact hr)).1, e3, e65]
          omega
        · rw [if_neg h7]
          rw [y_i_le, y_i0, e3] at h7
          refine fin _ ?_
          rw [(z_open (a := Int32.ofInt 0) (by decide) (by decide) (by rw [e65]; exact hr)).1, e65, y_oi0]
          omega
      rw [show M + 3 * (c + 1) + 1 = M + 3 * c + 2 + 2 by omega, zt_M_waves_156 X d, if_neg (by rw [y_i_le, y_on (by omega), y_oi (by omega) (by omega)]; omega), hin, hini, z_onn (by omega)]
      by_cases i2 : i = 2
      · rw [if_pos (by rw [y_i_eq, y_on (by omega), y_oi (by omega) (by omega)]; omega), z_gd_t]
        exact br _ (by subst i2; rfl)
      · rw [if_neg (by rw [y_i_eq, y_on (by omega), y_oi (by omega) (by omega)]; omega)]
        by_cases i0 : i = 0
        · rw [if_pos (by rw [y_i_eq, y_on (by omega), y_i0]; omega), if_neg y_10z, z_gd_t]
          exact br _ (by subst i0; rfl)
        · rw [if_neg (by rw [y_i_eq, y_on (by omega), y_i0]; omega)]
          by_cases i4 : i = 4
          · rw [if_pos (by rw [y_i_eq, y_on (by omega), y_oi (by omega) (by omega)]; omega), if_neg y_10z, z_gd_t]
            exact br _ (by subst i4; rfl)
          · rw [if_neg (by rw [y_i_eq, y_on (by omega), y_oi (by omega) (by omega)]; omega), if_neg y_10z, z_gd_t]
            exact br _ (by unfold zmo; rw [if_neg i2, if_neg (by omega)])
theorem zr_wbM (X : ZX) (call : ZC) (n0 ce sl : Nat) (I : Nat → Nat → Int32) (L : Nat → Nat → Int64) (t u r q g : Nat) (st : Nat → Option Nat) (n : Int32) (n1 : 0 ≤ n.toInt) (n2 : n.toInt ≤ 1000) (a b : Int64) (a0 : 0 ≤ a.toInt) (a1 : a.toInt ≤ 300000) (b0 : 0 ≤ b.toInt) (b1 : b.toInt ≤ 300000) (h39 : ∀ j, j < 5 → 0 ≤ (I 98 j).toInt ∧ (I 98 j).toInt ≤ 60000) (h40 : ∀ j, j < 5 → 0 ≤ (I 99 j).toInt ∧ (I 99 j).toInt ≤ 60000) (c : Nat) : ∀ (i M : Nat) (v : Int32), i + c = 5 →
    z_loop X z_cf z_ff (z_pu call) 238 (M + c + 1) 290 [(0, .ref 55), (9, .int n), (11, .long a), (13, .long b), (15, .int v), (16, .int (Int32.ofNat i))] [] (118, n0, ce, sl, I, L, z_rr t u r q g st) = some (.inl (some (.int (zbt (zwb (I 98) (I 99) a.toInt b.toInt n.toInt) c i v))), (118, n0, ce, sl, I, L, z_rr t u r q g st)) := by
  induction c with
  | zero =>
    intro i M v h1
    rw [zb_M_waves_290, if_pos (by rw [y_i_le, y_on (by omega), y_oi (by omega) (by omega)]; omega)]
    rfl
  | succ c ih =>
    intro i M v h1
    have f1 := h39 i (by omega)
    have f2 := h40 i (by omega)
    have e0 : (Int64.ofInt 1000 + n.toInt64).toInt = 1000 + n.toInt := by
      have e : (Int64.ofInt 1000).toInt = 1000 := rfl
      rw [y_ad8 (by rw [y_il, e]; omega) (by rw [y_il, e]; omega), y_il, e]
    have e1 := (z_prod3 (x := (I 98 i).toInt64) (b := b) (c := Int64.ofInt 1000) (y_il _) rfl (y_ol (by omega) (by omega)) f1.1 f1.2 b0 b1 (by omega) (by omega)).1
    have e2 := (z_prod3 (x := (I 99 i).toInt64) (b := a) (c := Int64.ofInt 1000 + n.toInt64) (y_il _) rfl e0 f2.1 f2.2 a0 a1 (by omega) (by omega)).1
    rw [show M + (c + 1) + 1 = M + c + 1 + 1 by omega, zb_M_waves_290, if_neg (by rw [y_i_le, y_on (by omega), y_oi (by omega) (by omega)]; omega), z_in_n (by omega) (by omega), z_gd_t, z_gd_t, z_onn (by omega), z_ofa (by omega)]
    have e3 : (I 99 i).toInt * a.toInt * (1000 + n.toInt) = (1000 + n.toInt) * a.toInt * (I 99 i).toInt := by
      rw [Int.mul_comm ((I 99 i).toInt * a.toInt), Int.mul_comm (I 99 i).toInt, Int.mul_assoc]
    simp only [z_lg_le, e1, e2, e3]
    unfold zbt
    by_cases hb : (I 98 i).toInt * b.toInt * 1000 ≤ (1000 + n.toInt) * a.toInt * (I 99 i).toInt
    · have hw : ¬ zwb (I 98) (I 99) a.toInt b.toInt n.toInt i = true := fun h => by
        have := of_decide_eq_true h
        omega
      rw [if_pos hb, if_neg hw]
      exact ih (i + 1) M v (by omega)
    · have hw : zwb (I 98) (I 99) a.toInt b.toInt n.toInt i = true := decide_eq_true (by omega)
      rw [if_neg hb, if_pos hw]
      exact ih (i + 1) M _ (by omega)
