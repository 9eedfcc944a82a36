/-! THE LAW OF BITES, 2: what goes out -/
theorem z_lg_lt (x y : Int64) : (lg_cmp x y < 0) = (x.toInt < y.toInt) := by
  unfold lg_cmp
  by_cases h : x > y
  · have h1 : y.toInt < x.toInt := y_l_lt.mp h
    rw [if_pos h]
    simp only [eq_iff_iff]
    constructor
    · intro h2
      exact absurd h2 (by decide)
    · omega
  · have h1 : ¬ y.toInt < x.toInt := fun g => h (y_l_lt.mpr g)
    rw [if_neg h]
    by_cases h2 : x = y
    · rw [if_pos h2, h2]
      simp only [eq_iff_iff]
      constructor
      · intro h3
        exact absurd h3 (by decide)
      · omega
    · rw [if_neg h2]
      have h3 : x.toInt ≠ y.toInt := fun g => h2 (y_l_eq.mpr g)
      simp only [eq_iff_iff]
      constructor
      · intro _
        omega
      · intro _
        decide
theorem z_lg_le (x y : Int64) : (lg_cmp x y ≤ 0) = (x.toInt ≤ y.toInt) := by
  unfold lg_cmp
  by_cases h : x > y
  · have h1 : y.toInt < x.toInt := y_l_lt.mp h
    rw [if_pos h]
    simp only [eq_iff_iff]
    constructor
    · intro h2
      exact absurd h2 (by decide)
    · omega
  · have h1 : ¬ y.toInt < x.toInt := fun g => h (y_l_lt.mpr g)
    rw [if_neg h]
    by_cases h2 : x = y
    · rw [if_pos h2, h2]
      simp only [eq_iff_iff]
      constructor
      · intro _
        omega
      · intro _
        decide
    · rw [if_neg h2]
      simp only [eq_iff_iff]
      constructor
      · intro _
        omega
      · intro _
        decide
theorem z_lg_eq (x y : Int64) : (lg_cmp x y = 0) = (x.toInt = y.toInt) := by
  unfold lg_cmp
  by_cases h : x > y
  · have h1 : y.toInt < x.toInt := y_l_lt.mp h
    rw [if_pos h]
    simp only [eq_iff_iff]
    constructor
    · intro h2
      exact absurd h2 (by decide)
    · omega
  · rw [if_neg h]
    by_cases h2 : x = y
    · rw [if_pos h2, h2]
      simp
    · rw [if_neg h2]
      have h3 : x.toInt ≠ y.toInt := fun g => h2 (y_l_eq.mpr g)
      simp only [eq_iff_iff]
      constructor
      · intro h4
        exact absurd h4 (by decide)
      · intro h4
        exact absurd h4 h3
def zm_bb (d f : Nat → Int) (p : Nat) (k o w h v : Int) : Bool := decide (zm_pr d f p (w - v) h ≤ (v - o) * k)
theorem zm_bb_mono {d f : Nat → Int} {p : Nat} (hp : zm_pts d f p) {k o w h a b : Int} (hk : 0 ≤ k) (hh : 0 ≤ h) (hab : a ≤ b) (ha : zm_bb d f p k o w h a = true) : zm_bb d f p k o w h b = true := by
  unfold zm_bb at *
  have h1 := of_decide_eq_true ha
  apply decide_eq_true
  have h2 := zm_pr_mono hp hh (x := w - b) (y := w - a) (by omega)
  have h3 := Int.mul_le_mul_of_nonneg_right (show a - o ≤ b - o by omega) hk
  omega
theorem zm_bb_top {d f : Nat → Int} {p : Nat} (hp : zm_pts d f p) {k o w h : Int} (hk : 0 ≤ k) (ho : o ≤ w) : zm_bb d f p k o w h w = true := by
  unfold zm_bb
  apply decide_eq_true
  rw [Int.sub_self, zm_pr_at0 hp]
  exact Int.mul_nonneg (by omega) hk
/-- the least from a number on that is borne -/
def zm_lst (b : Int → Bool) : Nat → Int → Int
  | 0, c => c
  | n + 1, c => if b c then c else zm_lst b n (c + 1)
def zm_out (d f : Nat → Int) (p : Nat) (k o w h : Int) : Int := if w ≤ o then w else zm_lst (zm_bb d f p k o w h) w.toNat 1
theorem zm_lst_is (b : Int → Bool) (w : Int) (hw : b w = true) : ∀ (n : Nat) (c : Int), c ≤ w → w < c + n → (c ≤ zm_lst b n c ∧ zm_lst b n c ≤ w ∧ b (zm_lst b n c) = true ∧ (zm_lst b n c = c ∨ b (zm_lst b n c - 1) = false)) := by
  intro n
  induction n with
  | zero =>
    intro c h1 h2
    omega
  | succ n ih =>
    intro c h1 h2
    unfold zm_lst
    by_cases h : b c = true
    · rw [if_pos h]
      exact ⟨Int.le_refl _, h1, h, Or.inl rfl⟩
    · rw [if_neg h]
      have h3 : c ≠ w := by
        intro h4
        rw [h4] at h
        exact h hw
      obtain ⟨a1, a2, a3, a4⟩ := ih (c + 1) (by omega) (by omega)
      refine ⟨by omega, a2, a3, Or.inr ?_⟩
      rcases a4 with a4 | a4
      · rw [a4, Int.add_sub_cancel]
        exact Bool.eq_false_iff.mpr h
      · exact a4
theorem zm_out_is {d f : Nat → Int} {p : Nat} (hp : zm_pts d f p) {k o w h : Int} (hk : 0 ≤ k) (hw : 1 ≤ w) (ho : o < w) : zm_isout (fun v => zm_bb d f p k o w h v = true) w (zm_out d f p k o w h) := by
  unfold zm_out
  rw [if_neg (by omega)]
  obtain ⟨a1, a2, a3, a4⟩ := zm_lst_is (zm_bb d f p k o w h) w (zm_bb_top hp hk (by omega)) w.toNat 1 (by omega) (by omega)
  refine ⟨a1, a2, a3, ?_⟩
  rcases a4 with a4 | a4
  · exact Or.inl a4
  · exact Or.inr (Bool.eq_false_iff.mp a4)
theorem zm_out_eq {d f : Nat → Int} {p : Nat} (hp : zm_pts d f p) {k o w h v : Int} (hk : 0 ≤ k) (hh : 0 ≤ h) (ho : o < w) (h1 : 1 ≤ v) (h2 : v ≤ w) (h3 : zm_bb d f p k o w h v = true) (h4 : v = 1 ∨ zm_bb d f p k o w h (v - 1) = false) : v = zm_out d f p k o w h := by
  refine zm_out_unique (B := fun v => zm_bb d f p k o w h v = true) (fun a b ha hab => zm_bb_mono hp hk hh hab ha) (w := w) ⟨h1, h2, h3, ?_⟩ (zm_out_is hp hk (by omega) ho)
  rcases h4 with h4 | h4
  · exact Or.inl h4
  · exact Or.inr (Bool.eq_false_iff.mp h4)
theorem zm_out_r {d f : Nat → Int} {p : Nat} (hp : zm_pts d f p) {k o w h : Int} (hk : 0 ≤ k) (hw : 1 ≤ w) : 1 ≤ zm_out d f p k o w h ∧ zm_out d f p k o w h ≤ w := by
  by_cases ho : o < w
  · obtain ⟨a1, a2, _⟩ := zm_out_is hp (k := k) (h := h) hk hw ho
    exact ⟨a1, a2⟩
  · unfold zm_out
    rw [if_pos (by omega)]
    omega
theorem z_frame {x o k : Int32} (h1 : 0 ≤ x.toInt) (h2 : x.toInt ≤ 60000) (h3 : 0 ≤ o.toInt) (h4 : o.toInt ≤ 3000000) (h5 : 0 ≤ k.toInt) (h6 : k.toInt ≤ 999) : ((x - o).toInt64 * k.toInt64).toInt = (x.toInt - o.toInt) * k.toInt := by
  have e : (x - o).toInt = x.toInt - o.toInt := y_sb (by omega) (by omega)
  have a1 : (x.toInt - o.toInt) * k.toInt ≤ 60000 * 999 := by
    have b1 := Int.mul_le_mul_of_nonneg_right (show x.toInt - o.toInt ≤ 60000 by omega) h5
    have b2 := Int.mul_le_mul_of_nonneg_left h6 (show (0 : Int) ≤ 60000 by omega)
    omega
  have a2 : -3000000 * 999 ≤ (x.toInt - o.toInt) * k.toInt := by
    have b1 := Int.mul_le_mul_of_nonneg_right (show -3000000 ≤ x.toInt - o.toInt by omega) h5
    have b2 := Int.mul_le_mul_of_nonneg_left h6 (show (0 : Int) ≤ 3000000 by omega)
    omega
  rw [y_mu8 (by rw [y_il, y_il, e]; omega) (by rw [y_il, y_il, e]; omega), y_il, y_il, e]
theorem zr_isBorne (X : ZX) (d n ce sl : Nat) (I : Nat → Nat → Int32) (L : Nat → Nat → Int64) (t u r q g : Nat) (st : Nat → Option Nat) (s : Nat) (w h o v : Int32) {p : Nat} (hL : zg_L p I) (hok : z_ok (118, n, ce, sl, I, L, z_rr t u r q g st) s 10 = true)
    (hw1 : w.toInt ≤ 60000) (hh0 : 0 ≤ h.toInt) (hh1 : h.toInt ≤ 99) (ho0 : 0 ≤ o.toInt) (ho1 : o.toInt ≤ 3000000) (hv0 : 0 ≤ v.toInt) (hv1 : v.toInt ≤ w.toInt) (hk0 : 0 ≤ (I s 0).toInt) (hk1 : (I s 0).toInt ≤ 999) :
    z_pu (z_run X z_cf z_ff (d + 4)) 53 [.ref s, .ref 2, .int w, .int h, .int o, .int v] (118, n, ce, sl, I, L, z_rr t u r q g st) = some (.inl (some (.int (if zm_bb (zd I) (zf I) p (I s 0).toInt o.toInt w.toInt h.toInt v.toInt = true then Int32.ofInt 1 else Int32.ofInt 0))), (118, n, ce, sl, I, L, z_rr t u r q g st)) := by
  refine z_en X (d + 1) _ _ [(0, .ref s), (1, .ref 2), (2, .int w), (3, .int h), (4, .int o), (5, .int v)] _ _ rfl rfl rfl ?_
  have e : (w - v).toInt = w.toInt - v.toInt := y_sb (by omega) (by omega)
  have hP := hL.2.2.2.1
  have a0 := zm_pr_0 hP hh0 (x := w.toInt - v.toInt) (by omega)
  have a1 := zm_pr_top (zd I) (zf I) p (w.toInt - v.toInt) h.toInt
  rw [zb_Stand_isBorne_0, hok, z_gd_t, zr_pressFor X d n ce sl I L t u r q g st (w - v) h hL (by rw [e]; omega) (by rw [e]; omega) hh0 hh1, z_bi_v, zb_Stand_isBorne_21, e]
  have a2 : (Int32.ofInt (zm_pr (zd I) (zf I) p (w.toInt - v.toInt) h.toInt)).toInt64.toInt = zm_pr (zd I) (zf I) p (w.toInt - v.toInt) h.toInt := by
    rw [y_il, y_oi (by omega) (by omega)]
  simp only [z_lg_lt, a2, z_frame hv0 (show v.toInt ≤ 60000 by omega) ho0 ho1 hk0 hk1]
  unfold zm_bb
  by_cases hb : (v.toInt - o.toInt) * (I s 0).toInt < zm_pr (zd I) (zf I) p (w.toInt - v.toInt) h.toInt
  · rw [if_pos hb, z_b1_0, z_gd_t, if_neg]
    intro hc
    have := of_decide_eq_true hc
    omega
  · rw [if_neg hb, z_b1_1, z_gd_t, if_pos]
    apply decide_eq_true
    omega
theorem z_half {a b : Int32} (h0 : 1 ≤ a.toInt) (h1 : a.toInt < b.toInt) (h2 : b.toInt ≤ 60000) : ((a + b) / Int32.ofInt 2).toInt = (a.toInt + b.toInt) / 2 := by
  have e : (a + b).toInt = a.toInt + b.toInt := y_ad (by omega) (by omega)
  rw [y_dv (by rw [e]; omega) (by decide), e]
  rfl
theorem z_i2z : ¬ (Int32.ofInt 2 : Int32) = 0 := by decide
theorem z_p1 {a : Int32} (h : a.toInt < 2147483647) : (a + Int32.ofInt 1).toInt = a.toInt + 1 := by
  have e : (Int32.ofInt 1).toInt = 1 := rfl
  rw [y_ad (by rw [e]; have := y_lo a; omega) (by rw [e]; omega), e]
theorem zr_outFor_loop (X : ZX) (d n ce sl : Nat) (I : Nat → Nat → Int32) (L : Nat → Nat → Int64) (t u r q g : Nat) (st : Nat → Option Nat) (s : Nat) (w h o : Int32) {p : Nat} (hL : zg_L p I) (hok : z_ok (118, n, ce, sl, I, L, z_rr t u r q g st) s 10 = true)
    (hw1 : w.toInt ≤ 60000) (hh0 : 0 ≤ h.toInt) (hh1 : h.toInt ≤ 99) (ho0 : 0 ≤ o.toInt) (ho1 : o.toInt ≤ 3000000) (how : o.toInt < w.toInt) (hk0 : 0 ≤ (I s 0).toInt) (hk1 : (I s 0).toInt ≤ 999) (k : Nat) : ∀ (M : Nat) (a b i : Int32), 2 * k < M → i.toInt = 16 - k → 1 ≤ a.toInt → a.toInt ≤ b.toInt → b.toInt ≤ w.toInt → b.toInt - a.toInt < 2 ^ k →
    zm_bb (zd I) (zf I) p (I s 0).toInt o.toInt w.toInt h.toInt b.toInt = true → (a.toInt = 1 ∨ zm_bb (zd I) (zf I) p (I s 0).toInt o.toInt w.toInt h.toInt (a.toInt - 1) = false) →
    z_loop X z_cf z_ff (z_pu (z_run X z_cf z_ff (d + 4))) 52 M 30 [(0, .ref s), (1, .ref 2), (2, .int w), (3, .int h), (5, .int o), (6, .int a), (7, .int b), (8, .int i)] [] (118, n, ce, sl, I, L, z_rr t u r q g st) = some (.inl (some (.int (Int32.ofInt (zm_out (zd I) (zf I) p (I s 0).toInt o.toInt w.toInt h.toInt)))), (118, n, ce, sl, I, L, z_rr t u r q g st)) := by
  have hP := hL.2.2.2.1
  induction k with
  | zero =>
    intro M a b i h1 h2 h3 h4 h5 h6 h7 h8
    obtain ⟨M, rfl⟩ : ∃ N, M = N + 1 := ⟨M - 1, by omega⟩
    have e : a.toInt = b.toInt := by
      have : (2 : Int) ^ 0 = 1 := rfl
      omega
    rw [e] at h8 h3
    rw [zb_Stand_outFor_30, if_pos (by rw [y_i_le, h2]; decide), ← zm_out_eq hP hk0 hh0 how h3 h5 h7 h8, y_ofi]
  | succ k ih =>
    intro M a b i h1 h2 h3 h4 h5 h6 h7 h8
    obtain ⟨M, rfl⟩ : ∃ N, M = N + 1 + 1 := ⟨M - 2, by omega⟩
    rw [zb_Stand_outFor_30, if_neg (by rw [y_i_le, h2]; have : (Int32.ofInt 16).toInt = 16 := rfl; omega)]
    by_cases hab : a.toInt = b.toInt
    · rw [if_pos (by rw [y_i_le]; omega)]
      rw [hab] at h8 h3
      rw [← zm_out_eq hP hk0 hh0 how h3 h5 h7 h8, y_ofi]
    · have em := z_half h3 (show a.toInt < b.toInt by omega) (by omega)
      have ei := z_p1 (a := i) (by omega)
      generalize (a + b) / Int32.ofInt 2 = c at *
      rw [if_neg (by rw [y_i_le]; omega), if_neg z_i2z, hok, z_gd_t, zr_isBorne X d n ce sl I L t u r q g st s w h o c hL hok hw1 hh0 hh1 ho0 ho1 (by omega) (by omega) hk0 hk1, z_bi_v, zb_Stand_outFor_64]
      have e2 : (2 : Int) ^ (k + 1) = 2 * 2 ^ k := by rw [Int.pow_succ]; omega
      by_cases hb : zm_bb (zd I) (zf I) p (I s 0).toInt o.toInt w.toInt h.toInt c.toInt = true
      · rw [if_pos hb, if_neg (by decide)]
        exact ih M a c (i + Int32.ofInt 1) (by omega) (by omega) h3 (by omega) (by omega) (by omega) hb h8
      · rw [if_neg hb, if_pos (by decide)]
        have ec := z_p1 (a := c) (by omega)
        exact ih M (c + Int32.ofInt 1) b (i + Int32.ofInt 1) (by omega) (by omega) (by omega) (by omega) h5 (by omega) h7 (Or.inr (by rw [ec, Int.add_sub_cancel]; exact Bool.eq_false_iff.mpr hb))
theorem z_1000z : ¬ (Int32.ofInt 1000 : Int32) = 0 := by decide
/-- what a worn stand opens to -/
theorem z_open {a b : Int32} (h0 : 0 ≤ a.toInt) (h1 : a.toInt ≤ 100000) (h2 : 0 ≤ b.toInt) : (a + b / Int32.ofInt 1000).toInt = a.toInt + b.toInt / 1000 ∧ 0 ≤ a.toInt + b.toInt / 1000 ∧ a.toInt + b.toInt / 1000 ≤ 3000000 := by
  have e : (b / Int32.ofInt 1000).toInt = b.toInt / 1000 := by
    rw [y_dv h2 (by decide)]
    rfl
  have := y_hi b
  refine ⟨?_, by omega, by omega⟩
  rw [y_ad (by rw [e]; omega) (by rw [e]; omega), e]
theorem zr_outFor (X : ZX) (d n ce sl : Nat) (I : Nat → Nat → Int32) (L : Nat → Nat → Int64) (t u r q g : Nat) (st : Nat → Option Nat) (s : Nat) (w h o : Int32) {p : Nat} (hL : zg_L p I) (hok : z_ok (118, n, ce, sl, I, L, z_rr t u r q g st) s 10 = true)
    (hw0 : 1 ≤ w.toInt) (hw1 : w.toInt ≤ 60000) (hh0 : 0 ≤ h.toInt) (hh1 : h.toInt ≤ 99) (ho0 : 0 ≤ o.toInt) (ho1 : o.toInt ≤ 100000) (hk0 : 0 ≤ (I s 0).toInt) (hk1 : (I s 0).toInt ≤ 999) (hr : 0 ≤ (I s 9).toInt) :
    z_pu (z_run X z_cf z_ff (d + 5)) 52 [.ref s, .ref 2, .int w, .int h, .int o] (118, n, ce, sl, I, L, z_rr t u r q g st) = some (.inl (some (.int (Int32.ofInt (zm_out (zd I) (zf I) p (I s 0).toInt (o.toInt + (I s 9).toInt / 1000) w.toInt h.toInt)))), (118, n, ce, sl, I, L, z_rr t u r q g st)) := by
  refine z_en X (d + 2) _ _ [(0, .ref s), (1, .ref 2), (2, .int w), (3, .int h), (4, .int o)] _ _ rfl rfl rfl ?_
  obtain ⟨e1, e2, e3⟩ := z_open ho0 ho1 hr
  rw [zb_Stand_outFor_0, hok, z_gd_t, if_neg z_1000z]
  rw [← e1] at e2 e3 ⊢
  generalize o + I s 9 / Int32.ofInt 1000 = v at *
  by_cases hv : v.toInt < w.toInt
  · rw [if_pos (y_i_lt.mpr hv)]
    exact zr_outFor_loop X d n ce sl I L t u r q g st s w h v hL hok hw1 hh0 hh1 e2 e3 hv hk0 hk1 16 99999999 (Int32.ofInt 1) w (Int32.ofInt 0) (by omega) rfl (by decide) hw0 (Int.le_refl _) (by have : (Int32.ofInt 1).toInt = 1 := rfl; omega) (zm_bb_top hL.2.2.2.1 hk0 (by omega)) (Or.inl rfl)
  · rw [if_neg (fun hc => hv (y_i_lt.mp hc))]
    unfold zm_out
    rw [if_pos (by omega), y_ofi]
theorem zr_outOf_loop (X : ZX) (d n ce sl : Nat) (I : Nat → Nat → Int32) (L : Nat → Nat → Int64) (t u r q g : Nat) (st : Nat → Option Nat) (s w h o : Int32) {p : Nat} (hL : zg_L p I) (hs0 : 0 ≤ s.toInt) (hs1 : s.toInt < 5)
    (hw1 : w.toInt ≤ 60000) (hh0 : 0 ≤ h.toInt) (hh1 : h.toInt ≤ 99) (ho0 : 0 ≤ o.toInt) (ho1 : o.toInt ≤ 3000000) (how : o.toInt < w.toInt) (hk0 : 0 ≤ (I 56 s.toNatClampNeg).toInt) (hk1 : (I 56 s.toNatClampNeg).toInt ≤ 999) (k : Nat) : ∀ (M : Nat) (a b : Int32), 2 * k < M → 1 ≤ a.toInt → a.toInt ≤ b.toInt → b.toInt ≤ w.toInt → b.toInt - a.toInt ≤ k →
    zm_bb (zd I) (zf I) p (I 56 s.toNatClampNeg).toInt o.toInt w.toInt h.toInt b.toInt = true → (a.toInt = 1 ∨ zm_bb (zd I) (zf I) p (I 56 s.toNatClampNeg).toInt o.toInt w.toInt h.toInt (a.toInt - 1) = false) →
    z_loop X z_cf z_ff (z_pu (z_run X z_cf z_ff (d + 3))) 176 M 14 [(0, .ref 55), (1, .int s), (2, .int w), (3, .int h), (4, .int o), (5, .int a), (6, .int b)] [] (118, n, ce, sl, I, L, z_rr t u r q g st) = some (.inl (some (.int (Int32.ofInt (zm_out (zd I) (zf I) p (I 56 s.toNatClampNeg).toInt o.toInt w.toInt h.toInt)))), (118, n, ce, sl, I, L, z_rr t u r q g st)) := by
  have hP := hL.2.2.2.1
  induction k with
  | zero =>
    intro M a b h1 h3 h4 h5 h6 h7 h8
    obtain ⟨M, rfl⟩ : ∃ N, M = N + 1 := ⟨M - 1, by omega⟩
    have e : b.toInt = a.toInt := by omega
    rw [e] at h7 h5
    rw [zb_M_outOf_14, if_pos (by rw [y_i_le]; omega), ← zm_out_eq hP hk0 hh0 how h3 h5 h7 h8, y_ofi]
  | succ k ih =>
    intro M a b h1 h3 h4 h5 h6 h7 h8
    obtain ⟨M, rfl⟩ : ∃ N, M = N + 1 + 1 := ⟨M - 2, by omega⟩
    rw [zb_M_outOf_14]
    by_cases hab : a.toInt = b.toInt
    · rw [if_pos (by rw [y_i_le]; omega)]
      rw [← hab] at h7 h5
      rw [← zm_out_eq hP hk0 hh0 how h3 h5 h7 h8, y_ofi]
    · have em := z_half h3 (show a.toInt < b.toInt by omega) (by omega)
      generalize (a + b) / Int32.ofInt 2 = c at *
      have e : (w - c).toInt = w.toInt - c.toInt := y_sb (by omega) (by omega)
      have a0 := zm_pr_0 hP hh0 (x := w.toInt - c.toInt) (by omega)
      have a1 := zm_pr_top (zd I) (zf I) p (w.toInt - c.toInt) h.toInt
      have a2 : (Int32.ofInt (zm_pr (zd I) (zf I) p (w.toInt - c.toInt) h.toInt)).toInt64.toInt = zm_pr (zd I) (zf I) p (w.toInt - c.toInt) h.toInt := by
        rw [y_il, y_oi (by omega) (by omega)]
      rw [if_neg (by rw [y_i_le]; omega), if_neg z_i2z, y_in_t hs0 hs1, z_gd_t, zr_pressOf X d n ce sl I L t u r q g st (w - c) h hL (by rw [e]; omega) (by rw [e]; omega) hh0 hh1, z_bi_v, zb_M_outOf_53, e]
      simp only [z_lg_lt, a2, z_frame (show 0 ≤ c.toInt by omega) (show c.toInt ≤ 60000 by omega) ho0 ho1 hk0 hk1]
      by_cases hb : zm_bb (zd I) (zf I) p (I 56 s.toNatClampNeg).toInt o.toInt w.toInt h.toInt c.toInt = true
      · have hb' := of_decide_eq_true hb
        rw [if_neg (by omega)]
        exact ih M a c (by omega) h3 (by omega) (by omega) (by omega) hb h8
      · have hb' : ¬ zm_pr (zd I) (zf I) p (w.toInt - c.toInt) h.toInt ≤ (c.toInt - o.toInt) * (I 56 s.toNatClampNeg).toInt := fun g => hb (decide_eq_true g)
        rw [if_pos (by omega)]
        have ec := z_p1 (a := c) (by omega)
        exact ih M (c + Int32.ofInt 1) b (by omega) (by omega) (by omega) h5 (by omega) h7 (Or.inr (by rw [ec, Int.add_sub_cancel]; exact Bool.eq_false_iff.mpr hb))
theorem zr_outOf (X : ZX) (d n ce sl : Nat) (I : Nat → Nat → Int32) (L : Nat → Nat → Int64) (t u r q g : Nat) (st : Nat → Option Nat) (s w h o : Int32) {p : Nat} (hL : zg_L p I) (hs0 : 0 ≤ s.toInt) (hs1 : s.toInt < 5)
    (hw0 : 1 ≤ w.toInt) (hw1 : w.toInt ≤ 60000) (hh0 : 0 ≤ h.toInt) (hh1 : h.toInt ≤ 99) (ho0 : 0 ≤ o.toInt) (ho1 : o.toInt ≤ 3000000) (hk0 : 0 ≤ (I 56 s.toNatClampNeg).toInt) (hk1 : (I 56 s.toNatClampNeg).toInt ≤ 999) :
    z_pu (z_run X z_cf z_ff (d + 4)) 176 [.ref 55, .int s, .int w, .int h, .int o] (118, n, ce, sl, I, L, z_rr t u r q g st) = some (.inl (some (.int (Int32.ofInt (zm_out (zd I) (zf I) p (I 56 s.toNatClampNeg).toInt o.toInt w.toInt h.toInt)))), (118, n, ce, sl, I, L, z_rr t u r q g st)) := by
  refine z_en X (d + 1) _ _ [(0, .ref 55), (1, .int s), (2, .int w), (3, .int h), (4, .int o)] _ _ rfl rfl rfl ?_
  rw [zb_M_outOf_0]
  by_cases hv : o.toInt < w.toInt
  · rw [if_pos (y_i_lt.mpr hv)]
    exact zr_outOf_loop X d n ce sl I L t u r q g st s w h o hL hs0 hs1 hw1 hh0 hh1 ho0 ho1 hv hk0 hk1 60000 99999999 (Int32.ofInt 1) w (by omega) (by decide) hw0 (Int.le_refl _) (by have : (Int32.ofInt 1).toInt = 1 := rfl; omega) (zm_bb_top hL.2.2.2.1 hk0 (by omega)) (Or.inl rfl)
  · rw [if_neg (fun hc => hv (y_i_lt.mp hc))]
    unfold zm_out
    rw [if_pos (by omega), y_ofi]
