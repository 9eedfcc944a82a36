/-! THE LAW OF BITES: press, what is borne, what goes out -/
abbrev zd (I : Nat → Nat → Int32) (k : Nat) : Int := (I 3 k).toInt
abbrev zf (I : Nat → Nat → Int32) (k : Nat) : Int := (I 4 k).toInt
def zg_L (p : Nat) (I : Nat → Nat → Int32) : Prop := p ≤ 10 ∧ I 2 2 = Int32.ofNat p ∧ I 55 13 = Int32.ofNat p ∧ zm_pts (zd I) (zf I) p ∧ (∀ k < p, I 67 k = I 3 (k + 1)) ∧ (∀ k < p, I 68 k = I 4 (k + 1))
theorem z_onn {j : Nat} (h : j ≤ 2147483647) : (Int32.ofNat j).toNatClampNeg = j := by
  rw [y_tn, y_on h]
  omega
theorem z_ofs {j : Nat} (h : j ≤ 2147483647) (h1 : 1 ≤ j) : Int32.ofNat j - Int32.ofInt 1 = Int32.ofNat (j - 1) := by
  rw [y_i_eq, y_sb (by rw [y_on h, y_oi (by omega) (by omega)]; omega) (by rw [y_on h, y_oi (by omega) (by omega)]; omega), y_on h, y_oi (by omega) (by omega), y_on (by omega)]
  omega
theorem z_ofa {j : Nat} (h : j < 2147483647) : Int32.ofNat j + Int32.ofInt 1 = Int32.ofNat (j + 1) := by
  rw [y_i_eq, y_ad (by rw [y_on (by omega), y_oi (by omega) (by omega)]; omega) (by rw [y_on (by omega), y_oi (by omega) (by omega)]; omega), y_on (by omega), y_oi (by omega) (by omega), y_on (by omega)]
  omega
theorem z_in_n {j n : Nat} (h : j < n) (h2 : n ≤ 2147483647) : z_in (Int32.ofNat j) n = true := by
  refine y_in_t ?_ ?_
  · rw [y_on (by omega)]
    omega
  · rw [y_on (by omega)]
    omega
theorem z_mnl_i (x y : Int64) : (z_mnl x y).toInt = min x.toInt y.toInt := by
  unfold z_mnl
  split
  · rename_i h
    rw [y_l_lt] at h
    omega
  · rename_i h
    rw [y_l_lt] at h
    omega
theorem z_10 : ¬ ((Int64.ofInt 10 : Int64) = 0) := by decide
theorem z_prL {f0 q dd hh : Int64} {F0 F1 D0 D1 x h : Int} (h1 : f0.toInt = F0) (h2 : q.toInt = (x - D0) * (F1 - F0)) (h3 : dd.toInt = D1 - D0) (h4 : hh.toInt = h)
    (g1 : 0 ≤ F0) (g2 : F0 ≤ F1) (g3 : F1 ≤ 99999) (g4 : D0 < D1) (g5 : D0 ≤ x) (g6 : x - D0 ≤ 60000) (g7 : 0 ≤ h) (g8 : h ≤ 99) : (((f0 + q / dd) * hh) / Int64.ofInt 10).toInt = (F0 + (x - D0) * (F1 - F0) / (D1 - D0)) * h / 10 := by
  have a0 : 0 ≤ (x - D0) * (F1 - F0) := Int.mul_nonneg (by omega) (by omega)
  have a1 : (x - D0) * (F1 - F0) ≤ 60000 * 99999 := Int.mul_le_mul g6 (by omega) (by omega) (by omega)
  have a2 : (q / dd).toInt = (x - D0) * (F1 - F0) / (D1 - D0) := by
    rw [y_dv8 (by rw [h2]; exact a0) (by rw [h3]; omega), h2, h3]
  have a3 : 0 ≤ (x - D0) * (F1 - F0) / (D1 - D0) := Int.ediv_nonneg a0 (by omega)
  have a4 : (x - D0) * (F1 - F0) / (D1 - D0) ≤ (x - D0) * (F1 - F0) := Int.ediv_le_self _ a0
  generalize (x - D0) * (F1 - F0) / (D1 - D0) = e at *
  have a5 : (f0 + q / dd).toInt = F0 + e := by
    rw [y_ad8 (by rw [h1, a2]; omega) (by rw [h1, a2]; omega), h1, a2]
  have a6 : 0 ≤ (F0 + e) * h := Int.mul_nonneg (by omega) g7
  have a7 : (F0 + e) * h ≤ 7000000000 * 99 := Int.mul_le_mul (by omega) g8 g7 (by omega)
  have a8 : ((f0 + q / dd) * hh).toInt = (F0 + e) * h := by
    rw [y_mu8 (by rw [a5, h4]; omega) (by rw [a5, h4]; omega), a5, h4]
  rw [y_dv8 (by rw [a8]; exact a6) (by decide), a8]
  rfl
theorem z_prT {v : Int64} {V : Int} (h : v.toInt = V) (h0 : 0 ≤ V) : (z_mnl (Int64.ofInt 999999999) v).toInt32 = Int32.ofInt (min 999999999 V) := by
  refine y_eqi ?_
  have e : (z_mnl (Int64.ofInt 999999999) v).toInt = min 999999999 V := by
    rw [z_mnl_i, h]
    rfl
  rw [y_li _ (by rw [e]; omega) (by rw [e]; omega), e]
/-- what the points give a bite, at a piece j -/
theorem z_pts_at {d f : Nat → Int} {p : Nat} (hp : zm_pts d f p) {j : Nat} (h1 : 1 ≤ j) (h2 : j ≤ p) : 0 ≤ f (j - 1) ∧ f (j - 1) < f j ∧ f j ≤ 99999 ∧ 0 ≤ d (j - 1) ∧ d (j - 1) < d j ∧ d j ≤ 60000 := by
  obtain ⟨a, b, c, e, g, k⟩ := hp
  have x1 := c (j - 1) (by omega)
  have x2 := e (j - 1) (by omega)
  have ej : j - 1 + 1 = j := by omega
  rw [ej] at x1 x2
  have x3 := zm_inc' c (a := 0) (b := j - 1) (by omega) (by omega)
  have x4 := zm_inc' e (a := 0) (b := j - 1) (by omega) (by omega)
  have x5 := g j h2
  have x6 := k j h2
  omega
theorem z_pf_facts {I : Nat → Nat → Int32} {x h : Int32} {p j : Nat} (hp : p ≤ 10) (hP : zm_pts (zd I) (zf I) p) (hx0 : 0 ≤ x.toInt) (hx1 : x.toInt ≤ 60000) (hh0 : 0 ≤ h.toInt) (hh1 : h.toInt ≤ 99)
    (h1 : 1 ≤ j) (h2 : j ≤ p) (h5 : j = 1 ∨ zd I (j - 1) < x.toInt) (h6 : j = p ∨ x.toInt ≤ zd I j) : Int32.ofInt 1 ≤ I 3 j - I 3 (j - 1) ∧ ¬ (I 3 j - I 3 (j - 1)).toInt64 = 0 ∧
    (z_mnl (Int64.ofInt 999999999) ((((I 4 (j - 1)).toInt64 + ((x - I 3 (j - 1)).toInt64 * (I 4 j - I 4 (j - 1)).toInt64) / (I 3 j - I 3 (j - 1)).toInt64) * h.toInt64) / Int64.ofInt 10)).toInt32 = Int32.ofInt (zm_pr (zd I) (zf I) p x.toInt h.toInt) := by
  obtain ⟨a1, a2, a3, a4, a5, a6⟩ := z_pts_at hP h1 h2
  have h5' : zd I (j - 1) ≤ x.toInt := by
    rcases h5 with h5 | h5
    · rw [h5, show 1 - 1 = 0 from rfl, hP.1]
      exact hx0
    · omega
  have e1 : (I 3 j - I 3 (j - 1)).toInt = zd I j - zd I (j - 1) := y_sb (by simp only [zd] at *; omega) (by simp only [zd] at *; omega)
  have e2 : (I 4 j - I 4 (j - 1)).toInt = zf I j - zf I (j - 1) := y_sb (by simp only [zf] at *; omega) (by simp only [zf] at *; omega)
  have e3 : (x - I 3 (j - 1)).toInt = x.toInt - zd I (j - 1) := y_sb (by simp only [zd] at *; omega) (by simp only [zd] at *; omega)
  refine ⟨?_, ?_, ?_⟩
  · rw [y_i_le, e1, y_oi (by omega) (by omega)]
    omega
  · rw [y_l_eq, y_il, e1, y_l0]
    omega
  · have b0 : 0 ≤ (x.toInt - zd I (j - 1)) * (zf I j - zf I (j - 1)) := Int.mul_nonneg (by omega) (by omega)
    have b1 : (x.toInt - zd I (j - 1)) * (zf I j - zf I (j - 1)) ≤ 60000 * 99999 := Int.mul_le_mul (by omega) (by omega) (by omega) (by omega)
    have b2 : ((x - I 3 (j - 1)).toInt64 * (I 4 j - I 4 (j - 1)).toInt64).toInt = (x.toInt - zd I (j - 1)) * (zf I j - zf I (j - 1)) := by
      rw [y_mu8 (by rw [y_il, y_il, e2, e3]; omega) (by rw [y_il, y_il, e2, e3]; omega), y_il, y_il, e2, e3]
    have b3 := z_prL (f0 := (I 4 (j - 1)).toInt64) (dd := (I 3 j - I 3 (j - 1)).toInt64) (hh := h.toInt64) (F0 := zf I (j - 1)) (F1 := zf I j) (D0 := zd I (j - 1)) (D1 := zd I j) (x := x.toInt) (h := h.toInt) (y_il _) b2 (by rw [y_il, e1]) (y_il _) a1 (by omega) a3 a5 h5' (by omega) hh0 hh1
    have b4 := zm_line_0 hP (by omega) hx0
    have b5 : zm_seg (zd I) x.toInt p = j := zm_seg_eq hP.2.2.1 h1 h2 h6 h5
    rw [b5] at b4
    have b6 : 0 ≤ zm_on (zd I) (zf I) x.toInt j * h.toInt / 10 := Int.ediv_nonneg (Int.mul_nonneg b4 hh0) (by omega)
    rw [z_prT b3 b6]
    unfold zm_pr
    rw [if_neg (by omega), b5]
    rfl
theorem z_pressFor_loop (X : ZX) (call : ZC) (n ce sl : Nat) (I : Nat → Nat → Int32) (L : Nat → Nat → Int64) (t u r q g : Nat) (st : Nat → Option Nat) (x h : Int32) {p : Nat} (hp : p ≤ 10) (hm : I 2 2 = Int32.ofNat p) (hP : zm_pts (zd I) (zf I) p)
    (hx0 : 0 ≤ x.toInt) (hx1 : x.toInt ≤ 60000) (hh0 : 0 ≤ h.toInt) (hh1 : h.toInt ≤ 99) (k : Nat) : ∀ (j M : Nat), 1 ≤ j → j ≤ p → p - j ≤ k → k < M → (j = 1 ∨ zd I (j - 1) < x.toInt) →
    z_loop X z_cf z_ff (z_pu call) 50 M 12 [(0, .ref 2), (1, .int x), (2, .int h), (3, .int (Int32.ofNat j))] [] (118, n, ce, sl, I, L, z_rr t u r q g st) = some (.inl (some (.int (Int32.ofInt (zm_pr (zd I) (zf I) p x.toInt h.toInt)))), (118, n, ce, sl, I, L, z_rr t u r q g st)) := by
  induction k with
  | zero =>
    intro j M h1 h2 h3 h4 h5
    obtain ⟨M, rfl⟩ : ∃ N, M = N + 1 := ⟨M - 1, by omega⟩
    have ej : j = p := by omega
    obtain ⟨c1, c2, c3⟩ := z_pf_facts hp hP hx0 hx1 hh0 hh1 h1 h2 h5 (Or.inl ej)
    rw [zb_BiteLaw_pressFor_12, if_pos (by rw [hm, ej, y_i_le]; omega), z_ofs (by omega) h1, z_onn (by omega), z_onn (by omega)]
    have i1 : z_in (Int32.ofNat j) 11 = true := z_in_n (by omega) (by omega)
    have i2 : z_in (Int32.ofNat (j - 1)) 11 = true := z_in_n (by omega) (by omega)
    simp only [↓z_gd_of, i1, i2, c1, c2, c3, if_true, if_false, if_neg z_10]
  | succ k ih =>
    intro j M h1 h2 h3 h4 h5
    obtain ⟨M, rfl⟩ : ∃ N, M = N + 1 := ⟨M - 1, by omega⟩
    by_cases h6 : j = p ∨ x.toInt ≤ zd I j
    · obtain ⟨c1, c2, c3⟩ := z_pf_facts hp hP hx0 hx1 hh0 hh1 h1 h2 h5 h6
      rw [zb_BiteLaw_pressFor_12, z_ofs (by omega) h1, z_onn (by omega), z_onn (by omega)]
      have i1 : z_in (Int32.ofNat j) 11 = true := z_in_n (by omega) (by omega)
      have i2 : z_in (Int32.ofNat (j - 1)) 11 = true := z_in_n (by omega) (by omega)
      simp only [↓z_gd_of, i1, i2, c1, c2, c3, if_true, if_false, if_neg z_10]
      split
      · rfl
      · rename_i g
        rw [if_pos]
        rw [y_i_le]
        rcases h6 with h6 | h6
        · rw [hm, h6, y_i_le] at g
          omega
        · exact h6
    · have g1 : ¬ I 2 2 ≤ Int32.ofNat j := by
        rw [hm, y_i_le, y_on (by omega), y_on (by omega)]
        omega
      have g2 : ¬ x ≤ I 3 j := by
        rw [y_i_le]
        simp only [zd] at h6
        omega
      rw [zb_BiteLaw_pressFor_12, if_neg g1, z_onn (by omega), z_in_n (by omega) (by omega), z_gd_t, if_neg g2, z_ofa (by omega)]
      refine ih (j + 1) M (by omega) (by omega) (by omega) (by omega) (Or.inr ?_)
      simp only [zd] at h6 ⊢
      rw [Nat.add_sub_cancel]
      omega
theorem zr_pressFor (X : ZX) (d n ce sl : Nat) (I : Nat → Nat → Int32) (L : Nat → Nat → Int64) (t u r q g : Nat) (st : Nat → Option Nat) (x h : Int32) {p : Nat} (hL : zg_L p I)
    (hx0 : 0 ≤ x.toInt) (hx1 : x.toInt ≤ 60000) (hh0 : 0 ≤ h.toInt) (hh1 : h.toInt ≤ 99) : z_pu (z_run X z_cf z_ff (d + 3)) 50 [.ref 2, .int x, .int h] (118, n, ce, sl, I, L, z_rr t u r q g st) = some (.inl (some (.int (Int32.ofInt (zm_pr (zd I) (zf I) p x.toInt h.toInt)))), (118, n, ce, sl, I, L, z_rr t u r q g st)) := by
  refine z_en X d _ _ [(0, .ref 2), (1, .int x), (2, .int h)] _ _ rfl rfl rfl ?_
  obtain ⟨hp, hm, _, hP, _⟩ := hL
  rw [zb_BiteLaw_pressFor_0]
  by_cases h0 : p = 0
  · rw [if_neg (by rw [hm, h0, y_i_le]; decide), h0]
    rfl
  · rw [if_pos (by rw [hm, y_i_le, y_on (by omega), y_oi (by omega) (by omega)]; omega)]
    exact z_pressFor_loop X _ n ce sl I L t u r q g st x h hp hm hP hx0 hx1 hh0 hh1 p 1 99999999 (Nat.le_refl _) (by omega) (by omega) (by omega) (Or.inl rfl)
theorem z_po_facts {I : Nat → Nat → Int32} {x h : Int32} {p j : Nat} {f0 f1 d0 d1 : Int64} (w : ZW) (hp : p ≤ 10) (hP : zm_pts (zd I) (zf I) p) (hx0 : 0 ≤ x.toInt) (hx1 : x.toInt ≤ 60000) (hh0 : 0 ≤ h.toInt) (hh1 : h.toInt ≤ 99)
    (h1 : 1 ≤ j) (h2 : j ≤ p) (h5 : j = 1 ∨ zd I (j - 1) < x.toInt) (h6 : j = p ∨ x.toInt ≤ zd I j) (k1 : f0.toInt = zf I (j - 1)) (k2 : f1.toInt = zf I j) (k3 : d0.toInt = zd I (j - 1)) (k4 : d1.toInt = zd I j) : ¬ (d1 - d0) = 0 ∧
    (if lg_cmp (((f0 + ((f1 - f0) * (x.toInt64 - d0)) / (d1 - d0)) * h.toInt64) / Int64.ofInt 10) (Int64.ofInt 999999999) ≤ 0 then (some (.inl (some (.int ((((f0 + ((f1 - f0) * (x.toInt64 - d0)) / (d1 - d0)) * h.toInt64) / Int64.ofInt 10).toInt32))), w) : ZR) else some (.inl (some (.int ((Int64.ofInt 999999999).toInt32))), w)) = some (.inl (some (.int (Int32.ofInt (zm_pr (zd I) (zf I) p x.toInt h.toInt)))), w) := by
  obtain ⟨a1, a2, a3, a4, a5, a6⟩ := z_pts_at hP h1 h2
  have h5' : zd I (j - 1) ≤ x.toInt := by
    rcases h5 with h5 | h5
    · rw [h5, show 1 - 1 = 0 from rfl, hP.1]
      exact hx0
    · omega
  have e1 : (d1 - d0).toInt = zd I j - zd I (j - 1) := by
    rw [y_sb8 (by omega) (by omega), k3, k4]
  have e2 : (f1 - f0).toInt = zf I j - zf I (j - 1) := by
    rw [y_sb8 (by omega) (by omega), k1, k2]
  have e3 : (x.toInt64 - d0).toInt = x.toInt - zd I (j - 1) := by
    rw [y_sb8 (by rw [y_il]; omega) (by rw [y_il]; omega), y_il, k3]
  refine ⟨?_, ?_⟩
  · rw [y_l_eq, e1, y_l0]
    omega
  · have b0 : 0 ≤ (x.toInt - zd I (j - 1)) * (zf I j - zf I (j - 1)) := Int.mul_nonneg (by omega) (by omega)
    have b1 : (x.toInt - zd I (j - 1)) * (zf I j - zf I (j - 1)) ≤ 60000 * 99999 := Int.mul_le_mul (by omega) (by omega) (by omega) (by omega)
    have b2 : ((f1 - f0) * (x.toInt64 - d0)).toInt = (x.toInt - zd I (j - 1)) * (zf I j - zf I (j - 1)) := by
      rw [y_mu8 (by rw [e2, e3, Int.mul_comm]; omega) (by rw [e2, e3, Int.mul_comm]; omega), e2, e3, Int.mul_comm]
    have b3 := z_prL (f0 := f0) (dd := d1 - d0) (hh := h.toInt64) (F0 := zf I (j - 1)) (F1 := zf I j) (D0 := zd I (j - 1)) (D1 := zd I j) (x := x.toInt) (h := h.toInt) k1 b2 e1 (y_il _) a1 (by omega) a3 a5 h5' (by omega) hh0 hh1
    have b4 := zm_line_0 hP (by omega) hx0
    have b5 : zm_seg (zd I) x.toInt p = j := zm_seg_eq hP.2.2.1 h1 h2 h6 h5
    rw [b5] at b4
    have b6 : 0 ≤ zm_on (zd I) (zf I) x.toInt j * h.toInt / 10 := Int.ediv_nonneg (Int.mul_nonneg b4 hh0) (by omega)
    have b7 := z_prT b3 b6
    have b8 : zm_pr (zd I) (zf I) p x.toInt h.toInt = min 999999999 (zm_on (zd I) (zf I) x.toInt j * h.toInt / 10) := by
      unfold zm_pr
      rw [if_neg (by omega), b5]
    rw [b8]
    have b9 : ((((f0 + ((f1 - f0) * (x.toInt64 - d0)) / (d1 - d0)) * h.toInt64) / Int64.ofInt 10)).toInt = zm_on (zd I) (zf I) x.toInt j * h.toInt / 10 := b3
    generalize (((f0 + ((f1 - f0) * (x.toInt64 - d0)) / (d1 - d0)) * h.toInt64) / Int64.ofInt 10) = V at *
    unfold lg_cmp
    by_cases g : V > Int64.ofInt 999999999
    · have g' : (999999999 : Int) < V.toInt := by
        have := y_l_lt.mp g
        exact this
      rw [if_pos g, if_neg (by decide)]
      have : min 999999999 (zm_on (zd I) (zf I) x.toInt j * h.toInt / 10) = 999999999 := by omega
      rw [this]
      rfl
    · have g' : V.toInt ≤ (999999999 : Int) := by
        have := fun hh => g (y_l_lt.mpr hh)
        have : ¬ (999999999 : Int) < V.toInt := this
        omega
      rw [if_neg g]
      have e4 : V.toInt32 = Int32.ofInt (min 999999999 (zm_on (zd I) (zf I) x.toInt j * h.toInt / 10)) := by
        refine y_eqi ?_
        rw [y_li _ (by omega) (by omega), b9]
        omega
      rw [e4]
      by_cases g3 : V = Int64.ofInt 999999999
      · rw [if_pos g3, if_pos (by decide)]
      · rw [if_neg g3, if_pos (by decide)]
theorem z_lits : (Int64.ofInt 0).toInt = 0 := rfl
theorem z_of0 : (Int32.ofNat 0 : Int32) = 0 := rfl
theorem z_ofn0 {k : Nat} (h : k ≤ 2147483647) (h1 : 1 ≤ k) : ¬ (Int32.ofNat k : Int32) = 0 := by
  rw [y_i_eq, y_on h, y_i0]
  omega
theorem z_pressOf_loop (X : ZX) (call : ZC) (n ce sl : Nat) (I : Nat → Nat → Int32) (L : Nat → Nat → Int64) (t u r q g : Nat) (st : Nat → Option Nat) (x h : Int32) {p : Nat} (hp0 : 1 ≤ p) (hL : zg_L p I)
    (hx0 : 0 ≤ x.toInt) (hx1 : x.toInt ≤ 60000) (hh0 : 0 ≤ h.toInt) (hh1 : h.toInt ≤ 99) (k : Nat) : ∀ (j M : Nat), j < p → p - j ≤ k + 1 → k < M → (j = 0 ∨ zd I j < x.toInt) →
    z_loop X z_cf z_ff (z_pu call) 171 M 11 [(0, .ref 55), (1, .int x), (2, .int h), (3, .int (Int32.ofNat j))] [] (118, n, ce, sl, I, L, z_rr t u r q g st) = some (.inl (some (.int (Int32.ofInt (zm_pr (zd I) (zf I) p x.toInt h.toInt)))), (118, n, ce, sl, I, L, z_rr t u r q g st)) := by
  have hL' := hL
  obtain ⟨hp, _, hm, hP, hd, hf⟩ := hL'
  induction k with
  | zero =>
    intro j M h2 h3 h4 h5
    obtain ⟨M, rfl⟩ : ∃ N, M = N + 1 := ⟨M - 1, by omega⟩
    have ej : j + 1 = p := by omega
    have c0 : I 55 13 - Int32.ofInt 1 ≤ Int32.ofNat j := by
      rw [hm, z_ofs (by omega) (by omega), y_i_le, y_on (by omega), y_on (by omega)]
      omega
    rcases Nat.eq_zero_or_pos j with hj | hj
    · subst hj
      obtain ⟨c2, c3⟩ := z_po_facts (f0 := Int64.ofInt 0) (f1 := (I 68 0).toInt64) (d0 := Int64.ofInt 0) (d1 := (I 67 0).toInt64) (118, n, ce, sl, I, L, z_rr t u r q g st) hp hP hx0 hx1 hh0 hh1 (j := 1) (Nat.le_refl _) (by omega) (Or.inl rfl) (Or.inl ej) (by rw [z_lits]; exact hP.2.1.symm) (by rw [y_il, hf 0 (by omega)]) (by rw [z_lits]; exact hP.1.symm) (by rw [y_il, hd 0 (by omega)])
      rw [zb_M_pressOf_11, if_pos c0, if_pos z_of0, if_pos z_of0, z_onn (by omega), z_in_n (by omega) (by omega), z_gd_t, z_gd_t, if_neg c2, if_neg z_10]
      exact c3
    · obtain ⟨c2, c3⟩ := z_po_facts (f0 := (I 68 (j - 1)).toInt64) (f1 := (I 68 j).toInt64) (d0 := (I 67 (j - 1)).toInt64) (d1 := (I 67 j).toInt64) (118, n, ce, sl, I, L, z_rr t u r q g st) hp hP hx0 hx1 hh0 hh1 (j := j + 1) (by omega) (by omega) (Or.inr (h5.resolve_left (by omega))) (Or.inl ej) (by rw [y_il, hf (j - 1) (by omega), Nat.sub_add_cancel hj]; rfl) (by rw [y_il, hf j (by omega)]) (by rw [y_il, hd (j - 1) (by omega), Nat.sub_add_cancel hj]; rfl) (by rw [y_il, hd j (by omega)])
      rw [zb_M_pressOf_11, if_pos c0, if_neg (z_ofn0 (by omega) hj), if_neg (z_ofn0 (by omega) hj), z_ofs (by omega) hj, z_onn (by omega), z_onn (by omega), z_in_n (by omega) (by omega), z_in_n (by omega) (by omega), z_gd_t, z_gd_t, z_gd_t, if_neg c2, if_neg z_10]
      exact c3
  | succ k ih =>
    intro j M h2 h3 h4 h5
    obtain ⟨M, rfl⟩ : ∃ N, M = N + 1 := ⟨M - 1, by omega⟩
    by_cases h6 : j + 1 = p ∨ x.toInt ≤ zd I (j + 1)
    · have c0 : ¬ I 55 13 - Int32.ofInt 1 ≤ Int32.ofNat j → x ≤ I 67 j := by
        intro h7
        rw [hm, z_ofs (by omega) (by omega), y_i_le, y_on (by omega), y_on (by omega)] at h7
        rw [y_i_le, hd j h2]
        rcases h6 with h6 | h6
        · omega
        · exact h6
      rcases Nat.eq_zero_or_pos j with hj | hj
      · subst hj
        obtain ⟨c2, c3⟩ := z_po_facts (f0 := Int64.ofInt 0) (f1 := (I 68 0).toInt64) (d0 := Int64.ofInt 0) (d1 := (I 67 0).toInt64) (118, n, ce, sl, I, L, z_rr t u r q g st) hp hP hx0 hx1 hh0 hh1 (j := 1) (Nat.le_refl _) (by omega) (Or.inl rfl) h6 (by rw [z_lits]; exact hP.2.1.symm) (by rw [y_il, hf 0 (by omega)]) (by rw [z_lits]; exact hP.1.symm) (by rw [y_il, hd 0 (by omega)])
        rw [zb_M_pressOf_11]
        by_cases h7 : I 55 13 - Int32.ofInt 1 ≤ Int32.ofNat 0
        · rw [if_pos h7, if_pos z_of0, if_pos z_of0, z_onn (by omega), z_in_n (by omega) (by omega), z_gd_t, z_gd_t, if_neg c2, if_neg z_10]
          exact c3
        · rw [if_neg h7, z_onn (by omega), z_in_n (by omega) (by omega), z_gd_t, if_pos (c0 h7), if_pos z_of0, if_pos z_of0, z_gd_t, z_gd_t, if_neg c2, if_neg z_10]
          exact c3
      · obtain ⟨c2, c3⟩ := z_po_facts (f0 := (I 68 (j - 1)).toInt64) (f1 := (I 68 j).toInt64) (d0 := (I 67 (j - 1)).toInt64) (d1 := (I 67 j).toInt64) (118, n, ce, sl, I, L, z_rr t u r q g st) hp hP hx0 hx1 hh0 hh1 (j := j + 1) (by omega) (by omega) (Or.inr (h5.resolve_left (by omega))) h6 (by rw [y_il, hf (j - 1) (by omega), Nat.sub_add_cancel hj]; rfl) (by rw [y_il, hf j (by omega)]) (by rw [y_il, hd (j - 1) (by omega), Nat.sub_add_cancel hj]; rfl) (by rw [y_il, hd j (by omega)])
        have i1 : z_in (Int32.ofNat j) 10 = true := z_in_n (by omega) (by omega)
        have i2 : z_in (Int32.ofNat (j - 1)) 10 = true := z_in_n (by omega) (by omega)
        rw [zb_M_pressOf_11, z_ofs (by omega) hj, z_onn (by omega), z_onn (by omega)]
        simp only [↓z_gd_of, i1, i2, if_neg (z_ofn0 (show j ≤ 2147483647 by omega) hj), if_neg c2, if_neg z_10]
        by_cases h7 : I 55 13 - Int32.ofInt 1 ≤ Int32.ofNat j
        · rw [if_pos h7]
          exact c3
        · rw [if_neg h7, if_pos (c0 h7)]
          exact c3
    · have g1 : ¬ I 55 13 - Int32.ofInt 1 ≤ Int32.ofNat j := by
        rw [hm, z_ofs (by omega) (by omega), y_i_le, y_on (by omega), y_on (by omega)]
        omega
      have g2 : ¬ x ≤ I 67 j := by
        rw [y_i_le, hd j h2]
        simp only [zd] at h6
        omega
      rw [zb_M_pressOf_11, if_neg g1, z_onn (by omega), z_in_n (by omega) (by omega), z_gd_t, if_neg g2, z_ofa (by omega)]
      refine ih (j + 1) M (by omega) (by omega) (by omega) (Or.inr ?_)
      simp only [zd] at h6 ⊢
      omega
theorem zr_pressOf (X : ZX) (d n ce sl : Nat) (I : Nat → Nat → Int32) (L : Nat → Nat → Int64) (t u r q g : Nat) (st : Nat → Option Nat) (x h : Int32) {p : Nat} (hL : zg_L p I)
    (hx0 : 0 ≤ x.toInt) (hx1 : x.toInt ≤ 60000) (hh0 : 0 ≤ h.toInt) (hh1 : h.toInt ≤ 99) : z_pu (z_run X z_cf z_ff (d + 3)) 171 [.ref 55, .int x, .int h] (118, n, ce, sl, I, L, z_rr t u r q g st) = some (.inl (some (.int (Int32.ofInt (zm_pr (zd I) (zf I) p x.toInt h.toInt)))), (118, n, ce, sl, I, L, z_rr t u r q g st)) := by
  refine z_en X d _ _ [(0, .ref 55), (1, .int x), (2, .int h)] _ _ rfl rfl rfl ?_
  have hm := hL.2.2.1
  rw [zb_M_pressOf_0]
  by_cases h0 : p = 0
  · rw [if_pos (by rw [hm, h0]; rfl), h0]
    rfl
  · rw [if_neg (by rw [hm]; exact z_ofn0 (by have := hL.1; omega) (by omega))]
    exact z_pressOf_loop X _ n ce sl I L t u r q g st x h (by omega) hL hx0 hx1 hh0 hh1 p 0 99999999 (by omega) (by omega) (by have := hL.1; omega) (Or.inl rfl)
