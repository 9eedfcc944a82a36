/-! PLAN, 11: all rows of the two tables -/
theorem zr_worst_in (X : ZX) (d n0 ce sl : Nat) (I : Nat → Nat → Int32) (t u r q g : Nat) (st : Nat → Option Nat) (T : Nat → Nat → Nat → Int) {s : Nat} (hs : s < 5) (hT : ∀ f, zTok (T s f)) (hI : ∀ f, f < 13 → ∀ k, k < 13 → I 97 (169 * s + 13 * f + k) = Int32.ofInt (T s f k)) (x2 x4 : Int32) (hx4 : x4.toInt = s) (n : Nat) : ∀ (f : Nat) (L : Nat → Nat → Int64) (x5 : Int32), f + n = 13 → x5.toInt = f → (∀ k, k < 13 → (L 95 (13 * (s + 1) + k)).toInt = zNV ∨ 0 ≤ (L 95 (13 * (s + 1) + k)).toInt ∧ (L 95 (13 * (s + 1) + k)).toInt ≤ 1000000000) → ∃ L' : Nat → Nat → Int64, (∀ a, a ≠ 95 → L' a = L a) ∧ (∀ y, (y < 13 * s + f ∨ 13 * s + 13 ≤ y) → L' 95 y = L 95 y) ∧ (∀ y, f ≤ y → y < 13 → zIsW (T s y) (fun k => (L 95 (13 * (s + 1) + k)).toInt) (L' 95 (13 * s + y)).toInt) ∧
    ∀ M, z_loop X z_cf z_ff (z_pu (z_run X z_cf z_ff (d + 3))) 227 (M + 2 * n + 1) 270 [(0, .ref 55), (2, .int x2), (4, .int x4), (5, .int x5)] [] (118, n0, ce, sl, I, L, z_rr t u r q g st) = z_loop X z_cf z_ff (z_pu (z_run X z_cf z_ff (d + 3))) 227 M 262 [(0, .ref 55), (2, .int x2), (4, .int (x4 + Int32.ofInt (-1)))] [] (118, n0, ce, sl, I, L', z_rr t u r q g st) := by
  have h13 : (Int32.ofInt 13).toInt = 13 := rfl
  induction n with
  | zero =>
    intro f L x5 h1 h2 h3
    refine ⟨L, fun _ _ => rfl, fun _ _ => rfl, fun y y1 y2 => by omega, fun M => ?_⟩
    rw [show M + 2 * 0 + 1 = M + 1 by omega, zb_M_plan_270, if_pos (by rw [y_i_le, h13]; omega)]
  | succ n ih =>
    intro f L x5 h1 h2 h3
    have hiy := z_tiy hx4 h2 (by omega) (show f < 13 by omega)
    have hiyn : (Int32.ofInt 13 * x4 + x5).toNatClampNeg = 13 * s + f := by rw [y_tn, hiy]; rfl
    have hin2 : z_in (Int32.ofInt 13 * x4 + x5) 78 = true := y_in_t (by omega) (by omega)
    obtain ⟨v, v1, v2⟩ := zr_leastWorst X d n0 ce sl I L t u r q g st hs (show f < 13 by omega) (T s f) (fun k => (L 95 (13 * (s + 1) + k)).toInt) (hT f) (hI f (by omega)) (fun k _ => rfl) h3 x4 x5 hx4 h2
    have hrow : ∀ k, k < 13 → z_up L 95 (13 * s + f) v 95 (13 * (s + 1) + k) = L 95 (13 * (s + 1) + k) := fun k hk => z_up_j _ _ _ _ _ (by omega)
    obtain ⟨L', g1, g2, g3, g4⟩ := ih (f + 1) (z_up L 95 (13 * s + f) v) (x5 + Int32.ofInt 1) (by omega) (by rw [y_adl (by omega) (by omega) (by omega) (by omega)]; omega) (fun k hk => by rw [hrow k hk]; exact h3 k hk)
    refine ⟨L', fun a ha => by rw [g1 a ha, z_up_r _ _ _ _ _ ha], ?_, ?_, fun M => ?_⟩
    · intro y hy
      rw [g2 y (by omega), z_up_j _ _ _ _ _ (by omega)]
    · intro y y1 y2
      by_cases c : y = f
      · subst c
        rw [g2 _ (by omega), z_up_s]
        exact v2
      · have := g3 y (by omega) y2
        unfold zIsW at *
        refine ⟨fun k k1 k2 k3 => ?_, ?_⟩
        · have e := this.1 k k1 k2 (by show (z_up L 95 (13 * s + f) v 95 (13 * (s + 1) + k)).toInt ≠ zNV; rw [hrow k k1]; exact k3)
          have e' : (L' 95 (13 * s + y)).toInt ≤ max (T s y k) (z_up L 95 (13 * s + f) v 95 (13 * (s + 1) + k)).toInt := e
          rw [hrow k k1] at e'
          exact e'
        · rcases this.2 with e | ⟨k, k1, k2, k3, k4⟩
          · exact Or.inl e
          · have k3' : (z_up L 95 (13 * s + f) v 95 (13 * (s + 1) + k)).toInt ≠ zNV := k3
            have k4' : (L' 95 (13 * s + y)).toInt = max (T s y k) (z_up L 95 (13 * s + f) v 95 (13 * (s + 1) + k)).toInt := k4
            rw [hrow k k1] at k3' k4'
            exact Or.inr ⟨k, k1, k2, k3', k4'⟩
    · rw [show M + 2 * (n + 1) + 1 = (M + 2 * n + 1) + 1 + 1 by omega, zb_M_plan_270, if_neg (by rw [y_i_le, h13]; omega), v1, z_bl_v, zb_M_plan_297, hin2, z_gd_t, hiyn]
      exact g4 M
theorem zr_worst (X : ZX) (d n0 ce sl : Nat) (I : Nat → Nat → Int32) (t u r q g : Nat) (st : Nat → Option Nat) (T : Nat → Nat → Nat → Int) {m : Nat} (h5 : m ≤ 5) (hT : ∀ s, s < m → ∀ f, zTok (T s f)) (hI : ∀ s, s < m → ∀ f, f < 13 → ∀ k, k < 13 → I 97 (169 * s + 13 * f + k) = Int32.ofInt (T s f k)) (x2 : Int32) (n : Nat) : n ≤ m → ∀ (L : Nat → Nat → Int64) (x4 : Int32), x4.toInt = (n : Int) - 1 → (∀ s, n ≤ s → s ≤ m → ∀ k, k < 13 → (L 95 (13 * s + k)).toInt = zNV ∨ 0 ≤ (L 95 (13 * s + k)).toInt ∧ (L 95 (13 * s + k)).toInt ≤ 9999999 * ((m - s : Nat) : Int)) → ∃ (L' : Nat → Nat → Int64) (x4' : Int32), x4'.toInt = -1 ∧ (∀ a, a ≠ 95 → L' a = L a) ∧ (∀ y, 13 * n ≤ y → L' 95 y = L 95 y) ∧ (∀ s, s < n → ∀ f, f < 13 → zIsW (T s f) (fun k => (L' 95 (13 * (s + 1) + k)).toInt) (L' 95 (13 * s + f)).toInt) ∧ (∀ s, s ≤ m → ∀ k, k < 13 → (L' 95 (13 * s + k)).toInt = zNV ∨ 0 ≤ (L' 95 (13 * s + k)).toInt ∧ (L' 95 (13 * s + k)).toInt ≤ 9999999 * ((m - s : Nat) : Int)) ∧
    ∀ M, z_loop X z_cf z_ff (z_pu (z_run X z_cf z_ff (d + 3))) 227 (M + 28 * n) 262 [(0, .ref 55), (2, .int x2), (4, .int x4)] [] (118, n0, ce, sl, I, L, z_rr t u r q g st) = z_loop X z_cf z_ff (z_pu (z_run X z_cf z_ff (d + 3))) 227 M 262 [(0, .ref 55), (2, .int x2), (4, .int x4')] [] (118, n0, ce, sl, I, L', z_rr t u r q g st) := by
  have hNV : zNV = 1000000000000000 := rfl
  induction n with
  | zero =>
    intro _ L x4 h1 h2
    exact ⟨L, x4, by omega, fun _ _ => rfl, fun _ _ => rfl, fun s hs => by omega, fun s hs => h2 s (by omega) hs, fun M => rfl⟩
  | succ n ih =>
    intro hn L x4 h1 h2
    have hx4 : x4.toInt = (n : Int) := by omega
    obtain ⟨L1, f1, f2, f3, f4⟩ := zr_worst_in X d n0 ce sl I t u r q g st T (s := n) (by omega) (hT n (by omega)) (hI n (by omega)) x2 x4 hx4 13 0 L (Int32.ofInt 0) (by omega) rfl (fun k hk => by have := h2 (n + 1) (by omega) (by omega) k hk; omega)
    have hx4' : (x4 + Int32.ofInt (-1)).toInt = (n : Int) - 1 := by rw [y_adl (by omega) (by omega) (by omega) (by omega)]; omega
    have up : ∀ y, 13 * (n + 1) ≤ y → L1 95 y = L 95 y := fun y hy => f2 y (by omega)
    have rng : ∀ k, k < 13 → (L1 95 (13 * n + k)).toInt = zNV ∨ 0 ≤ (L1 95 (13 * n + k)).toInt ∧ (L1 95 (13 * n + k)).toInt ≤ 9999999 * ((m - n : Nat) : Int) := by
      intro k hk
      rcases (f3 k (by omega) hk).2 with e | ⟨j, j1, j2, j3, j4⟩
      · exact Or.inl e
      · have e' : (L1 95 (13 * n + k)).toInt = max (T n k j) (L 95 (13 * (n + 1) + j)).toInt := j4
        have a1 := h2 (n + 1) (by omega) (by omega) j j1
        have a2 := hT n (by omega) k j
        have a3 : (L 95 (13 * (n + 1) + j)).toInt ≠ zNV := j3
        omega
    obtain ⟨L', x4', g0, g1, g2, g3, g4, g5⟩ := ih (by omega) L1 (x4 + Int32.ofInt (-1)) hx4' (by
      intro s s1 s2 k hk
      by_cases c : s = n
      · subst c
        exact rng k hk
      · rw [up _ (by omega)]
        exact h2 s (by omega) s2 k hk)
    refine ⟨L', x4', g0, fun a ha => by rw [g1 a ha, f1 a ha], fun y hy => by rw [g2 y (by omega), up y hy], ?_, g4, fun M => ?_⟩
    · intro s s1 f s2
      by_cases c : s = n
      · subst c
        have e := f3 f (by omega) s2
        rw [g2 (13 * s + f) (by omega)]
        have ew : (fun k => (L' 95 (13 * (s + 1) + k)).toInt) = fun k => (L 95 (13 * (s + 1) + k)).toInt := by
          funext k
          rw [g2 _ (by omega), up _ (by omega)]
        rw [ew]
        exact e
      · exact g3 s (by omega) f s2
    · rw [show M + 28 * (n + 1) = (M + 28 * n + 2 * 13 + 1) + 1 by omega, zb_M_plan_262, if_neg (by rw [y_i_lt, y_i0]; omega), f4, g5]
theorem zr_sums_in (X : ZX) (d n0 ce sl : Nat) (I : Nat → Nat → Int32) (t u r q g : Nat) (st : Nat → Option Nat) (T : Nat → Nat → Nat → Int) {s : Nat} (hs : s < 5) (hT : ∀ f, zTok (T s f)) (hI : ∀ f, f < 13 → ∀ k, k < 13 → I 97 (169 * s + 13 * f + k) = Int32.ofInt (T s f k)) (x2 x4 : Int32) (xb : Int64) (hx4 : x4.toInt = s) (n : Nat) : ∀ (f : Nat) (L : Nat → Nat → Int64) (x5 : Int32), f + n = 13 → x5.toInt = f → (∀ k, k < 13 → (L 96 (13 * (s + 1) + k)).toInt = zNV ∨ 0 ≤ (L 96 (13 * (s + 1) + k)).toInt ∧ (L 96 (13 * (s + 1) + k)).toInt ≤ 1000000000) → ∃ L' : Nat → Nat → Int64, (∀ a, a ≠ 96 → L' a = L a) ∧ (∀ y, (y < 13 * s + f ∨ 13 * s + 13 ≤ y) → L' 96 y = L 96 y) ∧ (∀ y, f ≤ y → y < 13 → zIsS xb.toInt (T s y) (fun k => (L 96 (13 * (s + 1) + k)).toInt) (L' 96 (13 * s + y)).toInt) ∧
    ∀ M, z_loop X z_cf z_ff (z_pu (z_run X z_cf z_ff (d + 3))) 227 (M + 2 * n + 1) 346 [(0, .ref 55), (2, .int x2), (4, .long xb), (6, .int x4), (7, .int x5)] [] (118, n0, ce, sl, I, L, z_rr t u r q g st) = z_loop X z_cf z_ff (z_pu (z_run X z_cf z_ff (d + 3))) 227 M 338 [(0, .ref 55), (2, .int x2), (4, .long xb), (6, .int (x4 + Int32.ofInt (-1)))] [] (118, n0, ce, sl, I, L', z_rr t u r q g st) := by
  have h13 : (Int32.ofInt 13).toInt = 13 := rfl
  induction n with
  | zero =>
    intro f L x5 h1 h2 h3
    refine ⟨L, fun _ _ => rfl, fun _ _ => rfl, fun y y1 y2 => by omega, fun M => ?_⟩
    rw [show M + 2 * 0 + 1 = M + 1 by omega, zb_M_plan_346, if_pos (by rw [y_i_le, h13]; omega)]
  | succ n ih =>
    intro f L x5 h1 h2 h3
    have hiy := z_tiy hx4 h2 (by omega) (show f < 13 by omega)
    have hiyn : (Int32.ofInt 13 * x4 + x5).toNatClampNeg = 13 * s + f := by rw [y_tn, hiy]; rfl
    have hin2 : z_in (Int32.ofInt 13 * x4 + x5) 78 = true := y_in_t (by omega) (by omega)
    obtain ⟨v, v1, v2⟩ := zr_leastSum X d n0 ce sl I L t u r q g st hs (show f < 13 by omega) (T s f) (fun k => (L 96 (13 * (s + 1) + k)).toInt) (hT f) (hI f (by omega)) (fun k _ => rfl) h3 x4 x5 xb hx4 h2
    have hrow : ∀ k, k < 13 → z_up L 96 (13 * s + f) v 96 (13 * (s + 1) + k) = L 96 (13 * (s + 1) + k) := fun k hk => z_up_j _ _ _ _ _ (by omega)
    obtain ⟨L', g1, g2, g3, g4⟩ := ih (f + 1) (z_up L 96 (13 * s + f) v) (x5 + Int32.ofInt 1) (by omega) (by rw [y_adl (by omega) (by omega) (by omega) (by omega)]; omega) (fun k hk => by rw [hrow k hk]; exact h3 k hk)
    refine ⟨L', fun a ha => by rw [g1 a ha, z_up_r _ _ _ _ _ ha], ?_, ?_, fun M => ?_⟩
    · intro y hy
      rw [g2 y (by omega), z_up_j _ _ _ _ _ (by omega)]
    · intro y y1 y2
      by_cases c : y = f
      · subst c
        rw [g2 _ (by omega), z_up_s]
        exact v2
      · have := g3 y (by omega) y2
        unfold zIsS at *
        refine ⟨fun k k1 k2 kb k3 => ?_, ?_⟩
        · have e := this.1 k k1 k2 kb (by show (z_up L 96 (13 * s + f) v 96 (13 * (s + 1) + k)).toInt ≠ zNV; rw [hrow k k1]; exact k3)
          have e' : (L' 96 (13 * s + y)).toInt ≤ T s y k + (z_up L 96 (13 * s + f) v 96 (13 * (s + 1) + k)).toInt := e
          rw [hrow k k1] at e'
          exact e'
        · rcases this.2 with e | ⟨k, k1, k2, kb, k3, k4⟩
          · exact Or.inl e
          · have k3' : (z_up L 96 (13 * s + f) v 96 (13 * (s + 1) + k)).toInt ≠ zNV := k3
            have k4' : (L' 96 (13 * s + y)).toInt = T s y k + (z_up L 96 (13 * s + f) v 96 (13 * (s + 1) + k)).toInt := k4
            rw [hrow k k1] at k3' k4'
            exact Or.inr ⟨k, k1, k2, kb, k3', k4'⟩
    · rw [show M + 2 * (n + 1) + 1 = (M + 2 * n + 1) + 1 + 1 by omega, zb_M_plan_346, if_neg (by rw [y_i_le, h13]; omega), v1, z_bl_v, zb_M_plan_375, hin2, z_gd_t, hiyn]
      exact g4 M
theorem zr_sums (X : ZX) (d n0 ce sl : Nat) (I : Nat → Nat → Int32) (t u r q g : Nat) (st : Nat → Option Nat) (T : Nat → Nat → Nat → Int) {m : Nat} (h5 : m ≤ 5) (hT : ∀ s, s < m → ∀ f, zTok (T s f)) (hI : ∀ s, s < m → ∀ f, f < 13 → ∀ k, k < 13 → I 97 (169 * s + 13 * f + k) = Int32.ofInt (T s f k)) (x2 : Int32) (xb : Int64) (n : Nat) : n ≤ m → ∀ (L : Nat → Nat → Int64) (x4 : Int32), x4.toInt = (n : Int) - 1 → (∀ s, n ≤ s → s ≤ m → ∀ k, k < 13 → (L 96 (13 * s + k)).toInt = zNV ∨ 0 ≤ (L 96 (13 * s + k)).toInt ∧ (L 96 (13 * s + k)).toInt ≤ 9999999 * ((m - s : Nat) : Int)) → ∃ (L' : Nat → Nat → Int64) (x4' : Int32), x4'.toInt = -1 ∧ (∀ a, a ≠ 96 → L' a = L a) ∧ (∀ y, 13 * n ≤ y → L' 96 y = L 96 y) ∧ (∀ s, s < n → ∀ f, f < 13 → zIsS xb.toInt (T s f) (fun k => (L' 96 (13 * (s + 1) + k)).toInt) (L' 96 (13 * s + f)).toInt) ∧ (∀ s, s ≤ m → ∀ k, k < 13 → (L' 96 (13 * s + k)).toInt = zNV ∨ 0 ≤ (L' 96 (13 * s + k)).toInt ∧ (L' 96 (13 * s + k)).toInt ≤ 9999999 * ((m - s : Nat) : Int)) ∧
    ∀ M, z_loop X z_cf z_ff (z_pu (z_run X z_cf z_ff (d + 3))) 227 (M + 28 * n) 338 [(0, .ref 55), (2, .int x2), (4, .long xb), (6, .int x4)] [] (118, n0, ce, sl, I, L, z_rr t u r q g st) = z_loop X z_cf z_ff (z_pu (z_run X z_cf z_ff (d + 3))) 227 M 338 [(0, .ref 55), (2, .int x2), (4, .long xb), (6, .int x4')] [] (118, n0, ce, sl, I, L', z_rr t u r q g st) := by
  have hNV : zNV = 1000000000000000 := rfl
  induction n with
  | zero =>
    intro _ L x4 h1 h2
    exact ⟨L, x4, by omega, fun _ _ => rfl, fun _ _ => rfl, fun s hs => by omega, fun s hs => h2 s (by omega) hs, fun M => rfl⟩
  | succ n ih =>
    intro hn L x4 h1 h2
    have hx4 : x4.toInt = (n : Int) := by omega
    obtain ⟨L1, f1, f2, f3, f4⟩ := zr_sums_in X d n0 ce sl I t u r q g st T (s := n) (by omega) (hT n (by omega)) (hI n (by omega)) x2 x4 xb hx4 13 0 L (Int32.ofInt 0) (by omega) rfl (fun k hk => by have := h2 (n + 1) (by omega) (by omega) k hk; omega)
    have hx4' : (x4 + Int32.ofInt (-1)).toInt = (n : Int) - 1 := by rw [y_adl (by omega) (by omega) (by omega) (by omega)]; omega
    have up : ∀ y, 13 * (n + 1) ≤ y → L1 96 y = L 96 y := fun y hy => f2 y (by omega)
    have rng : ∀ k, k < 13 → (L1 96 (13 * n + k)).toInt = zNV ∨ 0 ≤ (L1 96 (13 * n + k)).toInt ∧ (L1 96 (13 * n + k)).toInt ≤ 9999999 * ((m - n : Nat) : Int) := by
      intro k hk
      rcases (f3 k (by omega) hk).2 with e | ⟨j, j1, j2, jb, j3, j4⟩
      · exact Or.inl e
      · have e' : (L1 96 (13 * n + k)).toInt = T n k j + (L 96 (13 * (n + 1) + j)).toInt := j4
        have a1 := h2 (n + 1) (by omega) (by omega) j j1
        have a2 := hT n (by omega) k j
        have a3 : (L 96 (13 * (n + 1) + j)).toInt ≠ zNV := j3
        omega
    obtain ⟨L', x4', g0, g1, g2, g3, g4, g5⟩ := ih (by omega) L1 (x4 + Int32.ofInt (-1)) hx4' (by
      intro s s1 s2 k hk
      by_cases c : s = n
      · subst c
        exact rng k hk
      · rw [up _ (by omega)]
        exact h2 s (by omega) s2 k hk)
    refine ⟨L', x4', g0, fun a ha => by rw [g1 a ha, f1 a ha], fun y hy => by rw [g2 y (by omega), up y hy], ?_, g4, fun M => ?_⟩
    · intro s s1 f s2
      by_cases c : s = n
      · subst c
        have e := f3 f (by omega) s2
        rw [g2 (13 * s + f) (by omega)]
        have ew : (fun k => (L' 96 (13 * (s + 1) + k)).toInt) = fun k => (L 96 (13 * (s + 1) + k)).toInt := by
          funext k
          rw [g2 _ (by omega), up _ (by omega)]
        rw [ew]
        exact e
      · exact g3 s (by omega) f s2
    · rw [show M + 28 * (n + 1) = (M + 28 * n + 2 * 13 + 1) + 1 by omega, zb_M_plan_338, if_neg (by rw [y_i_lt, y_i0]; omega), f4, g5]
