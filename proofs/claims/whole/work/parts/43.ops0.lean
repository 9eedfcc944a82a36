/-! CALLS, 0: conditions as numbers, guards, what a pair of calls is to do -/
theorem y_wm0 (a b c : Int32) : (z_p_M_within a b c = 0) = ¬ (b.toInt ≤ a.toInt ∧ a.toInt ≤ c.toInt) := y_wi0 a b c
theorem y_th0 (a : Int32) : (z_p_X_isThickness a = 0) = ¬ (1 ≤ a.toInt ∧ a.toInt ≤ 60000) := y_wi0 a (Int32.ofInt 1) (Int32.ofInt 60000)
theorem y_ha0 (a : Int32) : (z_p_X_isHardness a = 0) = ¬ (1 ≤ a.toInt ∧ a.toInt ≤ 99) := y_wi0 a (Int32.ofInt 1) (Int32.ofInt 99)
theorem y_mt0 (a : Int32) : (z_p_M_isThick a = 0) = ¬ (1 ≤ a.toInt ∧ a.toInt ≤ 60000) := y_wi0 a (Int32.ofInt 1) (Int32.ofInt 60000)
theorem y_mh0 (a : Int32) : (z_p_M_isHard a = 0) = ¬ (1 ≤ a.toInt ∧ a.toInt ≤ 99) := y_wi0 a (Int32.ofInt 1) (Int32.ofInt 99)
theorem z_gd_in {i : Int32} {n : Nat} (h0 : 0 ≤ i.toInt) (h1 : i.toInt < n) (x : ZR) : z_gd (z_in i n) x = x := z_gd_of (y_in_t h0 h1) x
theorem z_gd_ix {i s : Int32} {m : Nat} (h0 : 0 ≤ i.toInt) (h1 : i.toInt < m) (h5 : m ≤ 5) (hs : s.toInt = m) (x : ZR) : z_gd (z_ix i s m) x = x :=
  z_gd_of (y_ix_T h0 h1 h5 (y_i_eq.mpr (by rw [hs, y_on (by omega)]))) x
theorem z_gd_ok {k m : Nat} (h : k < m) (h5 : k < 5) (lo ce sl : Nat) (I : Nat → Nat → Int32) (L : Nat → Nat → Int64) (R : Nat → Nat → Option Nat) (x : ZR) : z_gd (z_ok (lo, z_sd m, ce, sl, I, L, R) (z_sd k) 10) x = x := z_gd_of (z_okS h h5 lo ce sl I L R) x
theorem y_oi0 : (Int32.ofInt 0).toInt = 0 := rfl
theorem y_oi1 : (Int32.ofInt 1).toInt = 1 := rfl
theorem y_l117 (x : Int64) (L : Nat → Nat → Int64) : (z_up L 117 0 x) 117 0 = x := rfl
/-- a call of the class through the law's helper, and the model's -/
def zOL (X : ZX) (d yL : Nat) (aL : List Value) (yM : Nat) (aM : List Value) (w : ZW) (Q : ZW → Prop) : Prop :=
  ∃ (k b : Int32) (w1 w2 : ZW), z_pu (z_run X z_cf z_ff d) yL aL w = some (.inl (some (.int k)), w1) ∧ z_pu (z_run X z_cf z_ff d) yM aM w1 = some (.inl (some (.int b)), w2) ∧ z_I w2 55 0 = k ∧ (k = 0 → z_L w2 117 0 = b.toInt64) ∧ Q w2
/-- a call of the class that the law asks itself, and the model's -/
def zOX (X : ZX) (d yX : Nat) (aX : List Value) (yM : Nat) (aM : List Value) (w : ZW) (Q : ZW → Prop) : Prop :=
  ∃ (b : Int32) (w1 w2 : ZW), z_pu (z_run X z_cf z_ff d) yX aX w = some (.inl (some (.int b)), w1) ∧ z_pu (z_run X z_cf z_ff d) yM aM w1 = some (.inl (some (.int b)), w2) ∧ Q w2
abbrev zw (m t u r q ce sl : Nat) (I : Nat → Nat → Int32) (L : Nat → Nat → Int64) : ZW := (118, z_sd m, ce, sl, I, L, z_rr t u r q (z_gg m) (z_sf m))
/-- what a pair of calls changes: the cells A, of the model's own fields B, and then G -/
def zFr (A B : List Nat) (I J : Nat → Nat → Int32) : Prop := (∀ a, a < 118 → a ≠ 55 → a ∉ A → J a = I a) ∧ (∀ j, j ≠ 0 → j ∉ B → J 55 j = I 55 j)
def zFs (I J : Nat → Nat → Int32) : Prop := ∀ k, k < 5 → J (z_sd k) = I (z_sd k)
def zQ (m t u r q ce sl : Nat) (I : Nat → Nat → Int32) (L : Nat → Nat → Int64) (A B : List Nat) (G : (Nat → Nat → Int32) → Prop) (w : ZW) : Prop :=
  ∃ (ce' sl' : Nat) (J : Nat → Nat → Int32) (L' : Nat → Nat → Int64), w = zw m t u r q ce' sl' J L' ∧ ce' ≤ ce + 1 ∧ sl' ≤ sl + 6 ∧ zFr A B I J ∧ (∀ a, a ≠ 117 → L' a = L a) ∧ G J
theorem z_up117 (L : Nat → Nat → Int64) (v : Int64) (a : Nat) (h : a ≠ 117) : (z_up L 117 0 v) a = L a := z_up_r L 117 0 a v h
theorem z_up_j {α : Type} (f : Nat → Nat → α) (a k j : Nat) (v : α) (h : j ≠ k) : z_up f a k v a j = f a j := z_up_k f a k j v (z_beq_n h)
theorem y_sbl {x : Int32} {v : Int} (h1 : -2147483648 ≤ v) (h2 : v ≤ 2147483647) (h3 : -2147483648 ≤ x.toInt - v) (h4 : x.toInt - v ≤ 2147483647) : (x - Int32.ofInt v).toInt = x.toInt - v := by
  rw [y_sb (by rw [y_oi h1 h2]; omega) (by rw [y_oi h1 h2]; omega), y_oi h1 h2]
theorem y_lsb {x : Int32} {v : Int} (h1 : -2147483648 ≤ v) (h2 : v ≤ 2147483647) (h3 : -2147483648 ≤ v - x.toInt) (h4 : v - x.toInt ≤ 2147483647) : (Int32.ofInt v - x).toInt = v - x.toInt := by
  rw [y_sb (by rw [y_oi h1 h2]; omega) (by rw [y_oi h1 h2]; omega), y_oi h1 h2]
theorem y_adl {x : Int32} {v : Int} (h1 : -2147483648 ≤ v) (h2 : v ≤ 2147483647) (h3 : -2147483648 ≤ x.toInt + v) (h4 : x.toInt + v ≤ 2147483647) : (x + Int32.ofInt v).toInt = x.toInt + v := by
  rw [y_ad (by rw [y_oi h1 h2]; omega) (by rw [y_oi h1 h2]; omega), y_oi h1 h2]
theorem y_mul {x : Int32} {v : Int} (h1 : -2147483648 ≤ v) (h2 : v ≤ 2147483647) (h3 : -2147483648 ≤ x.toInt * v) (h4 : x.toInt * v ≤ 2147483647) : (x * Int32.ofInt v).toInt = x.toInt * v := by
  rw [y_mu (by rw [y_oi h1 h2]; omega) (by rw [y_oi h1 h2]; omega), y_oi h1 h2]
theorem y_lmu {x : Int32} {v : Int} (h1 : -2147483648 ≤ v) (h2 : v ≤ 2147483647) (h3 : -2147483648 ≤ v * x.toInt) (h4 : v * x.toInt ≤ 2147483647) : (Int32.ofInt v * x).toInt = v * x.toInt := by
  rw [y_mu (by rw [y_oi h1 h2]; omega) (by rw [y_oi h1 h2]; omega), y_oi h1 h2]
theorem zg_S_up {C D m : Nat} {I J : Nat → Nat → Int32} {k : Nat} (h : zg_S C m I) (hC : C ≤ D) (hk : k < m) (hk1 : zg_S1 D J k) (ho : ∀ j, j < 5 → j ≠ k → J (z_sd j) = I (z_sd j)) (hm : ∀ a, 56 ≤ a → a ≤ 66 → ∀ j, j ≠ k → J a j = I a j) (h5 : J 5 2 = I 5 2) (h55 : J 55 1 = I 55 1) : zg_S D m J := by
  obtain ⟨a1, a2, a3, a4, a5⟩ := h
  refine ⟨a1, by rw [h5, a2], by rw [h55, a3], ?_, ?_⟩
  · intro j hj
    by_cases e : j = k
    · rw [e]
      exact hk1
    · have e1 := ho j (by omega) e
      exact zg_S1_fr (a4 j hj) hC (by rw [e1]; exact ⟨rfl, rfl, rfl, rfl, rfl, rfl, rfl, rfl, rfl, rfl, rfl⟩) (fun a g1 g2 => hm a g1 g2 j e)
  · intro j k1 k2 i
    rw [ho j k2 (by omega)]
    exact a5 j k1 k2 i
theorem y_row {α : Type} {I J : Nat → Nat → α} {a b k : Nat} {v : α} (h : I a = J b) : z_up I a k v a = z_up J b k v b := by
  funext j
  show z_c (Nat.beq a a) (z_c (Nat.beq j k) v (I a j)) (I a j) = z_c (Nat.beq b b) (z_c (Nat.beq j k) v (J b j)) (J b j)
  rw [z_beq_s, z_beq_s, h]
theorem y_at {α : Type} (I : Nat → Nat → α) (a k j : Nat) (v : α) : z_up I a k v a j = if j = k then v else I a j := by
  by_cases h : j = k
  · rw [if_pos h, h, z_up_s]
  · rw [if_neg h, z_up_j _ _ _ _ _ h]
theorem zg_O_add {I J : Nat → Nat → Int32} {w h t d : Int32} {k : Nat} (g : zg_O I) (hk : k = (I 41 4).toInt.toNat) (h9 : (I 41 4).toInt < 9) (w0 : 1 ≤ w.toInt) (w1 : w.toInt ≤ 9999) (h0 : 1 ≤ h.toInt) (h1 : h.toInt ≤ 60000) (t0 : 1 ≤ t.toInt) (t1 : t.toInt ≤ 99) (d0 : 0 ≤ d.toInt) (d1 : d.toInt ≤ 999)
    (e1 : J 41 4 = I 41 4 + Int32.ofInt 1) (e2 : J 55 76 = I 55 76 + Int32.ofInt 1) (c1 : J 42 = z_up I 42 k w 42) (c2 : J 43 = z_up I 43 k h 43) (c3 : J 44 = z_up I 44 k t 44) (c4 : J 45 = z_up I 45 k d 45) (m1 : J 100 = z_up I 100 k w 100) (m2 : J 101 = z_up I 101 k h 101) (m3 : J 102 = z_up I 102 k t 102) (m4 : J 103 = z_up I 103 k d 103) : zg_O J := by
  obtain ⟨a1, a2, a3, b1, b2, b3, b4, b5⟩ := g
  have e : (J 41 4).toInt = (I 41 4).toInt + 1 := by rw [e1, z_p1 (by omega)]
  refine ⟨by rw [e1, e2, a1], by omega, by omega, by rw [c1, m1]; exact y_row b1, by rw [c2, m2]; exact y_row b2, by rw [c3, m3]; exact y_row b3, by rw [c4, m4]; exact y_row b4, ?_⟩
  intro j hj
  rw [c1, c2, c3, c4, y_at, y_at, y_at, y_at]
  by_cases hjk : j = k
  · rw [if_pos hjk, if_pos hjk, if_pos hjk, if_pos hjk]
    exact ⟨w0, w1, h0, h1, t0, t1, d0, d1⟩
  · rw [if_neg hjk, if_neg hjk, if_neg hjk, if_neg hjk]
    exact b5 j (by omega)
theorem zg_C_add {I J : Nat → Nat → Int32} {x h : Int32} {k : Nat} (g : zg_C I) (hk : k = (I 22 2).toInt.toNat) (h9 : (I 22 2).toInt < 40) (h0 : 1 ≤ x.toInt) (h1 : x.toInt ≤ 60000) (t0 : 1 ≤ h.toInt) (t1 : h.toInt ≤ 99)
    (e1 : J 22 2 = I 22 2 + Int32.ofInt 1) (e2 : J 55 42 = I 55 42 + Int32.ofInt 1) (c1 : J 23 = z_up I 23 k x 23) (c2 : J 24 = z_up I 24 k h 24) (m1 : J 78 = z_up I 78 k x 78) (m2 : J 79 = z_up I 79 k h 79) : zg_C J := by
  obtain ⟨a1, a2, a3, b1, b2, b3⟩ := g
  have e : (J 22 2).toInt = (I 22 2).toInt + 1 := by rw [e1, z_p1 (by omega)]
  refine ⟨by rw [e1, e2, a1], by omega, by omega, by rw [c1, m1]; exact y_row b1, by rw [c2, m2]; exact y_row b2, ?_⟩
  intro j hj
  rw [c1, c2, y_at, y_at]
  by_cases hjk : j = k
  · rw [if_pos hjk, if_pos hjk]
    exact ⟨h0, h1, t0, t1⟩
  · rw [if_neg hjk, if_neg hjk]
    exact b3 j (by omega)
theorem zg_R_add {I J : Nat → Nat → Int32} {c p x : Int32} {k : Nat} (g : zg_R I) (hk : k = (I 48 6).toInt.toNat) (h9 : (I 48 6).toInt < 100) (h0 : 1 ≤ x.toInt) (h1 : x.toInt ≤ 60000) (t0 : 0 ≤ p.toInt) (t1 : p.toInt ≤ 39)
    (e0 : J 48 0 = I 48 0) (e0' : J 55 89 = I 55 89) (e1 : J 48 6 = I 48 6 + Int32.ofInt 1) (e2 : J 55 90 = I 55 90 + Int32.ofInt 1) (c1 : J 49 = z_up I 49 k c 49) (c2 : J 50 = z_up I 50 k p 50) (c3 : J 51 = z_up I 51 k x 51) (c4 : J 52 = z_up I 52 k (I 55 89) 52) (c5 : J 53 = z_up I 53 k (Int32.ofInt (-1)) 53)
    (m1 : J 111 = z_up I 111 k c 111) (m2 : J 112 = z_up I 112 k p 112) (m3 : J 113 = z_up I 113 k x 113) (m4 : J 114 = z_up I 114 k (I 55 89) 114) (m5 : J 115 = z_up I 115 k (Int32.ofInt (-1)) 115) : zg_R J := by
  obtain ⟨a1, a2, a3, a4, a5, a6, b1, b2, b3, b4, b5, b6⟩ := g
  have e : (J 48 6).toInt = (I 48 6).toInt + 1 := by rw [e1, z_p1 (by omega)]
  refine ⟨by rw [e0, e0', a1], by rw [e0]; exact a2, by rw [e0]; exact a3, by rw [e1, e2, a4], by omega, by omega, by rw [c1, m1]; exact y_row b1, by rw [c2, m2]; exact y_row b2, by rw [c3, m3]; exact y_row b3, by rw [c4, m4]; exact y_row b4, by rw [c5, m5]; exact y_row b5, ?_⟩
  intro j hj
  rw [c2, c3, y_at, y_at]
  by_cases hjk : j = k
  · rw [if_pos hjk, if_pos hjk]
    exact ⟨t0, t1, h0, h1⟩
  · rw [if_neg hjk, if_neg hjk]
    exact b6 j (by omega)
theorem zg_R_fr {I J : Nat → Nat → Int32} (g : zg_R I) (e0 : J 48 0 = I 48 0) (e0' : J 55 89 = I 55 89) (e1 : J 48 6 = I 48 6) (e2 : J 55 90 = I 55 90) (c1 : J 49 = I 49) (c2 : J 50 = I 50) (c3 : J 51 = I 51) (c4 : J 52 = I 52) (c5 : J 53 = I 53) (m1 : J 111 = I 111) (m2 : J 112 = I 112) (m3 : J 113 = I 113) (m4 : J 114 = I 114) (m5 : J 115 = I 115) : zg_R J := by
  unfold zg_R at *
  rw [e0, e0', e1, e2, c1, c2, c3, c4, c5, m1, m2, m3, m4, m5]
  exact g
theorem zg_O_fr {I J : Nat → Nat → Int32} (g : zg_O I) (e1 : J 41 4 = I 41 4) (e2 : J 55 76 = I 55 76) (c1 : J 42 = I 42) (c2 : J 43 = I 43) (c3 : J 44 = I 44) (c4 : J 45 = I 45) (m1 : J 100 = I 100) (m2 : J 101 = I 101) (m3 : J 102 = I 102) (m4 : J 103 = I 103) : zg_O J := by
  unfold zg_O at *
  rw [e1, e2, c1, c2, c3, c4, m1, m2, m3, m4]
  exact g
theorem zg_C_fr {I J : Nat → Nat → Int32} (g : zg_C I) (e1 : J 22 2 = I 22 2) (e2 : J 55 42 = I 55 42) (c1 : J 23 = I 23) (c2 : J 24 = I 24) (m1 : J 78 = I 78) (m2 : J 79 = I 79) : zg_C J := by
  unfold zg_C at *
  rw [e1, e2, c1, c2, m1, m2]
  exact g
theorem zg_T_fr {I J : Nat → Nat → Int32} (g : zg_T I) (e1 : J 0 2 = I 0 2) (e2 : J 55 17 = I 55 17) (c1 : J 6 = I 6) (m1 : J 69 = I 69) : zg_T J := by
  unfold zg_T at *
  rw [e1, e2, c1, m1]
  exact g
theorem zg_P_fr {I J : Nat → Nat → Int32} (g : zg_P I) (e1 : J 30 2 = I 30 2) (e2 : J 55 64 = I 55 64) (c1 : J 31 = I 31) (m1 : J 91 = I 91) : zg_P J := by
  unfold zg_P at *
  rw [e1, e2, c1, m1]
  exact g
theorem zg_K_fr {m : Nat} {I J : Nat → Nat → Int32} (g : zg_K m I) (e1 : J 30 13 = I 30 13) (e2 : J 55 65 = I 55 65) (c1 : J 36 = I 36) (c2 : J 37 = I 37) (c3 : J 38 = I 38) (m1 : J 92 = I 92) (m2 : J 93 = I 93) (m3 : J 94 = I 94) : zg_K m J := by
  unfold zg_K at *
  rw [e1, e2, c1, c2, c3, m1, m2, m3]
  exact g
theorem zg_U_fr {m : Nat} {I J : Nat → Nat → Int32} (g : zg_U m I) (c : J 25 = I 25) (e1 : J 55 48 = I 55 48) (e2 : J 55 55 = I 55 55) (e3 : J 55 43 = I 55 43) (e4 : J 55 44 = I 55 44) (e5 : J 55 45 = I 55 45) (e6 : J 55 46 = I 55 46) (e7 : J 55 47 = I 55 47) (e8 : J 55 54 = I 55 54) (c1 : J 28 = I 28) (c2 : J 26 = I 26) (c3 : J 27 = I 27) (m1 : J 81 = I 81) (m2 : J 80 = I 80) (m3 : J 82 = I 82) (k1 : J 22 2 = I 22 2) (k2 : J 23 = I 23) : zg_U m J := by
  unfold zg_U at *
  rw [c, e1, e2, e3, e4, e5, e6, e7, e8, c1, c2, c3, m1, m2, m3, k1, k2]
  exact g
/-- no run is told -/
theorem zg_U_no {m : Nat} {J : Nat → Nat → Int32} (e1 : J 25 2 = Int32.ofInt 0) (e2 : J 55 48 = Int32.ofInt 0) : zg_U m J := by
  refine ⟨by rw [e1, e2], Or.inl e1, ?_⟩
  intro h
  rw [e1] at h
  exact absurd h (by decide)
theorem zg_L_add {I J : Nat → Nat → Int32} {p : Nat} {x y : Int32} (g : zg_L p I) (h9 : p < 10) (x0 : (I 3 p).toInt < x.toInt) (x1 : x.toInt ≤ 60000) (y0 : (I 4 p).toInt < y.toInt) (y1 : y.toInt ≤ 99999)
    (e1 : J 2 2 = Int32.ofNat p + Int32.ofInt 1) (e2 : J 55 13 = Int32.ofNat p + Int32.ofInt 1) (c1 : J 3 = z_up I 3 (p + 1) x 3) (c2 : J 4 = z_up I 4 (p + 1) y 4) (m1 : J 67 = z_up I 67 p x 67) (m2 : J 68 = z_up I 68 p y 68) : zg_L (p + 1) J := by
  obtain ⟨a1, a2, a3, ⟨b1, b2, b3, b4, b5, b6⟩, b7, b8⟩ := g
  refine ⟨by omega, by rw [e1, z_ofa (by omega)], by rw [e2, z_ofa (by omega)], ⟨?_, ?_, ?_, ?_, ?_, ?_⟩, ?_, ?_⟩
  · simp only [zd, c1, y_at]
    rw [if_neg (by omega)]
    exact b1
  · simp only [zf, c2, y_at]
    rw [if_neg (by omega)]
    exact b2
  · intro k hk
    simp only [zd, c1, y_at]
    rw [if_neg (by omega)]
    by_cases hkp : k = p
    · rw [if_pos (by omega), hkp]
      exact x0
    · rw [if_neg (by omega)]
      exact b3 k (by omega)
  · intro k hk
    simp only [zf, c2, y_at]
    rw [if_neg (by omega)]
    by_cases hkp : k = p
    · rw [if_pos (by omega), hkp]
      exact y0
    · rw [if_neg (by omega)]
      exact b4 k (by omega)
  · intro k hk
    simp only [zd, c1, y_at]
    by_cases hkp : k = p + 1
    · rw [if_pos hkp]
      exact x1
    · rw [if_neg hkp]
      exact b5 k (by omega)
  · intro k hk
    simp only [zf, c2, y_at]
    by_cases hkp : k = p + 1
    · rw [if_pos hkp]
      exact y1
    · rw [if_neg hkp]
      exact b6 k (by omega)
  · intro k hk
    rw [m1, c1, y_at, y_at]
    by_cases hkp : k = p
    · rw [if_pos hkp, if_pos (by omega)]
    · rw [if_neg hkp, if_neg (by omega)]
      exact b7 k (by omega)
  · intro k hk
    rw [m2, c2, y_at, y_at]
    by_cases hkp : k = p
    · rw [if_pos hkp, if_pos (by omega)]
    · rw [if_neg hkp, if_neg (by omega)]
      exact b8 k (by omega)
theorem y_ti0 {x : Int32} {P : Prop} (h : (x = 0) = P) : (x.toInt = 0) = P := by
  rw [← h, y_i_eq, y_i0]
theorem y_wiI (a b c : Int32) : ((z_p_X_within a b c).toInt = 0) = ¬ (b.toInt ≤ a.toInt ∧ a.toInt ≤ c.toInt) := y_ti0 (y_wi0 a b c)
theorem y_wmI (a b c : Int32) : ((z_p_M_within a b c).toInt = 0) = ¬ (b.toInt ≤ a.toInt ∧ a.toInt ≤ c.toInt) := y_ti0 (y_wm0 a b c)
theorem y_thI (a : Int32) : ((z_p_X_isThickness a).toInt = 0) = ¬ (1 ≤ a.toInt ∧ a.toInt ≤ 60000) := y_ti0 (y_th0 a)
theorem y_haI (a : Int32) : ((z_p_X_isHardness a).toInt = 0) = ¬ (1 ≤ a.toInt ∧ a.toInt ≤ 99) := y_ti0 (y_ha0 a)
theorem y_mtI (a : Int32) : ((z_p_M_isThick a).toInt = 0) = ¬ (1 ≤ a.toInt ∧ a.toInt ≤ 60000) := y_ti0 (y_mt0 a)
theorem y_mhI (a : Int32) : ((z_p_M_isHard a).toInt = 0) = ¬ (1 ≤ a.toInt ∧ a.toInt ≤ 99) := y_ti0 (y_mh0 a)
theorem z_gd_inc {k : Int} {n : Nat} (h0 : 0 ≤ k) (h1 : k < n) (h2 : k ≤ 2147483647) (x : ZR) : z_gd (z_in (Int32.ofInt k) n) x = x := z_gd_in (by rw [y_oi (by omega) h2]; exact h0) (by rw [y_oi (by omega) h2]; exact h1) x
theorem z_up_rj {α : Type} (f : Nat → Nat → α) (a k b j : Nat) (v : α) (h : b ≠ a) : z_up f a k v b j = f b j := z_up_a f a k b j v (z_beq_n h)
theorem z_up_stj {α : Type} (f : Nat → Nat → α) (k i a j : Nat) (v : α) (h : a < 118) : z_up f (z_sd k) i v a j = f a j := z_up_a f (z_sd k) i a j v (z_beq_n (by have := z_sd_ge k; omega))
