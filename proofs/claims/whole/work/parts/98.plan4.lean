/-! PLAN, 4: steps in their order, and the table of presses, in the class -/
def zPF (I J : Nat → Nat → Int32) : Prop := (∀ a, (a < 30 ∨ 38 < a) → a ≠ 55 → (a < 91 ∨ 97 < a) → J a = I a) ∧ J 55 1 = I 55 1 ∧ J 55 13 = I 55 13
theorem zPF_refl (I : Nat → Nat → Int32) : zPF I I := ⟨fun _ _ _ _ => rfl, rfl, rfl⟩
theorem zPF_trans {I J K : Nat → Nat → Int32} (h : zPF I J) (g : zPF J K) : zPF I K := ⟨fun a a1 a2 a3 => by rw [g.1 a a1 a2 a3, h.1 a a1 a2 a3], by rw [g.2.1, h.2.1], by rw [g.2.2, h.2.2]⟩
theorem zPF_sd {I J : Nat → Nat → Int32} (h : zPF I J) (k : Nat) : J (z_sd k) = I (z_sd k) := h.1 _ (by have := z_sd_ge k; omega) (by have := z_sd_ge k; omega) (by have := z_sd_ge k; omega)
theorem zPF_S {C m : Nat} {I J : Nat → Nat → Int32} (h : zPF I J) (hS : zg_S C m I) : zg_S C m J := zg_S_fr hS (Nat.le_refl _) (fun k _ => zPF_sd h k) (by rw [h.1 5 (by omega) (by omega) (by omega)]) h.2.1 (fun a a1 a2 => h.1 a (by omega) (by omega) (by omega))
theorem zPF_L {p : Nat} {I J : Nat → Nat → Int32} (h : zPF I J) (hL : zg_L p I) : zg_L p J := zg_L_fr hL (by rw [h.1 2 (by omega) (by omega) (by omega)]) (h.1 3 (by omega) (by omega) (by omega)) (h.1 4 (by omega) (by omega) (by omega)) h.2.2 (h.1 67 (by omega) (by omega) (by omega)) (h.1 68 (by omega) (by omega) (by omega))
theorem zPF_hs {I J : Nat → Nat → Int32} (h : zPF I J) (n : Nat) : zhs J n = zhs I n := by
  induction n with
  | zero => rfl
  | succ n ih =>
    show zhs J n + (J (z_sd n) 7).toInt = zhs I n + (I (z_sd n) 7).toInt
    rw [ih, zPF_sd h]
theorem zPF_hw {I J : Nat → Nat → Int32} (h : zPF I J) (h0 : Int32) (n : Nat) : zhw J h0 n = zhw I h0 n := by
  unfold zhw
  rw [zPF_hs h]
theorem zPF_d {I J : Nat → Nat → Int32} (h : zPF I J) : zd J = zd I ∧ zf J = zf I := by
  have h3 := h.1 3 (by omega) (by omega) (by omega)
  have h4 := h.1 4 (by omega) (by omega) (by omega)
  unfold zd zf
  rw [h3, h4]
  exact ⟨rfl, rfl⟩
theorem zPF_gp {I J : Nat → Nat → Int32} (h : zPF I J) (p s : Nat) (h0 : Int32) (w v : Int) : zgp J p s h0 w v = zgp I p s h0 w v := by
  unfold zgp
  rw [(zPF_d h).1, (zPF_d h).2, zPF_hw h, h.1 56 (by omega) (by omega) (by omega), h.1 58 (by omega) (by omega) (by omega), h.1 59 (by omega) (by omega) (by omega), h.1 65 (by omega) (by omega) (by omega)]
theorem zPF_pp {I J : Nat → Nat → Int32} (h : zPF I J) (p s : Nat) (h0 : Int32) (w v : Int) : zpp J p s h0 w v = zpp I p s h0 w v := by
  unfold zpp
  rw [zPF_gp h, (zPF_d h).1, (zPF_d h).2, zPF_hw h, h.1 57 (by omega) (by omega) (by omega)]
/-- a place for a pass among the steps -/
theorem zr_place (X : ZX) (call : ZC) (n0 ce sl : Nat) (L : Nat → Nat → Int64) (t u r q g : Nat) (st : Nat → Option Nat) (x1 x2 : Int32) (k : Nat) (hk : k < 12) (hx2 : x2.toInt = k) (b : Nat) : ∀ (J : Nat → Nat → Int32) (x3 : Int32), 1 ≤ b → b ≤ 12 → x3.toInt = b → ∃ (K : Nat → Nat → Int32) (a : Nat),
    (∀ M, z_loop X z_cf z_ff (z_pu call) 102 (M + b) 46 [(0, .ref 30), (1, .int x1), (2, .int x2), (3, .int x3)] [] (118, n0, ce, sl, J, L, z_rr t u r q g st) = z_loop X z_cf z_ff (z_pu call) 102 (M + a - 1) 14 [(0, .ref 30), (1, .int x1), (2, .int (x2 + Int32.ofInt 1))] [] (118, n0, ce, sl, K, L, z_rr t u r q g st)) ∧
    (∀ c, c ≠ 30 → c ≠ 32 → K c = J c) ∧ (∀ i, i ≠ 4 → K 30 i = J 30 i) ∧ K 30 4 = J 30 4 + Int32.ofInt 1 ∧ 1 ≤ a ∧ a ≤ b ∧ K 32 a = J 31 k ∧ (∀ i, i < a → K 32 i = J 32 i) ∧ (∀ i, a < i → i ≤ b → K 32 i = J 32 (i - 1)) ∧ (∀ i, a ≤ i → i < b → (J 32 i).toInt < (J 31 k).toInt) ∧ (a = 1 ∨ (J 31 k).toInt ≤ (J 32 (a - 1)).toInt) ∧ (∀ i, b < i → K 32 i = J 32 i) := by
  have hin2 : z_in x2 12 = true := y_in_t (by omega) (by omega)
  have hx2n : x2.toNatClampNeg = k := by rw [y_tn, hx2]; rfl
  have h1 : (Int32.ofInt 1).toInt = 1 := rfl
  -- a place that is found
  have here : ∀ (J : Nat → Nat → Int32) (b : Nat) (x3 : Int32), 1 ≤ b → b ≤ 12 → x3.toInt = b → (b = 1 ∨ (J 31 k).toInt ≤ (J 32 (b - 1)).toInt) → ∃ K : Nat → Nat → Int32, K = z_up (z_up J 32 x3.toNatClampNeg (J 31 x2.toNatClampNeg)) 30 4 (J 30 4 + Int32.ofInt 1) ∧
      (∀ c, c ≠ 30 → c ≠ 32 → K c = J c) ∧ (∀ i, i ≠ 4 → K 30 i = J 30 i) ∧ K 30 4 = J 30 4 + Int32.ofInt 1 ∧ 1 ≤ b ∧ b ≤ b ∧ K 32 b = J 31 k ∧ (∀ i, i < b → K 32 i = J 32 i) ∧ (∀ i, b < i → i ≤ b → K 32 i = J 32 (i - 1)) ∧ (∀ i, b ≤ i → i < b → (J 32 i).toInt < (J 31 k).toInt) ∧ (b = 1 ∨ (J 31 k).toInt ≤ (J 32 (b - 1)).toInt) ∧ (∀ i, b < i → K 32 i = J 32 i) := by
    intro J b x3 b1 b2 b3 b4
    have hx3n : x3.toNatClampNeg = b := by rw [y_tn, b3]; rfl
    refine ⟨_, rfl, ?_, ?_, ?_, b1, Nat.le_refl _, ?_, ?_, fun i i1 i2 => by omega, fun i i1 i2 => by omega, b4, ?_⟩
    · intro c c1 c2
      rw [z_up_r _ _ _ _ _ c1, z_up_r _ _ _ _ _ c2]
    · intro i hi
      rw [z_up_j _ _ _ _ _ hi, z_up_r _ _ _ _ _ (by omega)]
    · rw [z_up_s]
    · rw [z_up_r _ _ _ _ _ (by omega), hx3n, hx2n, z_up_s]
    · intro i hi
      rw [z_up_r _ _ _ _ _ (by omega), hx3n, z_up_j _ _ _ _ _ (by omega)]
    · intro i hi
      rw [z_up_r _ _ _ _ _ (by omega), hx3n, z_up_j _ _ _ _ _ (by omega)]
  induction b with
  | zero => intro J x3 b1; omega
  | succ b ih =>
    intro J x3 b1 b2 b3
    have hin3 : z_in x3 13 = true := y_in_t (by omega) (by omega)
    have hx3n : x3.toNatClampNeg = b + 1 := by rw [y_tn, b3]; omega
    by_cases c : b = 0
    · subst c
      obtain ⟨K, hK, hh⟩ := here J 1 x3 (by omega) (by omega) (by omega) (Or.inl rfl)
      refine ⟨K, 1, fun M => ?_, hh⟩
      rw [show M + (0 + 1) = M + 1 by omega, zb_Planner_setSteps_46, if_pos (by rw [y_i_le, h1]; omega), hin2, z_gd_t, hin3, z_gd_t, ← hK, show M + 1 - 1 = M from rfl]
    · have e3 : (x3 - Int32.ofInt 1).toInt = b := by rw [y_sbl (by omega) (by omega) (by omega) (by omega)]; omega
      have e3n : (x3 - Int32.ofInt 1).toNatClampNeg = b := by rw [y_tn, e3]; rfl
      have hin31 : z_in (x3 - Int32.ofInt 1) 13 = true := y_in_t (by omega) (by omega)
      by_cases c2 : (J 31 k).toInt ≤ (J 32 b).toInt
      · obtain ⟨K, hK, hh⟩ := here J (b + 1) x3 (by omega) (by omega) b3 (Or.inr c2)
        refine ⟨K, b + 1, fun M => ?_, hh⟩
        rw [show M + (b + 1) = (M + b) + 1 by omega, zb_Planner_setSteps_46, if_neg (by rw [y_i_le, h1]; omega), hin31, z_gd_t, hin2, z_gd_t, e3n, if_pos (by rw [y_i_le, hx2n]; exact c2), z_gd_t, hin3, z_gd_t, ← hK, show M + b + 1 - 1 = M + b from rfl]
      · obtain ⟨x4, hx4⟩ : ∃ x4, x4 = x3 + Int32.ofInt (-1) := ⟨_, rfl⟩
        have em : x4.toInt = b := by rw [hx4, y_adl (by omega) (by omega) (by omega) (by omega)]; omega
        obtain ⟨K, a, g1, g2, g3, g4, g5, g6, g7, g8, g9, g10, g11, g12⟩ := ih (z_up J 32 (b + 1) (J 32 b)) x4 (by omega) (by omega) em
        have e31 : z_up J 32 (b + 1) (J 32 b) 31 = J 31 := z_up_r _ _ _ _ _ (by omega)
        have e30 : z_up J 32 (b + 1) (J 32 b) 30 = J 30 := z_up_r _ _ _ _ _ (by omega)
        have e32 : ∀ i, i ≠ b + 1 → z_up J 32 (b + 1) (J 32 b) 32 i = J 32 i := fun i hi => z_up_j _ _ _ _ _ hi
        rw [e31] at g7 g10 g11
        rw [e30] at g3 g4
        refine ⟨K, a, fun M => (by rw [show M + (b + 1) = (M + b) + 1 by omega, zb_Planner_setSteps_46, if_neg (by rw [y_i_le, h1]; omega), hin31, z_gd_t, hin2, z_gd_t, e3n, if_neg (by rw [y_i_le, hx2n]; exact c2), z_gd_t, hin3, z_gd_t, hx3n, ← hx4]; exact g1 M), ?_, g3, g4, g5, by omega, g7, ?_, ?_, ?_, ?_, ?_⟩
        · intro x h1 h2
          rw [g2 x h1 h2, z_up_r _ _ _ _ _ h2]
        · intro i hi
          rw [g8 i hi, e32 i (by omega)]
        · intro i i1 i2
          by_cases ci : i = b + 1
          · subst ci
            rw [g12 (b + 1) (by omega), z_up_s]
            rfl
          · rw [g9 i i1 (by omega), e32 (i - 1) (by omega)]
        · intro i i1 i2
          by_cases ci : i = b
          · subst ci
            omega
          · have := g10 i i1 (by omega)
            rw [e32 i (by omega)] at this
            exact this
        · rcases g11 with g11 | g11
          · exact Or.inl g11
          · rw [e32 (a - 1) (by omega)] at g11
            exact Or.inr g11
        · intro i hi
          rw [g12 i (by omega), e32 i (by omega)]
/-- steps in their order: what goes in, then the lesser of k passes -/
def zStp (P : Nat → Int32) (k : Nat) (a : Int32) (F : Nat → Int32) (N : Nat) : Prop := 1 ≤ N ∧ N ≤ k + 1 ∧ F 0 = a ∧ (∀ i, i + 1 < N → (F (i + 1)).toInt < (F i).toInt) ∧ (∀ i, 1 ≤ i → i < N → ∃ j, j < k ∧ P j = F i) ∧ (∀ j, j < k → (P j).toInt < a.toInt → ∃ i, 1 ≤ i ∧ i < N ∧ F i = P j)
theorem zStp_skip {P : Nat → Int32} {k : Nat} {a : Int32} {F : Nat → Int32} {N : Nat} (h : zStp P k a F N) (hv : a.toInt ≤ (P k).toInt) : zStp P (k + 1) a F N := by
  obtain ⟨h1, h2, h3, h4, h5, h6⟩ := h
  refine ⟨h1, by omega, h3, h4, ?_, ?_⟩
  · intro i i1 i2
    obtain ⟨j, j1, j2⟩ := h5 i i1 i2
    exact ⟨j, by omega, j2⟩
  · intro j j1 j2
    by_cases c : j = k
    · subst c
      omega
    · exact h6 j (by omega) j2
theorem zStp_put {P : Nat → Int32} {k : Nat} {a : Int32} {F G : Nat → Int32} {N b : Nat} (h : zStp P k a F N) (hv : (P k).toInt < a.toInt) (hd : ∀ j, j < k → P j ≠ P k) (b1 : 1 ≤ b) (b2 : b ≤ N) (g0 : G b = P k) (g1 : ∀ i, i < b → G i = F i) (g2 : ∀ i, b < i → i ≤ N → G i = F (i - 1)) (g3 : ∀ i, b ≤ i → i < N → (F i).toInt < (P k).toInt) (g4 : b = 1 ∨ (P k).toInt ≤ (F (b - 1)).toInt) : zStp P (k + 1) a G (N + 1) := by
  obtain ⟨h1, h2, h3, h4, h5, h6⟩ := h
  refine ⟨by omega, by omega, by rw [g1 0 (by omega), h3], ?_, ?_, ?_⟩
  · intro i hi
    rcases Nat.lt_trichotomy (i + 1) b with c | c | c
    · rw [g1 (i + 1) c, g1 i (by omega)]
      exact h4 i (by omega)
    · rw [c, g0, g1 i (by omega)]
      rcases g4 with g4 | g4
      · have : i = 0 := by omega
        subst this
        rw [h3]
        exact hv
      · have e : b - 1 = i := by omega
        rw [e] at g4
        by_cases ci : i = 0
        · subst ci
          rw [h3]
          exact hv
        · obtain ⟨j, j1, j2⟩ := h5 i (by omega) (by omega)
          have hne : (P k).toInt ≠ (F i).toInt := fun x => hd j j1 (by rw [j2]; exact y_i_eq.mpr x.symm)
          omega
    · rw [g2 (i + 1) (by omega) (by omega)]
      by_cases ci : i = b
      · subst ci
        rw [g0]
        exact g3 i (Nat.le_refl _) (by omega)
      · rw [g2 i (by omega) (by omega)]
        have := h4 (i - 1) (by omega)
        rw [show i - 1 + 1 = i by omega] at this
        exact this
  · intro i i1 i2
    rcases Nat.lt_trichotomy i b with c | c | c
    · rw [g1 i c]
      obtain ⟨j, j1, j2⟩ := h5 i i1 (by omega)
      exact ⟨j, by omega, j2⟩
    · rw [c, g0]
      exact ⟨k, by omega, rfl⟩
    · rw [g2 i c (by omega)]
      obtain ⟨j, j1, j2⟩ := h5 (i - 1) (by omega) (by omega)
      exact ⟨j, by omega, j2⟩
  · intro j j1 j2
    by_cases c : j = k
    · subst c
      exact ⟨b, b1, by omega, g0⟩
    · obtain ⟨i, i1, i2, i3⟩ := h6 j (by omega) j2
      rcases Nat.lt_or_ge i b with ci | ci
      · exact ⟨i, i1, by omega, by rw [g1 i ci, i3]⟩
      · exact ⟨i + 1, by omega, by omega, by rw [g2 (i + 1) (by omega) (by omega)]; exact i3⟩
theorem zr_setSteps_loop (X : ZX) (call : ZC) (n0 ce sl : Nat) (L : Nat → Nat → Int64) (t u r q g : Nat) (st : Nat → Option Nat) (a : Int32) {P : Nat} (hP : P ≤ 12) (n : Nat) : ∀ (I : Nat → Nat → Int32) (k : Nat) (x2 : Int32) (N : Nat), k + n = P → x2.toInt = k → (I 30 2).toInt = P → (∀ i j, i < j → j < P → I 31 i ≠ I 31 j) → (I 30 4).toInt = N → zStp (I 31) k a (I 32) N → ∃ (K : Nat → Nat → Int32) (N' : Nat), (∀ M, z_loop X z_cf z_ff (z_pu call) 102 (M + 14 * n + 1) 14 [(0, .ref 30), (1, .int a), (2, .int x2)] [] (118, n0, ce, sl, I, L, z_rr t u r q g st) = some (.inl none, (118, n0, ce, sl, K, L, z_rr t u r q g st))) ∧
    (∀ c, c ≠ 30 → c ≠ 32 → K c = I c) ∧ (∀ i, i ≠ 4 → K 30 i = I 30 i) ∧ (K 30 4).toInt = N' ∧ zStp (I 31) P a (K 32) N' := by
  have h13 : (Int32.ofInt 13).toInt = 13 := rfl
  induction n with
  | zero =>
    intro I k x2 N h1 h2 h3 h4 h5 h6
    have e : k = P := by omega
    subst e
    refine ⟨I, N, fun M => ?_, fun _ _ _ => rfl, fun _ _ => rfl, h5, h6⟩
    rw [show M + 14 * 0 + 1 = M + 1 by omega, zb_Planner_setSteps_14, if_pos (by rw [y_i_le]; omega)]
  | succ n ih =>
    intro I k x2 N h1 h2 h3 h4 h5 h6
    have hin2 : z_in x2 12 = true := y_in_t (by omega) (by omega)
    have hx2n : x2.toNatClampNeg = k := by rw [y_tn, h2]; rfl
    have e2 : (x2 + Int32.ofInt 1).toInt = ((k + 1 : Nat) : Int) := by rw [y_adl (by omega) (by omega) (by omega) (by omega)]; omega
    by_cases c : a.toInt ≤ (I 31 k).toInt
    · obtain ⟨K, N', g1, g2, g3, g4, g5⟩ := ih I (k + 1) (x2 + Int32.ofInt 1) N (by omega) e2 h3 h4 h5 (zStp_skip h6 c)
      refine ⟨K, N', fun M => ?_, g2, g3, g4, g5⟩
      rw [show M + 14 * (n + 1) + 1 = (M + 13 + 14 * n + 1) + 1 by omega, zb_Planner_setSteps_14, if_neg (by rw [y_i_le]; omega), hin2, z_gd_t, hx2n, if_pos (y_i_le.mpr c), g1]
    · have hN := h6.2.1
      have hN1 := h6.1
      obtain ⟨K0, b, f1, f2, f3, f4, f5, f6, f7, f8, f9, f10, f11, f12⟩ := zr_place X call n0 ce sl L t u r q g st a x2 k (by omega) h2 N I (I 30 4) hN1 (by omega) h5
      have hput := zStp_put h6 (by omega) (fun j hj => h4 j k hj (by omega)) f5 f6 f7 f8 f9 f10 f11
      have e31 : K0 31 = I 31 := f2 31 (by omega) (by omega)
      have e4 : (K0 30 4).toInt = ((N + 1 : Nat) : Int) := by rw [f4, y_adl (by omega) (by omega) (by omega) (by omega)]; omega
      obtain ⟨K, N', g1, g2, g3, g4, g5⟩ := ih K0 (k + 1) (x2 + Int32.ofInt 1) (N + 1) (by omega) e2 (by rw [f3 2 (by omega)]; exact h3) (by rw [e31]; exact h4) e4 (by rw [e31]; exact hput)
      rw [e31] at g5
      refine ⟨K, N', fun M => ?_, fun c c1 c2 => by rw [g2 c c1 c2, f2 c c1 c2], fun i hi => by rw [g3 i hi, f3 i hi], g4, g5⟩
      rw [show M + 14 * (n + 1) + 1 = (M + 14 * n + 1 + 13) + 1 by omega, zb_Planner_setSteps_14, if_neg (by rw [y_i_le]; omega), hin2, z_gd_t, hx2n, if_neg (fun x => c (y_i_le.mp x)), if_neg (by rw [y_i_le, h13]; omega), show M + 14 * n + 1 + 13 = (M + 14 * n + 1 + 13 - N) + N by omega, f1, show M + 14 * n + 1 + 13 - N + b - 1 = (M + 13 - N + b - 1) + 14 * n + 1 by omega, g1]
theorem zr_setSteps (X : ZX) (d m ce sl : Nat) (I : Nat → Nat → Int32) (L : Nat → Nat → Int64) (t u r q : Nat) (a : Int32) (hG : zg_P I) : ∃ (K : Nat → Nat → Int32) (N' : Nat), z_pu (z_run X z_cf z_ff (d + 3)) 102 [.ref 30, .int a] (118, z_sd m, ce, sl, I, L, z_rr t u r q (z_gg m) (z_sf m)) = some (.inl none, (118, z_sd m, ce, sl, K, L, z_rr t u r q (z_gg m) (z_sf m))) ∧
    (∀ c, c ≠ 30 → c ≠ 32 → K c = I c) ∧ (∀ i, i ≠ 4 → K 30 i = I 30 i) ∧ (K 30 4).toInt = N' ∧ zStp (I 31) (I 30 2).toInt.toNat a (K 32) N' := by
  obtain ⟨h1, h2, h3, h4, h5, h6⟩ := hG
  have hin0 : z_in (Int32.ofInt 0) 13 = true := y_in_t (by decide) (by decide)
  have e31 : z_up (z_up I 32 0 a) 30 4 (Int32.ofInt 1) 31 = I 31 := by rw [z_up_r _ _ _ _ _ (by omega), z_up_r _ _ _ _ _ (by omega)]
  have e2 : z_up (z_up I 32 0 a) 30 4 (Int32.ofInt 1) 30 2 = I 30 2 := by rw [z_up_j _ _ _ _ _ (by omega), z_up_r _ _ _ _ _ (by omega)]
  obtain ⟨K, N', g1, g2, g3, g4, g5⟩ := zr_setSteps_loop X (z_run X z_cf z_ff (d + 2)) (z_sd m) ce sl L t u r q (z_gg m) (z_sf m) a (P := (I 30 2).toInt.toNat) (by omega) (I 30 2).toInt.toNat (z_up (z_up I 32 0 a) 30 4 (Int32.ofInt 1)) 0 (Int32.ofInt 0) 1 (by omega) rfl (by rw [e2]; omega) (by rw [e31]; exact fun i j h1 h2 => h6 i j h1 (by omega)) (by rw [z_up_s]; rfl)
    ⟨by omega, by omega, by rw [z_up_r _ _ _ _ _ (by omega), z_up_s], fun i hi => by omega, fun i i1 i2 => by omega, fun j hj => by omega⟩
  rw [e31] at g5
  refine ⟨K, N', ?_, ?_, ?_, g4, g5⟩
  · refine z_en X d _ _ [(0, .ref 30), (1, .int a)] _ _ rfl rfl rfl ?_
    rw [zb_Planner_setSteps_0, hin0, z_gd_t, show (99999999 : Nat) = (99999998 - 14 * (I 30 2).toInt.toNat) + 14 * (I 30 2).toInt.toNat + 1 by omega]
    exact g1 _
  · intro c c1 c2
    rw [g2 c c1 c2, z_up_r _ _ _ _ _ c1, z_up_r _ _ _ _ _ c2]
  · intro i hi
    rw [g3 i hi, z_up_j _ _ _ _ _ hi, z_up_r _ _ _ _ _ (by omega)]
theorem zStp_le {P : Nat → Int32} {k : Nat} {a : Int32} {F : Nat → Int32} {N : Nat} (h : zStp P k a F N) : ∀ j, j < N → ∀ i, i ≤ j → (F j).toInt ≤ (F i).toInt ∧ (i < j → (F j).toInt < (F i).toInt) := by
  intro j
  induction j with
  | zero =>
    intro hj i hi
    have : i = 0 := by omega
    subst this
    exact ⟨Int.le_refl _, fun x => by omega⟩
  | succ j ih =>
    intro hj i hi
    have h4 := h.2.2.2.1 j hj
    by_cases c : i = j + 1
    · subst c
      exact ⟨Int.le_refl _, fun x => by omega⟩
    · have := ih (by omega) i (by omega)
      omega
theorem zStp_rng {P : Nat → Int32} {k : Nat} {a : Int32} {F : Nat → Int32} {N : Nat} (h : zStp P k a F N) (ha0 : 1 ≤ a.toInt) (ha1 : a.toInt ≤ 60000) (hP : ∀ j, j < k → 1 ≤ (P j).toInt ∧ (P j).toInt ≤ 60000) : ∀ i, i < N → 1 ≤ (F i).toInt ∧ (F i).toInt ≤ 60000 := by
  intro i hi
  by_cases c : i = 0
  · subst c
    rw [h.2.2.1]
    omega
  · obtain ⟨j, j1, j2⟩ := h.2.2.2.2.1 i (by omega) hi
    rw [← j2]
    exact hP j j1
theorem zr_stepOf (X : ZX) (d n0 ce sl : Nat) (I : Nat → Nat → Int32) (L : Nat → Nat → Int64) (t u r q g : Nat) (st : Nat → Option Nat) (v : Int32) {N : Nat} (hN : (I 30 4).toInt = N) (h13 : N ≤ 13) : ∃ x : Int32, z_pu (z_run X z_cf z_ff (d + 3)) 103 [.ref 30, .int v] (118, n0, ce, sl, I, L, z_rr t u r q g st) = some (.inl (some (.int x)), (118, n0, ce, sl, I, L, z_rr t u r q g st)) ∧ ((∃ i, i < N ∧ x.toInt = (i : Nat) ∧ I 32 i = v) ∨ x = Int32.ofInt (-1) ∧ ∀ i, i < N → I 32 i ≠ v) := by
  have lp : ∀ n, ∀ (i : Nat) (x : Int32), i + n = N → x.toInt = i → (∀ j, j < i → I 32 j ≠ v) → ∃ y : Int32, (∀ M, z_loop X z_cf z_ff (z_pu (z_run X z_cf z_ff (d + 2))) 103 (M + n + 1) 2 [(0, .ref 30), (1, .int v), (2, .int x)] [] (118, n0, ce, sl, I, L, z_rr t u r q g st) = some (.inl (some (.int y)), (118, n0, ce, sl, I, L, z_rr t u r q g st))) ∧ ((∃ i, i < N ∧ y.toInt = (i : Nat) ∧ I 32 i = v) ∨ y = Int32.ofInt (-1) ∧ ∀ i, i < N → I 32 i ≠ v) := by
    intro n
    induction n with
    | zero =>
      intro i x h1 h2 h3
      refine ⟨Int32.ofInt (-1), fun M => ?_, Or.inr ⟨rfl, fun j hj => h3 j (by omega)⟩⟩
      rw [show M + 0 + 1 = M + 1 by omega, zb_Planner_stepOf_2, if_pos (by rw [y_i_le]; omega)]
    | succ n ih =>
      intro i x h1 h2 h3
      have hin : z_in x 13 = true := y_in_t (by omega) (by omega)
      have hxn : x.toNatClampNeg = i := by rw [y_tn, h2]; rfl
      by_cases c : I 32 i = v
      · refine ⟨x, fun M => ?_, Or.inl ⟨i, by omega, h2, c⟩⟩
        rw [show M + (n + 1) + 1 = (M + n + 1) + 1 by omega, zb_Planner_stepOf_2, if_neg (by rw [y_i_le]; omega), hin, z_gd_t, hxn, if_pos c]
      · obtain ⟨y, g1, g2⟩ := ih (i + 1) (x + Int32.ofInt 1) (by omega) (by rw [y_adl (by omega) (by omega) (by omega) (by omega)]; omega) (by
          intro j hj
          by_cases cj : j = i
          · subst cj
            exact c
          · exact h3 j (by omega))
        refine ⟨y, fun M => ?_, g2⟩
        rw [show M + (n + 1) + 1 = (M + n + 1) + 1 by omega, zb_Planner_stepOf_2, if_neg (by rw [y_i_le]; omega), hin, z_gd_t, hxn, if_neg c]
        exact g1 M
  obtain ⟨y, g1, g2⟩ := lp N 0 (Int32.ofInt 0) (by omega) rfl (fun j hj => by omega)
  refine ⟨y, ?_, g2⟩
  refine z_en X d _ _ [(0, .ref 30), (1, .int v)] _ _ rfl rfl rfl ?_
  rw [zb_Planner_stepOf_0, show (99999999 : Nat) = (99999998 - N) + N + 1 by omega]
  exact g1 _
