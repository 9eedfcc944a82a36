/-! PLAN, 9: the tables in the model: presses, and where plans end -/
def zthere (P f : Nat) : Prop := f < P ∨ f = 12
theorem zr_isThere (X : ZX) (d m ce sl : Nat) (I : Nat → Nat → Int32) (L : Nat → Nat → Int64) (t u r q : Nat) {P f : Nat} (hP : (I 55 64).toInt = P) (x : Int32) (hx : x.toInt = f) : ∃ y : Int32, z_pu (z_run X z_cf z_ff (d + 3)) 228 [.ref 55, .int x] (118, z_sd m, ce, sl, I, L, z_rr t u r q (z_gg m) (z_sf m)) = some (.inl (some (.int y)), (118, z_sd m, ce, sl, I, L, z_rr t u r q (z_gg m) (z_sf m))) ∧ (zthere P f → ¬ y = 0) ∧ (¬ zthere P f → y = 0) := by
  have h12 : (Int32.ofInt 12).toInt = 12 := rfl
  have z10 : ¬ (Int32.ofInt 1 : Int32) = 0 := by decide
  refine ⟨_, zk_M_isThere_0 X d m ce sl I L t u r q x, ?_, ?_⟩
  · intro h
    unfold z_v_M_isThere
    unfold zthere at h
    by_cases c : f < P
    · rw [if_pos (by rw [y_i_lt]; omega)]
      exact z10
    · rw [if_neg (by rw [y_i_lt]; omega), if_pos (by rw [y_i_eq, h12]; omega)]
      exact z10
  · intro h
    unfold z_v_M_isThere
    unfold zthere at h
    rw [if_neg (by rw [y_i_lt]; omega), if_neg (by rw [y_i_eq, h12]; omega)]
    rfl
theorem z_tix {x4 x5 x6 : Int32} {s f g : Nat} (h4 : x4.toInt = s) (h5 : x5.toInt = f) (h6 : x6.toInt = g) (hs : s < 5) (hf : f < 13) (hg : g < 13) : (Int32.ofInt 169 * x4 + Int32.ofInt 13 * x5 + x6).toInt = ((169 * s + 13 * f + g : Nat) : Int) := by
  have a1 : (Int32.ofInt 169).toInt = 169 := rfl
  have a2 : (Int32.ofInt 13).toInt = 13 := rfl
  have e1 : (Int32.ofInt 169 * x4).toInt = 169 * s := by rw [y_mu (by rw [a1, h4]; omega) (by rw [a1, h4]; omega), a1, h4]
  have e2 : (Int32.ofInt 13 * x5).toInt = 13 * f := by rw [y_mu (by rw [a2, h5]; omega) (by rw [a2, h5]; omega), a2, h5]
  have e3 : (Int32.ofInt 169 * x4 + Int32.ofInt 13 * x5).toInt = 169 * s + 13 * f := by rw [y_ad (by omega) (by omega), e1, e2]
  rw [y_ad (by omega) (by omega), e3, h6]
  omega
theorem z_tiy {x4 x5 : Int32} {s f : Nat} (h4 : x4.toInt = s) (h5 : x5.toInt = f) (hs : s < 6) (hf : f < 13) : (Int32.ofInt 13 * x4 + x5).toInt = ((13 * s + f : Nat) : Int) := by
  have a2 : (Int32.ofInt 13).toInt = 13 := rfl
  have e1 : (Int32.ofInt 13 * x4).toInt = 13 * s := by rw [y_mu (by rw [a2, h4]; omega) (by rw [a2, h4]; omega), a2, h4]
  rw [y_ad (by omega) (by omega), e1, h5]
  omega
/-- the model's table of presses -/
def ztb (I : Nat → Nat → Int32) (p P : Nat) (h0 : Int32) (th : Nat → Int32) (s f g : Nat) : Int := if f < P ∨ f = 12 then (if g < P ∨ g = 12 then zpp I p s h0 (th f).toInt (th g).toInt else -1) else -1
theorem zr_tb_in (X : ZX) (d m ce sl : Nat) (I : Nat → Nat → Int32) (L : Nat → Nat → Int64) (t u r q : Nat) {C p P : Nat} (hS : zg_S C m I) (hL : zg_L p I) (hP : (I 55 64).toInt = P) (h0 x3 x4 x5 : Int32) (s f : Nat) (hs : s < m) (hx4 : x4.toInt = s) (hf : f < 13) (hx5 : x5.toInt = f) (hh0 : 0 ≤ h0.toInt) (hh1 : h0.toInt ≤ 99) (hth : ∀ k, (k < P ∨ k = 12) → 1 ≤ (zth I k).toInt ∧ (zth I k).toInt ≤ 60000) (n : Nat) : ∀ (g : Nat) (J : Nat → Nat → Int32) (x6 : Int32), g + n = 13 → x6.toInt = g → (∀ a, a ≠ 97 → J a = I a) → ∃ K : Nat → Nat → Int32, (∀ a, a ≠ 97 → K a = I a) ∧ (∀ y, (y < 169 * s + 13 * f + g ∨ 169 * s + 13 * f + 13 ≤ y) → K 97 y = J 97 y) ∧ (∀ y, g ≤ y → y < 13 → K 97 (169 * s + 13 * f + y) = Int32.ofInt (ztb I p P h0 (zth I) s f y)) ∧
    ∀ M, ∃ M', M ≤ M' ∧ z_loop X z_cf z_ff (z_pu (z_run X z_cf z_ff (d + 6))) 227 (M + 4 * n + 1) 80 [(0, .ref 55), (2, .int h0), (3, .int x3), (4, .int x4), (5, .int x5), (6, .int x6)] [] (118, z_sd m, ce, sl, J, L, z_rr t u r q (z_gg m) (z_sf m)) = z_loop X z_cf z_ff (z_pu (z_run X z_cf z_ff (d + 6))) 227 M' 70 [(0, .ref 55), (2, .int h0), (3, .int x3), (4, .int x4), (5, .int (x5 + Int32.ofInt 1))] [] (118, z_sd m, ce, sl, K, L, z_rr t u r q (z_gg m) (z_sf m)) := by
  have h5 := hS.1
  have h13 : (Int32.ofInt 13).toInt = 13 := rfl
  induction n with
  | zero =>
    intro g J x6 h1 h2 h4
    refine ⟨J, h4, fun _ _ => rfl, fun y y1 y2 => by omega, fun M => ⟨M, Nat.le_refl _, ?_⟩⟩
    rw [show M + 4 * 0 + 1 = M + 1 by omega, zb_M_plan_80, if_pos (by rw [y_i_le, h13]; omega)]
  | succ n ih =>
    intro g J x6 h1 h2 h4
    have hF : zPF I J := ⟨fun a a1 a2 a3 => h4 a (by omega), by rw [h4 55 (by omega)], by rw [h4 55 (by omega)]⟩
    have hix := z_tix hx4 hx5 h2 (by omega) hf (by omega)
    have hixn : (Int32.ofInt 169 * x4 + Int32.ofInt 13 * x5 + x6).toNatClampNeg = 169 * s + 13 * f + g := by rw [y_tn, hix]; rfl
    have hin : z_in (Int32.ofInt 169 * x4 + Int32.ofInt 13 * x5 + x6) 845 = true := y_in_t (by omega) (by omega)
    have hJth : ∀ k, zth J k = zth I k := by
      intro k
      unfold zth
      rw [h4 55 (by omega), h4 91 (by omega)]
    obtain ⟨v, hv⟩ : ∃ v, v = Int32.ofInt (ztb I p P h0 (zth I) s f g) := ⟨_, rfl⟩
    obtain ⟨K, g1, g2, g3, g4⟩ := ih (g + 1) (z_up J 97 (169 * s + 13 * f + g) v) (x6 + Int32.ofInt 1) (by omega) (by rw [y_adl (by omega) (by omega) (by omega) (by omega)]; omega) (fun a ha => by rw [z_up_r _ _ _ _ _ ha, h4 a ha])
    have step : ∀ M, ∃ M', M ≤ M' ∧ z_loop X z_cf z_ff (z_pu (z_run X z_cf z_ff (d + 6))) 227 (M + 4) 80 [(0, .ref 55), (2, .int h0), (3, .int x3), (4, .int x4), (5, .int x5), (6, .int x6)] [] (118, z_sd m, ce, sl, J, L, z_rr t u r q (z_gg m) (z_sf m)) = z_loop X z_cf z_ff (z_pu (z_run X z_cf z_ff (d + 6))) 227 M' 80 [(0, .ref 55), (2, .int h0), (3, .int x3), (4, .int x4), (5, .int x5), (6, .int (x6 + Int32.ofInt 1))] [] (118, z_sd m, ce, sl, z_up J 97 (169 * s + 13 * f + g) v, L, z_rr t u r q (z_gg m) (z_sf m)) := by
      intro M
      obtain ⟨y1, a1, a2, a3⟩ := zr_isThere X (d + 3) m ce sl J L t u r q (P := P) (f := f) (by rw [h4 55 (by omega)]; exact hP) x5 hx5
      rw [show M + 4 = (M + 2) + 1 + 1 by omega, zb_M_plan_80, if_neg (by rw [y_i_le, h13]; omega), a1, z_bi_v, zb_M_plan_112]
      by_cases c1 : f < P ∨ f = 12
      · rw [if_neg (a2 c1)]
        obtain ⟨y2, b1, b2, b3⟩ := zr_isThere X (d + 3) m ce sl J L t u r q (P := P) (f := g) (by rw [h4 55 (by omega)]; exact hP) x6 h2
        rw [b1, z_bi_v, show M + 2 = (M + 1) + 1 by omega, zb_M_plan_121]
        by_cases c2 : g < P ∨ g = 12
        · have e : v = Int32.ofInt (zpp I p s h0 (zth I f).toInt (zth I g).toInt) := by
            rw [hv]
            unfold ztb
            rw [if_pos c1, if_pos c2]
          rw [if_neg (b2 c2), zr_pressM X d m ce sl J L t u r q (zPF_S hF hS) (zPF_L hF hL) h0 x4 x5 x6 s f g hs hx4 hf hx5 (by omega) h2 hh0 hh1 (by rw [hJth]; exact (hth f c1).2) (by rw [hJth]; exact (hth g c2).1), z_bi_v, hJth, hJth, zPF_pp hF, ← e, zb_M_plan_135, hin, z_gd_t, hixn]
          exact ⟨M, Nat.le_refl _, rfl⟩
        · have e : v = Int32.ofInt (-1) := by
            rw [hv]
            unfold ztb
            rw [if_pos c1, if_neg c2]
          rw [if_pos (b3 c2), hin, z_gd_t, hixn, ← e]
          exact ⟨M + 1, by omega, rfl⟩
      · have e : v = Int32.ofInt (-1) := by
          rw [hv]
          unfold ztb
          rw [if_neg c1]
        rw [if_pos (a3 c1), hin, z_gd_t, hixn, ← e]
        exact ⟨M + 2, by omega, rfl⟩
    refine ⟨K, g1, ?_, ?_, fun M => ?_⟩
    · intro y hy
      rw [g2 y (by omega), z_up_j _ _ _ _ _ (by omega)]
    · intro y y1 y2
      by_cases c : y = g
      · subst c
        rw [g2 _ (by omega), z_up_s, hv]
      · exact g3 y (by omega) y2
    · obtain ⟨M1, q1, q2⟩ := step (M + 4 * n + 1)
      obtain ⟨M2, q3, q4⟩ := g4 (M1 - 4 * n - 1)
      refine ⟨M2, by omega, ?_⟩
      rw [show M + 4 * (n + 1) + 1 = (M + 4 * n + 1) + 4 by omega, q2, show M1 = (M1 - 4 * n - 1) + 4 * n + 1 by omega]
      exact q4
theorem zr_tb_mid (X : ZX) (d m ce sl : Nat) (I : Nat → Nat → Int32) (L : Nat → Nat → Int64) (t u r q : Nat) {C p P : Nat} (hS : zg_S C m I) (hL : zg_L p I) (hP : (I 55 64).toInt = P) (h0 x3 x4 : Int32) (s : Nat) (hs : s < m) (hx4 : x4.toInt = s) (hh0 : 0 ≤ h0.toInt) (hh1 : h0.toInt ≤ 99) (hth : ∀ k, (k < P ∨ k = 12) → 1 ≤ (zth I k).toInt ∧ (zth I k).toInt ≤ 60000) (n : Nat) : ∀ (f : Nat) (J : Nat → Nat → Int32) (x5 : Int32), f + n = 13 → x5.toInt = f → (∀ a, a ≠ 97 → J a = I a) → ∃ K : Nat → Nat → Int32, (∀ a, a ≠ 97 → K a = I a) ∧ (∀ y, (y < 169 * s + 13 * f ∨ 169 * (s + 1) ≤ y) → K 97 y = J 97 y) ∧ (∀ f', f ≤ f' → f' < 13 → ∀ y, y < 13 → K 97 (169 * s + 13 * f' + y) = Int32.ofInt (ztb I p P h0 (zth I) s f' y)) ∧
    ∀ M, ∃ M', M ≤ M' ∧ z_loop X z_cf z_ff (z_pu (z_run X z_cf z_ff (d + 6))) 227 (M + 54 * n + 1) 70 [(0, .ref 55), (2, .int h0), (3, .int x3), (4, .int x4), (5, .int x5)] [] (118, z_sd m, ce, sl, J, L, z_rr t u r q (z_gg m) (z_sf m)) = z_loop X z_cf z_ff (z_pu (z_run X z_cf z_ff (d + 6))) 227 M' 58 [(0, .ref 55), (2, .int h0), (3, .int x3), (4, .int (x4 + Int32.ofInt 1))] [] (118, z_sd m, ce, sl, K, L, z_rr t u r q (z_gg m) (z_sf m)) := by
  have h5 := hS.1
  have h13 : (Int32.ofInt 13).toInt = 13 := rfl
  induction n with
  | zero =>
    intro f J x5 h1 h2 h4
    refine ⟨J, h4, fun _ _ => rfl, fun f' y1 y2 => by omega, fun M => ⟨M, Nat.le_refl _, ?_⟩⟩
    rw [show M + 54 * 0 + 1 = M + 1 by omega, zb_M_plan_70, if_pos (by rw [y_i_le, h13]; omega)]
  | succ n ih =>
    intro f J x5 h1 h2 h4
    obtain ⟨K0, f1, f2, f3, f4⟩ := zr_tb_in X d m ce sl I L t u r q hS hL hP h0 x3 x4 x5 s f hs hx4 (by omega) h2 hh0 hh1 hth 13 0 J (Int32.ofInt 0) (by omega) rfl h4
    obtain ⟨K, g1, g2, g3, g4⟩ := ih (f + 1) K0 (x5 + Int32.ofInt 1) (by omega) (by rw [y_adl (by omega) (by omega) (by omega) (by omega)]; omega) f1
    refine ⟨K, g1, ?_, ?_, fun M => ?_⟩
    · intro y hy
      rw [g2 y (by omega), f2 y (by omega)]
    · intro f' y1 y2 y y3
      by_cases c : f' = f
      · subst c
        rw [g2 _ (by omega)]
        exact f3 y (by omega) y3
      · exact g3 f' (by omega) y2 y y3
    · obtain ⟨M1, q1, q2⟩ := f4 (M + 54 * n + 1)
      obtain ⟨M2, q3, q4⟩ := g4 (M1 - 54 * n - 1)
      refine ⟨M2, by omega, ?_⟩
      rw [show M + 54 * (n + 1) + 1 = (M + 54 * n + 1 + 4 * 13 + 1) + 1 by omega, zb_M_plan_70, if_neg (by rw [y_i_le, h13]; omega), q2, show M1 = (M1 - 54 * n - 1) + 54 * n + 1 by omega]
      exact q4
theorem zr_tb (X : ZX) (d m ce sl : Nat) (I : Nat → Nat → Int32) (L : Nat → Nat → Int64) (t u r q : Nat) {C p P : Nat} (hS : zg_S C m I) (hL : zg_L p I) (hP : (I 55 64).toInt = P) (h0 x3 : Int32) (hh0 : 0 ≤ h0.toInt) (hh1 : h0.toInt ≤ 99) (hth : ∀ k, (k < P ∨ k = 12) → 1 ≤ (zth I k).toInt ∧ (zth I k).toInt ≤ 60000) (n : Nat) : ∀ (s : Nat) (J : Nat → Nat → Int32) (x4 : Int32), s + n = m → x4.toInt = s → (∀ a, a ≠ 97 → J a = I a) → ∃ K : Nat → Nat → Int32, (∀ a, a ≠ 97 → K a = I a) ∧ (∀ y, y < 169 * s → K 97 y = J 97 y) ∧ (∀ s', s ≤ s' → s' < m → ∀ f, f < 13 → ∀ y, y < 13 → K 97 (169 * s' + 13 * f + y) = Int32.ofInt (ztb I p P h0 (zth I) s' f y)) ∧
    ∀ M, ∃ M', M ≤ M' ∧ z_loop X z_cf z_ff (z_pu (z_run X z_cf z_ff (d + 6))) 227 (M + 704 * n + 1) 58 [(0, .ref 55), (2, .int h0), (3, .int x3), (4, .int x4)] [] (118, z_sd m, ce, sl, J, L, z_rr t u r q (z_gg m) (z_sf m)) = z_loop X z_cf z_ff (z_pu (z_run X z_cf z_ff (d + 6))) 227 M' 161 [(0, .ref 55), (2, .int h0), (3, .int x3), (4, .int (Int32.ofInt 0))] [] (118, z_sd m, ce, sl, K, L, z_rr t u r q (z_gg m) (z_sf m)) := by
  have h5 := hS.1
  have hm := hS.2.2.1
  have hm' : (I 55 1).toInt = m := by rw [hm, y_on (by omega)]
  induction n with
  | zero =>
    intro s J x4 h1 h2 h4
    refine ⟨J, h4, fun _ _ => rfl, fun s' y1 y2 => by omega, fun M => ⟨M, Nat.le_refl _, ?_⟩⟩
    rw [show M + 704 * 0 + 1 = M + 1 by omega, zb_M_plan_58, if_pos (by rw [y_i_le, h4 55 (by omega)]; omega)]
  | succ n ih =>
    intro s J x4 h1 h2 h4
    obtain ⟨K0, f1, f2, f3, f4⟩ := zr_tb_mid X d m ce sl I L t u r q hS hL hP h0 x3 x4 s (by omega) h2 hh0 hh1 hth 13 0 J (Int32.ofInt 0) (by omega) rfl h4
    obtain ⟨K, g1, g2, g3, g4⟩ := ih (s + 1) K0 (x4 + Int32.ofInt 1) (by omega) (by rw [y_adl (by omega) (by omega) (by omega) (by omega)]; omega) f1
    refine ⟨K, g1, ?_, ?_, fun M => ?_⟩
    · intro y hy
      rw [g2 y (by omega), f2 y (by omega)]
    · intro s' y1 y2 f y3 y y4
      by_cases c : s' = s
      · subst c
        rw [g2 _ (by omega)]
        exact f3 f (by omega) y3 y y4
      · exact g3 s' (by omega) y2 f y3 y y4
    · obtain ⟨M1, q1, q2⟩ := f4 (M + 704 * n + 1)
      obtain ⟨M2, q3, q4⟩ := g4 (M1 - 704 * n - 1)
      refine ⟨M2, by omega, ?_⟩
      rw [show M + 704 * (n + 1) + 1 = (M + 704 * n + 1 + 54 * 13 + 1) + 1 by omega, zb_M_plan_58, if_neg (by rw [y_i_le, h4 55 (by omega)]; omega), q2, show M1 = (M1 - 704 * n - 1) + 704 * n + 1 by omega]
      exact q4
/-- where plans end: the last rows of both tables -/
theorem zr_tend (X : ZX) (d m ce sl : Nat) (I : Nat → Nat → Int32) (t u r q : Nat) {P : Nat} (h5 : m ≤ 5) (hm : I 55 1 = Int32.ofNat m) (hP : (I 55 64).toInt = P) (h0 x3 : Int32) (n : Nat) : ∀ (f : Nat) (L : Nat → Nat → Int64) (x4 : Int32), f + n = 13 → x4.toInt = f → ∃ L' : Nat → Nat → Int64, (∀ a, a ≠ 95 → a ≠ 96 → L' a = L a) ∧ (∀ y, (y < 13 * m + f) → L' 95 y = L 95 y ∧ L' 96 y = L 96 y) ∧ (∀ y, f ≤ y → y < 13 → L' 95 (13 * m + y) = Int64.ofInt (if (y < P ∨ y = 12) ∧ zth I y = x3 then 0 else zNV) ∧ L' 96 (13 * m + y) = Int64.ofInt (if (y < P ∨ y = 12) ∧ zth I y = x3 then 0 else zNV)) ∧
    ∀ M, ∃ M', M ≤ M' ∧ z_loop X z_cf z_ff (z_pu (z_run X z_cf z_ff (d + 6))) 227 (M + 3 * n + 1) 161 [(0, .ref 55), (2, .int h0), (3, .int x3), (4, .int x4)] [] (118, z_sd m, ce, sl, I, L, z_rr t u r q (z_gg m) (z_sf m)) = z_loop X z_cf z_ff (z_pu (z_run X z_cf z_ff (d + 6))) 227 M' 262 [(0, .ref 55), (2, .int h0), (4, .int (I 55 1 - Int32.ofInt 1))] [] (118, z_sd m, ce, sl, I, L', z_rr t u r q (z_gg m) (z_sf m)) := by
  have h13 : (Int32.ofInt 13).toInt = 13 := rfl
  have z10 : ¬ (Int32.ofInt 1 : Int32) = 0 := by decide
  have z00 : (Int32.ofInt 0 : Int32) = 0 := rfl
  have hm' : (I 55 1).toInt = m := by rw [hm, y_on (by omega)]
  induction n with
  | zero =>
    intro f L x4 h1 h2
    refine ⟨L, fun _ _ _ => rfl, fun _ _ => ⟨rfl, rfl⟩, fun y y1 y2 => by omega, fun M => ⟨M, Nat.le_refl _, ?_⟩⟩
    rw [show M + 3 * 0 + 1 = M + 1 by omega, zb_M_plan_161, if_pos (by rw [y_i_le, h13]; omega)]
  | succ n ih =>
    intro f L x4 h1 h2
    have hix := z_tiy hm' h2 (by omega) (by omega)
    have hixn : (Int32.ofInt 13 * I 55 1 + x4).toNatClampNeg = 13 * m + f := by rw [y_tn, hix]; rfl
    have hin : z_in (Int32.ofInt 13 * I 55 1 + x4) 78 = true := y_in_t (by omega) (by omega)
    obtain ⟨v, hv⟩ : ∃ v, v = Int64.ofInt (if (f < P ∨ f = 12) ∧ zth I f = x3 then 0 else zNV) := ⟨_, rfl⟩
    obtain ⟨L', g1, g2, g3, g4⟩ := ih (f + 1) (z_up (z_up L 95 (13 * m + f) v) 96 (13 * m + f) v) (x4 + Int32.ofInt 1) (by omega) (by rw [y_adl (by omega) (by omega) (by omega) (by omega)]; omega)
    have step : ∀ M, ∃ M', M ≤ M' ∧ z_loop X z_cf z_ff (z_pu (z_run X z_cf z_ff (d + 6))) 227 (M + 3) 161 [(0, .ref 55), (2, .int h0), (3, .int x3), (4, .int x4)] [] (118, z_sd m, ce, sl, I, L, z_rr t u r q (z_gg m) (z_sf m)) = z_loop X z_cf z_ff (z_pu (z_run X z_cf z_ff (d + 6))) 227 M' 161 [(0, .ref 55), (2, .int h0), (3, .int x3), (4, .int (x4 + Int32.ofInt 1))] [] (118, z_sd m, ce, sl, I, z_up (z_up L 95 (13 * m + f) v) 96 (13 * m + f) v, z_rr t u r q (z_gg m) (z_sf m)) := by
      intro M
      obtain ⟨y1, a1, a2, a3⟩ := zr_isThere X (d + 3) m ce sl I L t u r q (P := P) (f := f) hP x4 h2
      rw [show M + 3 = (M + 1) + 1 + 1 by omega, zb_M_plan_161, if_neg (by rw [y_i_le, h13]; omega), a1, z_bi_v, zb_M_plan_174]
      by_cases c1 : f < P ∨ f = 12
      · rw [if_neg (a2 c1), zr_thick X (d + 3) _ ce sl I L t u r q _ _ x4 f (by omega) h2, z_bi_v, zb_M_plan_183]
        by_cases c2 : zth I f = x3
        · have e : v = Int64.ofInt 0 := by
            rw [hv, if_pos ⟨c1, c2⟩]
          rw [if_pos c2, if_neg z10, hin, z_gd_t, if_neg z10, z_gd_t, hixn, ← e]
          exact ⟨M, Nat.le_refl _, rfl⟩
        · have e : v = Int64.ofInt 1000000000000000 := by
            rw [hv, if_neg (fun x => c2 x.2)]
            rfl
          rw [if_neg c2, if_pos z00, hin, z_gd_t, if_pos z00, z_gd_t, hixn, ← e]
          exact ⟨M, Nat.le_refl _, rfl⟩
      · have e : v = Int64.ofInt 1000000000000000 := by
          rw [hv, if_neg (fun x => c1 x.1)]
          rfl
        rw [if_pos (a3 c1), if_pos z00, hin, z_gd_t, if_pos z00, z_gd_t, hixn, ← e]
        exact ⟨M + 1, by omega, rfl⟩
    refine ⟨L', ?_, ?_, ?_, fun M => ?_⟩
    · intro a a1 a2
      rw [g1 a a1 a2, z_up_r _ _ _ _ _ a2, z_up_r _ _ _ _ _ a1]
    · intro y hy
      rw [(g2 y (by omega)).1, (g2 y (by omega)).2, z_up_r _ _ _ _ _ (show (95 : Nat) ≠ 96 by omega), z_up_j _ _ _ _ _ (by omega), z_up_j _ _ _ _ _ (by omega), z_up_r _ _ _ _ _ (show (96 : Nat) ≠ 95 by omega)]
      exact ⟨rfl, rfl⟩
    · intro y y1 y2
      by_cases c : y = f
      · subst c
        rw [(g2 _ (by omega)).1, (g2 _ (by omega)).2, z_up_r _ _ _ _ _ (show (95 : Nat) ≠ 96 by omega), z_up_s, z_up_s, hv]
        exact ⟨rfl, rfl⟩
      · exact g3 y (by omega) y2
    · obtain ⟨M1, q1, q2⟩ := step (M + 3 * n + 1)
      obtain ⟨M2, q3, q4⟩ := g4 (M1 - 3 * n - 1)
      refine ⟨M2, by omega, ?_⟩
      rw [show M + 3 * (n + 1) + 1 = (M + 3 * n + 1) + 3 by omega, q2, show M1 = (M1 - 3 * n - 1) + 3 * n + 1 by omega]
      exact q4
