/-! CALLS, 30: run: pulls, in both -/
theorem zr_pm (X : ZX) (call : ZC) (N n ce sl : Nat) (I : Nat → Nat → Int32) (L : Nat → Nat → Int64) (t u r q g : Nat) (st : Nat → Option Nat) {m : Nat} (k : Nat) (hk : k + 1 < m) (h5 : m ≤ 5) (hs : I 55 1 = Int32.ofNat m) (x : Int32) (hx : x.toInt = k) :
    z_loop X z_cf z_ff (z_pu call) 213 (N + 1) 2 [(0, .ref 55), (1, .int x)] [] (118, n, ce, sl, I, L, z_rr t u r q g st) = z_loop X z_cf z_ff (z_pu call) 213 N 2 [(0, .ref 55), (1, .int (x + Int32.ofInt 1))] [] (118, n, ce, sl, z_up I 82 k (zpl (!decide (I 83 k = 0)) (!decide (I 83 (k + 1) = 0)) (I 82 k) (I 61 (k + 1)) (I 84 (k + 1)) (I 61 k) (I 85 k)), L, z_rr t u r q g st) := by
  have hx1 : (x + Int32.ofInt 1).toInt = (k + 1 : Nat) := by rw [y_adl (by omega) (by omega) (by omega) (by omega)]; omega
  have hxn : x.toNatClampNeg = k := by rw [y_tn, hx]; rfl
  have hxn1 : (x + Int32.ofInt 1).toNatClampNeg = k + 1 := by rw [y_tn, hx1]; rfl
  have hin : z_in x 5 = true := y_in_t (by omega) (by omega)
  have hin1 : z_in (x + Int32.ofInt 1) 5 = true := y_in_t (by omega) (by omega)
  rw [zb_M_draws_2, if_neg (by rw [hs, y_i_le, y_on (by omega)]; omega), hin, hin1, hxn, hxn1, if_neg z_1000z]
  by_cases c0 : I 83 k = 0
  · rw [if_pos c0, decide_eq_true c0]
    rfl
  · rw [if_neg c0, decide_eq_false c0]
    by_cases c1 : I 83 (k + 1) = 0
    · rw [if_pos c1, decide_eq_true c1]
      rfl
    · rw [if_neg c1, decide_eq_false c1]
      rfl
theorem zRR_pull {m c : Nat} {aim : Int32} {I0 K0 Ic Im : Nat → Nat → Int32} {T s g : Nat} (h : zRR m c aim I0 K0 Ic Im T s g) (k : Nat) (v : Int32) : zRR m c aim I0 K0 (z_up Ic 27 k v) (z_up Im 82 k v) T s g := by
  obtain ⟨r1, r2, r3, r4, r5, r6, r7⟩ := h
  have hc : ∀ a, a ≠ 27 → z_up Ic 27 k v a = Ic a := fun a ha => z_up_r _ _ _ _ _ ha
  have hm : ∀ a, a ≠ 82 → z_up Im 82 k v a = Im a := fun a ha => z_up_r _ _ _ _ _ ha
  have hsd : ∀ i, z_up Ic 27 k v (z_sd i) = Ic (z_sd i) := fun i => hc _ (by have := z_sd_ge i; omega)
  refine ⟨⟨?_, ?_, ?_⟩, ⟨?_, ?_⟩, ?_, ⟨?_, ?_⟩, ⟨?_, ?_, ?_, ?_, ?_⟩, ?_, ?_⟩
  · intro a b1 b2 b3 b4 b5 b6
    rw [hc a b4.1]
    exact r1.1 a b1 b2 b3 b4 b5 b6
  · intro i j b1 b2
    rw [hsd]
    exact r1.2.1 i j b1 b2
  · intro i b1 b2
    rw [hsd]
    exact r1.2.2 i b1 b2
  · intro a b1 b2 b3 b4
    rw [hm a (by omega)]
    exact r2.1 a b1 b2 b3 b4
  · intro j b1 b2
    rw [hm 55 (by omega)]
    exact r2.2 j b1 b2
  · intro i hi
    rw [hsd, hm 64 (by omega), hm 65 (by omega)]
    exact r3 i hi
  · intro i hi
    rw [hsd, hm 83 (by omega), hm 84 (by omega), hm 85 (by omega), hm 86 (by omega), hm 87 (by omega)]
    exact r4.1 i hi
  · intro i h1 h2
    rw [hm 83 (by omega), hm 84 (by omega), hm 85 (by omega), hm 86 (by omega), hm 87 (by omega)]
    exact r4.2 i h1 h2
  · rw [hc 26 (by omega), hm 80 (by omega)]
    exact r5.1
  · funext i
    rw [y_at, y_at, r5.2.1]
  · rw [hm 80 (by omega)]
    exact r5.2.2.1
  · rw [hm 80 (by omega)]
    exact r5.2.2.2.1
  · rw [hc 25 (by omega), hm 80 (by omega)]
    exact r5.2.2.2.2
  · unfold zR6 at *
    rw [hc 25 (by omega), hc 28 (by omega), hm 55 (by omega), hm 81 (by omega)]
    exact r6
  · intro j hj
    rw [hm 88 (by omega)]
    exact r7 j hj
theorem zr_pulls (X : ZX) (d m ce sl n2 ce2 sl2 : Nat) (L L2 : Nat → Nat → Int64) (t u r q t2 u2 r2 q2 g2 : Nat) (st2 : Nat → Option Nat) (call : ZC) {c C p T g : Nat} {aim : Int32} {I0 K0 : Nat → Nat → Int32} (hB : zBs m c C p I0 K0) (n : Nat) : ∀ (k : Nat) (Ic Im : Nat → Nat → Int32) (x : Int32), k + n + 1 = m → x.toInt = k → zRR m c aim I0 K0 Ic Im T m g → ∃ J K : Nat → Nat → Int32, zRR m c aim I0 K0 J K T m g ∧
    (∀ M, z_loop X z_cf z_ff (z_pu (z_run X z_cf z_ff (d + 6))) 89 (M + 6 * n + 2) 2 [(0, .ref 25), (1, .int x)] [] (118, z_sd m, ce, sl, Ic, L, z_rr t u r q (z_gg m) (z_sf m)) = some (.inl none, (118, z_sd m, ce, sl, J, L, z_rr t u r q (z_gg m) (z_sf m)))) ∧
    (∀ N, z_loop X z_cf z_ff (z_pu call) 213 (N + n + 1) 2 [(0, .ref 55), (1, .int x)] [] (118, n2, ce2, sl2, Im, L2, z_rr t2 u2 r2 q2 g2 st2) = z_loop X z_cf z_ff (z_pu call) 213 N 94 [(0, .ref 55), (1, .int (Int32.ofInt 0))] [] (118, n2, ce2, sl2, K, L2, z_rr t2 u2 r2 q2 g2 st2)) := by
  obtain ⟨⟨h5, hs5, hm1, hst, hsf⟩, hL, ⟨c1, c2, c3, c4, c5, c6⟩, hc, hC, hK, hk1, hk13, hk42, hk28, hk29⟩ := hB
  induction n with
  | zero =>
    intro k Ic Im x h1 h2 h
    have hIc5 : Ic 5 2 = Int32.ofNat m := by rw [h.1.1 5 (by omega) (by omega) (by omega) (by omega) (by omega) (by omega), hs5]
    have hIm1 : Im 55 1 = Int32.ofNat m := by rw [h.2.1.2 1 (by omega) (by omega), hk1, hm1]
    refine ⟨Ic, Im, h, fun M => ?_, fun N => ?_⟩
    · rw [show M + 6 * 0 + 2 = (M + 1) + 1 by omega, zb_Run_movePulls_2, zk_Line_many_0 X (d + 2), z_bi_v, zb_Run_movePulls_10, if_pos (by rw [hIc5, y_i_le, y_sbl (by omega) (by omega) (by rw [y_on (by omega)]; omega) (by rw [y_on (by omega)]; omega), y_on (by omega)]; omega)]
    · rw [zb_M_draws_2, if_pos (by rw [hIm1, y_i_le, y_on (by omega), y_adl (by omega) (by omega) (by omega) (by omega)]; omega)]
  | succ n ih =>
    intro k Ic Im x h1 h2 h
    have hIc5 : Ic 5 2 = Int32.ofNat m := by rw [h.1.1 5 (by omega) (by omega) (by omega) (by omega) (by omega) (by omega), hs5]
    have hIm1 : Im 55 1 = Int32.ofNat m := by rw [h.2.1.2 1 (by omega) (by omega), hk1, hm1]
    have r4 := h.2.2.2.1
    have r5 := h.2.2.2.2.1
    have e61 : Im 61 = I0 61 := by rw [h.2.1.1 61 (by omega) (by omega) (by omega) (by omega), hK 61 (by omega) (by omega) (by omega) (by omega)]
    have e5 : ∀ i, i < m → Ic (z_sd i) 5 = Im 61 i := by
      intro i hi
      rw [h.1.2.1 i 5 hi (by omega), e61]
      exact (hst i hi).1.2.2.2.2.2.1
    obtain ⟨a1, a2, a3, a4, a5⟩ := r4.1 k (by omega)
    obtain ⟨b1, b2, b3, b4, b5⟩ := r4.1 (k + 1) (by omega)
    have hbit : ∀ i, (Im 83 i = 0 ∧ Im 84 i = 0 ∨ Im 83 i = Int32.ofInt 1 ∧ 1 ≤ (Im 84 i).toInt) → zbb (Im 84 i) = !decide (Im 83 i = 0) := by
      intro i hi
      unfold zbb
      rcases hi with ⟨q1, q2⟩ | ⟨q1, q2⟩
      · rw [q1, q2]
        rfl
      · rw [q1, decide_eq_true (show 0 < (Im 84 i).toInt by omega)]
        rfl
    have hv : zpl (zbb (Ic (z_sd k) 11)) (zbb (Ic (z_sd (k + 1)) 11)) (Ic 27 k) (Ic (z_sd (k + 1)) 5) (Ic (z_sd (k + 1)) 11) (Ic (z_sd k) 5) (Ic (z_sd k) 13) = zpl (!decide (Im 83 k = 0)) (!decide (Im 83 (k + 1) = 0)) (Im 82 k) (Im 61 (k + 1)) (Im 84 (k + 1)) (Im 61 k) (Im 85 k) := by
      rw [a1, b1, hbit k a5, hbit (k + 1) b5, r5.2.1, e5 k (by omega), e5 (k + 1) (by omega), a3]
    obtain ⟨J, K, p1, p2, p3⟩ := ih (k + 1) _ _ (x + Int32.ofInt 1) (by omega) (by rw [y_adl (by omega) (by omega) (by omega) (by omega)]; omega) (zRR_pull h k (zpl (!decide (Im 83 k = 0)) (!decide (Im 83 (k + 1) = 0)) (Im 82 k) (Im 61 (k + 1)) (Im 84 (k + 1)) (Im 61 k) (Im 85 k)))
    refine ⟨J, K, p1, fun M => ?_, fun N => ?_⟩
    · obtain ⟨M', hM, e⟩ := zr_pc X d (M + 6 * n + 2) m ce sl Ic L t u r q k (by omega) h5 hIc5 x h2
      rw [show M + 6 * (n + 1) + 2 = (M + 6 * n + 2) + 6 by omega, e, hv, show M' = (M' - (6 * n + 2)) + 6 * n + 2 by omega]
      exact p2 _
    · rw [show N + (n + 1) + 1 = (N + n + 1) + 1 by omega, zr_pm X call (N + n + 1) n2 ce2 sl2 Im L2 t2 u2 r2 q2 g2 st2 k (by omega) h5 hIm1 x h2]
      exact p3 N
