/-! CALLS, 41: run: all gaps move, in both -/
theorem zRR_move {m c : Nat} {aim : Int32} {I0 K0 Ic Im J K : Nat → Nat → Int32} {T g k : Nat} (h : zRR m c aim I0 K0 Ic Im T m g) (hk : k < m) (hJ : ∀ a, (a ≠ 10 ∧ a ≠ 17) → a ≠ 29 → a ≠ z_sd k → J a = Ic a) (hJ1 : ∀ i, i ≠ 8 → J (z_sd k) i = Ic (z_sd k) i) (hK : ∀ a, a ≠ 90 → a ≠ 89 → a ≠ 64 → K a = Im a) (hK1 : ∀ i, i ≠ k → K 64 i = Im 64 i)
    (e : J (z_sd k) 8 = K 64 k) (r0 : (I0 58 k).toInt ≤ (K 64 k).toInt) (r9 : (K 64 k).toInt ≤ (I0 59 k).toInt) : zRR m c aim I0 K0 J K T m g := by
  obtain ⟨r1, r2, r3, r4, r5, r6, r7⟩ := h
  have hge := z_sd_ge k
  have hne : ∀ i, i ≠ k → J (z_sd i) = Ic (z_sd i) := fun i hi => hJ _ (by have := z_sd_ge i; omega) (by have := z_sd_ge i; omega) (fun g => hi (z_sd_inj g))
  refine ⟨⟨?_, ?_, ?_⟩, ⟨?_, ?_⟩, ?_, ⟨?_, ?_⟩, ⟨?_, ?_, ?_, ?_, ?_⟩, ?_, ?_⟩
  · intro a b1 b2 b3 b4 b5 b6
    rw [hJ a b6 b5 (by omega)]
    exact r1.1 a b1 b2 b3 b4 b5 b6
  · intro i j b1 b2
    by_cases c1 : i = k
    · subst c1
      rw [hJ1 j (by omega)]
      exact r1.2.1 i j b1 b2
    · rw [hne i c1]
      exact r1.2.1 i j b1 b2
  · intro i b1 b2
    rw [hne i (by omega)]
    exact r1.2.2 i b1 b2
  · intro a b1 b2 b3 b4
    rw [hK a (by omega) (by omega) b2]
    exact r2.1 a b1 b2 b3 b4
  · intro j b1 b2
    rw [hK 55 (by omega) (by omega) (by omega)]
    exact r2.2 j b1 b2
  · intro i hi
    obtain ⟨q1, q2, q3, q4, q5, q6⟩ := r3 i hi
    rw [hK 65 (by omega) (by omega) (by omega)]
    by_cases c1 : i = k
    · subst c1
      rw [hJ1 9 (by omega)]
      exact ⟨e, q2, r0, r9, q5, q6⟩
    · rw [hne i c1, hK1 i c1]
      exact ⟨q1, q2, q3, q4, q5, q6⟩
  · intro i hi
    rw [hK 83 (by omega) (by omega) (by omega), hK 84 (by omega) (by omega) (by omega), hK 85 (by omega) (by omega) (by omega), hK 86 (by omega) (by omega) (by omega), hK 87 (by omega) (by omega) (by omega)]
    by_cases c1 : i = k
    · subst c1
      rw [hJ1 11 (by omega), hJ1 12 (by omega), hJ1 13 (by omega), hJ1 14 (by omega)]
      exact r4.1 i hi
    · rw [hne i c1]
      exact r4.1 i hi
  · intro i b1 b2
    omega
  · rw [hJ 26 (by omega) (by omega) (by omega), hK 80 (by omega) (by omega) (by omega)]
    exact r5.1
  · rw [hJ 27 (by omega) (by omega) (by omega), hK 82 (by omega) (by omega) (by omega)]
    exact r5.2.1
  · rw [hK 80 (by omega) (by omega) (by omega)]
    exact r5.2.2.1
  · intro i j b1 b2
    rw [hK 80 (by omega) (by omega) (by omega)]
    exact r5.2.2.2.1 i j b1 b2
  · rw [hJ 25 (by omega) (by omega) (by omega), hK 80 (by omega) (by omega) (by omega)]
    exact r5.2.2.2.2
  · unfold zR6 at *
    rw [hJ 25 (by omega) (by omega) (by omega), hJ 28 (by omega) (by omega) (by omega), hK 81 (by omega) (by omega) (by omega), hK 55 (by omega) (by omega) (by omega)]
    exact r6
  · intro j hj
    rw [hK 88 (by omega) (by omega) (by omega)]
    exact r7 j hj
/-- the ten values are the same in both -/
theorem zr_same {m c : Nat} {aim : Int32} {I0 K0 Ic Im : Nat → Nat → Int32} {T g k : Nat} (h : zRR m c aim I0 K0 Ic Im T m g) (hk : k < m) (ha : K0 55 55 = aim) (hg : g = T + 1) (T1 x : Int32) (hT1 : T1.toInt = T) : ∀ i < 10, zvr Ic k T1 x 29 i = zmr Im k T1 89 i := by
  obtain ⟨r1, r2, r3, r4, r5, r6, r7⟩ := h
  have hTn : T1.toNatClampNeg = T := by rw [y_tn, hT1]; rfl
  have f : ∀ i, zvr Ic k T1 x 29 i = if i = 9 then Ic (z_sd k) 12 else if i = 8 then Ic 27 k else if i = 7 then Ic (z_sd k) 9 / Int32.ofInt 1000 else if i = 6 then T1 else if i = 5 then Ic 25 3 else if i = 4 then Ic 28 T else if i = 3 then Ic (z_sd k) 14 else if i = 2 then Ic (z_sd k) 13 else if i = 1 then Ic (z_sd k) 11 else if i = 0 then Ic (z_sd k) 8 else Ic 29 i := by
    intro i
    unfold zvr
    rw [hTn]
    repeat (split; next e => subst e; rfl)
    rw [z_up_j _ _ _ _ _ (by omega), z_up_j _ _ _ _ _ (by omega), z_up_j _ _ _ _ _ (by omega), z_up_j _ _ _ _ _ (by omega), z_up_j _ _ _ _ _ (by omega), z_up_j _ _ _ _ _ (by omega), z_up_j _ _ _ _ _ (by omega), z_up_j _ _ _ _ _ (by omega), z_up_j _ _ _ _ _ (by omega), z_up_j _ _ _ _ _ (by omega)]
  have f2 : ∀ i, zmr Im k T1 89 i = if i = 9 then Im 87 k else if i = 8 then Im 82 k else if i = 7 then Im 65 k / Int32.ofInt 1000 else if i = 6 then T1 else if i = 5 then Im 55 55 else if i = 4 then Im 81 T else if i = 3 then Im 86 k else if i = 2 then Im 85 k else if i = 1 then Im 84 k else if i = 0 then Im 64 k else Im 89 i := by
    intro i
    unfold zmr
    rw [hTn]
    repeat (split; next e => subst e; rfl)
    rw [z_up_j _ _ _ _ _ (by omega), z_up_j _ _ _ _ _ (by omega), z_up_j _ _ _ _ _ (by omega), z_up_j _ _ _ _ _ (by omega), z_up_j _ _ _ _ _ (by omega), z_up_j _ _ _ _ _ (by omega), z_up_j _ _ _ _ _ (by omega), z_up_j _ _ _ _ _ (by omega), z_up_j _ _ _ _ _ (by omega), z_up_j _ _ _ _ _ (by omega)]
  obtain ⟨q1, q2, q3, q4, q5, q6⟩ := r3 k hk
  obtain ⟨p1, p2, p3, p4, _⟩ := r4.1 k hk
  have h55 : Im 55 55 = aim := by rw [r2.2 55 (by omega) (by omega), ha]
  obtain ⟨s1, s2, s3, s4, s5, s6, s7, s8, s9⟩ := r6
  intro i hi
  rw [f i, f2 i, q1, q2, p1, p2, p3, p4, h55, s2, s9 T (by omega), r5.2.1]
  repeat (split; rfl)
  omega
theorem zr_movesB8 (X : ZX) (d d2 m ce sl ce2 sl2 : Nat) (L L2 : Nat → Nat → Int64) (t u r q : Nat) {c C p T g : Nat} {aim : Int32} {I0 K0 : Nat → Nat → Int32} (hB : zBs m c C p I0 K0) (ha : K0 55 55 = aim) (l : List zcl) (hl : l.length ≤ 12) (hVC : zVC8 l I0) (hVM : zVM l I0) (hg : g = T + 1) (T1 : Int32) (hT1 : T1.toInt = T) (hT44 : T < 44) (n : Nat) : ∀ (k : Nat) (Ic Im : Nat → Nat → Int32) (x : Int32), k + n = m → x.toInt = k → zRR m c aim I0 K0 Ic Im T m g → ∃ J K : Nat → Nat → Int32, zRR m c aim I0 K0 J K T m g ∧
    (∀ M, z_loop X z_cf z_ff (z_pu (z_run X z_cf z_ff (d + 6))) 93 (M + 15 * n + 2) 2 [(0, .ref 25), (1, .int T1), (2, .ref 8), (3, .int x)] [] (118, z_sd m, ce, sl, Ic, L, z_rr t u r q (z_gg m) (z_sf m)) = some (.inl none, (118, z_sd m, ce, sl, J, L, z_rr t u r q (z_gg m) (z_sf m)))) ∧
    (∀ N, z_loop X z_cf z_ff (z_pu (z_run X z_cf z_ff (d2 + 6))) 209 (N + 2 * n + 1) 168 [(0, .ref 55), (1, .int T1), (3, .int x)] [] (118, z_sd m, ce2, sl2, Im, L2, z_rr t u r q (z_gg m) (z_sf m)) = some (.inl (some (.int (Int32.ofInt 0))), (118, z_sd m, ce2, sl2, K, L2, z_rr t u r q (z_gg m) (z_sf m)))) := by
  have h5 := hB.1.1
  induction n with
  | zero =>
    intro k Ic Im x h1 h2 h
    have hIc5 : Ic 5 2 = Int32.ofNat m := by rw [h.1.1 5 (by omega) (by omega) (by omega) (by omega) (by omega) (by omega), hB.1.2.1]
    have hIm1 : Im 55 1 = Int32.ofNat m := by rw [h.2.1.2 1 (by omega) (by omega), hB.2.2.2.2.2.2.1, hB.1.2.2.1]
    refine ⟨Ic, Im, h, fun M => ?_, fun N => ?_⟩
    · rw [show M + 15 * 0 + 2 = (M + 1) + 1 by omega, zb_Run_moveGaps_25_8_2, zk_Line_many_0 X (d + 2), z_bi_v, zb_Run_moveGaps_25_8_10, if_pos (by rw [hIc5, y_i_le, y_on (by omega)]; omega)]
    · rw [show N + 2 * 0 + 1 = N + 1 by omega, zb_M_tick_168, if_pos (by rw [hIm1, y_i_le, y_on (by omega)]; omega)]
  | succ n ih =>
    intro k Ic Im x h1 h2 h
    have hk : k < m := by omega
    have hIc5 : Ic 5 2 = Int32.ofNat m := by rw [h.1.1 5 (by omega) (by omega) (by omega) (by omega) (by omega) (by omega), hB.1.2.1]
    have hIm1 : Im 55 1 = Int32.ofNat m := by rw [h.2.1.2 1 (by omega) (by omega), hB.2.2.2.2.2.2.1, hB.1.2.2.1]
    obtain ⟨⟨s0, s1, s2, s3, s4, s5, s6, s7, s8, s9, s10⟩, b1, b2, b3, b4, b5, b6, b7, b8, b9, b10, b11, b12, b13, b14, b15, b16, b17, b18⟩ := hB.1.2.2.2.1 k hk
    have hC0 : ∀ a, a < 118 → (a < 25 ∨ 29 < a) → (a ≠ 10 ∧ a ≠ 17) → Ic a = I0 a := fun a a1 a2 a3 => h.1.1 a a1 (by omega) (by omega) (by omega) (by omega) a3
    have hM0 : ∀ a, a < 118 → a ≠ 55 → (a < 25 ∨ 29 < a) → (a ≠ 10 ∧ a ≠ 17) → a ≠ 64 → a ≠ 65 → (a < 80 ∨ 90 < a) → Im a = I0 a := by
      intro a a1 a2 a3 a4 a5 a6 a7
      rw [h.2.1.1 a a2 a5 a6 a7]
      exact hB.2.2.2.2.2.1 a a1 a2 ⟨a3, a4⟩ a7
    have hVC' : zVC8 l Ic := zVC8_c hVC (hC0 _ (by omega) (by omega) (by omega)) (hC0 _ (by omega) (by omega) (by omega)) (hC0 _ (by omega) (by omega) (by omega)) (hC0 _ (by omega) (by omega) (by omega)) (hC0 _ (by omega) (by omega) (by omega)) (hC0 _ (by omega) (by omega) (by omega))
    have hm := fun a h1 h2 h3 h4 h5 h6 h7 => hM0 a h1 h2 h3 h4 h5 h6 h7
    have hVM' : zVM l Im := zVM_c hVM (by rw [h.2.1.2 28 (by omega) (by omega)]; exact hB.2.2.2.2.2.2.2.2.2.1) (by rw [h.2.1.2 29 (by omega) (by omega)]; exact hB.2.2.2.2.2.2.2.2.2.2) (hM0 _ (by omega) (by omega) (by omega) (by omega) (by omega) (by omega) (by omega)) (hM0 _ (by omega) (by omega) (by omega) (by omega) (by omega) (by omega) (by omega)) (hM0 _ (by omega) (by omega) (by omega) (by omega) (by omega) (by omega) (by omega)) (hM0 _ (by omega) (by omega) (by omega) (by omega) (by omega) (by omega) (by omega)) (hM0 _ (by omega) (by omega) (by omega) (by omega) (by omega) (by omega) (by omega))
    have h58 : Im 58 = I0 58 := hM0 _ (by omega) (by omega) (by omega) (by omega) (by omega) (by omega) (by omega)
    have h59 : Im 59 = I0 59 := hM0 _ (by omega) (by omega) (by omega) (by omega) (by omega) (by omega) (by omega)
    have h60 : Im 60 = I0 60 := hM0 _ (by omega) (by omega) (by omega) (by omega) (by omega) (by omega) (by omega)
    obtain ⟨q1, q2, q3, q4, q5, q6⟩ := h.2.2.1 k hk
    obtain ⟨J, j1, j2, j3, j4⟩ := zr_moveC8 X d m ce sl Ic L t u r q k hk h5 hIc5 T1 x h2 (by omega) (by omega) l hVC' hl
    obtain ⟨K, k1, k2, k3, k4⟩ := zr_moveM X (d2 + 1) m ce2 sl2 Im L2 t u r q k (by omega) T1 x h2 (by omega) (by omega) l hVM' hl (by rw [h58]; omega) (by rw [h58]; omega) (by rw [h59]; omega) (by rw [h59]; omega) (by rw [h60]; omega) (by rw [h60]; omega)
    have c2 : Ic (z_sd k) 2 = I0 58 k := by rw [h.1.2.1 k 2 hk (by omega), s2]
    have c3 : Ic (z_sd k) 3 = I0 59 k := by rw [h.1.2.1 k 3 hk (by omega), s3]
    have c4 : Ic (z_sd k) 4 = I0 60 k := by rw [h.1.2.1 k 4 hk (by omega), s4]
    have sm := zr_same h hk ha hg T1 x hT1
    have e : J (z_sd k) 8 = K 64 k := by
      rw [j3, k3, zwant_c sm, q1, c2, c3, c4, h58, h59, h60]
      rw [← zgap_c (by omega) (by omega) (by omega) (by omega) (by omega) (by omega), y_ofi]
    have rg : (K 64 k).toInt = zgap (I0 58 k).toInt (I0 59 k).toInt (I0 60 k).toInt (Im 64 k).toInt ((zwant (zmr Im k T1 89) x.toInt l).getD (Im 64 k)).toInt := by
      rw [k3, h58, h59, h60]
      refine y_oi ?_ ?_ <;> unfold zgap <;> omega
    have hR := zRR_move h hk (fun a a1 a2 a3 => j1 a a1.1 a2 a3) j2 k1 k2 e (by rw [rg]; unfold zgap; omega) (by rw [rg]; unfold zgap; omega)
    obtain ⟨J2, K2, g1, g2, g3⟩ := ih (k + 1) J K (x + Int32.ofInt 1) (by omega) (by rw [y_adl (by omega) (by omega) (by omega) (by omega)]; omega) hR
    refine ⟨J2, K2, g1, fun M => ?_, fun N => ?_⟩
    · rw [show M + 15 * (n + 1) + 2 = (M + 15 * n + 2) + 15 by omega, j4]
      exact g2 M
    · rw [show N + 2 * (n + 1) + 1 = (N + 2 * n + 1) + 1 + 1 by omega, zb_M_tick_168, if_neg (by rw [hIm1, y_i_le, y_on (by omega)]; omega), k4, z_b0_v, zb_M_tick_182]
      exact g3 N
theorem zr_movesB15 (X : ZX) (d d2 m ce sl ce2 sl2 : Nat) (L L2 : Nat → Nat → Int64) (t u r q : Nat) {c C p T g : Nat} {aim : Int32} {I0 K0 : Nat → Nat → Int32} (hB : zBs m c C p I0 K0) (ha : K0 55 55 = aim) (l : List zcl) (hl : l.length ≤ 12) (hVC : zVC15 l I0) (hVM : zVM l I0) (hg : g = T + 1) (T1 : Int32) (hT1 : T1.toInt = T) (hT44 : T < 44) (n : Nat) : ∀ (k : Nat) (Ic Im : Nat → Nat → Int32) (x : Int32), k + n = m → x.toInt = k → zRR m c aim I0 K0 Ic Im T m g → ∃ J K : Nat → Nat → Int32, zRR m c aim I0 K0 J K T m g ∧
    (∀ M, z_loop X z_cf z_ff (z_pu (z_run X z_cf z_ff (d + 6))) 93 (M + 15 * n + 2) 2 [(0, .ref 25), (1, .int T1), (2, .ref 15), (3, .int x)] [] (118, z_sd m, ce, sl, Ic, L, z_rr t u r q (z_gg m) (z_sf m)) = some (.inl none, (118, z_sd m, ce, sl, J, L, z_rr t u r q (z_gg m) (z_sf m)))) ∧
    (∀ N, z_loop X z_cf z_ff (z_pu (z_run X z_cf z_ff (d2 + 6))) 209 (N + 2 * n + 1) 168 [(0, .ref 55), (1, .int T1), (3, .int x)] [] (118, z_sd m, ce2, sl2, Im, L2, z_rr t u r q (z_gg m) (z_sf m)) = some (.inl (some (.int (Int32.ofInt 0))), (118, z_sd m, ce2, sl2, K, L2, z_rr t u r q (z_gg m) (z_sf m)))) := by
  have h5 := hB.1.1
  induction n with
  | zero =>
    intro k Ic Im x h1 h2 h
    have hIc5 : Ic 5 2 = Int32.ofNat m := by rw [h.1.1 5 (by omega) (by omega) (by omega) (by omega) (by omega) (by omega), hB.1.2.1]
    have hIm1 : Im 55 1 = Int32.ofNat m := by rw [h.2.1.2 1 (by omega) (by omega), hB.2.2.2.2.2.2.1, hB.1.2.2.1]
    refine ⟨Ic, Im, h, fun M => ?_, fun N => ?_⟩
    · rw [show M + 15 * 0 + 2 = (M + 1) + 1 by omega, zb_Run_moveGaps_25_15_2, zk_Line_many_0 X (d + 2), z_bi_v, zb_Run_moveGaps_25_15_10, if_pos (by rw [hIc5, y_i_le, y_on (by omega)]; omega)]
    · rw [show N + 2 * 0 + 1 = N + 1 by omega, zb_M_tick_168, if_pos (by rw [hIm1, y_i_le, y_on (by omega)]; omega)]
  | succ n ih =>
    intro k Ic Im x h1 h2 h
    have hk : k < m := by omega
    have hIc5 : Ic 5 2 = Int32.ofNat m := by rw [h.1.1 5 (by omega) (by omega) (by omega) (by omega) (by omega) (by omega), hB.1.2.1]
    have hIm1 : Im 55 1 = Int32.ofNat m := by rw [h.2.1.2 1 (by omega) (by omega), hB.2.2.2.2.2.2.1, hB.1.2.2.1]
    obtain ⟨⟨s0, s1, s2, s3, s4, s5, s6, s7, s8, s9, s10⟩, b1, b2, b3, b4, b5, b6, b7, b8, b9, b10, b11, b12, b13, b14, b15, b16, b17, b18⟩ := hB.1.2.2.2.1 k hk
    have hC0 : ∀ a, a < 118 → (a < 25 ∨ 29 < a) → (a ≠ 10 ∧ a ≠ 17) → Ic a = I0 a := fun a a1 a2 a3 => h.1.1 a a1 (by omega) (by omega) (by omega) (by omega) a3
    have hM0 : ∀ a, a < 118 → a ≠ 55 → (a < 25 ∨ 29 < a) → (a ≠ 10 ∧ a ≠ 17) → a ≠ 64 → a ≠ 65 → (a < 80 ∨ 90 < a) → Im a = I0 a := by
      intro a a1 a2 a3 a4 a5 a6 a7
      rw [h.2.1.1 a a2 a5 a6 a7]
      exact hB.2.2.2.2.2.1 a a1 a2 ⟨a3, a4⟩ a7
    have hVC' : zVC15 l Ic := zVC15_c hVC (hC0 _ (by omega) (by omega) (by omega)) (hC0 _ (by omega) (by omega) (by omega)) (hC0 _ (by omega) (by omega) (by omega)) (hC0 _ (by omega) (by omega) (by omega)) (hC0 _ (by omega) (by omega) (by omega)) (hC0 _ (by omega) (by omega) (by omega))
    have hm := fun a h1 h2 h3 h4 h5 h6 h7 => hM0 a h1 h2 h3 h4 h5 h6 h7
    have hVM' : zVM l Im := zVM_c hVM (by rw [h.2.1.2 28 (by omega) (by omega)]; exact hB.2.2.2.2.2.2.2.2.2.1) (by rw [h.2.1.2 29 (by omega) (by omega)]; exact hB.2.2.2.2.2.2.2.2.2.2) (hM0 _ (by omega) (by omega) (by omega) (by omega) (by omega) (by omega) (by omega)) (hM0 _ (by omega) (by omega) (by omega) (by omega) (by omega) (by omega) (by omega)) (hM0 _ (by omega) (by omega) (by omega) (by omega) (by omega) (by omega) (by omega)) (hM0 _ (by omega) (by omega) (by omega) (by omega) (by omega) (by omega) (by omega)) (hM0 _ (by omega) (by omega) (by omega) (by omega) (by omega) (by omega) (by omega))
    have h58 : Im 58 = I0 58 := hM0 _ (by omega) (by omega) (by omega) (by omega) (by omega) (by omega) (by omega)
    have h59 : Im 59 = I0 59 := hM0 _ (by omega) (by omega) (by omega) (by omega) (by omega) (by omega) (by omega)
    have h60 : Im 60 = I0 60 := hM0 _ (by omega) (by omega) (by omega) (by omega) (by omega) (by omega) (by omega)
    obtain ⟨q1, q2, q3, q4, q5, q6⟩ := h.2.2.1 k hk
    obtain ⟨J, j1, j2, j3, j4⟩ := zr_moveC15 X d m ce sl Ic L t u r q k hk h5 hIc5 T1 x h2 (by omega) (by omega) l hVC' hl
    obtain ⟨K, k1, k2, k3, k4⟩ := zr_moveM X (d2 + 1) m ce2 sl2 Im L2 t u r q k (by omega) T1 x h2 (by omega) (by omega) l hVM' hl (by rw [h58]; omega) (by rw [h58]; omega) (by rw [h59]; omega) (by rw [h59]; omega) (by rw [h60]; omega) (by rw [h60]; omega)
    have c2 : Ic (z_sd k) 2 = I0 58 k := by rw [h.1.2.1 k 2 hk (by omega), s2]
    have c3 : Ic (z_sd k) 3 = I0 59 k := by rw [h.1.2.1 k 3 hk (by omega), s3]
    have c4 : Ic (z_sd k) 4 = I0 60 k := by rw [h.1.2.1 k 4 hk (by omega), s4]
    have sm := zr_same h hk ha hg T1 x hT1
    have e : J (z_sd k) 8 = K 64 k := by
      rw [j3, k3, zwant_c sm, q1, c2, c3, c4, h58, h59, h60]
      rw [← zgap_c (by omega) (by omega) (by omega) (by omega) (by omega) (by omega), y_ofi]
    have rg : (K 64 k).toInt = zgap (I0 58 k).toInt (I0 59 k).toInt (I0 60 k).toInt (Im 64 k).toInt ((zwant (zmr Im k T1 89) x.toInt l).getD (Im 64 k)).toInt := by
      rw [k3, h58, h59, h60]
      refine y_oi ?_ ?_ <;> unfold zgap <;> omega
    have hR := zRR_move h hk (fun a a1 a2 a3 => j1 a a1.2 a2 a3) j2 k1 k2 e (by rw [rg]; unfold zgap; omega) (by rw [rg]; unfold zgap; omega)
    obtain ⟨J2, K2, g1, g2, g3⟩ := ih (k + 1) J K (x + Int32.ofInt 1) (by omega) (by rw [y_adl (by omega) (by omega) (by omega) (by omega)]; omega) hR
    refine ⟨J2, K2, g1, fun M => ?_, fun N => ?_⟩
    · rw [show M + 15 * (n + 1) + 2 = (M + 15 * n + 2) + 15 by omega, j4]
      exact g2 M
    · rw [show N + 2 * (n + 1) + 1 = (N + 2 * n + 1) + 1 + 1 by omega, zb_M_tick_168, if_neg (by rw [hIm1, y_i_le, y_on (by omega)]; omega), k4, z_b0_v, zb_M_tick_182]
      exact g3 N
