/-! RULES, 21: the model's machine: the rules as a whole -/
def zMA (F : Nat → Int) (N nst b i : Nat) (tk : zTk) (P : List zcl) (qq : zPq) (I : Nat → Nat → Int32) (L : Nat → Nat → Int64) : Prop := zMB F N tk I L ∧ I 55 18 = 0 ∧ (I 55 33).toInt = i ∧ (I 71 b).toInt = P.length ∧ (I 55 1).toInt = nst ∧ (∃ top : Nat, (I 55 30).toInt = top ∧ 1000 * b ≤ top ∧ top ≤ 1000 * b + 2 * tk.2.1 ∧ zPM b top I (12 * b) P) ∧ (I 70 (4 * b)).toInt = qq.1 ∧ (I 70 (4 * b + 1)).toInt = qq.2.1 ∧ (I 70 (4 * b + 2)).toInt = qq.2.2.1 ∧ (I 70 (4 * b + 3)).toInt = qq.2.2.2
theorem zpCla_i {lx : Nat → zTk} {nst : Int} {i : Nat} {tk : zTk} {P : List zcl} {qq : zPq} {r : zTk × List zcl × zPq} (h : zpCla lx nst i tk P qq = .inr r) : i < 12 := by
  unfold zpCla at h
  by_cases c1 : 114 ≤ tk.1 ∧ tk.1 ≤ 118
  · rw [if_pos c1] at h
    by_cases c2 : i < 12
    · exact c2
    · rw [if_neg c2] at h
      exact absurd h (by simp)
  · rw [if_neg c1] at h
    exact absurd h (by simp)
theorem zkw_c (k : Int) : (0 ≤ zkw k ∧ zkw k ≤ 4) ↔ (114 ≤ k ∧ k ≤ 118) := by
  have h0 := @zkw_0 k
  have h1 := @zkw_1 k
  have h2 := @zkw_2 k
  have h3 := @zkw_3 k
  have h4 := @zkw_4 k
  omega
theorem zkw_114 {k : Int} (h1 : 114 ≤ k) (h2 : k ≤ 118) : zkw k = k - 114 := by
  have h0 := @zkw_0 k
  have h1 := @zkw_1 k
  have h2 := @zkw_2 k
  have h3 := @zkw_3 k
  have h4 := @zkw_4 k
  omega
theorem zso_0 {k : Int} : zso k = 0 ↔ k = 0 := by
  constructor
  · intro h
    unfold zso at h
    repeat' split at h
    all_goals omega
  · intro h
    rw [h]
    rfl
/-- one clause -/
theorem zM_cla (X : ZX) (d m ce sl : Nat) (I : Nat → Nat → Int32) (L : Nat → Nat → Int64) (t u r q : Nat) {F : Nat → Int} {N : Nat} (hN4 : N ≤ 400) {b nst i : Nat} (hb : b < 2) (x1 : Int32) (hx : x1.toInt = b) {tk : zTk} {P : List zcl} {qq : zPq} (hA : zMA F N nst b i tk P qq I L) (hP : P.length ≤ i) (hi : i ≤ 12) :
    (∀ e, zpCla (zlx F N) nst i tk P qq = .inl e → ∃ (J : Nat → Nat → Int32) (LJ : Nat → Nat → Int64), zMS b I J L LJ ∧ J 55 18 = Int32.ofInt e.1 ∧ (J 55 19).toInt = e.2 ∧ 1 ≤ e.1 ∧ e.1 ≤ 4 ∧ z_pu (z_run X z_cf z_ff (d + 9)) 189 [.ref 55, .int x1] (118, z_sd m, ce, sl, I, L, z_rr t u r q (z_gg m) (z_sf m)) = some (.inl none, (118, z_sd m, ce, sl, J, LJ, z_rr t u r q (z_gg m) (z_sf m)))) ∧
    (∀ tk' P' q', zpCla (zlx F N) nst i tk P qq = .inr (tk', P', q') → P'.length ≤ i + 1 ∧ ∃ (J : Nat → Nat → Int32) (LJ : Nat → Nat → Int64), zMS b I J L LJ ∧ zMA F N nst b (i + 1) tk' P' q' J LJ ∧ z_pu (z_run X z_cf z_ff (d + 9)) 189 [.ref 55, .int x1] (118, z_sd m, ce, sl, I, L, z_rr t u r q (z_gg m) (z_sf m)) = some (.inl none, (118, z_sd m, ce, sl, J, LJ, z_rr t u r q (z_gg m) (z_sf m)))) := by
  have en : ∀ rr : ZR, (∀ M, z_loop X z_cf z_ff (z_pu (z_run X z_cf z_ff (d + 8))) 189 (M + 30) 0 [(0, .ref 55), (1, .int x1)] [] (118, z_sd m, ce, sl, I, L, z_rr t u r q (z_gg m) (z_sf m)) = rr) → z_pu (z_run X z_cf z_ff (d + 9)) 189 [.ref 55, .int x1] (118, z_sd m, ce, sl, I, L, z_rr t u r q (z_gg m) (z_sf m)) = rr := fun rr h => z_en X (d + 6) _ _ [(0, .ref 55), (1, .int x1)] _ _ rfl rfl rfl (h 99999970)
  obtain ⟨h1, h2, h3, h4, h5, ⟨top, h6, h7, h8, h9⟩, p0, p1, p2, p3⟩ := hA
  obtain ⟨y, y1, y2⟩ := zr_known X (d + 4) m ce sl I L t u r q h1.1 h1.2.1
  have hp := h1.2.1.1
  have e4 : (Int32.ofInt 4).toInt = 4 := rfl
  -- a fault ahead
  have bad : ∀ (k : Int), 1 ≤ k → k ≤ 4 → (∀ M, ∃ M', z_loop X z_cf z_ff (z_pu (z_run X z_cf z_ff (d + 8))) 189 (M + 30) 0 [(0, .ref 55), (1, .int x1)] [] (118, z_sd m, ce, sl, I, L, z_rr t u r q (z_gg m) (z_sf m)) = z_loop X z_cf z_ff (z_pu (z_run X z_cf z_ff (d + 8))) 189 (M' + 10) 33 [(0, .ref 55), (1, .int x1), (2, .int y)] [] (118, z_sd m, ce, sl, (z_up (z_up I 55 18 (Int32.ofInt k)) 55 19 (I 55 23)), L, z_rr t u r q (z_gg m) (z_sf m))) → ∀ e : zFl, (k, tk.2.1) = e → ∃ (J : Nat → Nat → Int32) (LJ : Nat → Nat → Int64), zMS b I J L LJ ∧ J 55 18 = Int32.ofInt e.1 ∧ (J 55 19).toInt = e.2 ∧ 1 ≤ e.1 ∧ e.1 ≤ 4 ∧ z_pu (z_run X z_cf z_ff (d + 9)) 189 [.ref 55, .int x1] (118, z_sd m, ce, sl, I, L, z_rr t u r q (z_gg m) (z_sf m)) = some (.inl none, (118, z_sd m, ce, sl, J, LJ, z_rr t u r q (z_gg m) (z_sf m))) := by
    intro k k1 k2 h e he
    subst he
    have hbad : ¬ (z_up (z_up I 55 18 (Int32.ofInt k)) 55 19 (I 55 23)) 55 18 = 0 := by
      rw [z_up_j _ _ _ _ _ (by omega), z_up_s]
      exact y_k0 k1 k2
    refine ⟨_, L, zMS_5 (zM5_w I L (Int32.ofInt k) (I 55 23)), by rw [z_up_j _ _ _ _ _ (by omega), z_up_s], by rw [z_up_s]; exact h1.1.1, k1, k2, en _ (fun M => ?_)⟩
    obtain ⟨M', hM⟩ := h M
    rw [hM, show M' + 10 = M' + 8 + 1 + 1 by omega, zb_M_clause_33, zM_isb X (d + 5) m ce sl _ L t u r q hbad, z_bi_v, zb_M_clause_37, if_pos (by decide)]
  by_cases c1 : 114 ≤ tk.1 ∧ tk.1 ≤ 118
  · have yk : y.toInt = tk.1 - 114 := by rw [y1, zkw_114 c1.1 c1.2]
    have ny0 : ¬ y < 0 := by rw [y_i_lt, y_i0]; omega
    have py4 : y ≤ Int32.ofInt 4 := by rw [y_i_le]; omega
    by_cases c12 : i < 12
    · have n33 : ¬ I 55 33 = Int32.ofInt 12 := y_lit (by rw [h3]; omega) (by omega) (by omega)
      have k55 : ∀ j, j ≠ 33 → (z_up I 55 33 (I 55 33 + Int32.ofInt 1)) 55 j = I 55 j := fun j hj => z_up_j _ _ _ _ _ hj
      have kx : ∀ x, x ≠ 55 → (z_up I 55 33 (I 55 33 + Int32.ofInt 1)) x = I x := fun x hx => z_up_r _ _ _ _ _ hx
      obtain ⟨J1, L1, i1, i2, i3, i4, i5, i6, i7⟩ := zM_tok X (d + 4) m ce sl (z_up I 55 33 (I 55 33 + Int32.ofInt 1)) L t u r q hN4 (zMB_c h1 (fun j _ _ => k55 j (by omega)) (kx 69 (by omega))) (by omega)
      have S1 : zMS b I J1 L L1 := zMS_t (zMS_f I L (I 55 33 + Int32.ofInt 1) (f := 33) (by omega) (by omega) (by omega) (by omega) (by omega)) (zMS_5 ⟨i1, fun j hj => i2 j (by omega), i3, i4⟩)
      have j33 : (J1 55 33).toInt = ((i + 1 : Nat) : Int) := by
        rw [i2 33 (by omega), z_up_s, y_adl (by omega) (by omega) (by omega) (by omega), h3]
        omega
      have jx : ∀ x, x ≠ 55 → J1 x = I x := fun x hx => by rw [i1 x hx, kx x hx]
      have j55 : ∀ j, (j < 21 ∨ 26 < j) → j ≠ 33 → J1 55 j = I 55 j := fun j hj h33 => by rw [i2 j hj, k55 j h33]
      have j18 : J1 55 18 = 0 := by rw [j55 18 (by omega) (by omega)]; exact h2
      have st : ∀ M, z_loop X z_cf z_ff (z_pu (z_run X z_cf z_ff (d + 8))) 189 (M + 30) 0 [(0, .ref 55), (1, .int x1)] [] (118, z_sd m, ce, sl, I, L, z_rr t u r q (z_gg m) (z_sf m)) = z_loop X z_cf z_ff (z_pu (z_run X z_cf z_ff (d + 8))) 189 (M + 25) 55 [(0, .ref 55), (1, .int x1), (2, .int y)] [] (118, z_sd m, ce, sl, J1, L1, z_rr t u r q (z_gg m) (z_sf m)) := by
        intro M
        rw [show M + 30 = M + 25 + 1 + 1 + 1 + 1 + 1 by omega, zb_M_clause_0, y2, z_bi_v, zb_M_clause_4, if_neg ny0, if_pos py4, zb_M_clause_19, if_neg n33, zb_M_clause_33, zM_isg X (d + 5) m ce sl I L t u r q h2, z_bi_v, zb_M_clause_37, if_neg (by decide), i7, z_b0_v]
      -- the end: ';'
      have fin : ∀ (K : Nat → Nat → Int32) (LK : Nat → Nat → Int64) (tt : zTk) (P' : List zcl) (q' : zPq) (top' : Nat), zMS b I K L LK → zMB F N tt K LK → K 55 18 = 0 → (K 55 33).toInt = ((i + 1 : Nat) : Int) → (K 71 b).toInt = P'.length → (K 55 1).toInt = nst → (K 55 30).toInt = top' → 1000 * b ≤ top' → top' ≤ 1000 * b + 2 * tt.2.1 + 1 → zPM b top' K (12 * b) P' → (K 70 (4 * b)).toInt = q'.1 → (K 70 (4 * b + 1)).toInt = q'.2.1 → (K 70 (4 * b + 2)).toInt = q'.2.2.1 → (K 70 (4 * b + 3)).toInt = q'.2.2.2 → (∀ M, ∃ M', z_loop X z_cf z_ff (z_pu (z_run X z_cf z_ff (d + 8))) 189 (M + 30) 0 [(0, .ref 55), (1, .int x1)] [] (118, z_sd m, ce, sl, I, L, z_rr t u r q (z_gg m) (z_sf m)) = z_loop X z_cf z_ff (z_pu (z_run X z_cf z_ff (d + 8))) 189 (M' + 10) 100 [(0, .ref 55)] [.int (Int32.ofInt 1)] (118, z_sd m, ce, sl, K, LK, z_rr t u r q (z_gg m) (z_sf m))) →
          (tt.1 = 59 → ∃ (J : Nat → Nat → Int32) (LJ : Nat → Nat → Int64), zMS b I J L LJ ∧ zMA F N nst b (i + 1) (zlx F N tt.2.2.1) P' q' J LJ ∧ z_pu (z_run X z_cf z_ff (d + 9)) 189 [.ref 55, .int x1] (118, z_sd m, ce, sl, I, L, z_rr t u r q (z_gg m) (z_sf m)) = some (.inl none, (118, z_sd m, ce, sl, J, LJ, z_rr t u r q (z_gg m) (z_sf m)))) ∧
          (tt.1 ≠ 59 → ∀ e : zFl, (1, tt.2.1) = e → ∃ (J : Nat → Nat → Int32) (LJ : Nat → Nat → Int64), zMS b I J L LJ ∧ J 55 18 = Int32.ofInt e.1 ∧ (J 55 19).toInt = e.2 ∧ 1 ≤ e.1 ∧ e.1 ≤ 4 ∧ z_pu (z_run X z_cf z_ff (d + 9)) 189 [.ref 55, .int x1] (118, z_sd m, ce, sl, I, L, z_rr t u r q (z_gg m) (z_sf m)) = some (.inl none, (118, z_sd m, ce, sl, J, LJ, z_rr t u r q (z_gg m) (z_sf m)))) := by
        intro K LK tt P' q' top' w1 w2 w3 w4 w5 w6 w7 w8 w9 w10 w11 w12 w13 w14 w15
        refine ⟨fun h59 => ?_, fun h59 e he => ?_⟩
        · have hs : ¬ z_v_M_isSign K (Int32.ofInt 59) = 0 := fun h0 => (zM_sign w2.1 w2.2.1 (v := 59) (by unfold zsgn; omega)).mp h0 h59
          obtain ⟨J, LJ, a1, a2, a3, a4, a5, a6, a7⟩ := zM_tok X (d + 4) m ce sl K LK t u r q hN4 w2 (by omega)
          refine ⟨J, LJ, zMS_t w1 (zMS_5 ⟨a1, fun j hj => a2 j (by omega), a3, a4⟩), ⟨a5, by rw [a2 18 (by omega)]; exact w3, by rw [a2 33 (by omega)]; exact w4, by rw [a1 71 (by omega)]; exact w5, by rw [a2 1 (by omega)]; exact w6, ⟨top', by rw [a2 30 (by omega)]; exact w7, w8, by omega, zPM_u (Nat.le_refl _) (fun j _ _ => by rw [a1 75 (by omega)]) P' (12 * b) (fun x x1 x2 j _ _ => by rw [a1 x (by omega)]) w10⟩, by rw [a1 70 (by omega)]; exact w11, by rw [a1 70 (by omega)]; exact w12, by rw [a1 70 (by omega)]; exact w13, by rw [a1 70 (by omega)]; exact w14⟩, en _ (fun M => ?_)⟩
          obtain ⟨M', hM⟩ := w15 M
          rw [hM, show M' + 10 = M' + 6 + 1 + 1 + 1 + 1 by omega, zb_M_clause_100, if_neg (by decide), zk_M_isSign_0, z_bi_v, zb_M_clause_110, if_neg hs, a7, z_b0_v, zb_M_clause_117, zb_M_clause_125]
        · subst he
          have hs : z_v_M_isSign K (Int32.ofInt 59) = 0 := (zM_sign w2.1 w2.2.1 (v := 59) (by unfold zsgn; omega)).mpr h59
          refine ⟨_, LK, zMS_t w1 (zMS_5 (zM5_w K LK (Int32.ofInt 1) (K 55 23))), by rw [z_up_j _ _ _ _ _ (by omega), z_up_s], by rw [z_up_s]; exact w2.1.1, by show (1 : Int) ≤ 1; omega, by show (1 : Int) ≤ 4; omega, en _ (fun M => ?_)⟩
          obtain ⟨M', hM⟩ := w15 M
          rw [hM, show M' + 10 = M' + 7 + 1 + 1 + 1 by omega, zb_M_clause_100, if_neg (by decide), zk_M_isSign_0, z_bi_v, zb_M_clause_110, if_pos hs, zk_M_wrong_0 X (d + 5), if_pos w3, z_b0_v, zb_M_clause_125]
      by_cases c114 : tk.1 = 114
      · have hy0 : y = 0 := by rw [y_i_eq, y_i0]; omega
        have hC : zpCla (zlx F N) nst i tk P qq = match zpStd (zlx F N) nst (zlx F N tk.2.2.1) with
            | .inl e => .inl e
            | .inr (t, c) => if t.1 = 59 then .inr (zlx F N t.2.2.1, P ++ [c], qq) else .inl (1, t.2.1) := by
          unfold zpCla
          rw [if_pos c1, if_pos c12, if_pos c114]
          rfl
        obtain ⟨s1, s2⟩ := zM_std X d m ce sl J1 L1 t u r q hN4 hb x1 hx i5 j18 (by rw [j55 30 (by omega) (by omega)]; exact h6) h7 (by omega) (by rw [jx 71 (by omega)]; exact h4) (by omega) (zPM_u (Nat.le_refl _) (fun j _ _ => by rw [jx 75 (by omega)]) P (12 * b) (fun x x1 x2 j _ _ => by rw [jx x (by omega)]) h9) (by rw [j55 1 (by omega) (by omega)]; exact h5)
        cases hz : zpStd (zlx F N) nst (zlx F N tk.2.2.1) with
        | inl y0 =>
          rw [hz] at hC
          have hC' : zpCla (zlx F N) nst i tk P qq = .inl y0 := hC
          rw [hC']
          refine ⟨fun e he => ?_, fun tk' P' q' he => absurd he (by simp)⟩
          injection he with he
          subst he
          obtain ⟨J, LJ, a1, a2, a3, a4, a5, a6⟩ := s1 y0 hz
          have hbad : ¬ J 55 18 = 0 := by rw [a2]; exact y_k0 a4 a5
          refine ⟨J, LJ, zMS_t S1 a1, a2, a3, a4, a5, en _ (fun M => ?_)⟩
          rw [st, show M + 25 = M + 22 + 1 + 1 + 1 by omega, zb_M_clause_55, if_pos hy0, a6, z_b0_v, zb_M_clause_64, zM_isb X (d + 5) m ce sl J LJ t u r q hbad, z_bi_v, zb_M_clause_100, if_pos (by decide)]
        | inr y0 =>
          obtain ⟨tt, cc⟩ := y0
          rw [hz] at hC
          have hC' : zpCla (zlx F N) nst i tk P qq = if tt.1 = 59 then .inr (zlx F N tt.2.2.1, P ++ [cc], qq) else .inl (1, tt.2.1) := hC
          obtain ⟨K, LK, top', a1, a2, a3, a4, a5, a6, a7, a8, a9, a10, a11⟩ := s2 tt cc hz
          obtain ⟨f1, f2⟩ := fin K LK tt (P ++ [cc]) qq top' (zMS_t S1 a1) a2 a3 (by rw [a10]; exact j33) (by rw [a7, List.length_append]; rfl) (by rw [a1.2.1 1 (by omega), j55 1 (by omega) (by omega)]; exact h5) a4 a5 a6 a8 (by rw [a9, jx 70 (by omega)]; exact p0) (by rw [a9, jx 70 (by omega)]; exact p1) (by rw [a9, jx 70 (by omega)]; exact p2) (by rw [a9, jx 70 (by omega)]; exact p3) (fun M => ⟨M + 13, by
            rw [st, show M + 25 = M + 13 + 10 + 1 + 1 by omega, zb_M_clause_55, if_pos hy0, a11, z_b0_v, zb_M_clause_64, zM_isg X (d + 5) m ce sl K LK t u r q a3, z_bi_v]⟩)
          by_cases c59 : tt.1 = 59
          · rw [if_pos c59] at hC'
            rw [hC']
            refine ⟨fun e he => absurd he (by simp), fun tk' P' q' he => ?_⟩
            injection he with he
            injection he with u1 u2
            injection u2 with u2 u3
            subst u1
            subst u2
            subst u3
            exact ⟨by rw [List.length_append]; show P.length + 1 ≤ i + 1; omega, f1 c59⟩
          · rw [if_neg c59] at hC'
            rw [hC']
            refine ⟨fun e he => ?_, fun tk' P' q' he => absurd he (by simp)⟩
            injection he with he
            exact f2 c59 e he
      · have hy0 : ¬ y = 0 := by rw [y_i_eq, y_i0]; omega
        have hC : zpCla (zlx F N) nst i tk P qq = match zpNum (zlx F N) (if tk.1 = 115 then 9 else 99999) 2 (zlx F N tk.2.2.1) with
            | .inl e => .inl e
            | .inr (t, v) => if t.1 = 59 then .inr (zlx F N t.2.2.1, P, zsetp tk.1 v qq) else .inl (1, t.2.1) := by
          unfold zpCla
          rw [if_pos c1, if_pos c12, if_neg c114]
          rfl
        obtain ⟨mo, mo1, mo2⟩ : ∃ mo : Int32, mo.toInt = (if tk.1 = 115 then 9 else 99999) ∧ ∀ M, z_loop X z_cf z_ff (z_pu (z_run X z_cf z_ff (d + 8))) 189 (M + 25) 55 [(0, .ref 55), (1, .int x1), (2, .int y)] [] (118, z_sd m, ce, sl, J1, L1, z_rr t u r q (z_gg m) (z_sf m)) = z_bi (z_x [] 92) (z_pu (z_run X z_cf z_ff (d + 8)) 195 [.ref 55, .int mo, .int (Int32.ofInt 2)] (118, z_sd m, ce, sl, J1, L1, z_rr t u r q (z_gg m) (z_sf m))) (fun v w => z_loop X z_cf z_ff (z_pu (z_run X z_cf z_ff (d + 8))) 189 (M + 24) 95 [(0, .ref 55)] [.int v, .int (Int32.ofInt 4 * x1 + y - Int32.ofInt 1), .ref 70] w) := by
          by_cases c115 : tk.1 = 115
          · refine ⟨Int32.ofInt 9, by rw [if_pos c115]; rfl, fun M => ?_⟩
            rw [show M + 25 = M + 24 + 1 by omega, zb_M_clause_55, if_neg hy0, if_pos (y_i_eq.mpr (by rw [yk, c115]; rfl))]
          · refine ⟨Int32.ofInt 99999, by rw [if_neg c115]; rfl, fun M => ?_⟩
            rw [show M + 25 = M + 24 + 1 by omega, zb_M_clause_55, if_neg hy0, if_neg (y_lit (by rw [yk]; omega) (by omega) (by omega))]
        obtain ⟨k, hk, hk4⟩ : ∃ k : Nat, tk.1 = 115 + (k : Int) ∧ k < 4 := ⟨(tk.1 - 115).toNat, by omega, by omega⟩
        have ex4 : (Int32.ofInt 4 * x1).toInt = 4 * (b : Int) := by rw [y_lmu (by omega) (by omega) (by omega) (by omega), hx]
        have ei : (Int32.ofInt 4 * x1 + y - Int32.ofInt 1).toInt = ((4 * b + k : Nat) : Int) := by
          have : (Int32.ofInt 4 * x1 + y).toInt = 4 * (b : Int) + (tk.1 - 114) := by rw [y_ad (by omega) (by omega), ex4, yk]
          rw [y_sbl (by omega) (by omega) (by omega) (by omega)]
          omega
        have ni : (Int32.ofInt 4 * x1 + y - Int32.ofInt 1).toNatClampNeg = 4 * b + k := by rw [y_tn, ei]; rfl
        have ii : z_in (Int32.ofInt 4 * x1 + y - Int32.ofInt 1) 8 = true := y_in_t (by omega) (by omega)
        obtain ⟨s1, s2⟩ := zM_num X (d + 3) m ce sl J1 L1 t u r q hN4 i5 j18 mo (Int32.ofInt 2) mo1 rfl (by omega) (by omega)
        cases hz : zpNum (zlx F N) (if tk.1 = 115 then 9 else 99999) 2 (zlx F N tk.2.2.1) with
        | inl y0 =>
          rw [hz] at hC
          have hC' : zpCla (zlx F N) nst i tk P qq = .inl y0 := hC
          rw [hC']
          refine ⟨fun e he => ?_, fun tk' P' q' he => absurd he (by simp)⟩
          injection he with he
          subst he
          obtain ⟨J, LJ, v, a1, a2, a3, a4, a5, a6⟩ := s1 y0 hz
          have hbad : ¬ (z_up J 70 (4 * b + k) v) 55 18 = 0 := by rw [z_up_r _ _ _ _ _ (by omega), a2]; exact y_k0 a4 a5
          refine ⟨z_up J 70 (4 * b + k) v, LJ, zMS_t S1 (zMS_t (zMS_5 a1) (zMS_q J LJ v (by omega) (by omega))), by rw [z_up_r _ _ _ _ _ (by omega)]; exact a2, by rw [z_up_r _ _ _ _ _ (by omega)]; exact a3, a4, a5, en _ (fun M => ?_)⟩
          rw [st, mo2, a6, z_bi_v, show M + 24 = M + 22 + 1 + 1 by omega, zb_M_clause_95, ii, z_gd_t, ni, zM_isb X (d + 5) m ce sl _ LJ t u r q hbad, z_bi_v, zb_M_clause_100, if_pos (by decide)]
        | inr y0 =>
          obtain ⟨tt, v⟩ := y0
          rw [hz] at hC
          have hC' : zpCla (zlx F N) nst i tk P qq = if tt.1 = 59 then .inr (zlx F N tt.2.2.1, P, zsetp tk.1 v qq) else .inl (1, tt.2.1) := hC
          obtain ⟨J, LJ, w, a1, a2, a3, a4, a5, a6⟩ := s2 tt v hz
          have ux : ∀ x, x ≠ 70 → (z_up J 70 (4 * b + k) w) x = J x := fun x hx => z_up_r _ _ _ _ _ hx
          have u18 : (z_up J 70 (4 * b + k) w) 55 18 = 0 := by rw [ux 55 (by omega)]; exact a3
          have uq : ∀ j, j ≠ 4 * b + k → (z_up J 70 (4 * b + k) w) 70 j = I 70 j := fun j hj => by rw [z_up_j _ _ _ _ _ hj, a1.1 70 (by omega), jx 70 (by omega)]
          have us : (z_up J 70 (4 * b + k) w) 70 (4 * b + k) = w := z_up_s _ _ _ _
          have qs : ((z_up J 70 (4 * b + k) w) 70 (4 * b)).toInt = (zsetp tk.1 v qq).1 ∧ ((z_up J 70 (4 * b + k) w) 70 (4 * b + 1)).toInt = (zsetp tk.1 v qq).2.1 ∧ ((z_up J 70 (4 * b + k) w) 70 (4 * b + 2)).toInt = (zsetp tk.1 v qq).2.2.1 ∧ ((z_up J 70 (4 * b + k) w) 70 (4 * b + 3)).toInt = (zsetp tk.1 v qq).2.2.2 := by
            have hc : k = 0 ∨ k = 1 ∨ k = 2 ∨ k = 3 := by omega
            rcases hc with e | e | e | e <;> subst e
            · rw [show tk.1 = 115 by omega, zsetp_8, uq (4 * b + 1) (by omega), uq (4 * b + 2) (by omega), uq (4 * b + 3) (by omega)]
              exact ⟨(congrArg Int32.toInt us).trans a4, p1, p2, p3⟩
            · rw [show tk.1 = 116 by omega, zsetp_9, us, uq _ (by omega), uq _ (by omega), uq _ (by omega)]
              exact ⟨p0, a4, p2, p3⟩
            · rw [show tk.1 = 117 by omega, zsetp_10, us, uq _ (by omega), uq _ (by omega), uq _ (by omega)]
              exact ⟨p0, p1, a4, p3⟩
            · rw [show tk.1 = 118 by omega, zsetp_11, us, uq _ (by omega), uq _ (by omega), uq _ (by omega)]
              exact ⟨p0, p1, p2, a4⟩
          obtain ⟨f1, f2⟩ := fin (z_up J 70 (4 * b + k) w) LJ tt P (zsetp tk.1 v qq) top (zMS_t S1 (zMS_t (zMS_5 a1) (zMS_q J LJ w (by omega) (by omega)))) (zMB_c a2 (fun j _ _ => by rw [ux 55 (by omega)]) (ux 69 (by omega))) u18 (by rw [ux 55 (by omega), a1.2.1 33 (by omega)]; exact j33) (by rw [ux 71 (by omega), a1.1 71 (by omega), jx 71 (by omega)]; exact h4) (by rw [ux 55 (by omega), a1.2.1 1 (by omega), j55 1 (by omega) (by omega)]; exact h5) (by rw [ux 55 (by omega), a1.2.1 30 (by omega), j55 30 (by omega) (by omega)]; exact h6) h7 (by omega) (zPM_u (Nat.le_refl _) (fun j _ _ => by rw [ux 75 (by omega), a1.1 75 (by omega), jx 75 (by omega)]) P (12 * b) (fun x x1 x2 j _ _ => by rw [ux x (by omega), a1.1 x (by omega), jx x (by omega)]) h9) qs.1 qs.2.1 qs.2.2.1 qs.2.2.2 (fun M => ⟨M + 13, by
            rw [st, mo2, a6, z_bi_v, show M + 24 = M + 13 + 10 + 1 by omega, zb_M_clause_95, ii, z_gd_t, ni, zM_isg X (d + 5) m ce sl _ LJ t u r q u18, z_bi_v]⟩)
          by_cases c59 : tt.1 = 59
          · rw [if_pos c59] at hC'
            rw [hC']
            refine ⟨fun e he => absurd he (by simp), fun tk' P' q' he => ?_⟩
            injection he with he
            injection he with u1 u2
            injection u2 with u2 u3
            subst u1
            subst u2
            subst u3
            exact ⟨by omega, f1 c59⟩
          · rw [if_neg c59] at hC'
            rw [hC']
            refine ⟨fun e he => ?_, fun tk' P' q' he => absurd he (by simp)⟩
            injection he with he
            exact f2 c59 e he
    · have hC : zpCla (zlx F N) nst i tk P qq = .inl (2, tk.2.1) := by
        unfold zpCla
        rw [if_pos c1, if_neg c12]
      rw [hC]
      refine ⟨fun e he => ?_, fun tk' P' q' he => absurd he (by simp)⟩
      injection he with he
      refine bad 2 (by omega) (by omega) (fun M => ⟨M + 17, ?_⟩) e he
      rw [show M + 30 = M + 17 + 10 + 1 + 1 + 1 by omega, zb_M_clause_0, y2, z_bi_v, zb_M_clause_4, if_neg ny0, if_pos py4, zb_M_clause_19, if_pos (y_i_eq.mpr (by rw [h3]; show (i : Int) = 12; omega)), zk_M_wrong_0 X (d + 5), if_pos h2, z_b0_v]
  · have hC : zpCla (zlx F N) nst i tk P qq = .inl (1, tk.2.1) := by
      unfold zpCla
      rw [if_neg c1]
    rw [hC]
    refine ⟨fun e he => ?_, fun tk' P' q' he => absurd he (by simp)⟩
    injection he with he
    refine bad 1 (by omega) (by omega) (fun M => ⟨M + 17, ?_⟩) e he
    have hbad : ¬ (z_up (z_up I 55 18 (Int32.ofInt 1)) 55 19 (I 55 23)) 55 18 = 0 := by
      rw [z_up_j _ _ _ _ _ (by omega), z_up_s]
      decide
    have k33 : (z_up (z_up I 55 18 (Int32.ofInt 1)) 55 19 (I 55 23)) 55 33 = I 55 33 := by rw [z_up_j _ _ _ _ _ (by omega), z_up_j _ _ _ _ _ (by omega)]
    have to19 : ∀ M, z_loop X z_cf z_ff (z_pu (z_run X z_cf z_ff (d + 8))) 189 (M + 2) 0 [(0, .ref 55), (1, .int x1)] [] (118, z_sd m, ce, sl, I, L, z_rr t u r q (z_gg m) (z_sf m)) = z_loop X z_cf z_ff (z_pu (z_run X z_cf z_ff (d + 8))) 189 (M) 19 [(0, .ref 55), (1, .int x1), (2, .int y)] [] (118, z_sd m, ce, sl, (z_up (z_up I 55 18 (Int32.ofInt 1)) 55 19 (I 55 23)), L, z_rr t u r q (z_gg m) (z_sf m)) := by
      intro M
      rw [show M + 2 = M + 1 + 1 by omega, zb_M_clause_0, y2, z_bi_v, zb_M_clause_4]
      have hk := zkw_c tk.1
      by_cases cy : y < 0
      · rw [if_pos cy, zk_M_wrong_0 X (d + 5), if_pos h2, z_b0_v]
      · rw [if_neg cy]
        rw [y_i_lt, y_i0, y1] at cy
        rw [if_neg (by
          rw [y_i_le, y1]
          show ¬ _ ≤ (4 : Int)
          intro h
          exact c1 (hk.mp ⟨by omega, h⟩)), zk_M_wrong_0 X (d + 5), if_pos h2, z_b0_v]
    rw [show M + 30 = M + 17 + 10 + 1 + 2 by omega, to19, zb_M_clause_19]
    by_cases c33 : (z_up (z_up I 55 18 (Int32.ofInt 1)) 55 19 (I 55 23)) 55 33 = Int32.ofInt 12
    · rw [if_pos c33, zk_M_wrong_0 X (d + 5), if_neg hbad, z_b0_v]
    · rw [if_neg c33]
/-- the loop over the clauses -/
theorem zM_loop (X : ZX) (d m ce sl : Nat) (t u r q : Nat) {F : Nat → Int} {N : Nat} (hN4 : N ≤ 400) {b nst : Nat} (hb : b < 2) (x2 : Int32) (hx : x2.toInt = b) : ∀ (f i : Nat) (tk : zTk) (P : List zcl) (qq : zPq) (I : Nat → Nat → Int32) (L : Nat → Nat → Int64), i + f = 12 → zMA F N nst b i tk P qq I L → P.length ≤ i →
    (∀ e, zpAll (zlx F N) nst (f + 1) i tk P qq = .inl e → ∃ (J : Nat → Nat → Int32) (LJ : Nat → Nat → Int64), zMS b I J L LJ ∧ J 55 18 = Int32.ofInt e.1 ∧ (J 55 19).toInt = e.2 ∧ 1 ≤ e.1 ∧ e.1 ≤ 4 ∧ ∀ M, z_loop X z_cf z_ff (z_pu (z_run X z_cf z_ff (d + 9))) 183 (M + 3 * f + 8) 144 [(0, .ref 55), (2, .int x2)] [] (118, z_sd m, ce, sl, I, L, z_rr t u r q (z_gg m) (z_sf m)) = some (.inl (some (.int (J 55 18))), (118, z_sd m, ce, sl, J, LJ, z_rr t u r q (z_gg m) (z_sf m)))) ∧
    (∀ P' q', zpAll (zlx F N) nst (f + 1) i tk P qq = .inr (P', q') → P'.length ≤ 12 ∧ ∃ (J : Nat → Nat → Int32) (LJ : Nat → Nat → Int64) (tk' : zTk) (i' : Nat), zMS b I J L LJ ∧ zMA F N nst b i' tk' P' q' J LJ ∧ ∀ M, z_loop X z_cf z_ff (z_pu (z_run X z_cf z_ff (d + 9))) 183 (M + 3 * f + 8) 144 [(0, .ref 55), (2, .int x2)] [] (118, z_sd m, ce, sl, I, L, z_rr t u r q (z_gg m) (z_sf m)) = some (.inl (some (.int (Int32.ofInt 0))), (118, z_sd m, ce, sl, (z_up (z_up J 55 28 (Int32.ofInt 1)) 55 29 x2), LJ, z_rr t u r q (z_gg m) (z_sf m)))) := by
  intro f
  have fin : ∀ (f i : Nat) (tk : zTk) (P : List zcl) (qq : zPq) (I : Nat → Nat → Int32) (L : Nat → Nat → Int64), zMA F N nst b i tk P qq I L → P.length ≤ i → i ≤ 12 → tk.1 = 0 →
      (∀ e, (.inr (P, qq) : zFl ⊕ (List zcl × zPq)) = .inl e → ∃ (J : Nat → Nat → Int32) (LJ : Nat → Nat → Int64), zMS b I J L LJ ∧ J 55 18 = Int32.ofInt e.1 ∧ (J 55 19).toInt = e.2 ∧ 1 ≤ e.1 ∧ e.1 ≤ 4 ∧ ∀ M, z_loop X z_cf z_ff (z_pu (z_run X z_cf z_ff (d + 9))) 183 (M + 3 * f + 8) 144 [(0, .ref 55), (2, .int x2)] [] (118, z_sd m, ce, sl, I, L, z_rr t u r q (z_gg m) (z_sf m)) = some (.inl (some (.int (J 55 18))), (118, z_sd m, ce, sl, J, LJ, z_rr t u r q (z_gg m) (z_sf m)))) ∧
      (∀ P' q', (.inr (P, qq) : zFl ⊕ (List zcl × zPq)) = .inr (P', q') → P'.length ≤ 12 ∧ ∃ (J : Nat → Nat → Int32) (LJ : Nat → Nat → Int64) (tk' : zTk) (i' : Nat), zMS b I J L LJ ∧ zMA F N nst b i' tk' P' q' J LJ ∧ ∀ M, z_loop X z_cf z_ff (z_pu (z_run X z_cf z_ff (d + 9))) 183 (M + 3 * f + 8) 144 [(0, .ref 55), (2, .int x2)] [] (118, z_sd m, ce, sl, I, L, z_rr t u r q (z_gg m) (z_sf m)) = some (.inl (some (.int (Int32.ofInt 0))), (118, z_sd m, ce, sl, (z_up (z_up J 55 28 (Int32.ofInt 1)) 55 29 x2), LJ, z_rr t u r q (z_gg m) (z_sf m)))) := by
    intro f i tk P qq I L h1 h2 h3 h4
    refine ⟨fun e he => absurd he (by simp), fun P' q' he => ?_⟩
    injection he with he
    injection he with u1 u2
    subst u1
    subst u2
    refine ⟨by omega, I, L, tk, i, zMS_r b I L, h1, fun M => ?_⟩
    have s0 : I 55 22 = 0 := by rw [y_i_eq, h1.1.1.2.2.1, zso_0.mpr h4]; rfl
    rw [show M + 3 * f + 8 = M + 3 * f + 5 + 1 + 1 + 1 by omega, zb_M_rules_144, zM_isg X (d + 6) m ce sl I L t u r q h1.2.1, z_bi_v, zb_M_rules_148, if_neg (by decide), if_pos s0, zM_isg X (d + 6) m ce sl I L t u r q h1.2.1, z_bi_v, zb_M_rules_170, if_neg (by decide), z_b1_1, z_gd_t]
  have flt : ∀ (J : Nat → Nat → Int32) (LJ : Nat → Nat → Int64), ¬ J 55 18 = 0 → ∀ M, z_loop X z_cf z_ff (z_pu (z_run X z_cf z_ff (d + 9))) 183 (M + 3) 144 [(0, .ref 55), (2, .int x2)] [] (118, z_sd m, ce, sl, J, LJ, z_rr t u r q (z_gg m) (z_sf m)) = some (.inl (some (.int (J 55 18))), (118, z_sd m, ce, sl, J, LJ, z_rr t u r q (z_gg m) (z_sf m))) := by
    intro J LJ h M
    rw [show M + 3 = M + 1 + 1 + 1 by omega, zb_M_rules_144, zM_isb X (d + 6) m ce sl J LJ t u r q h, z_bi_v, zb_M_rules_148, if_pos (by decide), zM_isb X (d + 6) m ce sl J LJ t u r q h, z_bi_v, zb_M_rules_170, if_pos (by decide)]
  induction f with
  | zero =>
    intro i tk P qq I L h1 h2 h3
    by_cases c0 : tk.1 = 0
    · have hA : zpAll (zlx F N) nst (0 + 1) i tk P qq = .inr (P, qq) := if_pos c0
      rw [hA]
      exact fin 0 i tk P qq I L h2 h3 (by omega) c0
    · have hA : zpAll (zlx F N) nst (0 + 1) i tk P qq = match zpCla (zlx F N) nst i tk P qq with
          | .inl e => .inl e
          | .inr (tk', P', q') => zpAll (zlx F N) nst 0 (i + 1) tk' P' q' := by
        show (if tk.1 = 0 then _ else _) = _
        rw [if_neg c0]
        rfl
      obtain ⟨s1, s2⟩ := zM_cla X d m ce sl I L t u r q hN4 hb x2 hx h2 h3 (by omega)
      cases hz : zpCla (zlx F N) nst i tk P qq with
      | inr y0 =>
        have := zpCla_i hz
        omega
      | inl y0 =>
        rw [hz] at hA
        have hA' : zpAll (zlx F N) nst (0 + 1) i tk P qq = .inl y0 := hA
        rw [hA']
        refine ⟨fun e he => ?_, fun P' q' he => absurd he (by simp)⟩
        injection he with he
        subst he
        obtain ⟨J, LJ, a1, a2, a3, a4, a5, a6⟩ := s1 y0 hz
        refine ⟨J, LJ, a1, a2, a3, a4, a5, fun M => ?_⟩
        have n0 : ¬ I 55 22 = 0 := by rw [y_i_eq, h2.1.1.2.2.1]; exact fun h => c0 (zso_0.mp h)
        rw [show M + 3 * 0 + 8 = (M + 2 + 3) + 1 + 1 + 1 by omega, zb_M_rules_144, zM_isg X (d + 6) m ce sl I L t u r q h2.2.1, z_bi_v, zb_M_rules_148, if_neg (by decide), if_neg n0, a6, z_b0_v, zb_M_rules_163, flt J LJ (by rw [a2]; exact y_k0 a4 a5)]
  | succ f ih =>
    intro i tk P qq I L h1 h2 h3
    by_cases c0 : tk.1 = 0
    · have hA : zpAll (zlx F N) nst (f + 1 + 1) i tk P qq = .inr (P, qq) := if_pos c0
      rw [hA]
      exact fin (f + 1) i tk P qq I L h2 h3 (by omega) c0
    · have hA : zpAll (zlx F N) nst (f + 1 + 1) i tk P qq = match zpCla (zlx F N) nst i tk P qq with
          | .inl e => .inl e
          | .inr (tk', P', q') => zpAll (zlx F N) nst (f + 1) (i + 1) tk' P' q' := by
        show (if tk.1 = 0 then _ else _) = _
        rw [if_neg c0]
        rfl
      obtain ⟨s1, s2⟩ := zM_cla X d m ce sl I L t u r q hN4 hb x2 hx h2 h3 (by omega)
      have n0 : ¬ I 55 22 = 0 := by rw [y_i_eq, h2.1.1.2.2.1]; exact fun h => c0 (zso_0.mp h)
      cases hz : zpCla (zlx F N) nst i tk P qq with
      | inl y0 =>
        rw [hz] at hA
        have hA' : zpAll (zlx F N) nst (f + 1 + 1) i tk P qq = .inl y0 := hA
        rw [hA']
        refine ⟨fun e he => ?_, fun P' q' he => absurd he (by simp)⟩
        injection he with he
        subst he
        obtain ⟨J, LJ, a1, a2, a3, a4, a5, a6⟩ := s1 y0 hz
        refine ⟨J, LJ, a1, a2, a3, a4, a5, fun M => ?_⟩
        rw [show M + 3 * (f + 1) + 8 = (M + 3 * f + 5 + 3) + 1 + 1 + 1 by omega, zb_M_rules_144, zM_isg X (d + 6) m ce sl I L t u r q h2.2.1, z_bi_v, zb_M_rules_148, if_neg (by decide), if_neg n0, a6, z_b0_v, zb_M_rules_163, flt J LJ (by rw [a2]; exact y_k0 a4 a5)]
      | inr y0 =>
        obtain ⟨tk2, P2, q2⟩ := y0
        rw [hz] at hA
        have hA' : zpAll (zlx F N) nst (f + 1 + 1) i tk P qq = zpAll (zlx F N) nst (f + 1) (i + 1) tk2 P2 q2 := hA
        rw [hA']
        obtain ⟨a0, J, LJ, a1, a2, a3⟩ := s2 tk2 P2 q2 hz
        obtain ⟨m1, m2⟩ := ih (i + 1) tk2 P2 q2 J LJ (by omega) a2 a0
        have st : ∀ M, z_loop X z_cf z_ff (z_pu (z_run X z_cf z_ff (d + 9))) 183 (M + 3 * (f + 1) + 8) 144 [(0, .ref 55), (2, .int x2)] [] (118, z_sd m, ce, sl, I, L, z_rr t u r q (z_gg m) (z_sf m)) = z_loop X z_cf z_ff (z_pu (z_run X z_cf z_ff (d + 9))) 183 (M + 3 * f + 8) 144 [(0, .ref 55), (2, .int x2)] [] (118, z_sd m, ce, sl, J, LJ, z_rr t u r q (z_gg m) (z_sf m)) := by
          intro M
          rw [show M + 3 * (f + 1) + 8 = (M + 3 * f + 8) + 1 + 1 + 1 by omega, zb_M_rules_144, zM_isg X (d + 6) m ce sl I L t u r q h2.2.1, z_bi_v, zb_M_rules_148, if_neg (by decide), if_neg n0, a3, z_b0_v, zb_M_rules_163]
        refine ⟨fun e he => ?_, fun P' q' he => ?_⟩
        · obtain ⟨J2, L2, d1, d2, d3, d4, d5, d6⟩ := m1 e he
          exact ⟨J2, L2, zMS_t a1 d1, d2, d3, d4, d5, fun M => by rw [st, d6]⟩
        · obtain ⟨d0, J2, L2, tk3, i3, d1, d2, d3⟩ := m2 P' q' he
          exact ⟨d0, J2, L2, tk3, i3, zMS_t a1 d1, d2, fun M => by rw [st, d3]⟩
