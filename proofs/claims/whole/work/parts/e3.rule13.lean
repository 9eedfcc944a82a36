/-! RULES, 16: the model's machine: expressions as wholes -/
theorem zM_par (X : ZX) (d m ce sl : Nat) (I : Nat → Nat → Int32) (L : Nat → Nat → Int64) (t u r q : Nat) {F : Nat → Int} {N a B : Nat} (hN4 : N ≤ 400) (hB : B ≤ 1000) {tk : zTk} {w : List Int} {ts : List Bool} {c : List Int} (h : zMG F N a B tk w ts c I L) (hk : tk.1 = 41) (hd : 1 < ts.length) (x1 : Int32) : ∃ (J : Nat → Nat → Int32) (LJ : Nat → Nat → Int64), zMF a (B + 810) I J L LJ ∧ zMG F N a B (zlx F N tk.2.2.1) (zdrop 0 w c).1.tail ts.tail (zdrop 0 w c).2 J LJ ∧ tk.2.1 + 1 ≤ (zlx F N tk.2.2.1).2.1 ∧ ∀ M, z_loop X z_cf z_ff (z_pu (z_run X z_cf z_ff (d + 6))) 196 (M + 12) 35 [(0, .ref 55), (1, .int x1), (2, .int (Int32.ofInt 1))] [] (118, z_sd m, ce, sl, I, L, z_rr t u r q (z_gg m) (z_sf m)) = z_loop X z_cf z_ff (z_pu (z_run X z_cf z_ff (d + 6))) 196 (M) 35 [(0, .ref 55), (1, .int x1), (2, .int (Int32.ofInt 1))] [] (118, z_sd m, ce, sl, J, LJ, z_rr t u r q (z_gg m) (z_sf m)) := by
  obtain ⟨y, y1, y2⟩ := zr_known X (d + 2) m ce sl I L t u r q h.1.1 h.1.2.1
  have ny6 : ¬ y = Int32.ofInt 6 := y_lit (by rw [y1]; exact fun e => absurd (zkw_6.mp e) (by omega)) (by omega) (by omega)
  have ny7 : ¬ y = Int32.ofInt 7 := y_lit (by rw [y1]; exact fun e => absurd (zkw_7.mp e) (by omega)) (by omega) (by omega)
  have s60 : z_v_M_isSign I (Int32.ofInt 60) = 0 := (zM_sign h.1.1 h.1.2.1 (v := 60) (by unfold zsgn; omega)).mpr (by omega)
  have s61 : z_v_M_isSign I (Int32.ofInt 61) = 0 := (zM_sign h.1.1 h.1.2.1 (v := 61) (by unfold zsgn; omega)).mpr (by omega)
  have s43 : z_v_M_isSign I (Int32.ofInt 43) = 0 := (zM_sign h.1.1 h.1.2.1 (v := 43) (by unfold zsgn; omega)).mpr (by omega)
  have s45 : z_v_M_isSign I (Int32.ofInt 45) = 0 := (zM_sign h.1.1 h.1.2.1 (v := 45) (by unfold zsgn; omega)).mpr (by omega)
  have s42 : z_v_M_isSign I (Int32.ofInt 42) = 0 := (zM_sign h.1.1 h.1.2.1 (v := 42) (by unfold zsgn; omega)).mpr (by omega)
  have s47 : z_v_M_isSign I (Int32.ofInt 47) = 0 := (zM_sign h.1.1 h.1.2.1 (v := 47) (by unfold zsgn; omega)).mpr (by omega)
  have s41 : ¬ z_v_M_isSign I (Int32.ofInt 41) = 0 := fun h0 => (zM_sign h.1.1 h.1.2.1 (v := 41) (by unfold zsgn; omega)).mp h0 hk
  have isg := zM_isg X (d + 3) m ce sl I L t u r q h.2.1
  obtain ⟨g1, g2, g3, g4, g5, g6, g7, g8, g9⟩ := h
  have hp := g1.2.1.1
  obtain ⟨K, a1, a2, a3, a4, a5, a6, a7⟩ := zM_drops X (d + 2) m ce sl I L t u r q (Int32.ofInt 0) 0 rfl g3 g5 (by omega) (by omega)
  obtain ⟨z1, z2, z3⟩ := zdrop_z 0 w c
  have hw1 : ∃ r', (zdrop 0 w c).1 = 0 :: r' := by
    rcases z3 with e | e
    · rw [e] at z2
      have : zz w = 0 := z2.symm
      omega
    · exact e
  obtain ⟨r', hr⟩ := hw1
  rw [hr] at a3 a5 z1 z2
  rw [hr]
  have htl : (0 :: r' : List Int).tail = r' := rfl
  rw [htl]
  have hl1 : (0 :: r' : List Int).length = r'.length + 1 := rfl
  rw [hl1] at a5 z1
  have hz1 : zz (0 :: r') = 1 + zz r' := rfl
  rw [hz1] at z2
  obtain ⟨w1, w2, w3⟩ := a3
  rw [hl1] at w1
  have e31 : (K 55 31 - Int32.ofInt 1).toInt = r'.length := by rw [y_sbl (by omega) (by omega) (by omega) (by omega)]; omega
  have k32 : (K 55 32).toInt = ts.length := by rw [a2 32 (by omega) (by omega)]; exact g4.1
  have hlen : ts.tail.length = ts.length - 1 := List.length_tail
  have e32 : (K 55 32 - Int32.ofInt 1).toInt = ts.tail.length := by rw [y_sbl (by omega) (by omega) (by omega) (by omega)]; omega
  have f1 : ∀ x, x ≠ 55 → (z_up (z_up K 55 31 (K 55 31 - Int32.ofInt 1)) 55 32 (K 55 32 - Int32.ofInt 1)) x = K x := fun x hx => by rw [z_up_r _ _ _ _ _ hx, z_up_r _ _ _ _ _ hx]
  have f2 : ∀ j, j ≠ 31 → j ≠ 32 → (z_up (z_up K 55 31 (K 55 31 - Int32.ofInt 1)) 55 32 (K 55 32 - Int32.ofInt 1)) 55 j = K 55 j := fun j h1 h2 => by rw [z_up_j _ _ _ _ _ h2, z_up_j _ _ _ _ _ h1]
  have W1 : zMW r' (z_up (z_up K 55 31 (K 55 31 - Int32.ofInt 1)) 55 32 (K 55 32 - Int32.ofInt 1)) := ⟨by rw [z_up_j _ _ _ _ _ (by omega), z_up_s]; exact e31, by rw [f1 76 (by omega)]; exact w2.2, fun v hv => w3 v (List.mem_cons_of_mem _ hv)⟩
  have D1 : zMD ts.tail (z_up (z_up K 55 31 (K 55 31 - Int32.ofInt 1)) 55 32 (K 55 32 - Int32.ofInt 1)) := by
    refine ⟨by rw [z_up_s]; exact e32, ?_⟩
    rw [f1 77 (by omega), a1 77 (by omega) (by omega)]
    have := g4.2
    cases ts with
    | nil => exact this
    | cons b' r => exact this.2
  obtain ⟨J, LJ, i1, i2, i3, i4, i5, i6, i7⟩ := zM_tok X (d + 2) m ce sl (z_up (z_up K 55 31 (K 55 31 - Int32.ofInt 1)) 55 32 (K 55 32 - Int32.ofInt 1)) L t u r q hN4 (zMB_c g1 (fun j _ _ => by rw [f2 j (by omega) (by omega), a2 j (by omega) (by omega)]) (by rw [f1 69 (by omega), a1 69 (by omega) (by omega)])) (by omega)
  refine ⟨J, LJ, zMF_t (J := z_up (z_up K 55 31 (K 55 31 - Int32.ofInt 1)) 55 32 (K 55 32 - Int32.ofInt 1)) (LJ := L) ⟨fun x x1 x2 x3 x4 => by rw [f1 x x1, a1 x x1 x2], fun j hj => by rw [f2 j (by omega) (by omega), a2 j (by omega) (by omega)], fun _ _ => rfl, fun _ _ => rfl, fun j hj => by rw [f1 75 (by omega), a6 j (by omega)]⟩ (zMF_55 i1 (fun j hj => i2 j (by omega)) i3 i4), ⟨i5, by rw [i2 18 (by omega), f2 18 (by omega) (by omega), a2 18 (by omega) (by omega)]; exact g2, zMW_c W1 (i2 31 (by omega)) (i1 76 (by omega)), zMD_c D1 (i2 32 (by omega)) (i1 77 (by omega)), zMK_c a4 (by rw [i2 30 (by omega), f2 30 (by omega) (by omega)]) (by rw [i1 75 (by omega), f1 75 (by omega)]), by omega, by omega, by omega, by omega⟩, i6, fun M => ?_⟩
  rw [show M + 12 = M + 1 + 1 + 1 + 1 + 1 + 1 + 1 + 1 + 1 + 1 + 1 + 1 by omega, zb_M_expression_35, if_neg (by decide), isg, z_bi_v, zb_M_expression_43, if_neg (by decide), y2, z_bi_v, zb_M_expression_50, if_neg ny6, if_neg ny7, zk_M_isSign_0, z_bi_v, zb_M_expression_121, if_pos s60, zk_M_isSign_0, z_bi_v, zb_M_expression_130, if_pos s61, zk_M_isSign_0, z_bi_v, zb_M_expression_198, if_pos s43, zk_M_isSign_0, z_bi_v, zb_M_expression_207, if_pos s45, zk_M_isSign_0, z_bi_v, zb_M_expression_253, if_pos s42, zk_M_isSign_0, z_bi_v, zb_M_expression_262, if_pos s47, zk_M_isSign_0, z_bi_v, zb_M_expression_309, if_neg s41, if_neg (by rw [y_i_le, g4.1]; show ¬ _ ≤ (1 : Int); omega), a7, z_b0_v, zb_M_expression_325, i7, z_b0_v, zb_M_expression_349]
/-- the end: what waits goes into the code, and a stop -/
theorem zM_exT (X : ZX) (d m ce sl : Nat) (I : Nat → Nat → Int32) (L : Nat → Nat → Int64) (t u r q : Nat) {a B : Nat} (hB : B ≤ 1000) {w c : List Int} (h1 : zMW w I) (h2 : zMK a c I) (h3 : w.length ≤ 400) (h4 : a + zcn c + w.length ≤ B + 804) (x1 : Int32) : ∃ J : Nat → Nat → Int32, zMF a (B + 810) I J L L ∧ (∀ j, j ≠ 30 → j ≠ 31 → J 55 j = I 55 j) ∧ (J 55 30).toInt = ((a + zcn (zdrop 0 w c).2 + 1 : Nat) : Int) ∧ zcd (J 75) a (zdrop 0 w c).2 ∧ zcn (zdrop 0 w c).2 ≤ zcn c + w.length ∧ ∀ M, z_loop X z_cf z_ff (z_pu (z_run X z_cf z_ff (d + 6))) 196 (M + 3) 377 [(0, .ref 55), (1, .int x1)] [] (118, z_sd m, ce, sl, I, L, z_rr t u r q (z_gg m) (z_sf m)) = some (.inl (some (.int x1)), (118, z_sd m, ce, sl, J, L, z_rr t u r q (z_gg m) (z_sf m))) := by
  obtain ⟨K, a1, a2, a3, a4, a5, a6, a7⟩ := zM_drops X (d + 2) m ce sl I L t u r q (Int32.ofInt 0) 0 rfl h1 h2 h3 (by omega)
  obtain ⟨k1, k2⟩ := a4
  have i30 : z_in (K 55 30) 2000 = true := y_in_t (by omega) (by omega)
  have n30 : (K 55 30).toNatClampNeg = a + zcn (zdrop 0 w c).2 := by rw [y_tn, k1]; rfl
  refine ⟨z_up (z_up K 75 (K 55 30).toNatClampNeg (Int32.ofInt 0)) 55 30 (K 55 30 + Int32.ofInt 1), ⟨fun x x1 x2 x3 x4 => by rw [z_up_r _ _ _ _ _ x1, z_up_r _ _ _ _ _ x2, a1 x x1 x2], fun j hj => by rw [z_up_j _ _ _ _ _ (by omega), z_up_r _ _ _ _ _ (by omega), a2 j (by omega) (by omega)], fun _ _ => rfl, fun _ _ => rfl, fun j hj => by rw [z_up_r _ _ _ _ _ (by omega), z_up_j _ _ _ _ _ (by omega), a6 j (by omega)]⟩, fun j h1 h2 => by rw [z_up_j _ _ _ _ _ h1, z_up_r _ _ _ _ _ (by omega), a2 j h1 h2], by rw [z_up_s, y_adl (by omega) (by omega) (by omega) (by omega), k1]; omega, ?_, by omega, fun M => ?_⟩
  · rw [z_up_r _ _ _ _ _ (by omega)]
    refine zcd_p _ _ (zcp_u _ _ k2 (fun j q1 q2 => z_up_j _ _ _ _ _ (by omega))) ?_
    rw [n30, z_up_s]
  · rw [show M + 3 = M + 1 + 1 + 1 by omega, zb_M_expression_377, a7, z_b0_v, zb_M_expression_382, zk_M_puts_0, i30, z_gd_t, z_b0_v, zb_M_expression_387]
/-- behind a fault an expression is over -/
theorem zM_exE (X : ZX) (d m ce sl : Nat) (I : Nat → Nat → Int32) (L : Nat → Nat → Int64) (t u r q : Nat) {a B : Nat} (hB : B ≤ 1000) {e : zFl} (h : zME a B e I) (he : 1 ≤ e.1 ∧ e.1 ≤ 4) (x1 : Int32) : ∃ J : Nat → Nat → Int32, zMF a (B + 810) I J L L ∧ J 55 18 = Int32.ofInt e.1 ∧ (J 55 19).toInt = e.2 ∧ (∀ M, z_loop X z_cf z_ff (z_pu (z_run X z_cf z_ff (d + 6))) 196 (M + 6) 35 [(0, .ref 55), (1, .int x1), (2, .int (Int32.ofInt 1))] [] (118, z_sd m, ce, sl, I, L, z_rr t u r q (z_gg m) (z_sf m)) = some (.inl (some (.int x1)), (118, z_sd m, ce, sl, J, L, z_rr t u r q (z_gg m) (z_sf m)))) ∧ ∀ M, z_loop X z_cf z_ff (z_pu (z_run X z_cf z_ff (d + 6))) 196 (M + 4) 361 [(0, .ref 55), (1, .int x1)] [.int (Int32.ofInt 0)] (118, z_sd m, ce, sl, I, L, z_rr t u r q (z_gg m) (z_sf m)) = some (.inl (some (.int x1)), (118, z_sd m, ce, sl, J, L, z_rr t u r q (z_gg m) (z_sf m))) := by
  have h18 := zME_0 h he
  obtain ⟨h1, h2, w, p, h3, h4, h5, h6, h7⟩ := h
  have hK : zMK p [] I := ⟨h5, trivial⟩
  obtain ⟨J, j1, j2, j3, j4, j5, j6⟩ := zM_exT X d m ce sl I L t u r q hB h3 hK h4 (by show p + 0 + w.length ≤ _; omega) x1
  have fl : ∀ M, z_loop X z_cf z_ff (z_pu (z_run X z_cf z_ff (d + 6))) 196 (M + 4) 361 [(0, .ref 55), (1, .int x1)] [.int (Int32.ofInt 0)] (118, z_sd m, ce, sl, I, L, z_rr t u r q (z_gg m) (z_sf m)) = some (.inl (some (.int x1)), (118, z_sd m, ce, sl, J, L, z_rr t u r q (z_gg m) (z_sf m))) := fun M => by
    rw [show M + 4 = (M + 3) + 1 by omega, zb_M_expression_361, if_pos (by decide), j6]
  have jf : zMF a (B + 810) I J L L := by
    obtain ⟨b1, b2, b3, b4, b5⟩ := j1
    exact ⟨b1, b2, b3, b4, fun j hj => b5 j (by omega)⟩
  refine ⟨J, jf, by rw [j2 18 (by omega) (by omega)]; exact h1, by rw [j2 19 (by omega) (by omega)]; exact h2, fun M => ?_, fl⟩
  rw [show M + 6 = (M + 4) + 1 + 1 by omega, zb_M_expression_35, if_neg (by decide), zM_isb X (d + 3) m ce sl I L t u r q h18, z_bi_v, zb_M_expression_43, if_pos (by decide), zM_isb X (d + 3) m ce sl I L t u r q h18, z_bi_v, fl]
theorem zM_ex (X : ZX) (d m ce sl : Nat) (t u r q : Nat) {F : Nat → Int} {N a B : Nat} (hN4 : N ≤ 400) (hB : B ≤ 1000) (x1 : Int32) : ∀ (f : Nat) (tk : zTk) (w : List Int) (ts : List Bool) (c : List Int) (I : Nat → Nat → Int32) (L : Nat → Nat → Int64), zMG F N a B tk w ts c I L →
    (∀ e, zqEx (zlx F N) f (tk, w, ts, c) = .inl e → 1 ≤ e.1 → ∃ (J : Nat → Nat → Int32) (LJ : Nat → Nat → Int64), zMF a (B + 810) I J L LJ ∧ J 55 18 = Int32.ofInt e.1 ∧ (J 55 19).toInt = e.2 ∧ ∃ K, K ≤ 40 * f ∧ ∀ M, z_loop X z_cf z_ff (z_pu (z_run X z_cf z_ff (d + 6))) 196 (M + K) 35 [(0, .ref 55), (1, .int x1), (2, .int (Int32.ofInt 1))] [] (118, z_sd m, ce, sl, I, L, z_rr t u r q (z_gg m) (z_sf m)) = some (.inl (some (.int x1)), (118, z_sd m, ce, sl, J, LJ, z_rr t u r q (z_gg m) (z_sf m)))) ∧
    (∀ tk' s, zqEx (zlx F N) f (tk, w, ts, c) = .inr (tk', s) → ∃ (J : Nat → Nat → Int32) (LJ : Nat → Nat → Int64), zMF a (B + 810) I J L LJ ∧ zMB F N tk' J LJ ∧ J 55 18 = 0 ∧ zcd (J 75) a s ∧ (J 55 30).toInt = ((a + zcn s + 1 : Nat) : Int) ∧ a + zcn s ≤ B + 2 * tk'.2.1 ∧ tk.2.1 ≤ tk'.2.1 ∧ ∃ K, K ≤ 40 * f ∧ ∀ M, z_loop X z_cf z_ff (z_pu (z_run X z_cf z_ff (d + 6))) 196 (M + K) 35 [(0, .ref 55), (1, .int x1), (2, .int (Int32.ofInt 1))] [] (118, z_sd m, ce, sl, I, L, z_rr t u r q (z_gg m) (z_sf m)) = some (.inl (some (.int x1)), (118, z_sd m, ce, sl, J, LJ, z_rr t u r q (z_gg m) (z_sf m)))) := by
  intro f
  induction f with
  | zero =>
    intro tk w ts c I L h
    have hE : zqEx (zlx F N) 0 (tk, w, ts, c) = .inl (0, 0) := rfl
    rw [hE]
    refine ⟨fun e he h1 => ?_, fun tk' s he => absurd he (by simp)⟩
    injection he with he
    rw [← he] at h1
    exact absurd h1 (by show ¬ (1 : Int) ≤ 0; omega)
  | succ f ih =>
    intro tk w ts c I L h
    have hE : zqEx (zlx F N) (f + 1) (tk, w, ts, c) = if zlev tk.1 ≠ 0 ∧ (zlev tk.1 = 4 → ts.headD false = false) then
        match zqOp (zlx F N) (6 - ts.length) (decide (zlev tk.1 ≤ 2)) (zlx F N tk.2.2.1) (-tk.1 :: (zdrop (zlev tk.1) w c).1) (zqts tk.1 ts) (zdrop (zlev tk.1) w c).2 with
        | .inl e => .inl e
        | .inr s' => zqEx (zlx F N) f s'
      else if tk.1 = 41 ∧ 1 < ts.length then zqEx (zlx F N) f (zlx F N tk.2.2.1, (zdrop 0 w c).1.tail, ts.tail, (zdrop 0 w c).2)
      else if 1 < ts.length then .inl (1, tk.2.1) else .inr (tk, (zdrop 0 w c).2) := rfl
    by_cases c1 : zlev tk.1 ≠ 0 ∧ (zlev tk.1 = 4 → ts.headD false = false)
    · rw [if_pos c1] at hE
      obtain ⟨J1, LJ1, n, n1, n2, n3, n4, n5⟩ := zM_sgn X d m ce sl I L t u r q hN4 hB h c1.1 c1.2 x1
      have hz := n3.2.2.2.2.2.2.2.2
      have hz2 := n3.2.2.2.2.2.2.2.1
      have hlen : (zqts tk.1 ts).length = ts.length := by
        have q1 : ts.tail.length = ts.length - 1 := List.length_tail
        have q2 := h.2.2.2.2.2.2.2.1
        unfold zqts
        split
        · show ts.tail.length + 1 = _
          omega
        · split
          · show ts.tail.length + 1 = _
            omega
          · rfl
      obtain ⟨o1, o2⟩ := zM_opc X d m ce sl J1 LJ1 t u r q hN4 hB (6 - ts.length) (decide (zlev tk.1 ≤ 2)) (by omega) n3
      cases hx : zqOp (zlx F N) (6 - ts.length) (decide (zlev tk.1 ≤ 2)) (zlx F N tk.2.2.1) (-tk.1 :: (zdrop (zlev tk.1) w c).1) (zqts tk.1 ts) (zdrop (zlev tk.1) w c).2 with
      | inl y0 =>
        rw [hx] at hE
        have hE' : zqEx (zlx F N) (f + 1) (tk, w, ts, c) = .inl y0 := hE
        rw [hE']
        refine ⟨fun e he h1 => ?_, fun tk' s he => absurd he (by simp)⟩
        injection he with he
        subst he
        obtain ⟨J2, LJ2, p1, p2, p3⟩ := o1 y0 hx
        obtain ⟨J3, r1, r2, r3, r4, r5⟩ := zM_exE X d m ce sl J2 LJ2 t u r q hB p2 (zFk_qop _ _ _ _ _ _ _ hx) x1
        exact ⟨J3, LJ2, zMF_t n2 (zMF_t p1 r1), r2, r3, 6 + n, by omega, fun M => by rw [show M + (6 + n) = (M + 6) + n by omega, n5 _ _ _ p3, r4]⟩
      | inr s' =>
        rw [hx] at hE
        have hE' : zqEx (zlx F N) (f + 1) (tk, w, ts, c) = zqEx (zlx F N) f s' := hE
        rw [hE']
        obtain ⟨J2, LJ2, p1, p2, p3, p4⟩ := o2 s' hx
        obtain ⟨tk2, w2, ts2, c2⟩ := s'
        have p3' : (zlx F N tk.2.2.1).2.1 + 1 ≤ tk2.2.1 := p3
        obtain ⟨m1, m2⟩ := ih tk2 w2 ts2 c2 J2 LJ2 p2
        refine ⟨fun e he h1 => ?_, fun tk' s he => ?_⟩
        · obtain ⟨J3, LJ3, r1, r2, r3, K, r4, r5⟩ := m1 e he h1
          exact ⟨J3, LJ3, zMF_t n2 (zMF_t p1 r1), r2, r3, K + n, by omega, fun M => by rw [show M + (K + n) = (M + K) + n by omega, n5 _ _ _ p4, r5]⟩
        · obtain ⟨J3, LJ3, r1, r2, r3, r4, r5, r6, r7, K, r8, r9⟩ := m2 tk' s he
          exact ⟨J3, LJ3, zMF_t n2 (zMF_t p1 r1), r2, r3, r4, r5, r6, by omega, K + n, by omega, fun M => by rw [show M + (K + n) = (M + K) + n by omega, n5 _ _ _ p4, r9]⟩
    · rw [if_neg c1] at hE
      by_cases c2 : tk.1 = 41 ∧ 1 < ts.length
      · rw [if_pos c2] at hE
        rw [hE]
        obtain ⟨J1, LJ1, n2, n3, n4, n5⟩ := zM_par X d m ce sl I L t u r q hN4 hB h c2.1 c2.2 x1
        obtain ⟨m1, m2⟩ := ih _ _ _ _ J1 LJ1 n3
        refine ⟨fun e he h1 => ?_, fun tk' s he => ?_⟩
        · obtain ⟨J3, LJ3, r1, r2, r3, K, r4, r5⟩ := m1 e he h1
          exact ⟨J3, LJ3, zMF_t n2 r1, r2, r3, K + 12, by omega, fun M => by rw [show M + (K + 12) = (M + K) + 12 by omega, n5, r5]⟩
        · obtain ⟨J3, LJ3, r1, r2, r3, r4, r5, r6, r7, K, r8, r9⟩ := m2 tk' s he
          exact ⟨J3, LJ3, zMF_t n2 r1, r2, r3, r4, r5, r6, by omega, K + 12, by omega, fun M => by rw [show M + (K + 12) = (M + K) + 12 by omega, n5, r9]⟩
      · rw [if_neg c2] at hE
        obtain ⟨n, n1, n2⟩ := zM_stop X d m ce sl I L t u r q hN4 hB h c1 c2 x1
        obtain ⟨g1, g2, g3, g4, g5, g6, g7, g8, g9⟩ := h
        have hp := g1.2.1.1
        have i32 := g4.1
        by_cases c3 : 1 < ts.length
        · rw [if_pos c3] at hE
          rw [hE]
          refine ⟨fun e he h1 => ?_, fun tk' s he => absurd he (by simp)⟩
          injection he with he
          subst he
          have f1 : ∀ x, x ≠ 55 → (z_up (z_up I 55 18 (Int32.ofInt 1)) 55 19 (I 55 23)) x = I x := fun x hx => by rw [z_up_r _ _ _ _ _ hx, z_up_r _ _ _ _ _ hx]
          have f2 : ∀ j, j ≠ 18 → j ≠ 19 → (z_up (z_up I 55 18 (Int32.ofInt 1)) 55 19 (I 55 23)) 55 j = I 55 j := fun j h1 h2 => by rw [z_up_j _ _ _ _ _ h2, z_up_j _ _ _ _ _ h1]
          obtain ⟨J, j1, j2, j3, j4, j5, j6⟩ := zM_exT X d m ce sl (z_up (z_up I 55 18 (Int32.ofInt 1)) 55 19 (I 55 23)) L t u r q hB (zMW_c g3 (f2 31 (by omega) (by omega)) (f1 76 (by omega))) (zMK_c g5 (f2 30 (by omega) (by omega)) (f1 75 (by omega))) (by omega) (by omega) x1
          refine ⟨J, L, zMF_t (J := z_up (z_up I 55 18 (Int32.ofInt 1)) 55 19 (I 55 23)) (LJ := L) (zMF_55 f1 (fun j hj => f2 j (by omega) (by omega)) (fun _ _ => rfl) (fun _ _ => rfl)) j1, by rw [j2 18 (by omega) (by omega), z_up_j _ _ _ _ _ (by omega), z_up_s], by rw [j2 19 (by omega) (by omega), z_up_s]; exact g1.1.1, 5 + n, by omega, fun M => ?_⟩
          rw [show M + (5 + n) = (M + 3 + 1 + 1) + n by omega, n2, zb_M_expression_35, if_pos (by decide), zM_isg X (d + 3) m ce sl I L t u r q g2, z_bi_v, zb_M_expression_361, if_neg (by decide), if_neg (by rw [y_i_le, i32]; show ¬ _ ≤ (1 : Int); omega), zk_M_wrong_0 X (d + 3), if_pos g2, z_b0_v, j6]
        · rw [if_neg c3] at hE
          rw [hE]
          refine ⟨fun e he => absurd he (by simp), fun tk' s he => ?_⟩
          injection he with he
          injection he with v1 v2
          subst v1
          subst v2
          obtain ⟨J, j1, j2, j3, j4, j5, j6⟩ := zM_exT X d m ce sl I L t u r q hB g3 g5 (by omega) (by omega) x1
          refine ⟨J, L, j1, zMB_c g1 (fun j _ _ => j2 j (by omega) (by omega)) (j1.1 69 (by omega) (by omega) (by omega) (by omega)), by rw [j2 18 (by omega) (by omega)]; exact g2, j4, j3, by omega, Nat.le_refl _, 5 + n, by omega, fun M => ?_⟩
          rw [show M + (5 + n) = (M + 3 + 1 + 1) + n by omega, n2, zb_M_expression_35, if_pos (by decide), zM_isg X (d + 3) m ce sl I L t u r q g2, z_bi_v, zb_M_expression_361, if_neg (by decide), if_pos (by rw [y_i_le, i32]; show _ ≤ (1 : Int); omega), j6]
/-- the model reads an expression -/
theorem zM_expr (X : ZX) (d m ce sl : Nat) (I : Nat → Nat → Int32) (L : Nat → Nat → Int64) (t u r q : Nat) {F : Nat → Int} {N a B : Nat} (hN4 : N ≤ 400) (hB : B ≤ 1000) {tk : zTk} (h1 : zMB F N tk I L) (h2 : I 55 18 = 0) (h3 : (I 55 30).toInt = a) (h4 : a ≤ B + 2 * tk.2.1) :
    (∀ e, zpExpr (zlx F N) 6 tk = .inl e → ∃ (J : Nat → Nat → Int32) (LJ : Nat → Nat → Int64), zMF a (B + 810) I J L LJ ∧ J 55 18 = Int32.ofInt e.1 ∧ (J 55 19).toInt = e.2 ∧ z_pu (z_run X z_cf z_ff (d + 7)) 196 [.ref 55] (118, z_sd m, ce, sl, I, L, z_rr t u r q (z_gg m) (z_sf m)) = some (.inl (some (.int (I 55 30))), (118, z_sd m, ce, sl, J, LJ, z_rr t u r q (z_gg m) (z_sf m)))) ∧
    (∀ tk' s, zpExpr (zlx F N) 6 tk = .inr (tk', s) → ∃ (J : Nat → Nat → Int32) (LJ : Nat → Nat → Int64), zMF a (B + 810) I J L LJ ∧ zMB F N tk' J LJ ∧ J 55 18 = 0 ∧ zcd (J 75) a s ∧ (J 55 30).toInt = ((a + zcn s + 1 : Nat) : Int) ∧ a + zcn s ≤ B + 2 * tk'.2.1 ∧ z_pu (z_run X z_cf z_ff (d + 7)) 196 [.ref 55] (118, z_sd m, ce, sl, I, L, z_rr t u r q (z_gg m) (z_sf m)) = some (.inl (some (.int (I 55 30))), (118, z_sd m, ce, sl, J, LJ, z_rr t u r q (z_gg m) (z_sf m)))) := by
  have f1 : ∀ x, x ≠ 55 → x ≠ 77 → (z_up (z_up (z_up (z_up I 55 31 (Int32.ofInt 0)) 55 32 (Int32.ofInt 0)) 55 32 (Int32.ofInt 0 + Int32.ofInt 1)) 77 1 (Int32.ofInt 0)) x = I x := fun x hx h7 => by rw [z_up_r _ _ _ _ _ h7, z_up_r _ _ _ _ _ hx, z_up_r _ _ _ _ _ hx, z_up_r _ _ _ _ _ hx]
  have f2 : ∀ j, j ≠ 31 → j ≠ 32 → (z_up (z_up (z_up (z_up I 55 31 (Int32.ofInt 0)) 55 32 (Int32.ofInt 0)) 55 32 (Int32.ofInt 0 + Int32.ofInt 1)) 77 1 (Int32.ofInt 0)) 55 j = I 55 j := fun j h1 h2 => by rw [z_up_r _ _ _ _ _ (by omega), z_up_j _ _ _ _ _ h2, z_up_j _ _ _ _ _ h2, z_up_j _ _ _ _ _ h1]
  have f31 : (z_up (z_up (z_up (z_up I 55 31 (Int32.ofInt 0)) 55 32 (Int32.ofInt 0)) 55 32 (Int32.ofInt 0 + Int32.ofInt 1)) 77 1 (Int32.ofInt 0)) 55 31 = Int32.ofInt 0 := by rw [z_up_r _ _ _ _ _ (by omega), z_up_j _ _ _ _ _ (by omega), z_up_j _ _ _ _ _ (by omega), z_up_s]
  have f32 : (z_up (z_up (z_up (z_up I 55 31 (Int32.ofInt 0)) 55 32 (Int32.ofInt 0)) 55 32 (Int32.ofInt 0 + Int32.ofInt 1)) 77 1 (Int32.ofInt 0)) 55 32 = Int32.ofInt 0 + Int32.ofInt 1 := by rw [z_up_r _ _ _ _ _ (by omega), z_up_s]
  have f77 : (z_up (z_up (z_up (z_up I 55 31 (Int32.ofInt 0)) 55 32 (Int32.ofInt 0)) 55 32 (Int32.ofInt 0 + Int32.ofInt 1)) 77 1 (Int32.ofInt 0)) 77 1 = Int32.ofInt 0 := by rw [z_up_s]
  have hbeg : z_pu (z_run X z_cf z_ff (d + 6)) 197 [.ref 55] (118, z_sd m, ce, sl, (z_up (z_up I 55 31 (Int32.ofInt 0)) 55 32 (Int32.ofInt 0)), L, z_rr t u r q (z_gg m) (z_sf m)) = some (.inl none, (118, z_sd m, ce, sl, (z_up (z_up (z_up (z_up I 55 31 (Int32.ofInt 0)) 55 32 (Int32.ofInt 0)) 55 32 (Int32.ofInt 0 + Int32.ofInt 1)) 77 1 (Int32.ofInt 0)), L, z_rr t u r q (z_gg m) (z_sf m))) := by
    rw [zk_M_begins_0 X (d + 2), z_up_s, if_neg (by decide), y_in_t (by decide) (by decide), z_gd_t]
    rfl
  generalize hK : (z_up (z_up (z_up (z_up I 55 31 (Int32.ofInt 0)) 55 32 (Int32.ofInt 0)) 55 32 (Int32.ofInt 0 + Int32.ofInt 1)) 77 1 (Int32.ofInt 0)) = K at *
  have G : zMG F N a B tk [] [false] [] K L := ⟨zMB_c h1 (fun j _ _ => f2 j (by omega) (by omega)) (f1 69 (by omega) (by omega)), by rw [f2 18 (by omega) (by omega)]; exact h2, ⟨by rw [f31]; rfl, trivial, fun v hv => absurd hv (by simp)⟩, ⟨by rw [f32]; rfl, f77, trivial⟩, ⟨by rw [f2 30 (by omega) (by omega), h3]; rfl, trivial⟩, Nat.zero_le _, by show a + 0 + 0 ≤ _; omega, rfl, by show 1 ≤ 6; omega⟩
  have F1 : zMF a (B + 810) I K L L := ⟨fun x x1 _ _ x4 => f1 x x1 x4, fun j hj => f2 j (by omega) (by omega), fun _ _ => rfl, fun _ _ => rfl, fun j _ => by rw [f1 75 (by omega) (by omega)]⟩
  obtain ⟨o1, o2⟩ := zM_opc X d m ce sl K L t u r q hN4 hB 5 true rfl G
  have en : ∀ (J : Nat → Nat → Int32) (LJ : Nat → Nat → Int64) (J2 : Nat → Nat → Int32) (LJ2 : Nat → Nat → Int64) (n : Nat), n ≤ 40 * 802 + 6 → z_pu (z_run X z_cf z_ff (d + 6)) 199 [.ref 55, .int (zbx true)] (118, z_sd m, ce, sl, K, L, z_rr t u r q (z_gg m) (z_sf m)) = some (.inl none, (118, z_sd m, ce, sl, J, LJ, z_rr t u r q (z_gg m) (z_sf m))) → (∀ M, z_loop X z_cf z_ff (z_pu (z_run X z_cf z_ff (d + 6))) 196 (M + n) 35 [(0, .ref 55), (1, .int (I 55 30)), (2, .int (Int32.ofInt 1))] [] (118, z_sd m, ce, sl, J, LJ, z_rr t u r q (z_gg m) (z_sf m)) = some (.inl (some (.int (I 55 30))), (118, z_sd m, ce, sl, J2, LJ2, z_rr t u r q (z_gg m) (z_sf m)))) → z_pu (z_run X z_cf z_ff (d + 7)) 196 [.ref 55] (118, z_sd m, ce, sl, I, L, z_rr t u r q (z_gg m) (z_sf m)) = some (.inl (some (.int (I 55 30))), (118, z_sd m, ce, sl, J2, LJ2, z_rr t u r q (z_gg m) (z_sf m))) := by
    intro J LJ J2 LJ2 n hn h6 h7
    have h6' : z_pu (z_run X z_cf z_ff (d + 6)) 199 [.ref 55, .int (Int32.ofInt 1)] (118, z_sd m, ce, sl, K, L, z_rr t u r q (z_gg m) (z_sf m)) = some (.inl none, (118, z_sd m, ce, sl, J, LJ, z_rr t u r q (z_gg m) (z_sf m))) := h6
    refine z_en X (d + 4) _ _ [(0, .ref 55)] _ _ rfl rfl rfl ?_
    rw [show (100000000 : Nat) = (99999996 - n + n) + 1 + 1 + 1 + 1 by omega, zb_M_expression_0, zM_isg X (d + 3) m ce sl I L t u r q h2, z_bi_v, zb_M_expression_9, if_neg (by decide), hbeg, z_b0_v, zb_M_expression_28, h6', z_b0_v, zb_M_expression_33, h7]
  have hl := zlx_ok F N
  obtain ⟨l1, l2⟩ := zLev_expr hN4 hl 5 tk [] [false] [] h1.2.1 rfl (Nat.succ_pos _) (Or.inl rfl) (fun _ => rfl)
  have hp := h1.2.1.1
  have hgo : ∀ f, zqGo (zlx F N) 5 true tk [] [false] [] f = match zqOp (zlx F N) 5 true tk [] [false] [] with
      | .inl e => .inl e
      | .inr s => zqEx (zlx F N) f s := fun f => rfl
  refine ⟨fun e he => ?_, fun tk' s he => ?_⟩
  · have hk := zFk_expr (zlx F N) 6 tk e he
    have hg := l1 e he (N + 1) (by omega)
    rw [hgo] at hg
    cases hx : zqOp (zlx F N) 5 true tk [] [false] [] with
    | inl y0 =>
      rw [hx] at hg
      have hg' : (.inl y0 : zFl ⊕ (zTk × List Int)) = .inl e := hg
      injection hg' with hg'
      subst hg'
      obtain ⟨J, LJ, p1, p2, p3⟩ := o1 y0 hx
      obtain ⟨J3, r1, r2, r3, r4, r5⟩ := zM_exE X d m ce sl J LJ t u r q hB p2 hk (I 55 30)
      exact ⟨J3, LJ, zMF_t F1 (zMF_t p1 r1), r2, r3, en J LJ J3 LJ 6 (by omega) p3 r4⟩
    | inr s' =>
      rw [hx] at hg
      obtain ⟨tk2, w2, ts2, c2⟩ := s'
      have hg' : zqEx (zlx F N) (N + 1) (tk2, w2, ts2, c2) = .inl e := hg
      obtain ⟨J, LJ, p1, p2, p3, p4⟩ := o2 _ hx
      obtain ⟨m1, m2⟩ := zM_ex X d m ce sl t u r q hN4 hB (I 55 30) (N + 1) tk2 w2 ts2 c2 J LJ p2
      obtain ⟨J3, LJ3, r1, r2, r3, n, r4, r5⟩ := m1 e hg' hk.1
      exact ⟨J3, LJ3, zMF_t F1 (zMF_t p1 r1), r2, r3, en J LJ J3 LJ3 n (by omega) p4 r5⟩
  · obtain ⟨k, c', e, ts', q1, q2, q3, q4, q5, q6, q7, q8⟩ := l2 tk' s he
    have hend : zqEx (zlx F N) 1 (tk', e ++ [], ts', c') = .inr (tk', s) := by
      have hd := zdrop_is 0 [] (Or.inl rfl) e c' (fun v hv => ⟨(q4 v hv).1, Nat.zero_le _⟩)
      show (if zlev tk'.1 ≠ 0 ∧ (zlev tk'.1 = 4 → ts'.headD false = false) then _ else if tk'.1 = 41 ∧ 1 < ts'.length then _ else if 1 < ts'.length then _ else (.inr (tk', (zdrop 0 (e ++ []) c').2) : zFl ⊕ (zTk × List Int))) = _
      have q6' : ts'.length = 1 := q6
      rw [if_neg (by
        rintro ⟨a1, a2⟩
        rcases q8 with q8 | ⟨q8, q9⟩
        · omega
        · rw [a2 q8] at q9
          exact absurd q9 (by decide)), if_neg (by omega), if_neg (by omega), hd, q3]
      rfl
    have hA := zAdv_expr hl 6 tk h1.2.1 tk' s he
    have hN' := hA.1.1
    have hg := q2 1
    rw [hend, hgo] at hg
    cases hx : zqOp (zlx F N) 5 true tk [] [false] [] with
    | inl y0 =>
      rw [hx] at hg
      exact absurd (show (.inl y0 : zFl ⊕ (zTk × List Int)) = .inr (tk', s) from hg) (by simp)
    | inr s' =>
      rw [hx] at hg
      obtain ⟨tk2, w2, ts2, c2⟩ := s'
      have hg' : zqEx (zlx F N) (1 + k) (tk2, w2, ts2, c2) = .inr (tk', s) := hg
      obtain ⟨J, LJ, p1, p2, p3, p4⟩ := o2 _ hx
      obtain ⟨m1, m2⟩ := zM_ex X d m ce sl t u r q hN4 hB (I 55 30) (1 + k) tk2 w2 ts2 c2 J LJ p2
      obtain ⟨J3, LJ3, r1, r2, r3, r4, r5, r6, r7, n, r8, r9⟩ := m2 tk' s hg'
      exact ⟨J3, LJ3, zMF_t F1 (zMF_t p1 r1), r2, r3, r4, r5, r6, en J LJ J3 LJ3 n (by omega) p4 r9⟩
