/-! RULES, 14: the model's machine: what an expression begins with -/
theorem zkw_is {k : Int} {j : Nat} (hj : j < 19) : zkw k = (j : Int) ↔ k = 100 + (zcm j : Int) := by
  obtain ⟨c1, c2, c3, c4, c5⟩ := zlw_c j hj
  unfold zkw
  constructor
  · intro h
    by_cases c : 100 ≤ k ∧ k ≤ 118
    · rw [if_pos c] at h
      obtain ⟨d1, d2, d3⟩ := zww_l (k - 100).toNat (by omega)
      have e : zmow (k - 100).toNat = j := by omega
      rw [e] at d2
      omega
    · rw [if_neg c] at h
      omega
  · intro h
    rw [h, if_pos (by omega), show (100 + (zcm j : Int) - 100).toNat = zcm j by omega, c3]
theorem zkw_8 {k : Int} : zkw k = 8 ↔ k = 110 := by
  have h := zkw_is (k := k) (j := 8) (by omega)
  have e : zcm 8 = 10 := by decide
  rw [e] at h
  omega
theorem zkw_6 {k : Int} : zkw k = 6 ↔ k = 111 := by
  have h := zkw_is (k := k) (j := 6) (by omega)
  have e : zcm 6 = 11 := by decide
  rw [e] at h
  omega
theorem zkw_7 {k : Int} : zkw k = 7 ↔ k = 112 := by
  have h := zkw_is (k := k) (j := 7) (by omega)
  have e : zcm 7 = 12 := by decide
  rw [e] at h
  omega
theorem zkw_9 {k : Int} : zkw k = 9 ↔ k = 100 := by
  have h := zkw_is (k := k) (j := 9) (by omega)
  have e : zcm 9 = 0 := by decide
  rw [e] at h
  omega
theorem zkw_5 {k : Int} : zkw k = 5 ↔ k = 113 := by
  have h := zkw_is (k := k) (j := 5) (by omega)
  have e : zcm 5 = 13 := by decide
  rw [e] at h
  omega
theorem zkw_0 {k : Int} : zkw k = 0 ↔ k = 114 := by
  have h := zkw_is (k := k) (j := 0) (by omega)
  have e : zcm 0 = 14 := by decide
  rw [e] at h
  omega
theorem zkw_1 {k : Int} : zkw k = 1 ↔ k = 115 := by
  have h := zkw_is (k := k) (j := 1) (by omega)
  have e : zcm 1 = 15 := by decide
  rw [e] at h
  omega
theorem zkw_2 {k : Int} : zkw k = 2 ↔ k = 116 := by
  have h := zkw_is (k := k) (j := 2) (by omega)
  have e : zcm 2 = 16 := by decide
  rw [e] at h
  omega
theorem zkw_3 {k : Int} : zkw k = 3 ↔ k = 117 := by
  have h := zkw_is (k := k) (j := 3) (by omega)
  have e : zcm 3 = 17 := by decide
  rw [e] at h
  omega
theorem zkw_4 {k : Int} : zkw k = 4 ↔ k = 118 := by
  have h := zkw_is (k := k) (j := 4) (by omega)
  have e : zcm 4 = 18 := by decide
  rw [e] at h
  omega
theorem zM_wait (X : ZX) (d m ce sl : Nat) (I : Nat → Nat → Int32) (L : Nat → Nat → Int64) (t u r q : Nat) {v : Int} {w : List Int} (h : zMW w I) (hv : zwvw v) (hl : w.length ≤ 400) (x1 : Int32) (hx : x1 = Int32.ofInt (zopw v)) : ∃ K : Nat → Nat → Int32, (∀ x, x ≠ 55 → x ≠ 76 → K x = I x) ∧ (∀ j, j ≠ 31 → K 55 j = I 55 j) ∧ zMW (v :: w) K ∧ z_pu (z_run X z_cf z_ff (d + 3)) 200 [.ref 55, .int x1] (118, z_sd m, ce, sl, I, L, z_rr t u r q (z_gg m) (z_sf m)) = some (.inl none, (118, z_sd m, ce, sl, K, L, z_rr t u r q (z_gg m) (z_sf m))) := by
  obtain ⟨a1, a2⟩ := zM_waits h hv hl x1 hx
  exact ⟨_, fun x p1 p2 => by rw [z_up_r _ _ _ _ _ p1, z_up_r _ _ _ _ _ p2], fun j p1 => by rw [z_up_j _ _ _ _ _ p1, z_up_r _ _ _ _ _ (by omega)], a1, by rw [zk_M_waitsFor_0, a2, z_gd_t]⟩
/-- a sign waits, and the next token -/
theorem zM_wg (X : ZX) (d m ce sl : Nat) (I : Nat → Nat → Int32) (L : Nat → Nat → Int64) (t u r q : Nat) {F : Nat → Int} {N a B : Nat} (hN4 : N ≤ 400) (hB : B ≤ 1000) {tk : zTk} {w : List Int} {ts : List Bool} {c : List Int} (h : zMG F N a B tk w ts c I L) (hk : tk.1 ≠ 0) {v : Int} (hv : zwvw v) (x1 : Int32) (hx : x1 = Int32.ofInt (zopw v)) : ∃ (K J : Nat → Nat → Int32) (LJ : Nat → Nat → Int64), zMF a (B + 810) I J L LJ ∧ zMB F N (zlx F N tk.2.2.1) J LJ ∧ J 55 18 = 0 ∧ zMW (v :: w) J ∧ zMD ts J ∧ zMK a c J ∧ tk.2.1 + 1 ≤ (zlx F N tk.2.2.1).2.1 ∧ z_pu (z_run X z_cf z_ff (d + 5)) 200 [.ref 55, .int x1] (118, z_sd m, ce, sl, I, L, z_rr t u r q (z_gg m) (z_sf m)) = some (.inl none, (118, z_sd m, ce, sl, K, L, z_rr t u r q (z_gg m) (z_sf m))) ∧ z_pu (z_run X z_cf z_ff (d + 5)) 184 [.ref 55] (118, z_sd m, ce, sl, K, L, z_rr t u r q (z_gg m) (z_sf m)) = some (.inl none, (118, z_sd m, ce, sl, J, LJ, z_rr t u r q (z_gg m) (z_sf m))) := by
  obtain ⟨g1, g2, g3, g4, g5, g6, g7, g8, g9⟩ := h
  have hp := g1.2.1.1
  obtain ⟨K, k1, k2, k3, k4⟩ := zM_wait X (d + 2) m ce sl I L t u r q g3 hv (by omega) x1 hx
  obtain ⟨J, LJ, i1, i2, i3, i4, i5, i6, i7⟩ := zM_tok X (d + 1) m ce sl K L t u r q hN4 (zMB_c g1 (fun j _ _ => k2 j (by omega)) (k1 69 (by omega) (by omega))) hk
  refine ⟨K, J, LJ, zMF_t (J := K) (LJ := L) ⟨fun x x1 x2 x3 x4 => k1 x x1 x3, fun j hj => k2 j (by omega), fun _ _ => rfl, fun _ _ => rfl, fun j _ => by rw [k1 75 (by omega) (by omega)]⟩ (zMF_55 i1 (fun j hj => i2 j (by omega)) i3 i4), i5, by rw [i2 18 (by omega), k2 18 (by omega)]; exact g2, zMW_c k3 (i2 31 (by omega)) (i1 76 (by omega)), zMD_c g4 (by rw [i2 32 (by omega), k2 32 (by omega)]) (by rw [i1 77 (by omega), k1 77 (by omega) (by omega)]), zMK_c g5 (by rw [i2 30 (by omega), k2 30 (by omega)]) (by rw [i1 75 (by omega), k1 75 (by omega) (by omega)]), i6, k4, i7⟩
theorem zM_isg (X : ZX) (d m ce sl : Nat) (I : Nat → Nat → Int32) (L : Nat → Nat → Int64) (t u r q : Nat) (h : I 55 18 = 0) : z_pu (z_run X z_cf z_ff (d + 3)) 188 [.ref 55] (118, z_sd m, ce, sl, I, L, z_rr t u r q (z_gg m) (z_sf m)) = some (.inl (some (.int (Int32.ofInt 1))), (118, z_sd m, ce, sl, I, L, z_rr t u r q (z_gg m) (z_sf m))) := by rw [zk_M_isGood_0, zM_good I h]
theorem zM_isb (X : ZX) (d m ce sl : Nat) (I : Nat → Nat → Int32) (L : Nat → Nat → Int64) (t u r q : Nat) (h : ¬ I 55 18 = 0) : z_pu (z_run X z_cf z_ff (d + 3)) 188 [.ref 55] (118, z_sd m, ce, sl, I, L, z_rr t u r q (z_gg m) (z_sf m)) = some (.inl (some (.int (Int32.ofInt 0))), (118, z_sd m, ce, sl, I, L, z_rr t u r q (z_gg m) (z_sf m))) := by rw [zk_M_isGood_0, zM_bad I h]
theorem zM_nots (X : ZX) (d m ce sl : Nat) (t u r q : Nat) {F : Nat → Int} {N a B : Nat} (hN4 : N ≤ 400) (hB : B ≤ 1000) {ts : List Bool} {c : List Int} (x2 : Int32) (hx2 : ¬ x2 = 0) : ∀ (k : Nat) (x4 : Int32) (tk : zTk) (w : List Int) (I : Nat → Nat → Int32) (L : Nat → Nat → Int64), k ≤ 6 → x4.toInt = 6 - (k : Int) → zMG F N a B tk w ts c I L →
    (∀ e, zqNots (zlx F N) k tk w = .inl e → ∃ (J : Nat → Nat → Int32) (LJ : Nat → Nat → Int64), zMF a (B + 810) I J L LJ ∧ zME a B e J ∧ ¬ J 55 18 = 0 ∧ ∃ K, K ≤ 8 * k + 20 ∧ ∀ M, z_loop X z_cf z_ff (z_pu (z_run X z_cf z_ff (d + 5))) 199 (M + K) 18 [(0, .ref 55), (2, .int x2), (4, .int x4)] [] (118, z_sd m, ce, sl, I, L, z_rr t u r q (z_gg m) (z_sf m)) = z_loop X z_cf z_ff (z_pu (z_run X z_cf z_ff (d + 5))) 199 (M) 79 [(0, .ref 55), (2, .int x2)] [.int (Int32.ofInt 0)] (118, z_sd m, ce, sl, J, LJ, z_rr t u r q (z_gg m) (z_sf m))) ∧
    (∀ tk1 w1, zqNots (zlx F N) k tk w = .inr (tk1, w1) → ∃ (J : Nat → Nat → Int32) (LJ : Nat → Nat → Int64), zMF a (B + 810) I J L LJ ∧ zMG F N a B tk1 w1 ts c J LJ ∧ tk.2.1 ≤ tk1.2.1 ∧ ∃ K, K ≤ 8 * k + 20 ∧ ∀ M, z_loop X z_cf z_ff (z_pu (z_run X z_cf z_ff (d + 5))) 199 (M + K) 18 [(0, .ref 55), (2, .int x2), (4, .int x4)] [] (118, z_sd m, ce, sl, I, L, z_rr t u r q (z_gg m) (z_sf m)) = z_loop X z_cf z_ff (z_pu (z_run X z_cf z_ff (d + 5))) 199 (M) 79 [(0, .ref 55), (2, .int x2)] [.int (Int32.ofInt 1)] (118, z_sd m, ce, sl, J, LJ, z_rr t u r q (z_gg m) (z_sf m))) := by
  intro k
  have no : ∀ (k : Nat) (x4 : Int32) (tk : zTk) (w : List Int) (I : Nat → Nat → Int32) (L : Nat → Nat → Int64), zMG F N a B tk w ts c I L → tk.1 ≠ 110 → ∀ M, z_loop X z_cf z_ff (z_pu (z_run X z_cf z_ff (d + 5))) 199 (M + 3) 18 [(0, .ref 55), (2, .int x2), (4, .int x4)] [] (118, z_sd m, ce, sl, I, L, z_rr t u r q (z_gg m) (z_sf m)) = z_loop X z_cf z_ff (z_pu (z_run X z_cf z_ff (d + 5))) 199 (M) 79 [(0, .ref 55), (2, .int x2)] [.int (Int32.ofInt 1)] (118, z_sd m, ce, sl, I, L, z_rr t u r q (z_gg m) (z_sf m)) := by
    intro k x4 tk w I L h hk M
    obtain ⟨y, y1, y2⟩ := zr_known X (d + 1) m ce sl I L t u r q h.1.1 h.1.2.1
    have hy : ¬ y = Int32.ofInt 8 := y_lit (by rw [y1]; exact fun e => hk (zkw_8.mp e)) (by omega) (by omega)
    rw [show M + 3 = M + 1 + 1 + 1 by omega, zb_M_operand_18, zM_isg X (d + 2) m ce sl I L t u r q h.2.1, z_bi_v, zb_M_operand_22, if_neg (by decide), if_neg hx2, y2, z_bi_v, zb_M_operand_33, if_neg hy, zM_isg X (d + 2) m ce sl I L t u r q h.2.1, z_bi_v]
  induction k with
  | zero =>
    intro x4 tk w I L h1 h2 h
    by_cases ck : tk.1 = 110
    · have hL : zqNots (zlx F N) 0 tk w = .inl (2, tk.2.1) := by
        show (if tk.1 = 110 then _ else _) = _
        rw [if_pos ck]
      rw [hL]
      refine ⟨fun e he => ?_, fun tk1 w1 he => absurd he (by simp)⟩
      injection he with he
      subst he
      obtain ⟨y, y1, y2⟩ := zr_known X (d + 1) m ce sl I L t u r q h.1.1 h.1.2.1
      have hy : y = Int32.ofInt 8 := y_eqi (by rw [y1]; exact zkw_8.mpr ck)
      obtain ⟨g1, g2, g3, g4, g5, g6, g7, g8, g9⟩ := h
      have hp := g1.2.1.1
      have f1 : ∀ x, x ≠ 55 → (z_up (z_up I 55 18 (Int32.ofInt 2)) 55 19 (I 55 23)) x = I x := fun x hx => by rw [z_up_r _ _ _ _ _ hx, z_up_r _ _ _ _ _ hx]
      have f2 : ∀ j, j ≠ 18 → j ≠ 19 → (z_up (z_up I 55 18 (Int32.ofInt 2)) 55 19 (I 55 23)) 55 j = I 55 j := fun j h1 h2 => by rw [z_up_j _ _ _ _ _ h2, z_up_j _ _ _ _ _ h1]
      have f3 : (z_up (z_up I 55 18 (Int32.ofInt 2)) 55 19 (I 55 23)) 55 18 = Int32.ofInt 2 := by rw [z_up_j _ _ _ _ _ (by omega), z_up_s]
      have f4 : ¬ (z_up (z_up I 55 18 (Int32.ofInt 2)) 55 19 (I 55 23)) 55 18 = 0 := by rw [f3]; decide
      refine ⟨z_up (z_up I 55 18 (Int32.ofInt 2)) 55 19 (I 55 23), L, zMF_55 f1 (fun j hj => f2 j (by omega) (by omega)) (fun _ _ => rfl) (fun _ _ => rfl), ⟨f3, by rw [z_up_s]; exact g1.1.1, w, a + zcn c, zMW_c g3 (f2 31 (by omega) (by omega)) (f1 76 (by omega)), by omega, by rw [f2 30 (by omega) (by omega)]; exact g5.1, by omega, by omega⟩, f4, 7, by omega, fun M => ?_⟩
      rw [show M + 7 = M + 1 + 1 + 1 + 1 + 1 + 1 + 1 by omega, zb_M_operand_18, zM_isg X (d + 2) m ce sl I L t u r q g2, z_bi_v, zb_M_operand_22, if_neg (by decide), if_neg hx2, y2, z_bi_v, zb_M_operand_33, if_pos hy, if_pos (y_i_eq.mpr (by rw [h2]; show _ = (6 : Int); omega)), zk_M_wrong_0 X (d + 2), if_pos g2, z_b0_v, zb_M_operand_50, zM_isb X (d + 2) m ce sl _ L t u r q f4, z_bi_v, zb_M_operand_57, if_pos (by decide), zb_M_operand_18, zM_isb X (d + 2) m ce sl _ L t u r q f4, z_bi_v, zb_M_operand_22, if_pos (by decide), zM_isb X (d + 2) m ce sl _ L t u r q f4, z_bi_v]
    · have hL : zqNots (zlx F N) 0 tk w = .inr (tk, w) := by
        show (if tk.1 = 110 then _ else _) = _
        rw [if_neg ck]
      rw [hL]
      refine ⟨fun e he => absurd he (by simp), fun tk1 w1 he => ?_⟩
      injection he with he
      injection he with v1 v2
      subst v1
      subst v2
      exact ⟨I, L, zMF_r a (B + 810) I L, h, Nat.le_refl _, 3, by omega, no 0 x4 tk w I L h ck⟩
  | succ k ih =>
    intro x4 tk w I L h1 h2 h
    by_cases ck : tk.1 = 110
    · have hL : zqNots (zlx F N) (k + 1) tk w = zqNots (zlx F N) k (zlx F N tk.2.2.1) (-110 :: w) := by
        show (if tk.1 = 110 then _ else _) = _
        rw [if_pos ck]
      rw [hL]
      obtain ⟨y, y1, y2⟩ := zr_known X (d + 1) m ce sl I L t u r q h.1.1 h.1.2.1
      have hy : y = Int32.ofInt 8 := y_eqi (by rw [y1]; exact zkw_8.mpr ck)
      obtain ⟨K, J, LJ, w1, w2, w3, w4, w5, w6, w7, w8, w9⟩ := zM_wg X d m ce sl I L t u r q hN4 hB h (by omega) (v := -110) (Or.inr (Or.inl rfl)) (Int32.ofInt 3) rfl
      have hp := w2.2.1.1
      obtain ⟨g1, g2, g3, g4, g5, g6, g7, g8, g9⟩ := h
      have hlen : (-110 :: w).length = w.length + 1 := rfl
      obtain ⟨m1, m2⟩ := ih (x4 + Int32.ofInt 1) (zlx F N tk.2.2.1) (-110 :: w) J LJ (by omega) (by rw [y_adl (by omega) (by omega) (by omega) (by omega)]; omega) ⟨w2, w3, w4, w5, w6, by rw [hlen]; omega, by rw [hlen]; omega, by show (if (-110 : Int) = 0 then 1 else 0) + zz w + 1 = _; rw [if_neg (by omega)]; omega, g9⟩
      have st : ∀ M, z_loop X z_cf z_ff (z_pu (z_run X z_cf z_ff (d + 5))) 199 (M + 7) 18 [(0, .ref 55), (2, .int x2), (4, .int x4)] [] (118, z_sd m, ce, sl, I, L, z_rr t u r q (z_gg m) (z_sf m)) = z_loop X z_cf z_ff (z_pu (z_run X z_cf z_ff (d + 5))) 199 (M) 18 [(0, .ref 55), (2, .int x2), (4, .int (x4 + Int32.ofInt 1))] [] (118, z_sd m, ce, sl, J, LJ, z_rr t u r q (z_gg m) (z_sf m)) := by
        intro M
        rw [show M + 7 = M + 1 + 1 + 1 + 1 + 1 + 1 + 1 by omega, zb_M_operand_18, zM_isg X (d + 2) m ce sl I L t u r q g2, z_bi_v, zb_M_operand_22, if_neg (by decide), if_neg hx2, y2, z_bi_v, zb_M_operand_33, if_pos hy, if_neg (y_lit (by rw [h2]; omega) (by omega) (by omega)), zb_M_operand_50, zM_isg X (d + 2) m ce sl I L t u r q g2, z_bi_v, zb_M_operand_57, if_neg (by decide), w8, z_b0_v, zb_M_operand_68, w9, z_b0_v, zb_M_operand_72]
      refine ⟨fun e he => ?_, fun tk1 w1' he => ?_⟩
      · obtain ⟨J2, LJ2, q1, q2, q3, K', q4, q5⟩ := m1 e he
        exact ⟨J2, LJ2, zMF_t w1 q1, q2, q3, K' + 7, by omega, fun M => by rw [show M + (K' + 7) = (M + K') + 7 by omega, st, q5]⟩
      · obtain ⟨J2, LJ2, q1, q2, q3, K', q4, q5⟩ := m2 tk1 w1' he
        exact ⟨J2, LJ2, zMF_t w1 q1, q2, by omega, K' + 7, by omega, fun M => by rw [show M + (K' + 7) = (M + K') + 7 by omega, st, q5]⟩
    · have hL : zqNots (zlx F N) (k + 1) tk w = .inr (tk, w) := by
        show (if tk.1 = 110 then _ else _) = _
        rw [if_neg ck]
      rw [hL]
      refine ⟨fun e he => absurd he (by simp), fun tk1 w1 he => ?_⟩
      injection he with he
      injection he with v1 v2
      subst v1
      subst v2
      exact ⟨I, L, zMF_r a (B + 810) I L, h, Nat.le_refl _, 3, by omega, no (k + 1) x4 tk w I L h ck⟩
/-- nots, perhaps -/
def zqNt (lx : Nat → zTk) (nt : Bool) (tk : zTk) (w : List Int) : zFl ⊕ (zTk × List Int) := if nt = true then zqNots lx 6 tk w else .inr (tk, w)
def zbx (nt : Bool) : Int32 := if nt = true then Int32.ofInt 1 else Int32.ofInt 0
theorem zM_nt (X : ZX) (d m ce sl : Nat) (I : Nat → Nat → Int32) (L : Nat → Nat → Int64) (t u r q : Nat) {F : Nat → Int} {N a B : Nat} (hN4 : N ≤ 400) (hB : B ≤ 1000) {ts : List Bool} {c : List Int} (nt : Bool) {tk : zTk} {w : List Int} (h : zMG F N a B tk w ts c I L) :
    (∀ e, zqNt (zlx F N) nt tk w = .inl e → ∃ (J : Nat → Nat → Int32) (LJ : Nat → Nat → Int64), zMF a (B + 810) I J L LJ ∧ zME a B e J ∧ ¬ J 55 18 = 0 ∧ ∃ K, K ≤ 80 ∧ ∀ M, z_loop X z_cf z_ff (z_pu (z_run X z_cf z_ff (d + 5))) 199 (M + K) 4 [(0, .ref 55), (2, .int (zbx nt)), (3, .int (Int32.ofInt 1))] [] (118, z_sd m, ce, sl, I, L, z_rr t u r q (z_gg m) (z_sf m)) = z_loop X z_cf z_ff (z_pu (z_run X z_cf z_ff (d + 5))) 199 (M) 79 [(0, .ref 55), (2, .int (zbx nt))] [.int (Int32.ofInt 0)] (118, z_sd m, ce, sl, J, LJ, z_rr t u r q (z_gg m) (z_sf m))) ∧
    (∀ tk1 w1, zqNt (zlx F N) nt tk w = .inr (tk1, w1) → ∃ (J : Nat → Nat → Int32) (LJ : Nat → Nat → Int64), zMF a (B + 810) I J L LJ ∧ zMG F N a B tk1 w1 ts c J LJ ∧ tk.2.1 ≤ tk1.2.1 ∧ ∃ K, K ≤ 80 ∧ ∀ M, z_loop X z_cf z_ff (z_pu (z_run X z_cf z_ff (d + 5))) 199 (M + K) 4 [(0, .ref 55), (2, .int (zbx nt)), (3, .int (Int32.ofInt 1))] [] (118, z_sd m, ce, sl, I, L, z_rr t u r q (z_gg m) (z_sf m)) = z_loop X z_cf z_ff (z_pu (z_run X z_cf z_ff (d + 5))) 199 (M) 79 [(0, .ref 55), (2, .int (zbx nt))] [.int (Int32.ofInt 1)] (118, z_sd m, ce, sl, J, LJ, z_rr t u r q (z_gg m) (z_sf m))) := by
  have st : ∀ M, z_loop X z_cf z_ff (z_pu (z_run X z_cf z_ff (d + 5))) 199 (M + 2) 4 [(0, .ref 55), (2, .int (zbx nt)), (3, .int (Int32.ofInt 1))] [] (118, z_sd m, ce, sl, I, L, z_rr t u r q (z_gg m) (z_sf m)) = z_loop X z_cf z_ff (z_pu (z_run X z_cf z_ff (d + 5))) 199 (M) 18 [(0, .ref 55), (2, .int (zbx nt)), (4, .int (Int32.ofInt 0))] [] (118, z_sd m, ce, sl, I, L, z_rr t u r q (z_gg m) (z_sf m)) := by
    intro M
    rw [show M + 2 = M + 1 + 1 by omega, zb_M_operand_4, if_neg (by decide), zM_isg X (d + 2) m ce sl I L t u r q h.2.1, z_bi_v, zb_M_operand_12, if_neg (by decide)]
  cases nt with
  | true =>
    obtain ⟨m1, m2⟩ := zM_nots X d m ce sl t u r q hN4 hB (ts := ts) (c := c) (zbx true) (by decide) 6 (Int32.ofInt 0) tk w I L (Nat.le_refl _) rfl h
    have hz : zqNt (zlx F N) true tk w = zqNots (zlx F N) 6 tk w := rfl
    rw [hz]
    refine ⟨fun e he => ?_, fun tk1 w1 he => ?_⟩
    · obtain ⟨J2, LJ2, q1, q2, q3, K', q4, q5⟩ := m1 e he
      exact ⟨J2, LJ2, q1, q2, q3, K' + 2, by omega, fun M => by rw [show M + (K' + 2) = (M + K') + 2 by omega, st, q5]⟩
    · obtain ⟨J2, LJ2, q1, q2, q3, K', q4, q5⟩ := m2 tk1 w1 he
      exact ⟨J2, LJ2, q1, q2, q3, K' + 2, by omega, fun M => by rw [show M + (K' + 2) = (M + K') + 2 by omega, st, q5]⟩
  | false =>
    have hz : zqNt (zlx F N) false tk w = .inr (tk, w) := rfl
    rw [hz]
    refine ⟨fun e he => absurd he (by simp), fun tk1 w1 he => ?_⟩
    injection he with he
    injection he with v1 v2
    subst v1
    subst v2
    refine ⟨I, L, zMF_r a (B + 810) I L, h, Nat.le_refl _, 4, by omega, fun M => ?_⟩
    rw [show M + 4 = M + 1 + 1 + 2 by omega, st, zb_M_operand_18, zM_isg X (d + 2) m ce sl I L t u r q h.2.1, z_bi_v, zb_M_operand_22, if_neg (by decide), if_pos (show zbx false = 0 from rfl), zM_isg X (d + 2) m ce sl I L t u r q h.2.1, z_bi_v]
/-- behind a fault an operand is over -/
theorem zM_opE (X : ZX) (d m ce sl : Nat) (I : Nat → Nat → Int32) (L : Nat → Nat → Int64) (t u r q : Nat) (h : ¬ I 55 18 = 0) (x2 : Int32) : ∀ M, z_loop X z_cf z_ff (z_pu (z_run X z_cf z_ff (d + 5))) 199 (M + 3) 79 [(0, .ref 55), (2, .int x2)] [.int (Int32.ofInt 0)] (118, z_sd m, ce, sl, I, L, z_rr t u r q (z_gg m) (z_sf m)) = some (.inl none, (118, z_sd m, ce, sl, I, L, z_rr t u r q (z_gg m) (z_sf m))) := by
  intro M
  rw [show M + 3 = M + 1 + 1 + 1 by omega, zb_M_operand_79, if_pos (by decide), if_pos (by decide), zb_M_operand_4, if_pos (by decide), zM_part0 X d m ce sl I L t u r q h, z_b0_v, zb_M_operand_124]
theorem zqOp_s (lx : Nat → zTk) (r : Nat) (nt : Bool) (tk : zTk) (w : List Int) (ts : List Bool) (c : List Int) : zqOp lx (r + 1) nt tk w ts c = match zqNt lx nt tk w with
    | .inl e => .inl e
    | .inr (tk1, w1) => if tk1.1 = 40 then zqOp lx r true (lx tk1.2.2.1) (0 :: w1) (false :: ts) c else zqPart lx tk1 w1 ts c := rfl
theorem zqOp_0 (lx : Nat → zTk) (nt : Bool) (tk : zTk) (w : List Int) (ts : List Bool) (c : List Int) : zqOp lx 0 nt tk w ts c = match zqNt lx nt tk w with
    | .inl e => .inl e
    | .inr (tk1, w1) => if tk1.1 = 40 then .inl (zbgk (lx tk1.2.2.1).1, (lx tk1.2.2.1).2.1) else zqPart lx tk1 w1 ts c := rfl
theorem zME_0 {a B : Nat} {e : zFl} {J : Nat → Nat → Int32} (h : zME a B e J) (he : 1 ≤ e.1 ∧ e.1 ≤ 4) : ¬ J 55 18 = 0 := by
  rw [h.1]
  intro h0
  have e2 := y_oi (v := e.1) (by omega) (by omega)
  rw [h0, y_i0] at e2
  omega
theorem zM_op (X : ZX) (d m ce sl : Nat) (t u r q : Nat) {F : Nat → Int} {N a B : Nat} (hN4 : N ≤ 400) (hB : B ≤ 1000) : ∀ (rr : Nat) (nt : Bool) (tk : zTk) (w : List Int) (ts : List Bool) (c : List Int) (I : Nat → Nat → Int32) (L : Nat → Nat → Int64), ts.length + rr = 6 → zMG F N a B tk w ts c I L →
    (∀ e, zqOp (zlx F N) rr nt tk w ts c = .inl e → ∃ (J : Nat → Nat → Int32) (LJ : Nat → Nat → Int64), zMF a (B + 810) I J L LJ ∧ zME a B e J ∧ ∃ K, K ≤ 100 * (rr + 1) ∧ ∀ M, z_loop X z_cf z_ff (z_pu (z_run X z_cf z_ff (d + 5))) 199 (M + K) 4 [(0, .ref 55), (2, .int (zbx nt)), (3, .int (Int32.ofInt 1))] [] (118, z_sd m, ce, sl, I, L, z_rr t u r q (z_gg m) (z_sf m)) = some (.inl none, (118, z_sd m, ce, sl, J, LJ, z_rr t u r q (z_gg m) (z_sf m)))) ∧
    (∀ s', zqOp (zlx F N) rr nt tk w ts c = .inr s' → ∃ (J : Nat → Nat → Int32) (LJ : Nat → Nat → Int64), zMF a (B + 810) I J L LJ ∧ zMG F N a B s'.1 s'.2.1 s'.2.2.1 s'.2.2.2 J LJ ∧ tk.2.1 + 1 ≤ s'.1.2.1 ∧ ∃ K, K ≤ 100 * (rr + 1) ∧ ∀ M, z_loop X z_cf z_ff (z_pu (z_run X z_cf z_ff (d + 5))) 199 (M + K) 4 [(0, .ref 55), (2, .int (zbx nt)), (3, .int (Int32.ofInt 1))] [] (118, z_sd m, ce, sl, I, L, z_rr t u r q (z_gg m) (z_sf m)) = some (.inl none, (118, z_sd m, ce, sl, J, LJ, z_rr t u r q (z_gg m) (z_sf m)))) := by
  intro rr
  -- no parenthesis: a part
  have pt : ∀ (rr : Nat) (nt : Bool) (tk tk1 : zTk) (w1 : List Int) (ts : List Bool) (c : List Int) (I J0 : Nat → Nat → Int32) (L LJ0 : Nat → Nat → Int64) (K0 : Nat), zMG F N a B tk1 w1 ts c J0 LJ0 → tk1.1 ≠ 40 → zMF a (B + 810) I J0 L LJ0 → tk.2.1 ≤ tk1.2.1 → K0 ≤ 80 → (∀ M, z_loop X z_cf z_ff (z_pu (z_run X z_cf z_ff (d + 5))) 199 (M + K0) 4 [(0, .ref 55), (2, .int (zbx nt)), (3, .int (Int32.ofInt 1))] [] (118, z_sd m, ce, sl, I, L, z_rr t u r q (z_gg m) (z_sf m)) = z_loop X z_cf z_ff (z_pu (z_run X z_cf z_ff (d + 5))) 199 (M) 79 [(0, .ref 55), (2, .int (zbx nt))] [.int (Int32.ofInt 1)] (118, z_sd m, ce, sl, J0, LJ0, z_rr t u r q (z_gg m) (z_sf m))) →
      (∀ e, zqPart (zlx F N) tk1 w1 ts c = .inl e → ∃ (J : Nat → Nat → Int32) (LJ : Nat → Nat → Int64), zMF a (B + 810) I J L LJ ∧ zME a B e J ∧ ∃ K, K ≤ 100 * (rr + 1) ∧ ∀ M, z_loop X z_cf z_ff (z_pu (z_run X z_cf z_ff (d + 5))) 199 (M + K) 4 [(0, .ref 55), (2, .int (zbx nt)), (3, .int (Int32.ofInt 1))] [] (118, z_sd m, ce, sl, I, L, z_rr t u r q (z_gg m) (z_sf m)) = some (.inl none, (118, z_sd m, ce, sl, J, LJ, z_rr t u r q (z_gg m) (z_sf m)))) ∧
      (∀ s', zqPart (zlx F N) tk1 w1 ts c = .inr s' → ∃ (J : Nat → Nat → Int32) (LJ : Nat → Nat → Int64), zMF a (B + 810) I J L LJ ∧ zMG F N a B s'.1 s'.2.1 s'.2.2.1 s'.2.2.2 J LJ ∧ tk.2.1 + 1 ≤ s'.1.2.1 ∧ ∃ K, K ≤ 100 * (rr + 1) ∧ ∀ M, z_loop X z_cf z_ff (z_pu (z_run X z_cf z_ff (d + 5))) 199 (M + K) 4 [(0, .ref 55), (2, .int (zbx nt)), (3, .int (Int32.ofInt 1))] [] (118, z_sd m, ce, sl, I, L, z_rr t u r q (z_gg m) (z_sf m)) = some (.inl none, (118, z_sd m, ce, sl, J, LJ, z_rr t u r q (z_gg m) (z_sf m)))) := by
    intro rr nt tk tk1 w1 ts c I J0 L LJ0 K0 h c40 f1 f2 f3 f4
    have hs : z_v_M_isSign J0 (Int32.ofInt 40) = 0 := (zM_sign h.1.1 h.1.2.1 (v := 40) (Or.inl rfl)).mpr c40
    obtain ⟨p1, p2⟩ := zM_part X d m ce sl J0 LJ0 t u r q hN4 hB h
    have st : ∀ M, z_loop X z_cf z_ff (z_pu (z_run X z_cf z_ff (d + 5))) 199 (M + (K0 + 4)) 4 [(0, .ref 55), (2, .int (zbx nt)), (3, .int (Int32.ofInt 1))] [] (118, z_sd m, ce, sl, I, L, z_rr t u r q (z_gg m) (z_sf m)) = z_b0 (z_x [] 121) (z_pu (z_run X z_cf z_ff (d + 5)) 201 [.ref 55] (118, z_sd m, ce, sl, J0, LJ0, z_rr t u r q (z_gg m) (z_sf m))) (fun w => z_loop X z_cf z_ff (z_pu (z_run X z_cf z_ff (d + 5))) 199 (M + 1) 124 [] [] w) := by
      intro M
      rw [show M + (K0 + 4) = (M + 1 + 1 + 1 + 1) + K0 by omega, f4, zb_M_operand_79, if_neg (by decide), zk_M_isSign_0, hs, z_bi_v, zb_M_operand_88, if_pos (by decide), if_pos (by decide), zb_M_operand_4, if_pos (by decide)]
    refine ⟨fun e he => ?_, fun s' he => ?_⟩
    · obtain ⟨J, LJ, q1, q2, q3⟩ := p1 e he
      exact ⟨J, LJ, zMF_t f1 q1, q2, K0 + 4, by omega, fun M => by rw [st, q3, z_b0_v, zb_M_operand_124]⟩
    · obtain ⟨J, LJ, q1, q2, q3, q4⟩ := p2 s' he
      exact ⟨J, LJ, zMF_t f1 q1, q2, by omega, K0 + 4, by omega, fun M => by rw [st, q4, z_b0_v, zb_M_operand_124]⟩
  -- a parenthesis: to the call of begins
  have pa : ∀ (nt : Bool) (tk1 : zTk) (w1 : List Int) (ts : List Bool) (c : List Int) (I J0 : Nat → Nat → Int32) (L LJ0 : Nat → Nat → Int64) (K0 : Nat), zMG F N a B tk1 w1 ts c J0 LJ0 → tk1.1 = 40 → zMF a (B + 810) I J0 L LJ0 → (∀ M, z_loop X z_cf z_ff (z_pu (z_run X z_cf z_ff (d + 5))) 199 (M + K0) 4 [(0, .ref 55), (2, .int (zbx nt)), (3, .int (Int32.ofInt 1))] [] (118, z_sd m, ce, sl, I, L, z_rr t u r q (z_gg m) (z_sf m)) = z_loop X z_cf z_ff (z_pu (z_run X z_cf z_ff (d + 5))) 199 (M) 79 [(0, .ref 55), (2, .int (zbx nt))] [.int (Int32.ofInt 1)] (118, z_sd m, ce, sl, J0, LJ0, z_rr t u r q (z_gg m) (z_sf m))) →
      ∃ (J : Nat → Nat → Int32) (LJ : Nat → Nat → Int64), zMF a (B + 810) I J L LJ ∧ zMB F N (zlx F N tk1.2.2.1) J LJ ∧ J 55 18 = 0 ∧ zMW (0 :: w1) J ∧ zMD ts J ∧ zMK a c J ∧ tk1.2.1 + 1 ≤ (zlx F N tk1.2.2.1).2.1 ∧ ∀ M, z_loop X z_cf z_ff (z_pu (z_run X z_cf z_ff (d + 5))) 199 (M + (K0 + 4)) 4 [(0, .ref 55), (2, .int (zbx nt)), (3, .int (Int32.ofInt 1))] [] (118, z_sd m, ce, sl, I, L, z_rr t u r q (z_gg m) (z_sf m)) = z_b0 (z_x [] 112) (z_pu (z_run X z_cf z_ff (d + 5)) 197 [.ref 55] (118, z_sd m, ce, sl, J, LJ, z_rr t u r q (z_gg m) (z_sf m))) (fun w => z_loop X z_cf z_ff (z_pu (z_run X z_cf z_ff (d + 5))) 199 (M) 115 [(0, .ref 55), (3, .int (Int32.ofInt 1))] [] w) := by
    intro nt tk1 w1 ts c I J0 L LJ0 K0 h c40 f1 f4
    have hs : ¬ z_v_M_isSign J0 (Int32.ofInt 40) = 0 := fun h0 => (zM_sign h.1.1 h.1.2.1 (v := 40) (Or.inl rfl)).mp h0 c40
    obtain ⟨K, J, LJ, w1', w2, w3, w4, w5, w6, w7, w8, w9⟩ := zM_wg X d m ce sl J0 LJ0 t u r q hN4 hB h (by omega) (v := 0) (Or.inl rfl) (Int32.ofInt 12) rfl
    refine ⟨J, LJ, zMF_t f1 w1', w2, w3, w4, w5, w6, w7, fun M => ?_⟩
    rw [show M + (K0 + 4) = (M + 1 + 1 + 1 + 1) + K0 by omega, f4, zb_M_operand_79, if_neg (by decide), zk_M_isSign_0, z_bi_v, zb_M_operand_88, if_neg hs, if_neg (by decide), w8, z_b0_v, zb_M_operand_107, w9, z_b0_v, zb_M_operand_111]
  induction rr with
  | zero =>
    intro nt tk w ts c I L hr h
    obtain ⟨n1, n2⟩ := zM_nt X d m ce sl I L t u r q hN4 hB nt h
    rw [zqOp_0]
    cases hx : zqNt (zlx F N) nt tk w with
    | inl y0 =>
      refine ⟨fun e he => ?_, fun s' he => absurd he (by simp)⟩
      injection he with he
      subst he
      obtain ⟨J, LJ, q1, q2, q3, K, q4, q5⟩ := n1 y0 hx
      exact ⟨J, LJ, q1, q2, K + 3, by omega, fun M => by rw [show M + (K + 3) = (M + 3) + K by omega, q5, zM_opE X d m ce sl J LJ t u r q q3]⟩
    | inr y0 =>
      obtain ⟨tk1, w1⟩ := y0
      obtain ⟨J0, LJ0, q1, q2, q3, K, q4, q5⟩ := n2 tk1 w1 hx
      by_cases c40 : tk1.1 = 40
      · have hred : (match (.inr (tk1, w1) : zFl ⊕ (zTk × List Int)) with
          | .inl e => (.inl e : zFl ⊕ zqS)
          | .inr (tk1, w1) => if tk1.1 = 40 then .inl (zbgk (zlx F N tk1.2.2.1).1, (zlx F N tk1.2.2.1).2.1) else zqPart (zlx F N) tk1 w1 ts c) = .inl (zbgk (zlx F N tk1.2.2.1).1, (zlx F N tk1.2.2.1).2.1) := if_pos c40
        rw [hred]
        refine ⟨fun e he => ?_, fun s' he => absurd he (by simp)⟩
        injection he with he
        subst he
        obtain ⟨J, LJ, b1, b2, b3, b4, b5, b6, b7, b8⟩ := pa nt tk1 w1 ts c I J0 L LJ0 K q2 c40 q1 q5
        obtain ⟨g1, g2, g3, g4, g5, g6, g7, g8, g9⟩ := q2
        have hp := b2.2.1.1
        have h32 : Int32.ofInt 6 ≤ J 55 32 := by rw [y_i_le, b5.1]; show (6 : Int) ≤ _; omega
        obtain ⟨t1, t2, t3, t4, t5, t6, t7⟩ := b2.1
        have f1 : ∀ v : Int32, ∀ x, x ≠ 55 → (z_up (z_up J 55 18 v) 55 19 (J 55 23)) x = J x := fun v x hx => by rw [z_up_r _ _ _ _ _ hx, z_up_r _ _ _ _ _ hx]
        have f2 : ∀ v : Int32, ∀ j, j ≠ 18 → j ≠ 19 → (z_up (z_up J 55 18 v) 55 19 (J 55 23)) 55 j = J 55 j := fun v j h1 h2 => by rw [z_up_j _ _ _ _ _ h2, z_up_j _ _ _ _ _ h1]
        have f3 : ∀ v : Int32, (z_up (z_up J 55 18 v) 55 19 (J 55 23)) 55 18 = v := fun v => by rw [z_up_j _ _ _ _ _ (by omega), z_up_s]
        have hbeg : z_pu (z_run X z_cf z_ff (d + 5)) 197 [.ref 55] (118, z_sd m, ce, sl, J, LJ, z_rr t u r q (z_gg m) (z_sf m)) = some (.inl none, (118, z_sd m, ce, sl, (z_up (z_up J 55 18 (Int32.ofInt (zbgk (zlx F N tk1.2.2.1).1))) 55 19 (J 55 23)), LJ, z_rr t u r q (z_gg m) (z_sf m))) := by
          rw [zk_M_begins_0 X (d + 1), if_pos h32]
          have o3 := b2.2.1.2.2.1
          unfold zbgk
          by_cases e2 : (zlx F N tk1.2.2.1).1 = 2
          · rw [if_pos (y_i_eq.mpr (by rw [t3]; unfold zso; rw [if_neg (by omega), if_neg (by omega), if_pos e2]; rfl)), if_pos b3, if_pos (Or.inl e2)]
          · have n2 : ¬ J 55 22 = Int32.ofInt 2 := y_lit (by rw [t3]; exact fun h => e2 (zso_2.mp h)) (by omega) (by omega)
            rw [if_neg n2]
            by_cases ew : 100 ≤ (zlx F N tk1.2.2.1).1
            · rw [if_pos (y_i_eq.mpr (by rw [t3]; unfold zso; rw [if_neg (by omega), if_neg (by omega), if_neg (by omega), if_pos ew]; rfl)), if_pos b3, if_pos (Or.inr (Or.inr ew))]
            · have n1 : ¬ J 55 22 = Int32.ofInt 1 := y_lit (by rw [t3]; exact fun h => ew (zso_1.mp h)) (by omega) (by omega)
              rw [if_neg n1]
              by_cases e40 : (zlx F N tk1.2.2.1).1 = 40
              · rw [if_neg (fun h0 => (zM_sign b2.1 b2.2.1 (v := 40) (Or.inl rfl)).mp h0 e40), if_pos b3, if_pos (Or.inr (Or.inl e40))]
              · rw [if_pos ((zM_sign b2.1 b2.2.1 (v := 40) (Or.inl rfl)).mpr e40), if_pos b3, if_neg (by omega)]
        have hk : 1 ≤ zbgk (zlx F N tk1.2.2.1).1 ∧ zbgk (zlx F N tk1.2.2.1).1 ≤ 4 := by
          rcases zbgk_r (zlx F N tk1.2.2.1).1 with h | h <;> rw [h] <;> omega
        have hE : zME a B (zbgk (zlx F N tk1.2.2.1).1, (zlx F N tk1.2.2.1).2.1) (z_up (z_up J 55 18 (Int32.ofInt (zbgk (zlx F N tk1.2.2.1).1))) 55 19 (J 55 23)) := ⟨f3 _, by rw [z_up_s]; exact t1, 0 :: w1, a + zcn c, zMW_c b4 (f2 _ 31 (by omega) (by omega)) (f1 _ 76 (by omega)), by show w1.length + 1 ≤ 400; omega, by rw [f2 _ 30 (by omega) (by omega)]; exact b6.1, by omega, by show a + zcn c + (w1.length + 1) ≤ B + 804; omega⟩
        have hb := zME_0 hE hk
        refine ⟨_, LJ, zMF_t b1 (zMF_55 (f1 _) (fun j hj => f2 _ j (by omega) (by omega)) (fun _ _ => rfl) (fun _ _ => rfl)), hE, K + 8, by omega, fun M => ?_⟩
        rw [show M + (K + 8) = (M + 1 + 1 + 1 + 1) + (K + 4) by omega, b8, hbeg, z_b0_v, zb_M_operand_115, zb_M_operand_4, if_neg (by decide), zM_isb X (d + 2) m ce sl _ LJ t u r q hb, z_bi_v, zb_M_operand_12, if_pos (by decide), zM_part0 X d m ce sl _ LJ t u r q hb, z_b0_v, zb_M_operand_124]
      · have hred : (match (.inr (tk1, w1) : zFl ⊕ (zTk × List Int)) with
          | .inl e => (.inl e : zFl ⊕ zqS)
          | .inr (tk1, w1) => if tk1.1 = 40 then .inl (zbgk (zlx F N tk1.2.2.1).1, (zlx F N tk1.2.2.1).2.1) else zqPart (zlx F N) tk1 w1 ts c) = zqPart (zlx F N) tk1 w1 ts c := if_neg c40
        rw [hred]
        exact pt 0 nt tk tk1 w1 ts c I J0 L LJ0 K q2 c40 q1 q3 q4 q5
  | succ rr ih =>
    intro nt tk w ts c I L hr h
    obtain ⟨n1, n2⟩ := zM_nt X d m ce sl I L t u r q hN4 hB nt h
    rw [zqOp_s]
    cases hx : zqNt (zlx F N) nt tk w with
    | inl y0 =>
      refine ⟨fun e he => ?_, fun s' he => absurd he (by simp)⟩
      injection he with he
      subst he
      obtain ⟨J, LJ, q1, q2, q3, K, q4, q5⟩ := n1 y0 hx
      exact ⟨J, LJ, q1, q2, K + 3, by omega, fun M => by rw [show M + (K + 3) = (M + 3) + K by omega, q5, zM_opE X d m ce sl J LJ t u r q q3]⟩
    | inr y0 =>
      obtain ⟨tk1, w1⟩ := y0
      obtain ⟨J0, LJ0, q1, q2, q3, K, q4, q5⟩ := n2 tk1 w1 hx
      by_cases c40 : tk1.1 = 40
      · have hred : (match (.inr (tk1, w1) : zFl ⊕ (zTk × List Int)) with
          | .inl e => (.inl e : zFl ⊕ zqS)
          | .inr (tk1, w1) => if tk1.1 = 40 then zqOp (zlx F N) rr true (zlx F N tk1.2.2.1) (0 :: w1) (false :: ts) c else zqPart (zlx F N) tk1 w1 ts c) = zqOp (zlx F N) rr true (zlx F N tk1.2.2.1) (0 :: w1) (false :: ts) c := if_pos c40
        rw [hred]
        obtain ⟨J, LJ, b1, b2, b3, b4, b5, b6, b7, b8⟩ := pa nt tk1 w1 ts c I J0 L LJ0 K q2 c40 q1 q5
        obtain ⟨g1, g2, g3, g4, g5, g6, g7, g8, g9⟩ := q2
        have hp := b2.2.1.1
        have h32 : ¬ Int32.ofInt 6 ≤ J 55 32 := by rw [y_i_le, b5.1]; show ¬ (6 : Int) ≤ _; omega
        have e32 : (J 55 32 + Int32.ofInt 1).toInt = ((ts.length + 1 : Nat) : Int) := by
          have := b5.1
          rw [y_adl (by omega) (by omega) (by omega) (by omega)]
          omega
        have n32 : (J 55 32 + Int32.ofInt 1).toNatClampNeg = ts.length + 1 := by rw [y_tn, e32]; rfl
        have hbeg : z_pu (z_run X z_cf z_ff (d + 5)) 197 [.ref 55] (118, z_sd m, ce, sl, J, LJ, z_rr t u r q (z_gg m) (z_sf m)) = some (.inl none, (118, z_sd m, ce, sl, (z_up (z_up J 55 32 (J 55 32 + Int32.ofInt 1)) 77 (ts.length + 1) (Int32.ofInt 0)), LJ, z_rr t u r q (z_gg m) (z_sf m))) := by
          rw [zk_M_begins_0 X (d + 1), if_neg h32, y_in_t (by omega) (by omega), z_gd_t, n32]
        have f1 : ∀ x, x ≠ 55 → x ≠ 77 → (z_up (z_up J 55 32 (J 55 32 + Int32.ofInt 1)) 77 (ts.length + 1) (Int32.ofInt 0)) x = J x := fun x h1 h2 => by rw [z_up_r _ _ _ _ _ h2, z_up_r _ _ _ _ _ h1]
        have f2 : ∀ j, j ≠ 32 → (z_up (z_up J 55 32 (J 55 32 + Int32.ofInt 1)) 77 (ts.length + 1) (Int32.ofInt 0)) 55 j = J 55 j := fun j h1 => by rw [z_up_r _ _ _ _ _ (by omega), z_up_j _ _ _ _ _ h1]
        have D1 : zMD (false :: ts) (z_up (z_up J 55 32 (J 55 32 + Int32.ofInt 1)) 77 (ts.length + 1) (Int32.ofInt 0)) := by
          refine ⟨by rw [z_up_r _ _ _ _ _ (by omega), z_up_s]; exact e32, ?_, ?_⟩
          · rw [z_up_s]
            rfl
          · refine zTst_u ts b5.2 (fun j hj => ?_)
            rw [z_up_j _ _ _ _ _ (by omega), z_up_r _ _ _ _ _ (by omega)]
        obtain ⟨m1, m2⟩ := ih true (zlx F N tk1.2.2.1) (0 :: w1) (false :: ts) c (z_up (z_up J 55 32 (J 55 32 + Int32.ofInt 1)) 77 (ts.length + 1) (Int32.ofInt 0)) LJ (by show ts.length + 1 + rr = 6; omega) ⟨zMB_c b2 (fun j _ _ => f2 j (by omega)) (f1 69 (by omega) (by omega)), by rw [f2 18 (by omega)]; exact b3, zMW_c b4 (f2 31 (by omega)) (f1 76 (by omega) (by omega)), D1, zMK_c b6 (f2 30 (by omega)) (f1 75 (by omega) (by omega)), by show w1.length + 1 ≤ _; omega, by show a + zcn c + (w1.length + 1) ≤ _; omega, by show (if (0 : Int) = 0 then 1 else 0) + zz w1 + 1 = ts.length + 1; rw [if_pos rfl]; omega, by show ts.length + 1 ≤ 6; omega⟩
        have F1 : zMF a (B + 810) J (z_up (z_up J 55 32 (J 55 32 + Int32.ofInt 1)) 77 (ts.length + 1) (Int32.ofInt 0)) LJ LJ := ⟨fun x x1 x2 x3 x4 => f1 x x1 x4, fun j hj => f2 j (by omega), fun _ _ => rfl, fun _ _ => rfl, fun j _ => by rw [f1 75 (by omega) (by omega)]⟩
        have st : ∀ M, z_loop X z_cf z_ff (z_pu (z_run X z_cf z_ff (d + 5))) 199 (M + (K + 5)) 4 [(0, .ref 55), (2, .int (zbx nt)), (3, .int (Int32.ofInt 1))] [] (118, z_sd m, ce, sl, I, L, z_rr t u r q (z_gg m) (z_sf m)) = z_loop X z_cf z_ff (z_pu (z_run X z_cf z_ff (d + 5))) 199 (M) 4 [(0, .ref 55), (2, .int (zbx true)), (3, .int (Int32.ofInt 1))] [] (118, z_sd m, ce, sl, (z_up (z_up J 55 32 (J 55 32 + Int32.ofInt 1)) 77 (ts.length + 1) (Int32.ofInt 0)), LJ, z_rr t u r q (z_gg m) (z_sf m)) := by
          intro M
          rw [show M + (K + 5) = (M + 1) + (K + 4) by omega, b8, hbeg, z_b0_v, zb_M_operand_115]
          rfl
        refine ⟨fun e he => ?_, fun s' he => ?_⟩
        · obtain ⟨J2, LJ2, r1, r2, K', r3, r4⟩ := m1 e he
          exact ⟨J2, LJ2, zMF_t b1 (zMF_t F1 r1), r2, K' + (K + 5), by omega, fun M => by rw [show M + (K' + (K + 5)) = (M + K') + (K + 5) by omega, st, r4]⟩
        · obtain ⟨J2, LJ2, r1, r2, r3, K', r4, r5⟩ := m2 s' he
          exact ⟨J2, LJ2, zMF_t b1 (zMF_t F1 r1), r2, by omega, K' + (K + 5), by omega, fun M => by rw [show M + (K' + (K + 5)) = (M + K') + (K + 5) by omega, st, r5]⟩
      · have hred : (match (.inr (tk1, w1) : zFl ⊕ (zTk × List Int)) with
          | .inl e => (.inl e : zFl ⊕ zqS)
          | .inr (tk1, w1) => if tk1.1 = 40 then zqOp (zlx F N) rr true (zlx F N tk1.2.2.1) (0 :: w1) (false :: ts) c else zqPart (zlx F N) tk1 w1 ts c) = zqPart (zlx F N) tk1 w1 ts c := if_neg c40
        rw [hred]
        exact pt (rr + 1) nt tk tk1 w1 ts c I J0 L LJ0 K q2 c40 q1 q3 q4 q5
theorem zM_opc (X : ZX) (d m ce sl : Nat) (I : Nat → Nat → Int32) (L : Nat → Nat → Int64) (t u r q : Nat) {F : Nat → Int} {N a B : Nat} (hN4 : N ≤ 400) (hB : B ≤ 1000) (rr : Nat) (nt : Bool) {tk : zTk} {w : List Int} {ts : List Bool} {c : List Int} (hr : ts.length + rr = 6) (h : zMG F N a B tk w ts c I L) :
    (∀ e, zqOp (zlx F N) rr nt tk w ts c = .inl e → ∃ (J : Nat → Nat → Int32) (LJ : Nat → Nat → Int64), zMF a (B + 810) I J L LJ ∧ zME a B e J ∧ z_pu (z_run X z_cf z_ff (d + 6)) 199 [.ref 55, .int (zbx nt)] (118, z_sd m, ce, sl, I, L, z_rr t u r q (z_gg m) (z_sf m)) = some (.inl none, (118, z_sd m, ce, sl, J, LJ, z_rr t u r q (z_gg m) (z_sf m)))) ∧
    (∀ s', zqOp (zlx F N) rr nt tk w ts c = .inr s' → ∃ (J : Nat → Nat → Int32) (LJ : Nat → Nat → Int64), zMF a (B + 810) I J L LJ ∧ zMG F N a B s'.1 s'.2.1 s'.2.2.1 s'.2.2.2 J LJ ∧ tk.2.1 + 1 ≤ s'.1.2.1 ∧ z_pu (z_run X z_cf z_ff (d + 6)) 199 [.ref 55, .int (zbx nt)] (118, z_sd m, ce, sl, I, L, z_rr t u r q (z_gg m) (z_sf m)) = some (.inl none, (118, z_sd m, ce, sl, J, LJ, z_rr t u r q (z_gg m) (z_sf m)))) := by
  obtain ⟨m1, m2⟩ := zM_op X d m ce sl t u r q hN4 hB rr nt tk w ts c I L hr h
  have en : ∀ (K : Nat) (rr' : ZR), K ≤ 1000 → (∀ M, z_loop X z_cf z_ff (z_pu (z_run X z_cf z_ff (d + 5))) 199 (M + K) 4 [(0, .ref 55), (2, .int (zbx nt)), (3, .int (Int32.ofInt 1))] [] (118, z_sd m, ce, sl, I, L, z_rr t u r q (z_gg m) (z_sf m)) = rr') → z_pu (z_run X z_cf z_ff (d + 6)) 199 [.ref 55, .int (zbx nt)] (118, z_sd m, ce, sl, I, L, z_rr t u r q (z_gg m) (z_sf m)) = rr' := by
    intro K rr' hK h'
    refine z_en X (d + 3) _ _ [(0, .ref 55), (1, .int (zbx nt))] _ _ rfl rfl rfl ?_
    rw [show (100000000 : Nat) = (99999999 - K + K) + 1 by omega, zb_M_operand_0, h']
  refine ⟨fun e he => ?_, fun s' he => ?_⟩
  · obtain ⟨J, LJ, q1, q2, K, q3, q4⟩ := m1 e he
    exact ⟨J, LJ, q1, q2, en K _ (by omega) q4⟩
  · obtain ⟨J, LJ, q1, q2, q3, K, q4, q5⟩ := m2 s' he
    exact ⟨J, LJ, q1, q2, q3, en K _ (by omega) q5⟩
