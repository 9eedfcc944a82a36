/-! CALLS, 29: run: pulls: blocks with two stands -/
set_option maxRecDepth 100000 in
theorem zb_mp34 (X : ZX) (call : ZC) (N n ce sl : Nat) (I : Nat → Nat → Int32) (L : Nat → Nat → Int64) (t u r q g : Nat) (st : Nat → Option Nat) (s s2 : Nat) (x1 : Int32) : z_loop X z_cf z_ff (z_pu call) 89 (N + 1) 34 [(0, .ref 25), (1, .int x1), (2, .ref s)] [.ref s2] (118, n, ce, sl, I, L, (z_rr t u r q g st)) = z_gd (z_ok (118, n, ce, sl, I, L, (z_rr t u r q g st)) s 10) (z_bi (z_x [] 36) (z_pu call 90 [.ref s] (118, n, ce, sl, I, L, (z_rr t u r q g st))) (fun v w => z_loop X z_cf z_ff (z_pu call) 89 N 39 [(0, .ref 25), (1, .int x1), (2, .ref s), (3, .ref s2)] [.int v] w)) := rfl
set_option maxRecDepth 100000 in
theorem zb_mp39 (X : ZX) (call : ZC) (N n ce sl : Nat) (I : Nat → Nat → Int32) (L : Nat → Nat → Int64) (t u r q g : Nat) (st : Nat → Option Nat) (s s2 : Nat) (x1 : Int32) (y0 : Int32) : z_loop X z_cf z_ff (z_pu call) 89 (N + 1) 39 [(0, .ref 25), (1, .int x1), (2, .ref s), (3, .ref s2)] [.int y0] (118, n, ce, sl, I, L, (z_rr t u r q g st)) = if y0 = 0 then z_gd (z_in x1 5) (z_loop X z_cf z_ff (z_pu call) 89 N 2 [(0, .ref 25), (1, .int (x1 + (Int32.ofInt 1)))] [] (118, n, ce, sl, (z_up I 27 x1.toNatClampNeg (Int32.ofInt 0)), L, (z_rr t u r q g st))) else z_gd (z_ok (118, n, ce, sl, I, L, (z_rr t u r q g st)) s2 10) (z_bi (z_x [] 43) (z_pu call 90 [.ref s2] (118, n, ce, sl, I, L, (z_rr t u r q g st))) (fun v w => z_loop X z_cf z_ff (z_pu call) 89 N 46 [(0, .ref 25), (1, .int x1), (2, .ref s), (3, .ref s2)] [.int v] w)) := rfl
set_option maxRecDepth 100000 in
theorem zb_mp46 (X : ZX) (call : ZC) (N n ce sl : Nat) (I : Nat → Nat → Int32) (L : Nat → Nat → Int64) (t u r q g : Nat) (st : Nat → Option Nat) (s s2 : Nat) (x1 : Int32) (y0 : Int32) : z_loop X z_cf z_ff (z_pu call) 89 (N + 1) 46 [(0, .ref 25), (1, .int x1), (2, .ref s), (3, .ref s2)] [.int y0] (118, n, ce, sl, I, L, (z_rr t u r q g st)) = if y0 = 0 then z_gd (z_in x1 5) (z_loop X z_cf z_ff (z_pu call) 89 N 2 [(0, .ref 25), (1, .int (x1 + (Int32.ofInt 1)))] [] (118, n, ce, sl, (z_up I 27 x1.toNatClampNeg (Int32.ofInt 0)), L, (z_rr t u r q g st))) else z_gd (z_in x1 5) (z_gd (z_ok (118, n, ce, sl, I, L, (z_rr t u r q g st)) s2 10) (z_gd (z_ok (118, n, ce, sl, I, L, (z_rr t u r q g st)) s2 10) (z_gd (z_ok (118, n, ce, sl, I, L, (z_rr t u r q g st)) s 10) (z_gd (z_ok (118, n, ce, sl, I, L, (z_rr t u r q g st)) s 10) (if (Int32.ofInt 1000) = 0 then none else z_gd (z_in x1 5) (z_loop X z_cf z_ff (z_pu call) 89 N 2 [(0, .ref 25), (1, .int (x1 + (Int32.ofInt 1)))] [] (118, n, ce, sl, (z_up I 27 x1.toNatClampNeg ((I 27 x1.toNatClampNeg) + ((((I s2 5) * (I s2 11)) - ((I s 5) * (I s 13))) / (Int32.ofInt 1000)))), L, (z_rr t u r q g st)))))))) := rfl
/-- the pull behind a stand -/
def zpl (b0 b1 : Bool) (old s1 i1 s0 o0 : Int32) : Int32 := if b0 && b1 then old + (s1 * i1 - s0 * o0) / Int32.ofInt 1000 else Int32.ofInt 0
def zbb (v : Int32) : Bool := decide (0 < v.toInt)
theorem zr_pc (X : ZX) (d M m ce sl : Nat) (I : Nat → Nat → Int32) (L : Nat → Nat → Int64) (t u r q : Nat) (k : Nat) (hk : k + 1 < m) (h5 : m ≤ 5) (hs : I 5 2 = Int32.ofNat m) (x : Int32) (hx : x.toInt = k) : ∃ M', M ≤ M' ∧
    z_loop X z_cf z_ff (z_pu (z_run X z_cf z_ff (d + 6))) 89 (M + 6) 2 [(0, .ref 25), (1, .int x)] [] (118, z_sd m, ce, sl, I, L, z_rr t u r q (z_gg m) (z_sf m)) = z_loop X z_cf z_ff (z_pu (z_run X z_cf z_ff (d + 6))) 89 M' 2 [(0, .ref 25), (1, .int (x + Int32.ofInt 1))] [] (118, z_sd m, ce, sl, z_up I 27 k (zpl (zbb (I (z_sd k) 11)) (zbb (I (z_sd (k + 1)) 11)) (I 27 k) (I (z_sd (k + 1)) 5) (I (z_sd (k + 1)) 11) (I (z_sd k) 5) (I (z_sd k) 13)), L, z_rr t u r q (z_gg m) (z_sf m)) := by
  have hs' : (I 5 2).toInt = m := by rw [hs, y_on (by omega)]
  have hx1 : (x + Int32.ofInt 1).toInt = (k + 1 : Nat) := by rw [y_adl (by omega) (by omega) (by omega) (by omega)]; omega
  have hxn : x.toNatClampNeg = k := by rw [y_tn, hx]; rfl
  have hxn1 : (x + Int32.ofInt 1).toNatClampNeg = k + 1 := by rw [y_tn, hx1]; rfl
  have hin : z_in x 5 = true := y_in_t (by omega) (by omega)
  have ok0 := z_okS (k := k) (m := m) (by omega) (by omega) 118 ce sl I L (z_rr t u r q (z_gg m) (z_sf m))
  have ok1 := z_okS (k := k + 1) (m := m) (by omega) (by omega) 118 ce sl I L (z_rr t u r q (z_gg m) (z_sf m))
  have n1 : ¬ (Int32.ofInt 1 : Int32) = 0 := by decide
  have hle : ∀ v : Int32, (v ≤ 0) = (v.toInt ≤ 0) := fun v => by rw [y_i_le, y_i0]
  rw [show M + 6 = (M + 5) + 1 by omega, zb_Run_movePulls_2, zk_Line_many_0 X (d + 2), z_bi_v, zb_Run_movePulls_10, if_neg (by rw [y_i_le, y_sbl (by omega) (by omega) (by omega) (by omega)]; omega), zk_Line_at X d, y_ix_T (by omega) (by omega) h5 hs, z_gd_t, z_br_v, hxn, zb_Run_movePulls_23, zk_Line_at X d, y_ix_T (by omega) (by omega) h5 hs, z_gd_t, z_br_v, hxn1, zb_mp34, ok0, z_gd_t, zk_Stand_hasBitten_0 X (d + 3), ok0, z_gd_t]
  by_cases c0 : 0 < (I (z_sd k) 11).toInt
  · rw [if_neg (by rw [hle]; omega), z_bi_v, zb_mp39, if_neg n1, ok1, z_gd_t, zk_Stand_hasBitten_0 X (d + 3), ok1, z_gd_t]
    by_cases c1 : 0 < (I (z_sd (k + 1)) 11).toInt
    · rw [if_neg (by rw [hle]; omega), z_bi_v, zb_mp46, if_neg n1, hin, ok1, ok0, z_gd_t, z_gd_t, z_gd_t, z_gd_t, z_gd_t, if_neg z_1000z, z_gd_t, hxn]
      refine ⟨M, Nat.le_refl _, ?_⟩
      have e : zbb (I (z_sd k) 11) = true := decide_eq_true c0
      have e1 : zbb (I (z_sd (k + 1)) 11) = true := decide_eq_true c1
      rw [e, e1]
      rfl
    · rw [if_pos (by rw [hle]; omega), z_bi_v, zb_mp46, if_pos (show (Int32.ofInt 0 : Int32) = 0 by decide), hin, z_gd_t, hxn]
      refine ⟨M, Nat.le_refl _, ?_⟩
      have e1 : zbb (I (z_sd (k + 1)) 11) = false := decide_eq_false c1
      rw [e1]
      unfold zpl
      rw [Bool.and_false]
      rfl
  · rw [if_pos (by rw [hle]; omega), z_bi_v, zb_mp39, if_pos (show (Int32.ofInt 0 : Int32) = 0 by decide), hin, z_gd_t, hxn]
    refine ⟨M + 1, by omega, ?_⟩
    have e : zbb (I (z_sd k) 11) = false := decide_eq_false c0
    rw [e]
    unfold zpl
    rw [Bool.false_and]
    rfl
