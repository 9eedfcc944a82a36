/-! CALLS, 39: run: the values that a rule hears, in the model -/
def zmr (I : Nat → Nat → Int32) (k : Nat) (T : Int32) : Nat → Nat → Int32 :=
  z_up (z_up (z_up (z_up (z_up (z_up (z_up (z_up (z_up (z_up I 89 0 (I 64 k)) 89 1 (I 84 k)) 89 2 (I 85 k)) 89 3 (I 86 k)) 89 4 (I 81 T.toNatClampNeg)) 89 5 (I 55 55)) 89 6 T) 89 7 (I 65 k / Int32.ofInt 1000)) 89 8 (I 82 k)) 89 9 (I 87 k)
theorem zr_mvals (X : ZX) (call : ZC) (N n ce sl : Nat) (I : Nat → Nat → Int32) (L : Nat → Nat → Int64) (t u r q g : Nat) (st : Nat → Option Nat) (k : Nat) (hk : k < 5) (T x : Int32) (hx : x.toInt = k) (hT0 : 0 ≤ T.toInt) (hT : T.toInt < 44) :
    z_loop X z_cf z_ff (z_pu call) 216 (N + 1) 0 [(0, .ref 55), (1, .int x), (2, .int T)] [] (118, n, ce, sl, I, L, z_rr t u r q g st) = z_loop X z_cf z_ff (z_pu call) 216 N 132 [(0, .ref 55), (1, .int x), (3, .int (Int32.ofInt (-1))), (4, .int (Int32.ofInt 12 * I 55 29))] [] (118, n, ce, sl, zmr I k T, L, z_rr t u r q g st) := by
  have hxn : x.toNatClampNeg = k := by rw [y_tn, hx]; rfl
  have hin : z_in x 5 = true := y_in_t (by omega) (by omega)
  have hinT : z_in T 64 = true := y_in_t (by omega) (by omega)
  have h : ∀ i : Nat, i < 10 → z_in (Int32.ofInt i) 10 = true := fun i hi => y_in_t (by rw [y_oi (by omega) (by omega)]; omega) (by rw [y_oi (by omega) (by omega)]; omega)
  have h0 := h 0 (by omega)
  have h1 := h 1 (by omega)
  have h2 := h 2 (by omega)
  have h3 := h 3 (by omega)
  have h4 := h 4 (by omega)
  have h5 := h 5 (by omega)
  have h6 := h 6 (by omega)
  have h7 := h 7 (by omega)
  have h8 := h 8 (by omega)
  have h9 := h 9 (by omega)
  rw [zb_M_moves_0, hin, hinT, hxn, if_neg z_1000z]
  erw [h0, h1, h2, h3, h4, h5, h6, h7, h8, h9]
  rfl
