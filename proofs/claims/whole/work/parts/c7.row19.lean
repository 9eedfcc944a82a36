/-! ROW, 19: the model's row as a whole -/
def zKM (I : Nat → Nat → Int32) (n : Nat) (v : Int) : Prop := zIsM (fun key => ∃ k0 a, zFull n k0 a ∧ key = zk0 I k0 + zkeyl I n a (2 ^ k0) k0 0) v
theorem zr_Mrow0 (X : ZX) (d n0 ce sl : Nat) (I : Nat → Nat → Int32) (L : Nat → Nat → Int64) (t u r q g : Nat) (st : Nat → Option Nat) (h : (I 55 76).toInt = 0) : z_pu (z_run X z_cf z_ff (d + 5)) 240 [.ref 55] (118, n0, ce, sl, I, L, z_rr t u r q g st) = some (.inl (some (.int (Int32.ofInt 0))), (118, n0, ce, sl, z_up (z_up I 55 0 (Int32.ofInt 0)) 55 77 (I 55 76), L, z_rr t u r q g st)) := by
  refine z_en X (d + 2) _ _ [(0, .ref 55)] _ _ rfl rfl rfl ?_
  have e : I 55 76 = Int32.ofInt 0 := y_i_eq.mpr (by rw [h]; rfl)
  rw [zb_M_row_0, if_pos (by rw [e]; rfl)]
theorem zr_Mrow (X : ZX) (d n0 ce sl : Nat) (I0 I : Nat → Nat → Int32) (L : Nat → Nat → Int64) (t u r q g : Nat) (st : Nat → Option Nat) {n : Nat} (hO : zOr I n) (hM : zOM I n) (hn1 : 1 ≤ n) (hI : I = z_up (z_up I0 55 0 (Int32.ofInt 0)) 55 77 (I0 55 76)) : ∃ (K : Nat → Nat → Int32) (res : Int32) (few : Int) (k0 : Nat) (a : zPl2), zOF I K ∧ zBst I n res.toInt few ∧ zOpt I n res.toInt few k0 a ∧ zKM I n (zky res.toInt (zwc a 0) k0 a) ∧ (∀ j, j < n → (K 104 j).toInt = (((k0 :: a.map Prod.fst).getD j 0 : Nat) : Int)) ∧ (∀ j, j < n → (K 105 j).toInt = (((0 :: a.map Prod.snd).getD j 0 : Nat) : Int)) ∧
    z_pu (z_run X z_cf z_ff (d + 5)) 240 [.ref 55] (118, n0, ce, sl, I0, L, z_rr t u r q g st) = some (.inl (some (.int res)), (118, n0, ce, sl, K, L, z_rr t u r q g st)) := by
  have hn9 := hO.1
  have p5 := zp2_512 hn9
  have p1 : 0 < 2 ^ n := Nat.pow_pos (by omega)
  have hn76 : I 55 76 = Int32.ofNat n := hM.2.2.2.2
  have h076 : I0 55 76 = Int32.ofNat n := by
    rw [← hn76, hI, z_up_j _ _ _ _ _ (by omega), z_up_j _ _ _ _ _ (by omega)]
  have hx1 : ((Int32.ofInt 1 <<< (I0 55 76 &&& 31)) - Int32.ofInt 1).toInt = ((2 ^ n - 1 : Nat) : Int) := by
    rw [h076, zbits_one n (by omega), y_sbl (by omega) (by omega) (by rw [y_on (by omega)]; omega) (by rw [y_on (by omega)]; omega), y_on (by omega)]
    omega
  obtain ⟨K1, a1, a2, a3⟩ := zr_fill_b X d n0 ce sl I L t u r q g st hO hM I (fun _ _ _ => rfl) _ hx1
  have f1 : zOF I K1 := fun x hx => a1 x (by omega) (by omega)
  obtain ⟨K2, x1, x2, k0, b1, b2, b3, b4, b5, b6, b7, b8, b9⟩ := zr_best X (d + 1) n0 ce sl I L t u r q g st hO hM hn1 K1 f1 a2
  have f2 : zOF I K2 := fun x hx => by rw [b1 x (by omega), f1 x hx]
  obtain ⟨K3, x3, c1, c2, c3, c4⟩ := zr_ahead X (d + 1) n0 ce sl I L t u r q g st hO hM x1 x2 K2 f2 b2 b3
  have f3 : zOF I K3 := fun x hx => by rw [c1 x (by omega), f2 x hx]
  obtain ⟨a0, ha0⟩ := b7
  obtain ⟨K4, x3', x4', os, d1, ⟨a4, d2, d3⟩, d4, d5, d6, d7⟩ := zr_orders X d n0 ce sl I L t u r q g st hO hM b2 x1 x2 K1 a2 b6 (n - 1) 1 x3 (Int32.ofInt 1) [] K3 (by omega) rfl rfl f3 (by rw [c1 106 (by omega), b1 106 (by omega)]) (by rw [c1 107 (by omega), b1 107 (by omega)]) ⟨[], a0, rfl, ha0⟩ (fun j hj => absurd hj (Nat.not_lt_zero _)) c2 (fun pre hp => by
    have : pre = [] := List.map_eq_nil_iff.mp hp
    rw [this, c3]
    rfl) (fun j hj => by
    have : j = 0 := by omega
    subst this
    rw [c1 104 (by omega), b3]
    rfl)
  obtain ⟨K5, rs, e1, e2, e3, e4, e5, e6, e7, e8, e9⟩ := zr_flags X d n0 ce sl I L t u r q g st hO hM hn1 b6 d3 x2 rfl K4 d1 (fun j hj => by rw [d5 j hj, ← d2]; rfl)
  have hg : zGr I n k0 x1.toInt x2.toInt (rs.map Prod.fst) := by rw [e5, d2]; exact d4
  have hf : zGf I n k0 x1.toInt x2.toInt (rs.map Prod.fst) rs := by rw [e5]; exact e7
  refine ⟨K5, x1, x2.toInt, k0, rs, e1, b6, e6, zrow_least hO b6 e6 b8 hg hf, fun j hj => by rw [e2, d5 j hj, e5, d2], e8, ?_⟩
  refine z_en X (d + 2) _ _ [(0, .ref 55)] _ _ rfl rfl rfl ?_
  obtain ⟨M', m1, m2⟩ := a3 (99999998 - 300 * (2 ^ n - 1))
  have hne : ¬ I0 55 76 = 0 := by
    intro e
    have := congrArg Int32.toInt e
    rw [h076, y_on (by omega)] at this
    have z0 : (0 : Int32).toInt = 0 := rfl
    omega
  rw [show (100000000 : Nat) = (99999998 - 300 * (2 ^ n - 1) + 300 * (2 ^ n - 1) + 1) + 1 by omega, zb_M_row_0, if_neg hne, ← hI, m2, show M' = (M' - 2 * n - 1) + 2 * n + 1 by omega, b9, show M' - 2 * n - 1 = (M' - 2 * n - 12) + 11 by omega, c4, show M' - 2 * n - 12 = (M' - 4 * n - 12 + 1 + 1) + 2 * (n - 1) by omega, d7, zb_M_row_238, if_pos (by rw [y_i_le, (zOF_o hO hM d1).2.2.1]; omega), e9, z_b0_v, zb_M_row_293]
