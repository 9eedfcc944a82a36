/-! CALLS, 35: run: where a gap goes, in the model -/
theorem y_rt (v : Int32) : v.toInt64.toInt32 = v := by
  have a := y_lo v
  have b := y_hi v
  rw [y_i_eq, y_li _ (by rw [y_il]; omega) (by rw [y_il]; omega), y_il]
theorem zr_movesT (X : ZX) (call : ZC) (N n ce sl : Nat) (I : Nat → Nat → Int32) (L : Nat → Nat → Int64) (t u r q g : Nat) (st : Nat → Option Nat) (k : Nat) (h5 : k < 5) (x w : Int32) (hx : x.toInt = k) (h0 : 0 ≤ (I 58 k).toInt) (h1 : (I 58 k).toInt ≤ (I 64 k).toInt) (h2 : (I 64 k).toInt ≤ (I 59 k).toInt) (h3 : (I 59 k).toInt ≤ 60000) (h4 : 0 ≤ (I 60 k).toInt) (h6 : (I 60 k).toInt ≤ 60000) :
    z_loop X z_cf z_ff (z_pu call) 216 (N + 1) 227 [(0, .ref 55), (1, .int x)] [.int w] (118, n, ce, sl, I, L, z_rr t u r q g st) = some (.inl none, (118, n, ce, sl, z_up I 64 k (Int32.ofInt (zgap (I 58 k).toInt (I 59 k).toInt (I 60 k).toInt (I 64 k).toInt w.toInt)), L, z_rr t u r q g st)) := by
  have hxn : x.toNatClampNeg = k := by rw [y_tn, hx]; rfl
  have hin : z_in x 5 = true := y_in_t (by omega) (by omega)
  have e1 : (I 64 k + I 60 k).toInt = (I 64 k).toInt + (I 60 k).toInt := y_ad (by omega) (by omega)
  have e2 : (I 64 k - I 60 k).toInt = (I 64 k).toInt - (I 60 k).toInt := y_sb (by omega) (by omega)
  have fin : ∀ v : Int32, v.toInt = zgap (I 58 k).toInt (I 59 k).toInt (I 60 k).toInt (I 64 k).toInt w.toInt → Int32.ofInt (zgap (I 58 k).toInt (I 59 k).toInt (I 60 k).toInt (I 64 k).toInt w.toInt) = v := fun v hv => (y_eqi hv).symm
  rw [zb_M_moves_227, hin, hxn]
  simp only [z_gd_t, z_lg_le, z_lg_ge, y_il, y_rt, e1, e2]
  unfold zgap at *
  by_cases c1 : w.toInt ≤ (I 64 k).toInt + (I 60 k).toInt
  · rw [if_pos c1]
    by_cases c2 : (I 64 k).toInt - (I 60 k).toInt ≤ w.toInt
    · rw [if_pos c2]
      by_cases c3 : (I 58 k).toInt ≤ w.toInt
      · rw [if_pos c3]
        by_cases c4 : w.toInt ≤ (I 59 k).toInt
        · rw [if_pos c4, fin w (by omega)]
        · rw [if_neg c4, fin (I 59 k) (by omega)]
      · rw [if_neg c3, fin (I 58 k) (by omega)]
    · rw [if_neg c2]
      by_cases c3 : (I 58 k).toInt ≤ (I 64 k).toInt - (I 60 k).toInt
      · rw [if_pos c3, if_pos (by omega), fin (I 64 k - I 60 k) (by omega)]
      · rw [if_neg c3, fin (I 58 k) (by omega)]
  · rw [if_neg c1, if_pos (by omega)]
    by_cases c4 : (I 64 k).toInt + (I 60 k).toInt ≤ (I 59 k).toInt
    · rw [if_pos c4, fin (I 64 k + I 60 k) (by omega)]
    · rw [if_neg c4, fin (I 59 k) (by omega)]
