/-! ROW, 16: by which changes the best row costs the best, in the model: the table -/
theorem zbits_clr : ∀ j, j < 9 → ∀ S, S < 512 → zbt2 S j = 0 → (Int32.ofNat (S + 2 ^ j) &&& ((Int32.ofInt 1 <<< (Int32.ofNat j &&& 31)) ^^^ (Int32.ofInt (-1)))) = Int32.ofNat S := by decide +kernel
/-- the least coin of what is left of a row whose orders are told, with so many changes in all, if its first flag is below b -/
def zAl (I : Nat → Nat → Int32) (n S l c few : Nat) (ks : List Nat) (b : Nat) (v : Int) : Prop := (∀ rs, rs.map Prod.fst = ks → zwok n rs S → zwc rs c = few → (∀ x r, rs = x :: r → x.2 < b) → v ≤ zcoin I n rs S l c) ∧ (v = zFAR ∨ ∃ rs, rs.map Prod.fst = ks ∧ zwok n rs S ∧ zwc rs c = few ∧ (∀ x r, rs = x :: r → x.2 < b) ∧ v = zcoin I n rs S l c)
theorem zAl_r {I : Nat → Nat → Int32} {n S l c few : Nat} {ks : List Nat} {b : Nat} {v : Int} (hO : zOr I n) (hS : S < 2 ^ n) (hl : l < n) (hf : few < 9) (h : zAl I n S l c few ks b v) : v = zFAR ∨ 0 ≤ v ∧ v ≤ 24471 := by
  rcases h.2 with x | ⟨rs, x1, x2, x3, x4, x5⟩
  · exact Or.inl x
  · have hn := hO.1
    have rr := zcoin_r hO rs S l c hS hl x2 (by omega)
    obtain ⟨a1, a2, a3⟩ := zwok_is hO.1 rs S hS x2
    have := zbits_hi n hO.1 _ a1
    exact Or.inr (by omega)
theorem zAl_step {I : Nat → Nat → Int32} {n S l c few k f : Nat} {ks : List Nat} {v w v2 : Int} (hO : zOr I n) (hS : S < 2 ^ n) (hl : l < n) (hk : k < n) (hb : zbt2 S k = 0) (hf : f < 2) (hcf : c + f < 9) (hfew : few < 9) (h : zAl I n S l c few (k :: ks) f v) (g : zAl I n (S + 2 ^ k) k (c + f) few ks 2 w) (e : v2 = min v (if w = zFAR then zFAR else w + zoc I n S l k f c)) : zAl I n S l c few (k :: ks) (f + 1) v2 := by
  have hF : zFAR = 1000000000 := rfl
  have lt := zbits_lt n hO.1 k hk S hS hb
  have hz := zoc_r (S := S) (f := f) hO hl hk (c := c) (by omega)
  have rv := zAl_r hO hS hl hfew h
  have rw' := zAl_r hO lt hk hfew g
  have h1 := h.1
  have g1 := g.1
  have f2 : ∀ r : zPl2, zwok n r (S + 2 ^ k) → ∀ x r', r = x :: r' → x.2 < 2 := by
    intro r hr x r' e
    rw [e] at hr
    exact hr.2.2.1
  refine ⟨fun rs x1 x2 x3 x4 => ?_, ?_⟩
  · cases rs with
    | nil => exact absurd x1 (by simp)
    | cons y r =>
      simp only [List.map_cons, List.cons.injEq] at x1
      obtain ⟨y1, y2, y3, y4⟩ := x2
      have hy := x4 y r rfl
      rw [x1.1] at y4
      by_cases c1 : y.2 = f
      · have gg := g1 r x1.2 y4 (by rw [← c1]; exact x3) (f2 r y4)
        have ec : zcoin I n (y :: r) S l c = zoc I n S l k f c + zcoin I n r (S + 2 ^ k) k (c + f) := by
          show zoc I n S l y.1 y.2 c + zcoin I n r (S + 2 ^ y.1) y.1 (c + y.2) = _
          rw [x1.1, c1]
        have hw9 : zwc r (c + f) < 9 := by
          have e3 : zwc r (c + y.2) = few := x3
          rw [c1] at e3
          omega
        have rr := zcoin_r hO r (S + 2 ^ k) k (c + f) lt hk y4 hw9
        obtain ⟨a1, a2, a3⟩ := zwok_is hO.1 r (S + 2 ^ k) lt y4
        have := zbits_hi n hO.1 _ a1
        rw [ec, e]
        by_cases cw : w = zFAR
        · omega
        · rw [if_neg cw]
          omega
      · have := h1 (y :: r) (by rw [List.map_cons, x1.1, x1.2]) ⟨y1, y2, y3, by rw [x1.1]; exact y4⟩ x3 (fun x r' e' => by
          injection e' with e1 e2
          rw [← e1]
          omega)
        rw [e]
        omega
  · by_cases cw : w = zFAR
    · rw [if_pos cw] at e
      have ev : v2 = v := by omega
      rw [ev]
      rcases h.2 with x | ⟨rs, x1, x2, x3, x4, x5⟩
      · exact Or.inl x
      · exact Or.inr ⟨rs, x1, x2, x3, fun x r e' => by have := x4 x r e'; omega, x5⟩
    · rw [if_neg cw] at e
      rcases Int.lt_or_le (w + zoc I n S l k f c) v with q | q
      · have ev : v2 = w + zoc I n S l k f c := by omega
        rw [ev]
        rcases g.2 with x | ⟨r, x1, x2, x3, x4, x5⟩
        · exact absurd x cw
        · refine Or.inr ⟨(k, f) :: r, by rw [List.map_cons, x1], ⟨hk, hb, hf, x2⟩, x3, fun x r' e' => ?_, ?_⟩
          · injection e' with e1 e2
            rw [← e1]
            exact Nat.lt_succ_self _
          · show _ = zoc I n S l k f c + zcoin I n r (S + 2 ^ k) k (c + f)
            omega
      · have ev : v2 = v := by omega
        rw [ev]
        rcases h.2 with x | ⟨rs, x1, x2, x3, x4, x5⟩
        · exact Or.inl x
        · exact Or.inr ⟨rs, x1, x2, x3, fun x r e' => by have := x4 x r e'; omega, x5⟩
theorem zAl_2 {I : Nat → Nat → Int32} {n S l c few : Nat} {ks : List Nat} {b : Nat} {v : Int} (hb : ∀ rs : zPl2, rs.map Prod.fst = ks → zwok n rs S → zwc rs c = few → ∀ x r, rs = x :: r → x.2 < b) (h : zAl I n S l c few ks b v) : zAl I n S l c few ks 2 v := by
  refine ⟨fun rs x1 x2 x3 _ => h.1 rs x1 x2 x3 (hb rs x1 x2 x3), ?_⟩
  rcases h.2 with x | ⟨rs, x1, x2, x3, x4, x5⟩
  · exact Or.inl x
  · refine Or.inr ⟨rs, x1, x2, x3, fun x r e => ?_, x5⟩
    rw [e] at x2
    exact x2.2.2.1
/-- where a row stands ahead of place i -/
def zSt (k0 : Nat) (a : zPl2) (i : Nat) : Nat := zws (a.take (i - 1)) (2 ^ k0)
def zOd (k0 : Nat) (a : zPl2) (i : Nat) : Nat := (k0 :: a.map Prod.fst).getD i 0
theorem zwl_getD (b : zPl2) : ∀ k, zwl b k = (k :: b.map Prod.fst).getD b.length 0 := by
  induction b with
  | nil => intro k; rfl
  | cons x b ih =>
    intro k
    show zwl b x.1 = (x.1 :: b.map Prod.fst).getD b.length 0
    exact ih x.1
/-- a place of a full row -/
theorem zSt_is {n k0 : Nat} {a : zPl2} (hn : n ≤ 9) (h : zFull n k0 a) {i : Nat} (h1 : 1 ≤ i) (hi : i < n) : zSt k0 a i < 2 ^ n ∧ zOd k0 a (i - 1) < n ∧ zOd k0 a i < n ∧ zbt2 (zSt k0 a i) (zOd k0 a i) = 0 ∧ zSt k0 a (i + 1) = zSt k0 a i + 2 ^ zOd k0 a i ∧ (a.map Prod.fst).drop (i - 1) = zOd k0 a i :: (a.map Prod.fst).drop i := by
  have hl := (zFull_is hn h).1
  obtain ⟨hk, hw, hs⟩ := h
  have pk := zp2_lt hk hn
  have hlt : i - 1 < a.length := by omega
  have ha : a = a.take (i - 1) ++ a.drop (i - 1) := (List.take_append_drop _ _).symm
  have hd : a.drop (i - 1) = a[i - 1] :: a.drop i := by
    rw [List.drop_eq_getElem_cons hlt, show i - 1 + 1 = i by omega]
  have eo : zOd k0 a i = (a[i - 1]).1 := by
    unfold zOd
    cases i with
    | zero => omega
    | succ i =>
      show (a.map Prod.fst).getD i 0 = _
      rw [List.getD_eq_getElem?_getD, List.getElem?_map]
      have : a[i]? = some a[i] := List.getElem?_eq_getElem (by omega)
      rw [this]
      rfl
  rw [ha, zwok_a, hd] at hw
  obtain ⟨w1, w2, w3, w4, w5⟩ := hw
  have hpi := zwok_is hn _ _ pk w1
  have hll := zwl_is _ _ k0 hk w1
  refine ⟨hpi.1, ?_, by rw [eo]; exact w2, by rw [eo]; exact w3, ?_, ?_⟩
  · rw [zwl_getD, List.length_take, show min (i - 1) a.length = i - 1 by omega] at hll
    unfold zOd
    have : (k0 :: (a.take (i - 1)).map Prod.fst).getD (i - 1) 0 = (k0 :: a.map Prod.fst).getD (i - 1) 0 := by
      cases hi1 : i - 1 with
      | zero => rfl
      | succ j =>
        show ((a.take (j + 1)).map Prod.fst).getD j 0 = (a.map Prod.fst).getD j 0
        rw [List.map_take, List.getD_eq_getElem?_getD, List.getElem?_take, if_pos (by omega), ← List.getD_eq_getElem?_getD]
    rw [this] at hll
    exact hll
  · unfold zSt
    have : a.take (i + 1 - 1) = a.take (i - 1) ++ [a[i - 1]] := by
      rw [show i + 1 - 1 = (i - 1) + 1 by omega, List.take_add_one, List.getElem?_eq_getElem hlt]
      rfl
    rw [this, zws_a, eo]
    rfl
  · rw [← List.map_drop, hd, List.map_cons, List.map_drop, eo]
theorem zr_along (X : ZX) (d n0 ce sl : Nat) (I : Nat → Nat → Int32) (L : Nat → Nat → Int64) (t u r q g : Nat) (st : Nat → Option Nat) {n k0 few : Nat} {a : zPl2} (hO : zOr I n) (hM : zOM I n) (hn1 : 1 ≤ n) (hfull : zFull n k0 a) (hfew : few < 9) (x1 : Int32) (h1 : x1.toInt = few) (J : Nat → Nat → Int32) (hJ : zOF I J) (h104 : ∀ j, j < n → (J 104 j).toInt = (zOd k0 a j : Nat)) : ∃ (K : Nat → Nat → Int32) (x2 x3 : Int32), (∀ x, x ≠ 110 → K x = J x) ∧ (∀ i c, 1 ≤ i → i ≤ n → c < 9 → zAl I n (zSt k0 a i) (zOd k0 a (i - 1)) c few ((a.map Prod.fst).drop (i - 1)) 2 (K 110 (9 * i + c)).toInt) ∧ x3.toInt = 0 ∧
    ∀ M, ∃ M', M ≤ M' ∧ z_loop X z_cf z_ff (z_pu (z_run X z_cf z_ff (d + 3))) 245 (M + 700) 2 [(0, .ref 55), (1, .int x1), (2, .int (Int32.ofInt 0))] [] (118, n0, ce, sl, J, L, z_rr t u r q g st) = z_loop X z_cf z_ff (z_pu (z_run X z_cf z_ff (d + 3))) 245 M' 56 [(0, .ref 55), (2, .int x2), (3, .int x3)] [] (118, n0, ce, sl, K, L, z_rr t u r q g st) := by
  have hF : zFAR = 1000000000 := rfl
  have hn9 := hO.1
  have p5 := zp2_512 hn9
  have e9 : (Int32.ofInt 9).toInt = 9 := rfl
  have e2 : (Int32.ofInt 2).toInt = 2 := rfl
  have eF : (Int32.ofInt 1000000000).toInt = 1000000000 := rfl
  have hfl := zFull_is hn9 hfull
  have hix : ∀ (x y : Int32) (i c : Nat), x.toInt = i → y.toInt = c → i ≤ 9 → c < 9 → (Int32.ofInt 9 * x + y).toInt = ((9 * i + c : Nat) : Int) := by
    intro x y i c q1 q2 q3 q4
    have e1 : (Int32.ofInt 9 * x).toInt = 9 * i := by rw [y_mu (by rw [e9, q1]; omega) (by rw [e9, q1]; omega), e9, q1]
    rw [y_ad (by omega) (by omega), e1, q2]
    omega
  -- the last row
  have hend : ∀ c, c < 9 → zAl I n (zSt k0 a n) (zOd k0 a (n - 1)) c few ((a.map Prod.fst).drop (n - 1)) 2 (if c = few then 0 else zFAR) := by
    intro c hc
    have e : (a.map Prod.fst).drop (n - 1) = [] := List.drop_eq_nil_iff.mpr (by rw [List.length_map]; omega)
    rw [e]
    refine ⟨fun rs q1 q2 q3 _ => ?_, ?_⟩
    · have : rs = [] := List.map_eq_nil_iff.mp q1
      subst this
      have q3' : c = few := q3
      rw [if_pos q3']
      exact Int.le_refl _
    · by_cases cc : c = few
      · rw [if_pos cc]
        exact Or.inr ⟨[], rfl, trivial, cc, fun x r h => absurd h (by simp), rfl⟩
      · rw [if_neg cc]
        exact Or.inl rfl
  have lp0 : ∀ i, ∀ (c : Nat) (x2 : Int32) (K : Nat → Nat → Int32), c + i = 9 → x2.toInt = c → (∀ x, x ≠ 110 → K x = J x) → (∀ y, y < c → (K 110 (9 * n + y)).toInt = if y = few then 0 else zFAR) → ∃ K' : Nat → Nat → Int32, (∀ x, x ≠ 110 → K' x = J x) ∧ (∀ y, y < 9 → (K' 110 (9 * n + y)).toInt = if y = few then 0 else zFAR) ∧ ∀ M, z_loop X z_cf z_ff (z_pu (z_run X z_cf z_ff (d + 3))) 245 (M + i + 1) 2 [(0, .ref 55), (1, .int x1), (2, .int x2)] [] (118, n0, ce, sl, K, L, z_rr t u r q g st) = z_loop X z_cf z_ff (z_pu (z_run X z_cf z_ff (d + 3))) 245 M 56 [(0, .ref 55), (2, .int ((Int32.ofInt 1 <<< (K' 55 76 &&& 31)) - Int32.ofInt 1)), (3, .int (K' 55 76 - Int32.ofInt 1))] [] (118, n0, ce, sl, K', L, z_rr t u r q g st) := by
    intro i
    induction i with
    | zero =>
      intro c x2 K a1 a2 a3 a4
      refine ⟨K, a3, fun y hy => a4 y (by omega), fun M => ?_⟩
      rw [show M + 0 + 1 = M + 1 by omega, zb_M_flags_2, if_pos (by rw [y_i_le, e9]; omega)]
    | succ i ih =>
      intro c x2 K a1 a2 a3 a4
      have hn76 := (zOF_o hO hM (K := K) (fun x hx => by rw [a3 x (by omega), hJ x hx])).2.2.1
      have hx := hix (K 55 76) x2 n c hn76 a2 hn9 (by omega)
      have hxn : (Int32.ofInt 9 * K 55 76 + x2).toNatClampNeg = 9 * n + c := by rw [y_tn, hx]; rfl
      have hin : z_in (Int32.ofInt 9 * K 55 76 + x2) 90 = true := y_in_t (by omega) (by omega)
      obtain ⟨v, hv⟩ : ∃ v : Int32, v = if c = few then Int32.ofInt 0 else Int32.ofInt 1000000000 := ⟨_, rfl⟩
      have hvt : v.toInt = if c = few then 0 else zFAR := by
        rw [hv]
        by_cases cc : c = few
        · rw [if_pos cc, if_pos cc]
          rfl
        · rw [if_neg cc, if_neg cc, eF]
          rfl
      obtain ⟨K', g1, g2, g3⟩ := ih (c + 1) (x2 + Int32.ofInt 1) (z_up K 110 (9 * n + c) v) (by omega) (by rw [y_adl (by omega) (by omega) (by omega) (by omega)]; omega) (fun x hx => by rw [z_up_r _ _ _ _ _ hx, a3 x hx]) (fun y hy => by
        by_cases cc : y = c
        · subst cc
          rw [z_up_s, hvt]
        · rw [z_up_j _ _ _ _ _ (by omega)]
          exact a4 y (by omega))
      refine ⟨K', g1, g2, fun M => ?_⟩
      rw [show M + (i + 1) + 1 = (M + i + 1) + 1 by omega, zb_M_flags_2, if_neg (by rw [y_i_le, e9]; omega)]
      by_cases cc : c = few
      · rw [if_pos cc] at hv
        rw [if_pos (by rw [y_i_eq]; omega), hin, z_gd_t, hxn, ← hv]
        exact g3 M
      · rw [if_neg cc] at hv
        rw [if_neg (by rw [y_i_eq]; omega), hin, z_gd_t, hxn, ← hv]
        exact g3 M
  -- a number of changes
  have lpf : ∀ w, ∀ (i c f : Nat) (x2 x3 x4 x5 x6 : Int32) (K : Nat → Nat → Int32), 1 ≤ i → i < n → c < 9 → f + w = 2 → x2.toInt = (zSt k0 a i : Nat) → x3.toInt = i → x4.toInt = c → x6.toInt = f → (∀ x, x ≠ 110 → K x = J x) → (∀ c', c' < 9 → zAl I n (zSt k0 a (i + 1)) (zOd k0 a i) c' few ((a.map Prod.fst).drop i) 2 (K 110 (9 * (i + 1) + c')).toInt) → zAl I n (zSt k0 a i) (zOd k0 a (i - 1)) c few ((a.map Prod.fst).drop (i - 1)) f x5.toInt → ∃ v : Int32, zAl I n (zSt k0 a i) (zOd k0 a (i - 1)) c few ((a.map Prod.fst).drop (i - 1)) 2 v.toInt ∧
      ∀ M, ∃ M', M ≤ M' ∧ z_loop X z_cf z_ff (z_pu (z_run X z_cf z_ff (d + 3))) 245 (M + 2 * w + 1) 91 [(0, .ref 55), (2, .int x2), (3, .int x3), (4, .int x4), (5, .int x5), (6, .int x6)] [] (118, n0, ce, sl, K, L, z_rr t u r q g st) = z_loop X z_cf z_ff (z_pu (z_run X z_cf z_ff (d + 3))) 245 M' 76 [(0, .ref 55), (2, .int x2), (3, .int x3), (4, .int (x4 + Int32.ofInt 1))] [] (118, n0, ce, sl, z_up K 110 (9 * i + c) v, L, z_rr t u r q g st) := by
    intro w
    induction w with
    | zero =>
      intro i c f x2 x3 x4 x5 x6 K i1 i2 c9 a1 a2 a3 a4 a5 a6 a7 a8
      have ef : f = 2 := by omega
      subst ef
      have hx := hix x3 x4 i c a3 a4 (by omega) c9
      have hxn : (Int32.ofInt 9 * x3 + x4).toNatClampNeg = 9 * i + c := by rw [y_tn, hx]; rfl
      refine ⟨x5, a8, fun M => ⟨M, Nat.le_refl _, ?_⟩⟩
      rw [show M + 2 * 0 + 1 = M + 1 by omega, zb_M_flags_91, if_pos (by rw [y_i_le, e2]; omega), y_in_t (by omega) (by omega), z_gd_t, hxn]
    | succ w ih =>
      intro i c f x2 x3 x4 x5 x6 K i1 i2 c9 a1 a2 a3 a4 a5 a6 a7 a8
      obtain ⟨s1, s2, s3, s4, s5, s6⟩ := zSt_is hn9 hfull i1 i2
      have hx := hix x3 x4 i c a3 a4 (by omega) c9
      have hxn : (Int32.ofInt 9 * x3 + x4).toNatClampNeg = 9 * i + c := by rw [y_tn, hx]; rfl
      have e46 : (x4 + x6).toInt = ((c + f : Nat) : Int) := by rw [y_ad (by omega) (by omega)]; omega
      have n91 : ¬ Int32.ofInt 2 ≤ x6 := by rw [y_i_le, e2]; omega
      by_cases ccf : 9 ≤ c + f
      · refine ⟨x5, zAl_2 (fun rs q1 q2 q3 x r e => ?_) a8, fun M => ⟨M + 2 * (w + 1), by omega, ?_⟩⟩
        · rw [e] at q3
          have q3' : zwc r (c + x.2) = few := q3
          have := zwc_ge r (c + x.2)
          omega
        · rw [zb_M_flags_91, if_neg n91, if_pos (by rw [y_i_le, e9]; omega), y_in_t (by omega) (by omega), z_gd_t, hxn]
      · have e31 : (x3 + Int32.ofInt 1).toInt = ((i + 1 : Nat) : Int) := by rw [y_adl (by omega) (by omega) (by omega) (by omega)]; omega
        have hx2 := hix (x3 + Int32.ofInt 1) x4 (i + 1) c e31 a4 (by omega) c9
        have hx3 : (Int32.ofInt 9 * (x3 + Int32.ofInt 1) + x4 + x6).toInt = ((9 * (i + 1) + (c + f) : Nat) : Int) := by rw [y_ad (by omega) (by omega), hx2, a5]; omega
        have hx3n : (Int32.ofInt 9 * (x3 + Int32.ofInt 1) + x4 + x6).toNatClampNeg = 9 * (i + 1) + (c + f) := by rw [y_tn, hx3]; rfl
        have hin3 : z_in (Int32.ofInt 9 * (x3 + Int32.ofInt 1) + x4 + x6) 90 = true := y_in_t (by omega) (by omega)
        have hchild := a7 (c + f) (by omega)
        rw [s5] at hchild
        have hst := fun v2 e => zAl_step (v2 := v2) hO s1 s2 s3 s4 (show f < 2 by omega) (show c + f < 9 by omega) hfew (by rw [← s6]; exact a8) hchild e
        rw [← s6] at hst
        have lt := zbits_lt n hn9 _ s3 _ s1 s4
        have hcr := zAl_r hO lt s3 hfew hchild
        have h5r := zAl_r hO s1 s2 hfew a8
        have a5' : (x6 + Int32.ofInt 1).toInt = ((f + 1 : Nat) : Int) := by rw [y_adl (by omega) (by omega) (by omega) (by omega)]; omega
        by_cases cF : (K 110 (9 * (i + 1) + (c + f))).toInt = zFAR
        · obtain ⟨v, v1, v2⟩ := ih i c (f + 1) x2 x3 x4 x5 (x6 + Int32.ofInt 1) K i1 i2 c9 (by omega) a2 a3 a4 a5' a6 a7 (hst x5.toInt (by rw [if_pos cF]; omega))
          refine ⟨v, v1, fun M => ?_⟩
          obtain ⟨M', m1, m2⟩ := v2 (M + 1)
          refine ⟨M', by omega, ?_⟩
          rw [show M + 2 * (w + 1) + 1 = (M + 1 + 2 * w + 1) + 1 by omega, zb_M_flags_91, if_neg n91, if_neg (by rw [y_i_le, e9]; omega), hin3, z_gd_t, hx3n, if_pos (by rw [y_i_eq, eF]; omega), if_pos (by rw [y_i_le, eF]; omega), m2]
        · have hKF : zOF I K := fun x hx => by rw [a6 x (by omega), hJ x hx]
          obtain ⟨o1, o2, o3, o4, o5⟩ := zOF_o hO hM hKF
          have e3m : (x3 - Int32.ofInt 1).toInt = ((i - 1 : Nat) : Int) := by rw [y_sbl (by omega) (by omega) (by omega) (by omega)]; omega
          have e3mn : (x3 - Int32.ofInt 1).toNatClampNeg = i - 1 := by rw [y_tn, e3m]; rfl
          have hin3m : z_in (x3 - Int32.ofInt 1) 9 = true := y_in_t (by omega) (by omega)
          have hx3' : x3.toNatClampNeg = i := by rw [y_tn, a3]; rfl
          have k104 : K 104 = J 104 := a6 104 (by omega)
          obtain ⟨y, y1, y2⟩ := zr_coinOf X d n0 ce sl K L t u r q g st (f := f) (c := c) (S := zSt k0 a i) (k := zOd k0 a i) o1 o2 (by omega) s3 (by omega) (by omega) x2 (K 104 (i - 1)) (K 104 i) x6 x4 a2 (by rw [k104]; exact h104 i i2) a5 a4 (some (zOd k0 a (i - 1))) (Or.inr ⟨_, rfl, s2, by rw [k104]; exact h104 (i - 1) (by omega)⟩)
          have y1' : y.toInt = zoc I n (zSt k0 a i) (zOd k0 a (i - 1)) (zOd k0 a i) f c := by
            rw [← o4]
            exact y1
          have zr := zoc_r (S := zSt k0 a i) (f := f) hO s2 s3 (c := c) (by omega)
          have es : (K 110 (9 * (i + 1) + (c + f)) + y).toInt = (K 110 (9 * (i + 1) + (c + f))).toInt + zoc I n (zSt k0 a i) (zOd k0 a (i - 1)) (zOd k0 a i) f c := by rw [y_ad (by omega) (by omega), y1']
          clear e3m
          have pre : ∀ M, z_loop X z_cf z_ff (z_pu (z_run X z_cf z_ff (d + 3))) 245 (M + 2) 91 [(0, .ref 55), (2, .int x2), (3, .int x3), (4, .int x4), (5, .int x5), (6, .int x6)] [] (118, n0, ce, sl, K, L, z_rr t u r q g st) = z_loop X z_cf z_ff (z_pu (z_run X z_cf z_ff (d + 3))) 245 (M + 1) 165 [(0, .ref 55), (2, .int x2), (3, .int x3), (4, .int x4), (5, .int x5), (6, .int x6)] [.int y, .int (K 110 (9 * (i + 1) + (c + f)))] (118, n0, ce, sl, K, L, z_rr t u r q g st) := by
            intro M
            rw [show M + 2 = (M + 1) + 1 by omega, zb_M_flags_91, if_neg n91, if_neg (by rw [y_i_le, e9]; omega), hin3, z_gd_t, hx3n, if_neg (by rw [y_i_eq, eF]; omega), hin3m, z_gd_t, y_in_t (by omega) (by omega), z_gd_t, e3mn, hx3', y2, z_bi_v]
          by_cases cv : x5.toInt ≤ (K 110 (9 * (i + 1) + (c + f))).toInt + zoc I n (zSt k0 a i) (zOd k0 a (i - 1)) (zOd k0 a i) f c
          · obtain ⟨v, v1, v2⟩ := ih i c (f + 1) x2 x3 x4 x5 (x6 + Int32.ofInt 1) K i1 i2 c9 (by omega) a2 a3 a4 a5' a6 a7 (hst x5.toInt (by rw [if_neg cF]; omega))
            refine ⟨v, v1, fun M => ?_⟩
            obtain ⟨M', m1, m2⟩ := v2 M
            refine ⟨M', m1, ?_⟩
            rw [show M + 2 * (w + 1) + 1 = (M + 2 * w + 1) + 2 by omega, pre, zb_M_flags_165, if_pos (by rw [y_i_le]; omega), m2]
          · obtain ⟨v, v1, v2⟩ := ih i c (f + 1) x2 x3 x4 (K 110 (9 * (i + 1) + (c + f)) + y) (x6 + Int32.ofInt 1) K i1 i2 c9 (by omega) a2 a3 a4 a5' a6 a7 (hst _ (by rw [if_neg cF]; omega))
            refine ⟨v, v1, fun M => ?_⟩
            obtain ⟨M', m1, m2⟩ := v2 M
            refine ⟨M', m1, ?_⟩
            rw [show M + 2 * (w + 1) + 1 = (M + 2 * w + 1) + 2 by omega, pre, zb_M_flags_165, if_neg (by rw [y_i_le]; omega), m2]
  have lpc : ∀ w, ∀ (i c : Nat) (x2 x3 x4 : Int32) (K : Nat → Nat → Int32), 1 ≤ i → i < n → c + w = 9 → x2.toInt = (zSt k0 a i : Nat) → x3.toInt = i → x4.toInt = c → (∀ x, x ≠ 110 → K x = J x) → (∀ i' c', i < i' → i' ≤ n → c' < 9 → zAl I n (zSt k0 a i') (zOd k0 a (i' - 1)) c' few ((a.map Prod.fst).drop (i' - 1)) 2 (K 110 (9 * i' + c')).toInt) → (∀ c', c' < c → zAl I n (zSt k0 a i) (zOd k0 a (i - 1)) c' few ((a.map Prod.fst).drop (i - 1)) 2 (K 110 (9 * i + c')).toInt) → ∃ K' : Nat → Nat → Int32, (∀ x, x ≠ 110 → K' x = J x) ∧ (∀ i' c', i - 1 < i' → i' ≤ n → c' < 9 → zAl I n (zSt k0 a i') (zOd k0 a (i' - 1)) c' few ((a.map Prod.fst).drop (i' - 1)) 2 (K' 110 (9 * i' + c')).toInt) ∧
      ∀ M, ∃ M', M ≤ M' ∧ z_loop X z_cf z_ff (z_pu (z_run X z_cf z_ff (d + 3))) 245 (M + 6 * w + 1) 76 [(0, .ref 55), (2, .int x2), (3, .int x3), (4, .int x4)] [] (118, n0, ce, sl, K, L, z_rr t u r q g st) = z_loop X z_cf z_ff (z_pu (z_run X z_cf z_ff (d + 3))) 245 M' 56 [(0, .ref 55), (2, .int x2), (3, .int (x3 + Int32.ofInt (-1)))] [] (118, n0, ce, sl, K', L, z_rr t u r q g st) := by
    intro w
    induction w with
    | zero =>
      intro i c x2 x3 x4 K i1 i2 a1 a2 a3 a4 a5 a6 a7
      have ec : c = 9 := by omega
      subst ec
      refine ⟨K, a5, fun i' c' q1 q2 q3 => ?_, fun M => ⟨M, Nat.le_refl _, ?_⟩⟩
      · by_cases e : i' = i
        · subst e
          exact a7 c' q3
        · exact a6 i' c' (by omega) q2 q3
      · rw [show M + 6 * 0 + 1 = M + 1 by omega, zb_M_flags_76, if_pos (by rw [y_i_le, e9]; omega)]
    | succ w ih =>
      intro i c x2 x3 x4 K i1 i2 a1 a2 a3 a4 a5 a6 a7
      obtain ⟨s1, s2, s3, s4, s5, s6⟩ := zSt_is hn9 hfull i1 i2
      obtain ⟨v, v1, v2⟩ := lpf 2 i c 0 x2 x3 x4 (Int32.ofInt 1000000000) (Int32.ofInt 0) K i1 i2 (by omega) (by omega) a2 a3 a4 rfl a5 (fun c' hc' => a6 (i + 1) c' (by omega) (by omega) hc') (by
        rw [s6, eF]
        refine ⟨fun rs q1 q2 q3 q4 => ?_, Or.inl rfl⟩
        cases rs with
        | nil => exact absurd q1 (by simp)
        | cons x r =>
          have := q4 x r rfl
          omega)
      obtain ⟨K', g1, g2, g3⟩ := ih i (c + 1) x2 x3 (x4 + Int32.ofInt 1) (z_up K 110 (9 * i + c) v) i1 i2 (by omega) a2 a3 (by rw [y_adl (by omega) (by omega) (by omega) (by omega)]; omega) (fun x hx => by rw [z_up_r _ _ _ _ _ hx, a5 x hx])
        (fun i' c' q1 q2 q3 => by
          rw [z_up_j _ _ _ _ _ (by omega)]
          exact a6 i' c' q1 q2 q3)
        (fun c' hc' => by
          by_cases e : c' = c
          · subst e
            rw [z_up_s]
            exact v1
          · rw [z_up_j _ _ _ _ _ (by omega)]
            exact a7 c' (by omega))
      refine ⟨K', g1, g2, fun M => ?_⟩
      obtain ⟨M1, m1, m2⟩ := v2 (M + 6 * w + 1)
      obtain ⟨M2, m3, m4⟩ := g3 (M1 - 6 * w - 1)
      refine ⟨M2, by omega, ?_⟩
      rw [show M + 6 * (w + 1) + 1 = (M + 6 * w + 1 + 2 * 2 + 1) + 1 by omega, zb_M_flags_76, if_neg (by rw [y_i_le, e9]; omega), m2, show M1 = (M1 - 6 * w - 1) + 6 * w + 1 by omega, m4]
  have lpi : ∀ i : Nat, ∀ (x2 x3 : Int32) (K : Nat → Nat → Int32), i < n → x2.toInt = (zSt k0 a (i + 1) : Nat) → x3.toInt = i → (∀ x, x ≠ 110 → K x = J x) → (∀ i' c', i < i' → i' ≤ n → c' < 9 → zAl I n (zSt k0 a i') (zOd k0 a (i' - 1)) c' few ((a.map Prod.fst).drop (i' - 1)) 2 (K 110 (9 * i' + c')).toInt) → ∃ (K' : Nat → Nat → Int32) (x2' x3' : Int32), (∀ x, x ≠ 110 → K' x = J x) ∧ (∀ i' c', 0 < i' → i' ≤ n → c' < 9 → zAl I n (zSt k0 a i') (zOd k0 a (i' - 1)) c' few ((a.map Prod.fst).drop (i' - 1)) 2 (K' 110 (9 * i' + c')).toInt) ∧ x3'.toInt = 0 ∧
      ∀ M, ∃ M', M ≤ M' ∧ z_loop X z_cf z_ff (z_pu (z_run X z_cf z_ff (d + 3))) 245 (M + 60 * i) 56 [(0, .ref 55), (2, .int x2), (3, .int x3)] [] (118, n0, ce, sl, K, L, z_rr t u r q g st) = z_loop X z_cf z_ff (z_pu (z_run X z_cf z_ff (d + 3))) 245 M' 56 [(0, .ref 55), (2, .int x2'), (3, .int x3')] [] (118, n0, ce, sl, K', L, z_rr t u r q g st) := by
    intro i
    induction i with
    | zero =>
      intro x2 x3 K a0 a1 a2 a3 a4
      exact ⟨K, x2, x3, a3, a4, by omega, fun M => ⟨M, Nat.le_refl _, rfl⟩⟩
    | succ i ih =>
      intro x2 x3 K a0 a1 a2 a3 a4
      obtain ⟨s1, s2, s3, s4, s5, s6⟩ := zSt_is hn9 hfull (show 1 ≤ i + 1 by omega) a0
      have k104 : K 104 = J 104 := a3 104 (by omega)
      have ho := h104 (i + 1) a0
      have hx3n : x3.toNatClampNeg = i + 1 := by rw [y_tn, a2]; omega
      have hoe : K 104 (i + 1) = Int32.ofNat (zOd k0 a (i + 1)) := y_nat (by rw [k104]; exact ho)
      have hx2e : x2 = Int32.ofNat (zSt k0 a (i + 1) + 2 ^ zOd k0 a (i + 1)) := y_nat (by rw [a1, s5])
      have hclr := zbits_clr (zOd k0 a (i + 1)) (by omega) (zSt k0 a (i + 1)) (by omega) s4
      rw [← hx2e, ← hoe] at hclr
      have hset : (x2 &&& ((Int32.ofInt 1 <<< (K 104 (i + 1) &&& 31)) ^^^ (Int32.ofInt (-1)))).toInt = (zSt k0 a (i + 1) : Nat) := by rw [hclr, y_on (by omega)]
      obtain ⟨K1, f1, f2, f3⟩ := lpc 9 (i + 1) 0 (x2 &&& ((Int32.ofInt 1 <<< (K 104 (i + 1) &&& 31)) ^^^ (Int32.ofInt (-1)))) x3 (Int32.ofInt 0) K (by omega) a0 (by omega) hset a2 rfl a3 a4 (fun c' hc' => by omega)
      obtain ⟨K', x2', x3', g1, g2, g3, g4⟩ := ih _ (x3 + Int32.ofInt (-1)) K1 (by omega) hset (by rw [y_adl (by omega) (by omega) (by omega) (by omega)]; omega) f1 (fun i' c' q1 q2 q3 => f2 i' c' (by omega) q2 q3)
      refine ⟨K', x2', x3', g1, g2, g3, fun M => ?_⟩
      obtain ⟨M1, m1, m2⟩ := f3 (M + 60 * i + 4)
      obtain ⟨M2, m3, m4⟩ := g4 (M1 - 60 * i)
      refine ⟨M2, by omega, ?_⟩
      rw [show M + 60 * (i + 1) = (M + 60 * i + 4 + 6 * 9 + 1) + 1 by omega, zb_M_flags_56, if_neg (by rw [y_i_le, y_i0]; omega), y_in_t (by omega) (by omega), z_gd_t, hx3n, m2, ← m4, show M1 - 60 * i + 60 * i = M1 by omega]
  obtain ⟨K1, f1, f2, f3⟩ := lp0 9 0 (Int32.ofInt 0) J (by omega) rfl (fun _ _ => rfl) (fun y hy => by omega)
  have hn76 := (zOF_o hO hM (K := K1) (fun x hx => by rw [f1 x (by omega), hJ x hx]))
  have p1 : 0 < 2 ^ n := Nat.pow_pos (by omega)
  have hall : ((Int32.ofInt 1 <<< (K1 55 76 &&& 31)) - Int32.ofInt 1).toInt = (zSt k0 a (n - 1 + 1) : Nat) := by
    have e : zSt k0 a (n - 1 + 1) = 2 ^ n - 1 := by
      unfold zSt
      rw [show n - 1 + 1 - 1 = a.length by omega, List.take_length]
      exact hfull.2.2
    rw [e, hn76.2.1.2.2.2.2, zbits_one n (by omega), y_sbl (by omega) (by omega) (by rw [y_on (by omega)]; omega) (by rw [y_on (by omega)]; omega), y_on (by omega)]
    omega
  have hnm : (K1 55 76 - Int32.ofInt 1).toInt = ((n - 1 : Nat) : Int) := by
    rw [y_sbl (by omega) (by omega) (by omega) (by omega)]
    omega
  obtain ⟨K, x2, x3, g1, g2, g3, g4⟩ := lpi (n - 1) _ _ K1 (by omega) hall hnm f1 (fun i' c' q1 q2 q3 => by
    have e : i' = n := by omega
    subst e
    rw [f2 c' q3]
    exact hend c' q3)
  refine ⟨K, x2, x3, g1, fun i c q1 q2 q3 => g2 i c q1 q2 q3, g3, fun M => ?_⟩
  obtain ⟨M', m1, m2⟩ := g4 (M + 690 - 60 * (n - 1))
  refine ⟨M', by omega, ?_⟩
  rw [show M + 700 = (M + 690) + 9 + 1 by omega, f3, ← m2, show M + 690 - 60 * (n - 1) + 60 * (n - 1) = M + 690 by omega]
