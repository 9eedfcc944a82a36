/-! ROW, 15: all orders of the best row, in the model -/
/-- each order is the least by which the best can be come to -/
def zGr (I : Nat → Nat → Int32) (n k0 : Nat) (best few : Int) (ks : List Nat) : Prop := ∀ j, j < ks.length → ∀ k', k' < ks.getD j 0 → ¬ ∃ pre f suf, pre.map Prod.fst = ks.take j ∧ zOpt I n best few k0 (pre ++ (k', f) :: suf)
theorem zGr_snoc {I : Nat → Nat → Int32} {n k0 : Nat} {best few : Int} {ks : List Nat} {k : Nat} (h : zGr I n k0 best few ks) (hk : ∀ k', k' < k → ¬ ∃ pre f suf, pre.map Prod.fst = ks ∧ zOpt I n best few k0 (pre ++ (k', f) :: suf)) : zGr I n k0 best few (ks ++ [k]) := by
  intro j hj k' hk'
  rw [List.length_append] at hj
  by_cases c : j = ks.length
  · subst c
    rw [List.take_left]
    rw [List.getD_eq_getElem?_getD, List.getElem?_append_right (Nat.le_refl _), Nat.sub_self] at hk'
    exact hk k' hk'
  · have hj' : j < ks.length := by
      have : [k].length = 1 := rfl
      omega
    rw [List.take_append_of_le_length (by omega)]
    rw [List.getD_eq_getElem?_getD, List.getElem?_append_left hj', ← List.getD_eq_getElem?_getD] at hk'
    exact h j hj' k' hk'
theorem zr_ahead (X : ZX) (d n0 ce sl : Nat) (I : Nat → Nat → Int32) (L : Nat → Nat → Int64) (t u r q g : Nat) (st : Nat → Option Nat) {n k0 : Nat} (hO : zOr I n) (hM : zOM I n) (x1 x2 : Int32) (J : Nat → Nat → Int32) (hJ : zOF I J) (hk0 : k0 < n) (h0 : (J 104 0).toInt = k0) : ∃ (K : Nat → Nat → Int32) (x3 : Int32), (∀ x, x ≠ 108 → K x = J x) ∧ zAh I n k0 [] (fun c => (K 108 c).toInt) ∧ x3.toInt = ((2 ^ k0 : Nat) : Int) ∧
    ∀ M, z_loop X z_cf z_ff (z_pu (z_run X z_cf z_ff (d + 3))) 240 (M + 11) 185 [(0, .ref 55), (1, .int x1), (2, .int x2), (3, .int (Int32.ofInt 0))] [] (118, n0, ce, sl, J, L, z_rr t u r q g st) = z_loop X z_cf z_ff (z_pu (z_run X z_cf z_ff (d + 3))) 240 M 238 [(0, .ref 55), (1, .int x1), (2, .int x2), (3, .int x3), (4, .int (Int32.ofInt 1))] [] (118, n0, ce, sl, K, L, z_rr t u r q g st) := by
  have hF : zFAR = 1000000000 := rfl
  have hn9 := hO.1
  have p5 := zp2_512 hn9
  have pk := zp2_lt hk0 hn9
  have e9 : (Int32.ofInt 9).toInt = 9 := rfl
  have eF : (Int32.ofInt 1000000000).toInt = 1000000000 := rfl
  have hin0 : z_in (Int32.ofInt 0) 9 = true := y_in_t (by decide) (by decide)
  have h0n : (Int32.ofInt 0).toNatClampNeg = 0 := rfl
  have lp : ∀ i, ∀ (c : Nat) (x3 : Int32) (K : Nat → Nat → Int32), c + i = 9 → x3.toInt = c → (∀ x, x ≠ 108 → K x = J x) → (∀ y, y < c → (K 108 y).toInt = zFAR) → ∃ (K' : Nat → Nat → Int32) (x3' : Int32), (∀ x, x ≠ 108 → K' x = J x) ∧ (∀ y, y < 9 → (K' 108 y).toInt = zFAR) ∧ x3'.toInt = 9 ∧ ∀ M, z_loop X z_cf z_ff (z_pu (z_run X z_cf z_ff (d + 3))) 240 (M + i) 185 [(0, .ref 55), (1, .int x1), (2, .int x2), (3, .int x3)] [] (118, n0, ce, sl, K, L, z_rr t u r q g st) = z_loop X z_cf z_ff (z_pu (z_run X z_cf z_ff (d + 3))) 240 M 185 [(0, .ref 55), (1, .int x1), (2, .int x2), (3, .int x3')] [] (118, n0, ce, sl, K', L, z_rr t u r q g st) := by
    intro i
    induction i with
    | zero =>
      intro c x3 K a1 a2 a3 a4
      exact ⟨K, x3, a3, fun y hy => a4 y (by omega), by omega, fun M => rfl⟩
    | succ i ih =>
      intro c x3 K a1 a2 a3 a4
      have hxn : x3.toNatClampNeg = c := by rw [y_tn, a2]; rfl
      obtain ⟨K', x3', g1, g2, g3, g4⟩ := ih (c + 1) (x3 + Int32.ofInt 1) (z_up K 108 c (Int32.ofInt 1000000000)) (by omega) (by rw [y_adl (by omega) (by omega) (by omega) (by omega)]; omega) (fun x hx => by rw [z_up_r _ _ _ _ _ hx, a3 x hx]) (fun y hy => by
        by_cases cc : y = c
        · subst cc
          rw [z_up_s, eF]
          rfl
        · rw [z_up_j _ _ _ _ _ cc]
          exact a4 y (by omega))
      refine ⟨K', x3', g1, g2, g3, fun M => ?_⟩
      rw [show M + (i + 1) = (M + i) + 1 by omega, zb_M_row_185, if_neg (by rw [y_i_le, e9]; omega), y_in_t (by omega) (by omega), z_gd_t, hxn]
      exact g4 M
  obtain ⟨K1, x3', f1, f2, f3, f4⟩ := lp 9 0 (Int32.ofInt 0) J (by omega) rfl (fun _ _ => rfl) (fun y hy => by omega)
  have hK1F : zOF I K1 := fun x hx => by rw [f1 x (by omega), hJ x hx]
  obtain ⟨o1, o2, o3, o4, o5⟩ := zOF_o hO hM hK1F
  have h104 : K1 104 0 = J 104 0 := by rw [f1 104 (by omega)]
  obtain ⟨y, y1, y2⟩ := zr_coinOf X d n0 ce sl K1 L t u r q g st (f := 0) (c := 0) (S := 0) o1 o2 (by omega) hk0 (by omega) (by omega) (Int32.ofInt 0) (Int32.ofInt (-1)) (K1 104 0) (Int32.ofInt 0) (Int32.ofInt 0) rfl (by rw [h104]; exact h0) rfl rfl none (Or.inl ⟨rfl, rfl⟩)
  have y1' : y.toInt = zolate I k0 (I 44 k0).toInt := by
    rw [y1]
    show zolate K1 k0 (5 * (((0 : Nat) : Int) + (0 : Nat)) + (K1 44 k0).toInt + zoT K1 0 n) = _
    rw [o5, zoT_0, hK1F 44 (by omega)]
    congr 1
    omega
  have hx104 : K1 104 0 = Int32.ofNat k0 := y_nat (by rw [h104]; exact h0)
  refine ⟨z_up K1 108 0 y, Int32.ofInt 1 <<< (K1 104 0 &&& 31), fun x hx => by rw [z_up_r _ _ _ _ _ hx, f1 x hx], ?_, ?_, fun M => ?_⟩
  · intro c hc
    show (∀ pre, zwok n pre (2 ^ k0) → pre.map Prod.fst = [] → zwc pre 0 = c → (z_up K1 108 0 y 108 c).toInt ≤ zfc I n k0 pre) ∧ ((z_up K1 108 0 y 108 c).toInt = zFAR ∨ ∃ pre, zwok n pre (2 ^ k0) ∧ pre.map Prod.fst = [] ∧ zwc pre 0 = c ∧ (z_up K1 108 0 y 108 c).toInt = zfc I n k0 pre)
    have ez : zfc I n k0 [] = zolate I k0 (I 44 k0).toInt := by
      show _ + (0 : Int) = _
      omega
    by_cases cc : c = 0
    · subst cc
      rw [z_up_s, y1']
      refine ⟨fun pre _ hp _ => ?_, Or.inr ⟨[], trivial, rfl, rfl, ez.symm⟩⟩
      have : pre = [] := List.map_eq_nil_iff.mp hp
      rw [this, ez]
      exact Int.le_refl _
    · rw [z_up_j _ _ _ _ _ cc, f2 c hc]
      refine ⟨fun pre _ hp hw => ?_, Or.inl rfl⟩
      have : pre = [] := List.map_eq_nil_iff.mp hp
      rw [this] at hw
      exact absurd hw.symm cc
  · rw [hx104, zbits_one k0 (by omega), y_on (by omega)]
  · rw [show M + 11 = (M + 1 + 1) + 9 by omega, f4, zb_M_row_185, if_pos (by rw [y_i_le, e9]; omega), hin0, z_gd_t, y2, z_bi_v, zb_M_row_225, hin0, z_gd_t, z_gd_t, h0n]
theorem zr_orders (X : ZX) (d n0 ce sl : Nat) (I : Nat → Nat → Int32) (L : Nat → Nat → Int64) (t u r q g : Nat) (st : Nat → Option Nat) {n k0 : Nat} (hO : zOr I n) (hM : zOM I n) (hk0 : k0 < n) (x1 x2 : Int32) (T : Nat → Nat → Int32) (hT : zTD I T n 0 0 0) (hB : zBst I n x1.toInt x2.toInt) (i : Nat) : ∀ (p : Nat) (x3 x4 : Int32) (ks : List Nat) (J : Nat → Nat → Int32), p + i = n → x4.toInt = p → ks.length + 1 = p → zOF I J → J 106 = T 106 → J 107 = T 107 → (∃ pre suf, pre.map Prod.fst = ks ∧ zOpt I n x1.toInt x2.toInt k0 (pre ++ suf)) → zGr I n k0 x1.toInt x2.toInt ks → zAh I n k0 ks (fun c => (J 108 c).toInt) → (∀ pre : zPl2, pre.map Prod.fst = ks → x3.toInt = (zws pre (2 ^ k0) : Nat)) → (∀ j, j < p → (J 104 j).toInt = (((k0 :: ks).getD j 0 : Nat) : Int)) → ∃ (K : Nat → Nat → Int32) (x3' x4' : Int32) (os : List Nat), zOF I K ∧ (∃ a, a.map Prod.fst = os ∧ zOpt I n x1.toInt x2.toInt k0 a) ∧ zGr I n k0 x1.toInt x2.toInt os ∧ (∀ j, j < n → (K 104 j).toInt = (((k0 :: os).getD j 0 : Nat) : Int)) ∧ x4'.toInt = n ∧
    ∀ M, z_loop X z_cf z_ff (z_pu (z_run X z_cf z_ff (d + 4))) 240 (M + 2 * i) 238 [(0, .ref 55), (1, .int x1), (2, .int x2), (3, .int x3), (4, .int x4)] [] (118, n0, ce, sl, J, L, z_rr t u r q g st) = z_loop X z_cf z_ff (z_pu (z_run X z_cf z_ff (d + 4))) 240 M 238 [(0, .ref 55), (1, .int x1), (2, .int x2), (3, .int x3'), (4, .int x4')] [] (118, n0, ce, sl, K, L, z_rr t u r q g st) := by
  have hn9 := hO.1
  have p5 := zp2_512 hn9
  have pk := zp2_lt hk0 hn9
  induction i with
  | zero =>
    intro p x3 x4 ks J a1 a2 a3 a4 a5 a6 a7 a8 a9 b1 b2
    obtain ⟨pre, suf, c1, c2⟩ := a7
    have hl := (zFull_is hn9 c2.1).1
    have hs : suf = [] := by
      rw [List.length_append] at hl
      have : pre.length = ks.length := by rw [← c1, List.length_map]
      exact List.length_eq_zero_iff.mp (by omega)
    subst hs
    rw [List.append_nil] at c2
    exact ⟨J, x3, x4, ks, a4, ⟨pre, c1, c2⟩, a8, fun j hj => b2 j (by omega), by omega, fun M => rfl⟩
  | succ i ih =>
    intro p x3 x4 ks J a1 a2 a3 a4 a5 a6 a7 a8 a9 b1 b2
    obtain ⟨pre, suf, c1, c2⟩ := a7
    have hpl : pre.length = ks.length := by rw [← c1, List.length_map]
    have hl := (zFull_is hn9 c2.1).1
    rw [List.length_append] at hl
    have hpw := ((zwok_a n pre suf (2 ^ k0)).mp c2.1.2.1)
    have hpi := zwok_is hn9 pre (2 ^ k0) pk hpw.1
    have hli := zwl_is pre (2 ^ k0) k0 hk0 hpw.1
    have hx3 := b1 pre c1
    obtain ⟨S, hS⟩ : ∃ S, S = zws pre (2 ^ k0) := ⟨_, rfl⟩
    obtain ⟨l, hl'⟩ : ∃ l, l = zwl pre k0 := ⟨_, rfl⟩
    rw [← hS] at hx3 hpw hpi
    rw [← hl'] at hli
    have hSl : ∀ pre' : zPl2, pre'.map Prod.fst = ks → zws pre' (2 ^ k0) = S ∧ zwl pre' k0 = l := by
      intro pre' h
      rw [hS, hl']
      exact ⟨zws_m pre' pre _ (by rw [h, c1]), zwl_m pre' pre _ (by rw [h, c1])⟩
    -- the last one there is
    have hlast : (J 104 (p - 1)).toInt = (l : Nat) := by
      rw [b2 (p - 1) (by omega), hl', ← c1]
      have : ∀ (b : zPl2) (k : Nat), (k :: b.map Prod.fst).getD b.length 0 = zwl b k := by
        intro b
        induction b with
        | nil => intro k; rfl
        | cons x b ihb =>
          intro k
          show (x.1 :: b.map Prod.fst).getD b.length 0 = zwl b x.1
          exact ihb x.1
      rw [show p - 1 = pre.length by omega, this]
    have hex : ∃ k, k < n ∧ zbt2 S k = 0 ∧ ∃ pre f suf, pre.map Prod.fst = ks ∧ zOpt I n x1.toInt x2.toInt k0 (pre ++ (k, f) :: suf) := by
      cases suf with
      | nil =>
        have : ([] : zPl2).length = 0 := rfl
        omega
      | cons y suf => exact ⟨y.1, hpw.2.1, hpw.2.2.1, pre, y.2, suf, c1, c2⟩
    have hTT : ∀ k, k < n → zbt2 S k = 0 → ∀ c, c < 9 → zTE I J n (S + 2 ^ k) k c := by
      intro k hk hb c hc
      have lt := zbits_lt n hn9 k hk S hpi.1 hb
      have ad := zbits_ad1 k (by omega) S (by omega) hb
      have hp : 0 < 2 ^ k := Nat.pow_pos (by omega)
      exact zTE_J (hT (S + 2 ^ k) k c lt hk ad.2 hc (Or.inl (by omega))) a5 a6
    obtain ⟨o1, o2, o3, o4, o5⟩ := zOF_o hO hM a4
    have hx4m : (x4 - Int32.ofInt 1).toInt = ((p - 1 : Nat) : Int) := by rw [y_sbl (by omega) (by omega) (by omega) (by omega)]; omega
    have hx4mn : (x4 - Int32.ofInt 1).toNatClampNeg = p - 1 := by rw [y_tn, hx4m]; rfl
    have hin4m : z_in (x4 - Int32.ofInt 1) 9 = true := y_in_t (by omega) (by omega)
    have hx4n : x4.toNatClampNeg = p := by rw [y_tn, a2]; rfl
    have hin4 : z_in x4 9 = true := y_in_t (by omega) (by omega)
    obtain ⟨K1, y, k, f1, f2, f3, f4, f5, f6, f7, f8⟩ := zr_nextOrder X d n0 ce sl I L t u r q g st hO hM hk0 hpi.1 hli x3 (J 104 (p - 1)) x1 x2 hx3 hlast rfl rfl J a4 hSl a9 hTT hB hex
    have hor := zbits_or k (by omega) S (by omega) f4
    have hx3e : x3 = Int32.ofNat S := y_nat hx3
    have hye : y = Int32.ofNat k := y_nat f2
    clear hx4m
    obtain ⟨K, x3', x4', os, g1, g2, g3, g4, g5, g6⟩ := ih (p + 1) (x3 ||| (Int32.ofInt 1 <<< (y &&& 31))) (x4 + Int32.ofInt 1) (ks ++ [k]) (z_up K1 104 p y) (by omega) (by rw [y_adl (by omega) (by omega) (by omega) (by omega)]; omega) (by rw [List.length_append]; show ks.length + 1 + 1 = p + 1; omega)
      (fun x hx => by rw [z_up_r _ _ _ _ _ (by omega), f1 x (by omega) (by omega), a4 x hx])
      (by rw [z_up_r _ _ _ _ _ (by omega), f1 106 (by omega) (by omega), a5])
      (by rw [z_up_r _ _ _ _ _ (by omega), f1 107 (by omega) (by omega), a6])
      (by
        obtain ⟨pre1, ff, suf1, w1, w2⟩ := f5
        refine ⟨pre1 ++ [(k, ff)], suf1, by rw [List.map_append, w1]; rfl, ?_⟩
        rw [List.append_assoc]
        exact w2)
      (zGr_snoc a8 f6)
      (by
        rw [z_up_r _ _ _ _ _ (by omega)]
        exact f7)
      (by
        intro pre' hp'
        obtain ⟨p1, p2, e, q1, q2⟩ := List.map_eq_append_iff.mp hp'
        obtain ⟨z, rr, e2, q3, q4⟩ := List.map_eq_cons_iff.mp q2
        have er : rr = [] := List.map_eq_nil_iff.mp q4
        subst er
        subst e2
        subst e
        rw [zws_a, (hSl p1 q1).1, hx3e, hye, hor.1, y_on (by omega)]
        show ((S + 2 ^ k : Nat) : Int) = ((S + 2 ^ z.1 : Nat) : Int)
        rw [q3])
      (by
        intro j hj
        by_cases cj : j = p
        · subst cj
          rw [z_up_s, f2]
          have : (k0 :: (ks ++ [k])).getD (ks.length + 1) 0 = k := by
            show (ks ++ [k]).getD ks.length 0 = k
            rw [List.getD_eq_getElem?_getD, List.getElem?_append_right (Nat.le_refl _), Nat.sub_self]
            rfl
          rw [← a3, this]
        · rw [z_up_j _ _ _ _ _ cj, f1 104 (by omega) (by omega), b2 j (by omega)]
          have : (k0 :: (ks ++ [k])).getD j 0 = (k0 :: ks).getD j 0 := by
            cases j with
            | zero => rfl
            | succ j =>
              show (ks ++ [k]).getD j 0 = ks.getD j 0
              rw [List.getD_eq_getElem?_getD, List.getElem?_append_left (by omega), ← List.getD_eq_getElem?_getD]
          rw [this])
    refine ⟨K, x3', x4', os, g1, g2, g3, g4, g5, fun M => ?_⟩
    rw [show M + 2 * (i + 1) = (M + 2 * i) + 1 + 1 by omega, zb_M_row_238, if_neg (by rw [y_i_le]; omega), hin4m, z_gd_t, hx4mn, f8, z_bi_v, zb_M_row_269, hin4, z_gd_t, z_gd_t, hx4n, z_up_s]
    exact g6 M
