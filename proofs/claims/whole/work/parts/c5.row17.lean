/-! ROW, 17: changes as late as may be, in the model -/
theorem zfc_a (I : Nat → Nat → Int32) (n k0 : Nat) (a b : zPl2) : zfc I n k0 (a ++ b) = zfc I n k0 a + zcoin I n b (zws a (2 ^ k0)) (zwl a k0) (zwc a 0) := by
  unfold zfc
  rw [zcoin_a]
  omega
/-- a change only where no best row of these orders does without it -/
def zGf (I : Nat → Nat → Int32) (n k0 : Nat) (best few : Int) (os : List Nat) (pre : zPl2) : Prop := ∀ p1 k p2, pre = p1 ++ (k, 1) :: p2 → ¬ ∃ suf, (p1 ++ (k, 0) :: suf).map Prod.fst = os ∧ zOpt I n best few k0 (p1 ++ (k, 0) :: suf)
theorem zGf_snoc {I : Nat → Nat → Int32} {n k0 : Nat} {best few : Int} {os : List Nat} {pre : zPl2} {k f : Nat} (h : zGf I n k0 best few os pre) (hf : f = 1 → ¬ ∃ suf, (pre ++ (k, 0) :: suf).map Prod.fst = os ∧ zOpt I n best few k0 (pre ++ (k, 0) :: suf)) : zGf I n k0 best few os (pre ++ [(k, f)]) := by
  intro p1 k' p2 e
  rcases List.append_eq_append_iff.mp e with ⟨a', e1, e2⟩ | ⟨c', e1, e2⟩
  · cases a' with
    | nil =>
      rw [List.append_nil] at e1
      injection e2 with e3 e4
      injection e3 with e5 e6
      subst e1
      rw [← e5]
      exact hf e6
    | cons x a' =>
      injection e2 with e3 e4
      have e4' : ([] : zPl2) = a' ++ ((k', 1) :: p2) := e4
      have := congrArg List.length e4'
      rw [List.length_append, List.length_cons] at this
      have h0 : ([] : zPl2).length = 0 := rfl
      omega
  · cases c' with
    | nil =>
      rw [List.append_nil] at e1
      have e2' : (k', 1) :: p2 = [(k, f)] := e2
      injection e2' with e3 e4
      injection e3 with e5 e6
      subst e1
      rw [e5]
      exact hf e6.symm
    | cons x c' =>
      injection e2 with e3 e4
      rw [← e3] at e1
      exact h p1 k' c' e1
theorem zr_flags (X : ZX) (d n0 ce sl : Nat) (I : Nat → Nat → Int32) (L : Nat → Nat → Int64) (t u r q g : Nat) (st : Nat → Option Nat) {n k0 : Nat} {a : zPl2} {best few : Int} (hO : zOr I n) (hM : zOM I n) (hn1 : 1 ≤ n) (hB : zBst I n best few) (ha : zOpt I n best few k0 a) (x1 : Int32) (h1 : x1.toInt = few) (J : Nat → Nat → Int32) (hJ : zOF I J) (h104 : ∀ j, j < n → (J 104 j).toInt = (zOd k0 a j : Nat)) : ∃ (K : Nat → Nat → Int32) (rs : zPl2), zOF I K ∧ K 104 = J 104 ∧ K 106 = J 106 ∧ K 107 = J 107 ∧ rs.map Prod.fst = a.map Prod.fst ∧ zOpt I n best few k0 rs ∧ zGf I n k0 best few (a.map Prod.fst) rs ∧ (∀ j, j < n → (K 105 j).toInt = (((0 :: rs.map Prod.snd).getD j 0 : Nat) : Int)) ∧
    z_pu (z_run X z_cf z_ff (d + 4)) 245 [.ref 55, .int x1] (118, n0, ce, sl, J, L, z_rr t u r q g st) = some (.inl none, (118, n0, ce, sl, K, L, z_rr t u r q g st)) := by
  have hF : zFAR = 1000000000 := rfl
  have hn9 := hO.1
  have p5 := zp2_512 hn9
  have hfull := ha.1
  have hk0 := hfull.1
  have pk := zp2_lt hk0 hn9
  have hfl := zFull_is hn9 hfull
  have hfe := ha.2.2
  have e9 : (Int32.ofInt 9).toInt = 9 := rfl
  have eF : (Int32.ofInt 1000000000).toInt = 1000000000 := rfl
  have e0 : (Int32.ofInt 0).toInt = 0 := rfl
  have e1' : (Int32.ofInt 1).toInt = 1 := rfl
  have n10 : ¬ (Int32.ofInt 1 : Int32) = 0 := by decide
  have z00 : (Int32.ofInt 0 : Int32) = 0 := rfl
  have hin0 : z_in (Int32.ofInt 0) 9 = true := y_in_t (by decide) (by decide)
  have hix : ∀ (x y : Int32) (i c : Nat), x.toInt = i → y.toInt = c → i ≤ 9 → c < 9 → (Int32.ofInt 9 * x + y).toInt = ((9 * i + c : Nat) : Int) := by
    intro x y i c q1 q2 q3 q4
    have e1 : (Int32.ofInt 9 * x).toInt = 9 * i := by rw [y_mu (by rw [e9, q1]; omega) (by rw [e9, q1]; omega), e9, q1]
    rw [y_ad (by omega) (by omega), e1, q2]
    omega
  obtain ⟨K1, x2, x3, f1, f2, f3, f4⟩ := zr_along X d n0 ce sl I L t u r q g st hO hM hn1 hfull (few := zwc a 0) (by omega) x1 (by omega) J hJ h104
  have hK1F : zOF I K1 := fun x hx => by rw [f1 x (by omega), hJ x hx]
  have k1104 : K1 104 = J 104 := f1 104 (by omega)
  have lp : ∀ i, ∀ (p c : Nat) (x2 x3 x4 : Int32) (pre suf : zPl2) (K : Nat → Nat → Int32), p + i = n → 1 ≤ p → pre.length + 1 = p → x2.toInt = (zSt k0 a p : Nat) → x3.toInt = c → x4.toInt = p → zwc pre 0 = c → (∀ x, x ≠ 105 → K x = K1 x) → (pre ++ suf).map Prod.fst = a.map Prod.fst → zOpt I n best few k0 (pre ++ suf) → zGf I n k0 best few (a.map Prod.fst) pre → (∀ j, j < p → (K 105 j).toInt = (((0 :: pre.map Prod.snd).getD j 0 : Nat) : Int)) → ∃ (K' : Nat → Nat → Int32) (rs : zPl2), (∀ x, x ≠ 105 → K' x = K1 x) ∧ rs.map Prod.fst = a.map Prod.fst ∧ zOpt I n best few k0 rs ∧ zGf I n k0 best few (a.map Prod.fst) rs ∧ (∀ j, j < n → (K' 105 j).toInt = (((0 :: rs.map Prod.snd).getD j 0 : Nat) : Int)) ∧
      ∀ M, z_loop X z_cf z_ff (z_pu (z_run X z_cf z_ff (d + 3))) 245 (M + 2 * i + 1) 237 [(0, .ref 55), (2, .int x2), (3, .int x3), (4, .int x4)] [] (118, n0, ce, sl, K, L, z_rr t u r q g st) = some (.inl none, (118, n0, ce, sl, K', L, z_rr t u r q g st)) := by
    intro i
    induction i with
    | zero =>
      intro p c x2 x3 x4 pre suf K a0 a1 a2 a3 a4 a5 a6 a7 a8 a9 b1 b2
      have hll := (zFull_is hn9 a9.1).1
      rw [List.length_append] at hll
      have hs : suf = [] := List.length_eq_zero_iff.mp (by omega)
      subst hs
      rw [List.append_nil] at a8 a9
      have hn76 := (zOF_o hO hM (K := K) (fun x hx => by rw [a7 x (by omega), hK1F x hx])).2.2.1
      refine ⟨K, pre, a7, a8, a9, b1, fun j hj => b2 j (by omega), fun M => ?_⟩
      rw [show M + 2 * 0 + 1 = M + 1 by omega, zb_M_flags_237, if_pos (by rw [y_i_le]; omega)]
    | succ i ih =>
      intro p c x2 x3 x4 pre suf K a0 a1 a2 a3 a4 a5 a6 a7 a8 a9 b1 b2
      have hp : p < n := by omega
      obtain ⟨s1, s2, s3, s4, s5, s6⟩ := zSt_is hn9 hfull a1 hp
      have hKF : zOF I K := fun x hx => by rw [a7 x (by omega), hK1F x hx]
      obtain ⟨o1, o2, o3, o4, o5⟩ := zOF_o hO hM hKF
      have k104 : K 104 = J 104 := by rw [a7 104 (by omega), k1104]
      have k110 : K 110 = K1 110 := a7 110 (by omega)
      -- the state behind what is told
      have hmap : pre.map Prod.fst = (a.map Prod.fst).take (p - 1) := by
        rw [← a8, List.map_append, List.take_left' (by rw [List.length_map]; omega)]
      have hmap2 : suf.map Prod.fst = (a.map Prod.fst).drop (p - 1) := by
        rw [← a8, List.map_append, List.drop_left' (by rw [List.length_map]; omega)]
      have hzs : zws pre (2 ^ k0) = zSt k0 a p := zws_m pre (a.take (p - 1)) _ (by rw [hmap, List.map_take])
      have hzl : zwl pre k0 = zOd k0 a (p - 1) := by
        have := zwl_m pre (a.take (p - 1)) k0 (by rw [hmap, List.map_take])
        rw [this, zwl_getD, List.length_take, show min (p - 1) a.length = p - 1 by omega]
        unfold zOd
        cases hi1 : p - 1 with
        | zero => rfl
        | succ j =>
          show ((a.take (j + 1)).map Prod.fst).getD j 0 = (a.map Prod.fst).getD j 0
          rw [List.map_take, List.getD_eq_getElem?_getD, List.getElem?_take, if_pos (by omega), ← List.getD_eq_getElem?_getD]
      obtain ⟨⟨_, w1, w2⟩, w3, w4⟩ := id a9
      rw [zwok_a, hzs] at w1
      rw [zwc_a, a6] at w4
      rw [zfc_a, hzs, hzl, a6] at w3
      have hcle := zwc_ge suf c
      have hpr := zfc_r hO hk0 w1.1 (by rw [a6]; omega)
      -- any end for these orders makes a full row
      have glue : ∀ x : zPl2, x.map Prod.fst = (a.map Prod.fst).drop (p - 1) → zwok n x (zSt k0 a p) → zwc x c = zwc a 0 → (pre ++ x).map Prod.fst = a.map Prod.fst ∧ zFull n k0 (pre ++ x) ∧ zfc I n k0 (pre ++ x) = zfc I n k0 pre + zcoin I n x (zSt k0 a p) (zOd k0 a (p - 1)) c ∧ zwc (pre ++ x) 0 = zwc a 0 := by
        intro x q1 q2 q3
        have m1 : (pre ++ x).map Prod.fst = a.map Prod.fst := by rw [List.map_append, q1, hmap, List.take_append_drop]
        refine ⟨m1, ⟨hk0, ?_, ?_⟩, ?_, ?_⟩
        · rw [zwok_a, hzs]
          exact ⟨w1.1, q2⟩
        · rw [zws_m _ a _ m1]
          exact hfull.2.2
        · rw [zfc_a, hzs, hzl, a6]
        · rw [zwc_a, a6, q3]
      have hv := f2 p c a1 (by omega) (by omega)
      have hw := f2 (p + 1) c (by omega) (by omega) (by omega)
      rw [show p + 1 - 1 = p by omega] at hw
      rw [s5] at hw
      have lt := zbits_lt n hn9 _ s3 _ s1 s4
      have hvr := zAl_r hO s1 s2 (by omega) hv
      have hwr := zAl_r hO lt s3 (by omega) hw
      have hzc := zoc_r (S := zSt k0 a p) (f := 0) hO s2 s3 (c := c) (by omega)
      -- the table tells what is left of the best
      have hvle : (K1 110 (9 * p + c)).toInt ≤ zcoin I n suf (zSt k0 a p) (zOd k0 a (p - 1)) c := hv.1 suf hmap2 w1.2 (by omega) (fun x r' e' => by
        have := w1.2
        rw [e'] at this
        exact this.2.2.1)
      have hsr := zcoin_r hO suf _ _ c s1 s2 w1.2 (by omega)
      have hsl : suf.length ≤ 9 := by
        have := congrArg List.length a8
        rw [List.length_map, List.length_map, List.length_append] at this
        omega
      have hveq : zfc I n k0 pre + (K1 110 (9 * p + c)).toInt = best := by
        rcases hv.2 with y | ⟨x, y1, y2, y3, y4, y5⟩
        · omega
        · obtain ⟨g1, g2, g3, g4⟩ := glue x y1 y2 y3
          rcases hB.2 k0 _ g2 with z | ⟨z1, z2⟩
          · omega
          · omega
      -- without a change here
      have hiff : ((K1 110 (9 * (p + 1) + c)).toInt ≠ zFAR ∧ (K1 110 (9 * (p + 1) + c)).toInt + zoc I n (zSt k0 a p) (zOd k0 a (p - 1)) (zOd k0 a p) 0 c = (K1 110 (9 * p + c)).toInt) ↔ ∃ suf', (pre ++ (zOd k0 a p, 0) :: suf').map Prod.fst = a.map Prod.fst ∧ zOpt I n best few k0 (pre ++ (zOd k0 a p, 0) :: suf') := by
        constructor
        · rintro ⟨q1, q2⟩
          rcases hw.2 with y | ⟨x, y1, y2, y3, y4, y5⟩
          · exact absurd y q1
          · obtain ⟨g1, g2, g3, g4⟩ := glue ((zOd k0 a p, 0) :: x) (by rw [s6, List.map_cons, y1]) ⟨s3, s4, by omega, y2⟩ y3
            refine ⟨x, g1, g2, ?_, by rw [g4]; exact hfe⟩
            rw [g3]
            show _ + (zoc I n (zSt k0 a p) (zOd k0 a (p - 1)) (zOd k0 a p) 0 c + zcoin I n x (zSt k0 a p + 2 ^ zOd k0 a p) (zOd k0 a p) (c + 0)) = _
            rw [Nat.add_zero]
            omega
        · rintro ⟨suf', q1, ⟨⟨_, q2, q3⟩, q4, q5⟩⟩
          rw [zwok_a, hzs] at q2
          rw [zfc_a, hzs, hzl, a6] at q4
          rw [zwc_a, a6] at q5
          have q4' : zfc I n k0 pre + (zoc I n (zSt k0 a p) (zOd k0 a (p - 1)) (zOd k0 a p) 0 c + zcoin I n suf' (zSt k0 a p + 2 ^ zOd k0 a p) (zOd k0 a p) (c + 0)) = best := q4
          have q5' : ((zwc suf' (c + 0) : Nat) : Int) = few := q5
          rw [Nat.add_zero] at q4' q5'
          have q6 : suf'.map Prod.fst = (a.map Prod.fst).drop p := by
            have e : ((pre ++ (zOd k0 a p, 0) :: suf').map Prod.fst).drop (p - 1) = (a.map Prod.fst).drop (p - 1) := by rw [q1]
            rw [List.map_append, List.drop_left' (by rw [List.length_map]; omega), s6] at e
            exact (List.cons.inj e).2
          have q7 : zwok n suf' (zSt k0 a p + 2 ^ zOd k0 a p) := q2.2.2.2.2
          have hwle := hw.1 suf' q6 q7 (by omega) (fun x r' e' => by
            have := q7
            rw [e'] at this
            exact this.2.2.1)
          have hsr' := zcoin_r hO suf' _ _ c lt s3 q7 (by omega)
          have hne : (K1 110 (9 * (p + 1) + c)).toInt ≠ zFAR := by omega
          refine ⟨hne, ?_⟩
          rcases hw.2 with y | ⟨x, y1, y2, y3, y4, y5⟩
          · exact absurd y hne
          · obtain ⟨g1, g2, g3, g4⟩ := glue ((zOd k0 a p, 0) :: x) (by rw [s6, List.map_cons, y1]) ⟨s3, s4, by omega, y2⟩ y3
            have g3' : zfc I n k0 (pre ++ (zOd k0 a p, 0) :: x) = zfc I n k0 pre + (zoc I n (zSt k0 a p) (zOd k0 a (p - 1)) (zOd k0 a p) 0 c + zcoin I n x (zSt k0 a p + 2 ^ zOd k0 a p) (zOd k0 a p) (c + 0)) := g3
            rw [Nat.add_zero] at g3'
            rcases hB.2 k0 _ g2 with z | ⟨z1, z2⟩
            · omega
            · omega
      -- places of the row
      have e41 : (x4 + Int32.ofInt 1).toInt = ((p + 1 : Nat) : Int) := by rw [y_adl (by omega) (by omega) (by omega) (by omega)]; omega
      have hi1 := hix (x4 + Int32.ofInt 1) x3 (p + 1) c e41 a4 (by omega) (by omega)
      have hi1n : (Int32.ofInt 9 * (x4 + Int32.ofInt 1) + x3).toNatClampNeg = 9 * (p + 1) + c := by rw [y_tn, hi1]; rfl
      have hin1 : z_in (Int32.ofInt 9 * (x4 + Int32.ofInt 1) + x3) 90 = true := y_in_t (by omega) (by omega)
      have hi2 := hix x4 x3 p c a5 a4 (by omega) (by omega)
      have hi2n : (Int32.ofInt 9 * x4 + x3).toNatClampNeg = 9 * p + c := by rw [y_tn, hi2]; rfl
      have hin2 : z_in (Int32.ofInt 9 * x4 + x3) 90 = true := y_in_t (by omega) (by omega)
      have hx4n : x4.toNatClampNeg = p := by rw [y_tn, a5]; rfl
      have hin4 : z_in x4 9 = true := y_in_t (by omega) (by omega)
      have ho := h104 p hp
      have hoe : K 104 p = Int32.ofNat (zOd k0 a p) := y_nat (by rw [k104]; exact ho)
      have hx2e : x2 = Int32.ofNat (zSt k0 a p) := y_nat a3
      have hor := zbits_or (zOd k0 a p) (by omega) (zSt k0 a p) (by omega) s4
      rw [← hx2e, ← hoe] at hor
      have hset : (x2 ||| (Int32.ofInt 1 <<< (K 104 p &&& 31))).toInt = (zSt k0 a (p + 1) : Nat) := by rw [hor.1, y_on (by omega), s5]
      have n237 : ¬ K 55 76 ≤ x4 := by rw [y_i_le]; omega
      have sufc : ∃ f suf2, suf = (zOd k0 a p, f) :: suf2 ∧ f < 2 := by
        cases suf with
        | nil =>
          rw [s6] at hmap2
          exact absurd hmap2 (by simp)
        | cons y suf2 =>
          rw [s6, List.map_cons] at hmap2
          injection hmap2 with e1 e2
          exact ⟨y.2, suf2, by rw [← e1], w1.2.2.2.1⟩
      -- it goes on
      have go : ∀ (f : Nat) (suf2 : zPl2) (x3' v : Int32), x3'.toInt = ((c + f : Nat) : Int) → v.toInt = (f : Nat) → (pre ++ (zOd k0 a p, f) :: suf2).map Prod.fst = a.map Prod.fst → zOpt I n best few k0 (pre ++ (zOd k0 a p, f) :: suf2) → (f = 1 → ¬ ∃ suf, (pre ++ (zOd k0 a p, 0) :: suf).map Prod.fst = a.map Prod.fst ∧ zOpt I n best few k0 (pre ++ (zOd k0 a p, 0) :: suf)) → (∀ M, z_loop X z_cf z_ff (z_pu (z_run X z_cf z_ff (d + 3))) 245 (M + 2) 237 [(0, .ref 55), (2, .int x2), (3, .int x3), (4, .int x4)] [] (118, n0, ce, sl, K, L, z_rr t u r q g st) = z_loop X z_cf z_ff (z_pu (z_run X z_cf z_ff (d + 3))) 245 M 237 [(0, .ref 55), (2, .int (x2 ||| (Int32.ofInt 1 <<< (K 104 p &&& 31)))), (3, .int x3'), (4, .int (x4 + Int32.ofInt 1))] [] (118, n0, ce, sl, z_up K 105 p v, L, z_rr t u r q g st) ∨ z_loop X z_cf z_ff (z_pu (z_run X z_cf z_ff (d + 3))) 245 (M + 2) 237 [(0, .ref 55), (2, .int x2), (3, .int x3), (4, .int x4)] [] (118, n0, ce, sl, K, L, z_rr t u r q g st) = z_loop X z_cf z_ff (z_pu (z_run X z_cf z_ff (d + 3))) 245 (M + 1) 237 [(0, .ref 55), (2, .int (x2 ||| (Int32.ofInt 1 <<< (K 104 p &&& 31)))), (3, .int x3'), (4, .int (x4 + Int32.ofInt 1))] [] (118, n0, ce, sl, z_up K 105 p v, L, z_rr t u r q g st)) → ∃ (K' : Nat → Nat → Int32) (rs : zPl2), (∀ x, x ≠ 105 → K' x = K1 x) ∧ rs.map Prod.fst = a.map Prod.fst ∧ zOpt I n best few k0 rs ∧ zGf I n k0 best few (a.map Prod.fst) rs ∧ (∀ j, j < n → (K' 105 j).toInt = (((0 :: rs.map Prod.snd).getD j 0 : Nat) : Int)) ∧
          ∀ M, z_loop X z_cf z_ff (z_pu (z_run X z_cf z_ff (d + 3))) 245 (M + 2 * (i + 1) + 1) 237 [(0, .ref 55), (2, .int x2), (3, .int x3), (4, .int x4)] [] (118, n0, ce, sl, K, L, z_rr t u r q g st) = some (.inl none, (118, n0, ce, sl, K', L, z_rr t u r q g st)) := by
        intro f suf2 x3' v q1 q2 q3 q4 q5 q6
        obtain ⟨K', rs, g1, g2, g3, g4, g5, g6⟩ := ih (p + 1) (c + f) (x2 ||| (Int32.ofInt 1 <<< (K 104 p &&& 31))) x3' (x4 + Int32.ofInt 1) (pre ++ [(zOd k0 a p, f)]) suf2 (z_up K 105 p v) (by omega) (by omega) (by rw [List.length_append]; show pre.length + 1 + 1 = p + 1; omega) hset q1 e41 (by rw [zwc_a, a6]; rfl) (fun x hx => by rw [z_up_r _ _ _ _ _ hx, a7 x hx]) (by rw [List.append_assoc]; exact q3) (by rw [List.append_assoc]; exact q4) (zGf_snoc b1 q5) (fun j hj => by
          by_cases cj : j = p
          · subst cj
            rw [z_up_s, q2]
            have : (0 :: (pre ++ [(zOd k0 a j, f)]).map Prod.snd).getD j 0 = f := by
              rw [← a2]
              show ((pre ++ [(zOd k0 a (pre.length + 1), f)]).map Prod.snd).getD pre.length 0 = f
              rw [List.map_append, List.getD_eq_getElem?_getD, List.getElem?_append_right (by rw [List.length_map]; exact Nat.le_refl _), List.length_map, Nat.sub_self]
              rfl
            rw [this]
          · rw [z_up_j _ _ _ _ _ cj, b2 j (by omega)]
            have : (0 :: (pre ++ [(zOd k0 a p, f)]).map Prod.snd).getD j 0 = (0 :: pre.map Prod.snd).getD j 0 := by
              cases j with
              | zero => rfl
              | succ j =>
                show ((pre ++ [(zOd k0 a p, f)]).map Prod.snd).getD j 0 = (pre.map Prod.snd).getD j 0
                rw [List.map_append, List.getD_eq_getElem?_getD, List.getElem?_append_left (by rw [List.length_map]; omega), ← List.getD_eq_getElem?_getD]
            rw [this])
        refine ⟨K', rs, g1, g2, g3, g4, g5, fun M => ?_⟩
        rw [show M + 2 * (i + 1) + 1 = (M + 2 * i + 1) + 2 by omega]
        rcases q6 (M + 2 * i + 1) with e | e
        · rw [e]
          exact g6 M
        · rw [e, show M + 2 * i + 1 + 1 = (M + 1) + 2 * i + 1 by omega]
          exact g6 (M + 1)
      obtain ⟨f, suf2, es, hf2⟩ := sufc
      rw [es] at a8 a9
      by_cases cF : (K1 110 (9 * (p + 1) + c)).toInt = zFAR
      · have hno : ¬ ∃ suf', (pre ++ (zOd k0 a p, 0) :: suf').map Prod.fst = a.map Prod.fst ∧ zOpt I n best few k0 (pre ++ (zOd k0 a p, 0) :: suf') := fun x => (hiff.mpr x).1 cF
        have f1' : f = 1 := by
          by_cases e : f = 0
          · rw [e] at a8 a9
            exact absurd ⟨suf2, a8, a9⟩ hno
          · omega
        subst f1'
        refine go 1 suf2 (x3 + Int32.ofInt 1) (Int32.ofInt 1) (by rw [y_adl (by omega) (by omega) (by omega) (by omega)]; omega) rfl a8 a9 (fun _ => hno) (fun M => Or.inr ?_)
        rw [show M + 2 = (M + 1) + 1 by omega, zb_M_flags_237, if_neg n237, hin1, z_gd_t, hi1n, k110, if_pos (by rw [y_i_le, eF]; omega), if_pos z00, hin4, z_gd_t, z_b1_1, z_gd_t, if_pos z00, z_gd_t, hx4n]
      · have e4m : (x4 - Int32.ofInt 1).toInt = ((p - 1 : Nat) : Int) := by rw [y_sbl (by omega) (by omega) (by omega) (by omega)]; omega
        have e4mn : (x4 - Int32.ofInt 1).toNatClampNeg = p - 1 := by rw [y_tn, e4m]; rfl
        have hin4m : z_in (x4 - Int32.ofInt 1) 9 = true := y_in_t (by omega) (by omega)
        clear e4m
        obtain ⟨y, y1, y2⟩ := zr_coinOf X d n0 ce sl K L t u r q g st (f := 0) (c := c) (S := zSt k0 a p) (k := zOd k0 a p) o1 o2 (by omega) s3 (by omega) (by omega) x2 (K 104 (p - 1)) (K 104 p) (Int32.ofInt 0) x3 a3 (by rw [k104]; exact ho) rfl a4 (some (zOd k0 a (p - 1))) (Or.inr ⟨_, rfl, s2, by rw [k104]; exact h104 (p - 1) (by omega)⟩)
        have y1' : y.toInt = zoc I n (zSt k0 a p) (zOd k0 a (p - 1)) (zOd k0 a p) 0 c := by
          rw [← o4]
          exact y1
        have ew : (K1 110 (9 * (p + 1) + c) + y).toInt = (K1 110 (9 * (p + 1) + c)).toInt + zoc I n (zSt k0 a p) (zOd k0 a (p - 1)) (zOd k0 a p) 0 c := by rw [y_ad (by omega) (by omega), y1']
        have pre' : ∀ M, z_loop X z_cf z_ff (z_pu (z_run X z_cf z_ff (d + 3))) 245 (M + 2) 237 [(0, .ref 55), (2, .int x2), (3, .int x3), (4, .int x4)] [] (118, n0, ce, sl, K, L, z_rr t u r q g st) = z_loop X z_cf z_ff (z_pu (z_run X z_cf z_ff (d + 3))) 245 (M + 1) 295 [(0, .ref 55), (2, .int x2), (3, .int x3), (4, .int x4)] [.int y, .int (K1 110 (9 * (p + 1) + c))] (118, n0, ce, sl, K, L, z_rr t u r q g st) := by
          intro M
          rw [show M + 2 = (M + 1) + 1 by omega, zb_M_flags_237, if_neg n237, hin1, z_gd_t, hi1n, k110, if_neg (by rw [y_i_le, eF]; omega), hin4m, z_gd_t, hin4, z_gd_t, e4mn, hx4n, y2, z_bi_v]
        by_cases cq : (K1 110 (9 * (p + 1) + c)).toInt + zoc I n (zSt k0 a p) (zOd k0 a (p - 1)) (zOd k0 a p) 0 c = (K1 110 (9 * p + c)).toInt
        · obtain ⟨suf', q1, q2⟩ := hiff.mp ⟨cF, cq⟩
          refine go 0 suf' (x3 + Int32.ofInt 0) (Int32.ofInt 0) (by rw [y_adl (by omega) (by omega) (by omega) (by omega)]; omega) rfl q1 q2 (fun e => by omega) (fun M => Or.inl ?_)
          rw [pre', zb_M_flags_295, hin2, z_gd_t, hi2n, k110, if_pos (by rw [y_i_eq]; omega), if_neg n10, hin4, z_gd_t, z_b1_0, z_gd_t, if_neg n10, z_gd_t, hx4n]
        · have hno : ¬ ∃ suf', (pre ++ (zOd k0 a p, 0) :: suf').map Prod.fst = a.map Prod.fst ∧ zOpt I n best few k0 (pre ++ (zOd k0 a p, 0) :: suf') := fun x => cq (hiff.mpr x).2
          have f1' : f = 1 := by
            by_cases e : f = 0
            · rw [e] at a8 a9
              exact absurd ⟨suf2, a8, a9⟩ hno
            · omega
          subst f1'
          refine go 1 suf2 (x3 + Int32.ofInt 1) (Int32.ofInt 1) (by rw [y_adl (by omega) (by omega) (by omega) (by omega)]; omega) rfl a8 a9 (fun _ => hno) (fun M => Or.inl ?_)
          rw [pre', zb_M_flags_295, hin2, z_gd_t, hi2n, k110, if_neg (by rw [y_i_eq]; omega), if_pos z00, hin4, z_gd_t, z_b1_1, z_gd_t, if_pos z00, z_gd_t, hx4n]
  have h10 : (K1 104 0) = Int32.ofNat k0 := y_nat (by rw [k1104]; exact h104 0 hn1)
  obtain ⟨K, rs, g1, g2, g3, g4, g5, g6⟩ := lp (n - 1) 1 0 (Int32.ofInt 1 <<< (K1 104 0 &&& 31)) (Int32.ofInt 0) (Int32.ofInt 1) [] a (z_up K1 105 0 (Int32.ofInt 0)) (by omega) (Nat.le_refl _) rfl (by rw [h10, zbits_one k0 (by omega), y_on (by omega)]; rfl) rfl rfl rfl (fun x hx => z_up_r _ _ _ _ _ hx) rfl ha (fun p1 k p2 e => by
    have := congrArg List.length e
    rw [List.length_append, List.length_cons] at this
    have h0 : ([] : zPl2).length = 0 := rfl
    omega) (fun j hj => by
    have e : j = 0 := by omega
    subst e
    rw [z_up_s]
    rfl)
  refine ⟨K, rs, fun x hx => by rw [g1 x (by omega), hK1F x hx], by rw [g1 104 (by omega), k1104], by rw [g1 106 (by omega), f1 106 (by omega)], by rw [g1 107 (by omega), f1 107 (by omega)], g2, g3, g4, g5, ?_⟩
  refine z_en X (d + 1) _ _ [(0, .ref 55), (1, .int x1)] _ _ rfl rfl rfl ?_
  obtain ⟨M', m1, m2⟩ := f4 99999299
  rw [show (100000000 : Nat) = (99999299 + 700) + 1 by omega, zb_M_flags_0, m2, show M' = (M' - 2 * (n - 1) - 2 + 2 * (n - 1) + 1) + 1 by omega, zb_M_flags_56, if_pos (by rw [y_i_le, y_i0]; omega), hin0, z_gd_t, z_b1_0, z_gd_t, z_gd_t]
  exact g6 _
