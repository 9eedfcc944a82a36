/-! THE LAW, 1: from its slices on -/
/-- from here the law comes to its end with 1, in its room -/
def zL (X : ZX) (pc : Nat) (lo : ZL) (st : List Value) (w : ZW) : Prop := ∃ (B : Nat) (w1 : ZW), zM X 7 55 B pc lo st w (zI w1 (Int32.ofInt 1)) ∧ w1.2.2.1 ≤ 600036 ∧ w1.2.2.2.1 ≤ 7301892
theorem zL.step {X : ZX} {pc pc' : Nat} {lo lo' : ZL} {st st' : List Value} {w w' : ZW} (h : ∀ N, z_loop X z_cf z_ff (z_run X z_cf z_ff 7) 55 (N + 1) pc lo st w = z_loop X z_cf z_ff (z_run X z_cf z_ff 7) 55 N pc' lo' st' w') (g : zL X pc' lo' st' w') : zL X pc lo st w := by
  obtain ⟨B, w1, h1, h2⟩ := g
  exact ⟨B + 1, w1, zM.step h (Nat.le_refl _) h1, h2⟩
theorem zL.fin {X : ZX} {pc : Nat} {lo : ZL} {st : List Value} {w w1 : ZW} (h : ∀ N, z_loop X z_cf z_ff (z_run X z_cf z_ff 7) 55 (N + 1) pc lo st w = zI w1 (Int32.ofInt 1)) (h1 : w1.2.2.1 ≤ 600036) (h2 : w1.2.2.2.1 ≤ 7301892) : zL X pc lo st w := ⟨1, w1, zM.fin h (Nat.le_refl _), h1, h2⟩
def zcs (ce sl : Nat) : Prop := ce ≤ 100 ∧ sl ≤ 20000
/-- the class's stand and law of bites beside the law's own rows -/
def zLs (J : Nat → Nat → Int32) (k g h : Int32) : Prop := zFc J ∧ J 5 2 = Int32.ofInt 1 ∧ J 55 0 = k ∧ J 55 8 = g ∧ J 59 0 = J 3 1 ∧ J 60 0 = J 4 1 ∧ zN (J 4 1).toInt (J 3 1).toInt h.toInt k.toInt ∧ (0 ≤ g.toInt ∧ g.toInt ≤ 200)
/-- the slices that are drawn and bitten -/
def zSl (J : Nat → Nat → Int32) (k g h e : Int32) (i : Nat) : Prop := ∀ j < i, (1 ≤ (J 61 j).toInt ∧ (J 61 j).toInt ≤ 250) ∧ zOut (J 4 1).toInt (J 3 1).toInt h.toInt k.toInt (zgp g e j).toInt (J 61 j).toInt (J 62 j).toInt
theorem zl_704 (X : ZX) (ce sl : Nat) (J : Nat → Nat → Int32) (L : Nat → Nat → Int64) (k g h e n : Int32) (hcs : zcs ce sl) (hJ : zLs J k g h) (hS : zSl J k g h e 5) (he : -60 ≤ e.toInt ∧ e.toInt ≤ 60) (hn : 0 ≤ n.toInt ∧ n.toInt ≤ 200) : ∀ (m i : Nat), i + m = 5 → zL X 704 [(1, .ref 0), (14, .int e), (15, .int h), (16, .int n), (17, .ref 61), (18, .ref 62), (19, .long (zsum (fun j => (J 61 j).toInt64) 5)), (21, .long (zsum (fun j => (J 62 j).toInt64) 5)), (23, .int (zbits (zcw (J 61) (J 62) n) i)), (24, .int (Int32.ofInt (i : Int)))] [] (0, 63, ce, sl, J, L, zeR1) := by
  intro m
  induction m with
  | zero =>
    intro i hi
    have : i = 5 := by omega
    subst this
    obtain ⟨j1, j2, j3, j4, j5, j6, j7, j8⟩ := hJ
    obtain ⟨K, hw, hO⟩ := zr_waves X 1 ce sl J L (J 61) h e n j2 j1 (fun j hj => (hS j hj).1) (by rw [j3]; exact j7) (by rw [j4]; exact j8) he (by omega)
    rw [j3, j4] at hO
    have hq : ∀ j < 5, K 40 j = J 62 j := fun j hj => by
      rw [y_i_eq]
      exact zOut_one (by have := j7.1; omega) (by have := j7.2.1; omega) (by have := j7.2.2.1; omega) (by have := j7.2.2.2; omega) (hO j hj) (hS j hj).2
    rw [zbits_c 5 (zcw_c (n := n) (a := J 61) (a' := J 61) (fun _ _ => rfl) hq)] at hw
    have i0 : z_in (Int32.ofInt 0) 5 = true := y_in_t (by decide) (by decide)
    have i1 : z_in (Int32.ofInt 1) 5 = true := y_in_t (by decide) (by decide)
    have i2 : z_in (Int32.ofInt 2) 5 = true := y_in_t (by decide) (by decide)
    have i3 : z_in (Int32.ofInt 3) 5 = true := y_in_t (by decide) (by decide)
    have i4 : z_in (Int32.ofInt 4) 5 = true := y_in_t (by decide) (by decide)
    refine zL.step (fun N => ((zb_L_law_704 X _ N ce sl J L _ _ _ _ _ _ _).trans (if_pos (by decide))).trans ((z_gd_of i0 _).trans ((z_gd_of i1 _).trans ((z_gd_of i2 _).trans ((z_gd_of i3 _).trans ((z_gd_of i4 _).trans (z_bi_of hw))))))) ?_
    exact zL.fin (fun N => ((zb_L_law_790 X _ N ce sl K L _ _).trans (if_pos rfl)).trans (z_gd_of z_b1_1 _)) (by show ce ≤ 600036; have := hcs.1; omega) (by show sl ≤ 7301892; have := hcs.2; omega)
  | succ m ih =>
    intro i hi
    have hi5 : i < 5 := by omega
    have b0 := fun N => zb_L_law_704 X (z_run X z_cf z_ff 7) N ce sl J L e h n (zsum (fun j => (J 61 j).toInt64) 5) (zsum (fun j => (J 62 j).toInt64) 5) (zbits (zcw (J 61) (J 62) n) i) (Int32.ofInt (i : Int))
    have hs : ¬ Int32.ofInt 5 ≤ Int32.ofInt (i : Int) := by
      rw [y_i_le, y_ofn (by omega), show (Int32.ofInt 5).toInt = 5 from rfl]; omega
    have hin := y_inn hi5 (show 5 ≤ 1000000 by omega)
    rw [y_ofN (by omega), y_ofs (by omega)] at b0
    have ih := ih (i + 1) (by omega)
    by_cases hc : zcw (J 61) (J 62) n i = true
    · have hz : zbits (zcw (J 61) (J 62) n) (i + 1) = zbits (zcw (J 61) (J 62) n) i ||| (Int32.ofInt 1 <<< (Int32.ofInt (i : Int) &&& 31)) := by rw [zbits, if_pos hc]
      rw [hz] at ih
      refine zL.step (fun N => ((b0 N).trans (if_neg hs)).trans ((z_gd_of hin _).trans ((z_gd_of hin _).trans (if_neg ?_)))) ih
      rw [lg_cmp_le]
      intro hle
      have h9 : _ < _ := of_decide_eq_true hc
      rw [y_l_lt] at h9
      rw [y_l_le] at hle
      omega
    · have hz : zbits (zcw (J 61) (J 62) n) (i + 1) = zbits (zcw (J 61) (J 62) n) i := by rw [zbits, if_neg hc]
      rw [hz] at ih
      refine zL.step (fun N => ((b0 N).trans (if_neg hs)).trans ((z_gd_of hin _).trans ((z_gd_of hin _).trans (if_pos ?_)))) ih
      rw [lg_cmp_le, y_l_le]
      refine Int.not_lt.mp (fun h9 => hc (decide_eq_true ?_))
      rw [y_l_lt]
      exact h9
/-- the law's own gap at a slice is the class's -/
theorem zl_608 (X : ZX) (N ce sl : Nat) (J : Nat → Nat → Int32) (L : Nat → Nat → Int64) (k g e h n y : Int32) (s1 s2 : Int64) (i : Nat) (hi : i < 5) : ∃ hx : Nat → ZW → ZR, z_loop X z_cf z_ff (z_run X z_cf z_ff 7) 55 (N + 1) 608 [(0, .ref 1001), (1, .ref 0), (3, .int k), (4, .int g), (12, .ref 59), (13, .ref 60), (14, .int e), (15, .int h), (16, .int n), (17, .ref 61), (18, .ref 62), (19, .long s1), (21, .long s2), (23, .int (Int32.ofInt (i : Int)))] [.int y, .int (Int32.ofInt (i : Int)), .ref 61] (0, 63, ce, sl, J, L, zeR1) = z_bi hx (z_run X z_cf z_ff 7 53 [.ref 59, .ref 60, .int (Int32.ofInt 1), .int k, .int (zgp g e i), .int y, .int h] (0, 63, ce, sl, z_up J 61 i y, L, zeR1)) (fun v w => z_loop X z_cf z_ff (z_run X z_cf z_ff 7) 55 N 669 [(0, .ref 1001), (1, .ref 0), (3, .int k), (4, .int g), (12, .ref 59), (13, .ref 60), (14, .int e), (15, .int h), (16, .int n), (17, .ref 61), (18, .ref 62), (19, .long s1), (21, .long s2), (23, .int (Int32.ofInt (i : Int)))] [.int v, .int (Int32.ofInt (i : Int)), .ref 62] w) := by
  have hin := y_inn hi (show 5 ≤ 1000000 by omega)
  have b0 := zb_L_law_608 X (z_run X z_cf z_ff 7) N ce sl J L k g e h n s1 s2 (Int32.ofInt (i : Int)) y (Int32.ofInt (i : Int))
  rw [y_ofN (by omega), z_up_s] at b0
  have n4 : ¬ (Int32.ofInt 4 : Int32) = 0 := by decide
  have n10 : ¬ (Int32.ofInt 10 : Int32) = 0 := by decide
  rcases (show i = 0 ∨ i = 1 ∨ i = 2 ∨ i = 3 ∨ i = 4 by omega) with q | q | q | q | q <;> subst q
  · exact ⟨_, b0.trans ((z_gd_of hin _).trans ((if_neg (by decide)).trans ((if_neg n4).trans ((if_pos (by decide)).trans ((if_neg n10).trans (z_gd_of hin _))))))⟩
  · have eg : z_mxi (Int32.ofInt 0) (g + e / Int32.ofInt 10) = zgp g e 1 := by
      unfold zgp
      rw [show z_bend 1 = 1 from rfl, Int32.one_mul]
    rw [eg] at b0
    exact ⟨_, b0.trans ((z_gd_of hin _).trans ((if_neg (by decide)).trans ((if_neg n4).trans ((if_neg (by decide)).trans ((if_neg n10).trans (z_gd_of hin _))))))⟩
  · have eg : z_mxi (Int32.ofInt 0) (g + Int32.ofInt 0) = zgp g e 2 := by
      unfold zgp
      rw [show z_bend 2 = 0 from rfl, Int32.zero_mul, show (0 / Int32.ofInt 10 : Int32) = Int32.ofInt 0 from rfl]
    rw [eg] at b0
    exact ⟨_, b0.trans ((z_gd_of hin _).trans ((if_pos (by decide)).trans (z_gd_of hin _)))⟩
  · have eg : z_mxi (Int32.ofInt 0) (g + e / Int32.ofInt 10) = zgp g e 3 := by
      unfold zgp
      rw [show z_bend 3 = 1 from rfl, Int32.one_mul]
    rw [eg] at b0
    exact ⟨_, b0.trans ((z_gd_of hin _).trans ((if_neg (by decide)).trans ((if_neg n4).trans ((if_neg (by decide)).trans ((if_neg n10).trans (z_gd_of hin _))))))⟩
  · exact ⟨_, b0.trans ((z_gd_of hin _).trans ((if_neg (by decide)).trans ((if_neg n4).trans ((if_pos (by decide)).trans ((if_neg n10).trans (z_gd_of hin _))))))⟩
theorem z_upr (J : Nat → Nat → Int32) (c i j : Nat) (v : Int32) : z_up J c i v c j = if j = i then v else J c j := by
  by_cases h : j = i
  · rw [if_pos h, h, z_up_s]
  · rw [if_neg h, z_up_k]
    exact z_beq_ne h
theorem zl_582 (X : ZX) (hX : X.1 ≤ 260) (ce sl : Nat) (L : Nat → Nat → Int64) (k g h e n : Int32) (hcs : zcs ce sl) (he : -60 ≤ e.toInt ∧ e.toInt ≤ 60) (hn : 0 ≤ n.toInt ∧ n.toInt ≤ 200) : ∀ (m i : Nat) (J : Nat → Nat → Int32), i + m = 5 → zLs J k g h → zSl J k g h e i → zL X 582 [(0, .ref 1001), (1, .ref 0), (3, .int k), (4, .int g), (12, .ref 59), (13, .ref 60), (14, .int e), (15, .int h), (16, .int n), (17, .ref 61), (18, .ref 62), (19, .long (zsum (fun j => (J 61 j).toInt64) i)), (21, .long (zsum (fun j => (J 62 j).toInt64) i)), (23, .int (Int32.ofInt (i : Int)))] [] (0, 63, ce, sl, J, L, zeR1) := by
  intro m
  induction m with
  | zero =>
    intro i J hi hJ hS
    have : i = 5 := by omega
    subst this
    exact zL.step (fun N => (zb_L_law_582 X _ N ce sl J L _ _ _ _ _ _ _ _).trans (if_pos (by decide))) (zl_704 X ce sl J L k g h e n hcs hJ hS he hn 5 0 rfl)
  | succ m ih =>
    intro i J hi hJ hS
    have hi5 : i < 5 := by omega
    have hs : ¬ Int32.ofInt 5 ≤ Int32.ofInt (i : Int) := by
      rw [y_i_le, y_ofn (by omega), show (Int32.ofInt 5).toInt = 5 from rfl]; omega
    have hin := y_inn hi5 (show 5 ≤ 1000000 by omega)
    have ek : (Int32.ofInt 24 + Int32.ofInt (i : Int)).toInt = 24 + i := by
      rw [y_ad (by rw [y_ofn (by omega), show (Int32.ofInt 24).toInt = 24 from rfl]; omega) (by rw [y_ofn (by omega), show (Int32.ofInt 24).toInt = 24 from rfl]; omega), y_ofn (by omega), show (Int32.ofInt 24).toInt = 24 from rfl]
    refine zL.step (fun N => ((zb_L_law_582 X _ N ce sl J L _ _ _ _ _ _ _ _).trans (if_neg hs)).trans (z_bi_of (zr_cell X hX 6 _ _ (by rw [ek]; omega)))) ?_
    obtain ⟨y, hy, y1, y2, -⟩ := zr_from X 6 (0, 63, ce, sl, J, L, zeR1) (zcel X (Int32.ofInt 24 + Int32.ofInt (i : Int)).toInt.toNat) (Int32.ofInt 1) (Int32.ofInt 250) (by decide) (by decide) (by decide)
    rw [y_1] at y1
    rw [show (Int32.ofInt 250).toInt = 250 from rfl] at y2
    refine zL.step (fun N => (zb_L_law_601 X _ N ce sl J L _ _ _ _ _ _ _ _ _ _).trans (z_bi_of hy)) ?_
    obtain ⟨j1, j2, j3, j4, j5, j6, j7, j8⟩ := hJ
    have hgb := zgp_b hi5 j8 he
    obtain ⟨v, hv, hvO⟩ := zr_lout X 5 ce sl (z_up J 61 i y) L k (zgp g e i) y h (by show zN (J 60 0).toInt (J 59 0).toInt h.toInt k.toInt; rw [j5, j6]; exact j7) ⟨y1, by omega⟩ hgb
    have hvO : zOut (J 60 0).toInt (J 59 0).toInt h.toInt k.toInt (zgp g e i).toInt y.toInt v.toInt := hvO
    rw [j5, j6] at hvO
    refine zL.step (fun N => (zl_608 X N ce sl J L k g e h n y _ _ i hi5).choose_spec.trans (z_bi_of hv)) ?_
    have b1 := fun N => zb_L_law_669 X (z_run X z_cf z_ff 7) N ce sl (z_up J 61 i y) L k g e h n (zsum (fun j => (J 61 j).toInt64) i) (zsum (fun j => (J 62 j).toInt64) i) (Int32.ofInt (i : Int)) v (Int32.ofInt (i : Int))
    rw [y_ofN (by omega), y_ofs (by omega), z_up_s] at b1
    refine zL.step (fun N => (b1 N).trans ((z_gd_of hin _).trans ((z_gd_of hin _).trans (z_gd_of hin _)))) ?_
    obtain ⟨K, hK⟩ : ∃ K, K = z_up (z_up J 61 i y) 62 i v := ⟨_, rfl⟩
    have k61 : ∀ j, K 61 j = if j = i then y else J 61 j := fun j => by rw [hK]; exact z_upr J 61 i j y
    have k62 : ∀ j, K 62 j = if j = i then v else J 62 j := fun j => by rw [hK]; exact z_upr (z_up J 61 i y) 62 i j v
    have kr : ∀ c j, c ≠ 61 → c ≠ 62 → K c j = J c j := fun c j h1 h2 => by
      rw [hK, z_up_a _ _ _ _ _ _ (z_beq_ne h2), z_up_a _ _ _ _ _ _ (z_beq_ne h1)]
    have e1 : zsum (fun j => (J 61 j).toInt64) i + y.toInt64 = zsum (fun j => (K 61 j).toInt64) (i + 1) := by
      rw [zsum, zsum_c i (fun j hj => by rw [k61, if_neg (by omega)] : ∀ j < i, (K 61 j).toInt64 = (J 61 j).toInt64), k61, if_pos rfl]
    have e2 : zsum (fun j => (J 62 j).toInt64) i + v.toInt64 = zsum (fun j => (K 62 j).toInt64) (i + 1) := by
      rw [zsum, zsum_c i (fun j hj => by rw [k62, if_neg (by omega)] : ∀ j < i, (K 62 j).toInt64 = (J 62 j).toInt64), k62, if_pos rfl]
    rw [z_up_s, e1, e2, ← hK]
    refine ih (i + 1) K (by omega) ?_ ?_
    · refine ⟨⟨?_, ?_, ?_, ?_⟩, ?_, ?_, ?_, ?_, ?_, ?_, j8⟩
      · rw [kr 2 2 (by decide) (by decide)]; exact j1.1
      · rw [kr 3 0 (by decide) (by decide)]; exact j1.2.1
      · rw [kr 4 0 (by decide) (by decide)]; exact j1.2.2.1
      · rw [kr 55 9 (by decide) (by decide)]; exact j1.2.2.2
      · rw [kr 5 2 (by decide) (by decide)]; exact j2
      · rw [kr 55 0 (by decide) (by decide)]; exact j3
      · rw [kr 55 8 (by decide) (by decide)]; exact j4
      · rw [kr 59 0 (by decide) (by decide), kr 3 1 (by decide) (by decide)]; exact j5
      · rw [kr 60 0 (by decide) (by decide), kr 4 1 (by decide) (by decide)]; exact j6
      · rw [kr 4 1 (by decide) (by decide), kr 3 1 (by decide) (by decide)]; exact j7
    · intro j hj
      rw [k61, k62, kr 4 1 (by decide) (by decide), kr 3 1 (by decide) (by decide)]
      by_cases hji : j = i
      · rw [if_pos hji, if_pos hji, hji]
        exact ⟨⟨y1, y2⟩, hvO⟩
      · rw [if_neg hji, if_neg hji]
        exact hS j (by omega)
