/-! THE LAW, 2: from its marks to its slices -/
/-- what the class holds before a point is told -/
def zL0 (J : Nat → Nat → Int32) (t k g : Int32) : Prop := J 2 2 = 0 ∧ J 3 0 = 0 ∧ J 4 0 = 0 ∧ J 55 9 = 0 ∧ J 5 2 = Int32.ofInt 1 ∧ J 55 0 = k ∧ J 55 8 = g ∧ J 55 6 = t ∧ (1 ≤ k.toInt ∧ k.toInt ≤ 99) ∧ (0 ≤ g.toInt ∧ g.toInt ≤ 200) ∧ (100 ≤ t.toInt ∧ t.toInt ≤ 400)
theorem zl_439 (X : ZX) (hX : X.1 ≤ 260) (ce sl : Nat) (J : Nat → Nat → Int32) (L : Nat → Nat → Int64) (t k g r : Int32) (hcs : ce ≤ 90 ∧ sl ≤ 19000) (hJ : zL0 J t k g) : zL X 439 [(0, .ref 1001), (1, .ref 0), (3, .int k), (4, .int g), (11, .int r)] [.int r] (0, 59, ce, sl, J, L, zeR1) := by
  obtain ⟨j1, j2, j3, j4, j5, j6, j7, j8, hk, hg, -⟩ := hJ
  have i0 : z_in (Int32.ofInt 0) 3 = true := y_in_t (by decide) (by decide)
  have i1 : z_in (Int32.ofInt 1) 3 = true := y_in_t (by decide) (by decide)
  have i2 : z_in (Int32.ofInt 2) 3 = true := y_in_t (by decide) (by decide)
  have e0 : (Int32.ofInt 0).toNatClampNeg = 0 := rfl
  refine zL.step (fun N => ((zb_L_law_439 X _ N ce sl J L _ _ _ _).trans (if_pos rfl)).trans (z_bi_of (zr_cell X hX 6 _ (Int32.ofInt 20) (by decide)))) ?_
  obtain ⟨a, ha, a1, a2, -⟩ := zr_from X 6 (0, 60, ce + 1, sl + 3, J, L, zeR1) (zcel X (Int32.ofInt 20).toInt.toNat) (Int32.ofInt 1) (Int32.ofInt 40) (by decide) (by decide) (by decide)
  rw [y_1] at a1
  rw [show (Int32.ofInt 40).toInt = 40 from rfl] at a2
  refine zL.step (fun N => (zb_L_law_457 X _ N _ _ J L _ _ _ _).trans (z_bi_of ha)) ?_
  obtain ⟨Ja, hJa⟩ : ∃ Ja, Ja = z_up (z_up (z_up J 59 0 a) 59 1 (Int32.ofInt 0)) 59 2 (Int32.ofInt 0) := ⟨_, rfl⟩
  have b1 := fun N => zb_L_law_463 X (z_run X z_cf z_ff 7) N (ce + 1) (sl + 3) J L k g a (Int32.ofInt 0)
  rw [e0, ← hJa] at b1
  refine zL.step (fun N => (b1 N).trans ((z_gd_of i0 _).trans ((z_gd_of i1 _).trans ((z_gd_of i2 _).trans (z_bi_of (zr_cell X hX 6 _ (Int32.ofInt 20) (by decide))))))) ?_
  obtain ⟨b, hb, c1, c2, -⟩ := zr_from X 6 (0, 61, ce + 1 + 1, sl + 3 + 3, Ja, L, zeR1) (zcel X (Int32.ofInt 20).toInt.toNat >>> (Int32.ofInt 6 &&& 31)) (Int32.ofInt 1) (Int32.ofInt 900) (by decide) (by decide) (by decide)
  rw [y_1] at c1
  rw [show (Int32.ofInt 900).toInt = 900 from rfl] at c2
  refine zL.step (fun N => (zb_L_law_485 X _ N _ _ Ja L _ _ _ _).trans (z_bi_of hb)) ?_
  obtain ⟨Jb, hJb⟩ : ∃ Jb, Jb = z_up (z_up (z_up Ja 60 0 b) 60 1 (Int32.ofInt 0)) 60 2 (Int32.ofInt 0) := ⟨_, rfl⟩
  have b2 := fun N => zb_L_law_495 X (z_run X z_cf z_ff 7) N (ce + 1 + 1) (sl + 3 + 3) Ja L k g b (Int32.ofInt 0)
  rw [e0, ← hJb] at b2
  have f59 : Ja 59 0 = a := by rw [hJa]
  have f60 : Jb 60 0 = b := by rw [hJb]
  have g59 : Jb 59 0 = a := by rw [hJb]; exact f59
  have gr : ∀ c j, c ≠ 59 → c ≠ 60 → Jb c j = J c j := fun c j h1 h2 => by
    rw [hJb, z_up_a _ _ _ _ _ _ (z_beq_ne h2), z_up_a _ _ _ _ _ _ (z_beq_ne h2), z_up_a _ _ _ _ _ _ (z_beq_ne h2), hJa, z_up_a _ _ _ _ _ _ (z_beq_ne h1), z_up_a _ _ _ _ _ _ (z_beq_ne h1), z_up_a _ _ _ _ _ _ (z_beq_ne h1)]
  rw [f59, f60] at b2
  obtain ⟨v, hv⟩ := zr_point X 4 (ce + 1 + 1) (sl + 3 + 3) Jb L a b (by rw [gr 2 2 (by decide) (by decide)]; exact j1) (by rw [gr 3 0 (by decide) (by decide)]; exact j2) (by rw [gr 4 0 (by decide) (by decide)]; exact j3) ⟨a1, by omega⟩ ⟨c1, by omega⟩
  refine zL.step (fun N => (b2 N).trans ((z_gd_of i0 _).trans ((z_gd_of i1 _).trans ((z_gd_of i2 _).trans ((z_gd_of i0 _).trans ((z_gd_of i0 _).trans (z_bi_of hv))))))) ?_
  obtain ⟨Jc, hJc⟩ : ∃ Jc, Jc = z_up (z_up (z_up Jb 2 2 (Int32.ofInt 1)) 3 1 a) 4 1 b := ⟨_, rfl⟩
  rw [← hJc]
  refine zL.step (fun N => (zb_L_law_518 X _ N _ _ Jc L _ _ _).trans (z_bi_of (zr_cell X hX 6 _ (Int32.ofInt 21) (by decide)))) ?_
  obtain ⟨e, he, d1, d2, -⟩ := zr_from X 6 (0, 61, ce + 1 + 1, sl + 3 + 3, Jc, L, zeR1) (zcel X (Int32.ofInt 21).toInt.toNat) (Int32.ofInt (-60)) (Int32.ofInt 60) (by decide) (by decide) (by decide)
  rw [show (Int32.ofInt (-60)).toInt = -60 from rfl] at d1
  rw [show (Int32.ofInt 60).toInt = 60 from rfl] at d2
  refine zL.step (fun N => (zb_L_law_525 X _ N _ _ Jc L _ _ _).trans (z_bi_of he)) ?_
  refine zL.step (fun N => (zb_L_law_532 X _ N _ _ Jc L _ _ _).trans (z_bi_of (zr_cell X hX 6 _ (Int32.ofInt 22) (by decide)))) ?_
  obtain ⟨h, hh, h1, h2, -⟩ := zr_from X 6 (0, 61, ce + 1 + 1, sl + 3 + 3, Jc, L, zeR1) (zcel X (Int32.ofInt 22).toInt.toNat) (Int32.ofInt 1) (Int32.ofInt 60) (by decide) (by decide) (by decide)
  rw [y_1] at h1
  rw [show (Int32.ofInt 60).toInt = 60 from rfl] at h2
  refine zL.step (fun N => (zb_L_law_540 X _ N _ _ Jc L _ _ _ _).trans (z_bi_of hh)) ?_
  refine zL.step (fun N => (zb_L_law_546 X _ N _ _ Jc L _ _ _ _).trans (z_bi_of (zr_cell X hX 6 _ (Int32.ofInt 23) (by decide)))) ?_
  obtain ⟨n, hn, n1, n2, -⟩ := zr_from X 6 (0, 61, ce + 1 + 1, sl + 3 + 3, Jc, L, zeR1) (zcel X (Int32.ofInt 23).toInt.toNat) (Int32.ofInt 0) (Int32.ofInt 200) (by decide) (by decide) (by decide)
  rw [y_0] at n1
  rw [show (Int32.ofInt 200).toInt = 200 from rfl] at n2
  refine zL.step (fun N => (zb_L_law_554 X _ N _ _ Jc L _ _ _ _ _).trans (z_bi_of hn)) ?_
  refine zL.step (fun N => zb_L_law_561 X _ N _ _ Jc L _ _ _ _ _) ?_
  have p41 : Jc 4 1 = b := by rw [hJc]
  have p31 : Jc 3 1 = a := by rw [hJc]
  have p22 : Jc 2 2 = Int32.ofInt 1 := by rw [hJc]
  have p30 : Jc 3 0 = Jb 3 0 := by rw [hJc]
  have p40 : Jc 4 0 = Jb 4 0 := by rw [hJc]
  have pr : ∀ c j, c ≠ 2 → c ≠ 3 → c ≠ 4 → Jc c j = Jb c j := fun c j q1 q2 q3 => by
    rw [hJc, z_up_a _ _ _ _ _ _ (z_beq_ne q3), z_up_a _ _ _ _ _ _ (z_beq_ne q2), z_up_a _ _ _ _ _ _ (z_beq_ne q1)]
  refine zl_582 X hX _ _ L k g h e n ⟨by omega, by omega⟩ ⟨d1, d2⟩ ⟨n1, n2⟩ 5 0 Jc rfl ?_ (fun j hj => by omega)
  refine ⟨⟨p22, ?_, ?_, ?_⟩, ?_, ?_, ?_, ?_, ?_, ?_, hg⟩
  · rw [p30, gr 3 0 (by decide) (by decide)]; exact j2
  · rw [p40, gr 4 0 (by decide) (by decide)]; exact j3
  · rw [pr 55 9 (by decide) (by decide) (by decide), gr 55 9 (by decide) (by decide)]; exact j4
  · rw [pr 5 2 (by decide) (by decide) (by decide), gr 5 2 (by decide) (by decide)]; exact j5
  · rw [pr 55 0 (by decide) (by decide) (by decide), gr 55 0 (by decide) (by decide)]; exact j6
  · rw [pr 55 8 (by decide) (by decide) (by decide), gr 55 8 (by decide) (by decide)]; exact j7
  · rw [pr 59 0 (by decide) (by decide) (by decide), p31]; exact g59
  · rw [pr 60 0 (by decide) (by decide) (by decide), p41]; exact f60
  · rw [p41, p31]; exact ⟨⟨c1, c2⟩, ⟨a1, a2⟩, ⟨h1, h2⟩, hk⟩
/-- the locals of the marks' loops -/
abbrev zlM (n : Nat) (t k g x y e : Int32) (r : ZL) : ZL := (0, .ref 1001) :: (1, .ref 0) :: (2, .int t) :: (3, .int k) :: (4, .int g) :: (5, .int x) :: (6, .int y) :: (7, .int e) :: (8, .int (Int32.ofInt (n : Int))) :: (9, .ref 57) :: (10, .ref 58) :: r
theorem zl_310 (X : ZX) (ce sl n : Nat) (J : Nat → Nat → Int32) (L : Nat → Nat → Int64) (t k g x y e c i1 : Int32) (W : Int64) (ht : 100 ≤ t.toInt ∧ t.toInt ≤ 400) (hx : 1 ≤ x.toInt ∧ x.toInt ≤ 50) (hy : 1 ≤ y.toInt ∧ y.toInt ≤ 50) (he : 0 ≤ e.toInt ∧ e.toInt ≤ 12) (hW : 0 ≤ W.toInt ∧ W.toInt ≤ 5000000)
    (hfin : ∀ r : Int32, ((r = Int32.ofInt 1 ∧ ¬ c = 0 ∧ zNear W.toInt (t.toInt * x.toInt) (e.toInt * y.toInt)) ∨ (r = Int32.ofInt 0 ∧ (c = 0 ∨ ¬ zNear W.toInt (t.toInt * x.toInt) (e.toInt * y.toInt)))) → zL X 280 (zlM n t k g x y e [(11, .int r), (12, .int (i1 + Int32.ofInt 1))]) [] (0, 59, ce, sl, J, L, zeR1)) :
    ∀ (m : Nat) (u : Int64) (b : Int32), 1 ≤ u.toInt → W.toInt + e.toInt * y.toInt + t.toInt * x.toInt - u.toInt * (t.toInt * x.toInt) < m → u.toInt * (t.toInt * x.toInt) ≤ W.toInt + e.toInt * y.toInt + 2 * (t.toInt * x.toInt) → ((b = Int32.ofInt 0 ∧ ∀ q : Int, 1 ≤ q → q < u.toInt → ¬ (W.toInt - q * (t.toInt * x.toInt) ≤ e.toInt * y.toInt ∧ q * (t.toInt * x.toInt) - W.toInt ≤ e.toInt * y.toInt)) ∨ (b = Int32.ofInt 1 ∧ zNear W.toInt (t.toInt * x.toInt) (e.toInt * y.toInt))) →
    zL X 310 (zlM n t k g x y e [(11, .int c), (12, .int i1), (13, .int b), (14, .long W), (16, .long u)]) [] (0, 59, ce, sl, J, L, zeR1) := by
  have t0 : 100 * 1 ≤ t.toInt * x.toInt := Int.le_trans (Int.mul_le_mul_of_nonneg_right ht.1 (by omega)) (Int.mul_le_mul_of_nonneg_left hx.1 (by omega))
  have t1 : t.toInt * x.toInt ≤ 400 * 50 := Int.le_trans (Int.mul_le_mul_of_nonneg_right ht.2 (by omega)) (Int.mul_le_mul_of_nonneg_left hx.2 (by omega))
  have f0 : 0 ≤ e.toInt * y.toInt := Int.mul_nonneg he.1 (by omega)
  have f1 : e.toInt * y.toInt ≤ 12 * 50 := Int.le_trans (Int.mul_le_mul_of_nonneg_right he.2 (by omega)) (Int.mul_le_mul_of_nonneg_left hy.2 (by omega))
  have eT : (t.toInt64 * x.toInt64).toInt = t.toInt * x.toInt := by rw [y_mu8 (by rw [y_il, y_il]; omega) (by rw [y_il, y_il]; omega), y_il, y_il]
  have ef : (e.toInt64 * y.toInt64).toInt = e.toInt * y.toInt := by rw [y_mu8 (by rw [y_il, y_il]; omega) (by rw [y_il, y_il]; omega), y_il, y_il]
  have l1 : (Int64.ofInt 1).toInt = 1 := rfl
  have eR : (W + e.toInt64 * y.toInt64 + t.toInt64 * x.toInt64).toInt = W.toInt + e.toInt * y.toInt + t.toInt * x.toInt := by
    have : (W + e.toInt64 * y.toInt64).toInt = W.toInt + e.toInt * y.toInt := by rw [y_ad8 (by rw [ef]; omega) (by rw [ef]; omega), ef]
    rw [y_ad8 (by rw [this, eT]; omega) (by rw [this, eT]; omega), this, eT]
  intro m
  induction m with
  | zero =>
    intro u b hu hm hub hb
    -- past the last one
    have hT : (u * t.toInt64).toInt = u.toInt * t.toInt ∧ (u * t.toInt64 * x.toInt64).toInt = u.toInt * (t.toInt * x.toInt) := by
      have q1 : u.toInt * t.toInt ≤ u.toInt * (t.toInt * x.toInt) := Int.mul_le_mul_of_nonneg_left (by have := Int.mul_le_mul_of_nonneg_left hx.1 (show (0 : Int) ≤ t.toInt by omega); omega) (by omega)
      have q0 : 0 ≤ u.toInt * t.toInt := Int.mul_nonneg (by omega) (by omega)
      have e1 : (u * t.toInt64).toInt = u.toInt * t.toInt := by rw [y_mu8 (by rw [y_il]; omega) (by rw [y_il]; omega), y_il]
      refine ⟨e1, ?_⟩
      have e2 : u.toInt * t.toInt * x.toInt = u.toInt * (t.toInt * x.toInt) := Int.mul_assoc _ _ _
      rw [y_mu8 (by rw [e1, y_il, e2]; omega) (by rw [e1, y_il, e2]; omega), e1, y_il, e2]
    have hp : 0 < lg_cmp (u * t.toInt64 * x.toInt64) (W + e.toInt64 * y.toInt64 + t.toInt64 * x.toInt64) := by
      rw [lg_cmp_gt, y_l_lt, eR, hT.2]; omega
    have hnear : (b = Int32.ofInt 0 ∧ ¬ zNear W.toInt (t.toInt * x.toInt) (e.toInt * y.toInt)) ∨ (b = Int32.ofInt 1 ∧ zNear W.toInt (t.toInt * x.toInt) (e.toInt * y.toInt)) := by
      rcases hb with ⟨hb0, hq⟩ | hb1
      · refine Or.inl ⟨hb0, fun ⟨q, h1, h2, h3⟩ => ?_⟩
        rcases Int.lt_or_le q u.toInt with h4 | h4
        · exact hq q h1 h4 ⟨h2, h3⟩
        · have := Int.mul_le_mul_of_nonneg_right h4 (show (0 : Int) ≤ t.toInt * x.toInt by omega)
          omega
      · exact Or.inr hb1
    by_cases hc : c = 0
    · exact zL.step (fun N => ((zb_L_law_310 X _ N ce sl J L _ _ _ _ _ _ _ _ _ _ _ _).trans (if_pos hp)).trans (if_pos hc)) (hfin _ (Or.inr ⟨rfl, Or.inl hc⟩))
    · rcases hnear with ⟨h0, hn⟩ | ⟨h1, hn⟩
      · exact zL.step (fun N => ((zb_L_law_310 X _ N ce sl J L _ _ _ _ _ _ _ _ _ _ _ _).trans (if_pos hp)).trans ((if_neg hc).trans (if_pos h0))) (hfin _ (Or.inr ⟨rfl, Or.inr hn⟩))
      · exact zL.step (fun N => ((zb_L_law_310 X _ N ce sl J L _ _ _ _ _ _ _ _ _ _ _ _).trans (if_pos hp)).trans ((if_neg hc).trans (if_neg (by rw [h1]; decide)))) (hfin _ (Or.inl ⟨rfl, hc, hn⟩))
  | succ m ih =>
    intro u b hu hm hub hb
    have hT : (u * t.toInt64).toInt = u.toInt * t.toInt ∧ (u * t.toInt64 * x.toInt64).toInt = u.toInt * (t.toInt * x.toInt) := by
      have q1 : u.toInt * t.toInt ≤ u.toInt * (t.toInt * x.toInt) := Int.mul_le_mul_of_nonneg_left (by have := Int.mul_le_mul_of_nonneg_left hx.1 (show (0 : Int) ≤ t.toInt by omega); omega) (by omega)
      have q0 : 0 ≤ u.toInt * t.toInt := Int.mul_nonneg (by omega) (by omega)
      have e1 : (u * t.toInt64).toInt = u.toInt * t.toInt := by rw [y_mu8 (by rw [y_il]; omega) (by rw [y_il]; omega), y_il]
      refine ⟨e1, ?_⟩
      have e2 : u.toInt * t.toInt * x.toInt = u.toInt * (t.toInt * x.toInt) := Int.mul_assoc _ _ _
      rw [y_mu8 (by rw [e1, y_il, e2]; omega) (by rw [e1, y_il, e2]; omega), e1, y_il, e2]
    by_cases hp : 0 < lg_cmp (u * t.toInt64 * x.toInt64) (W + e.toInt64 * y.toInt64 + t.toInt64 * x.toInt64)
    · have hp2 := hp
      rw [lg_cmp_gt, y_l_lt, eR, hT.2] at hp2
      have hnear : (b = Int32.ofInt 0 ∧ ¬ zNear W.toInt (t.toInt * x.toInt) (e.toInt * y.toInt)) ∨ (b = Int32.ofInt 1 ∧ zNear W.toInt (t.toInt * x.toInt) (e.toInt * y.toInt)) := by
        rcases hb with ⟨hb0, hq⟩ | hb1
        · refine Or.inl ⟨hb0, fun ⟨q, h1, h2, h3⟩ => ?_⟩
          rcases Int.lt_or_le q u.toInt with h4 | h4
          · exact hq q h1 h4 ⟨h2, h3⟩
          · have := Int.mul_le_mul_of_nonneg_right h4 (show (0 : Int) ≤ t.toInt * x.toInt by omega)
            omega
        · exact Or.inr hb1
      by_cases hc : c = 0
      · exact zL.step (fun N => ((zb_L_law_310 X _ N ce sl J L _ _ _ _ _ _ _ _ _ _ _ _).trans (if_pos hp)).trans (if_pos hc)) (hfin _ (Or.inr ⟨rfl, Or.inl hc⟩))
      · rcases hnear with ⟨h0, hn⟩ | ⟨h1, hn⟩
        · exact zL.step (fun N => ((zb_L_law_310 X _ N ce sl J L _ _ _ _ _ _ _ _ _ _ _ _).trans (if_pos hp)).trans ((if_neg hc).trans (if_pos h0))) (hfin _ (Or.inr ⟨rfl, Or.inr hn⟩))
        · exact zL.step (fun N => ((zb_L_law_310 X _ N ce sl J L _ _ _ _ _ _ _ _ _ _ _ _).trans (if_pos hp)).trans ((if_neg hc).trans (if_neg (by rw [h1]; decide)))) (hfin _ (Or.inl ⟨rfl, hc, hn⟩))
    · have hp2 := hp
      rw [lg_cmp_gt, y_l_lt, eR, hT.2] at hp2
      have u5 : u.toInt ≤ u.toInt * (t.toInt * x.toInt) := by
        have := Int.mul_le_mul_of_nonneg_left (show (1 : Int) ≤ t.toInt * x.toInt by omega) (show (0 : Int) ≤ u.toInt by omega)
        omega
      have eu : (u + Int64.ofInt 1).toInt = u.toInt + 1 := by rw [y_ad8 (by rw [l1]; omega) (by rw [l1]; omega), l1]
      have em : (u.toInt + 1) * (t.toInt * x.toInt) = u.toInt * (t.toInt * x.toInt) + t.toInt * x.toInt := by rw [Int.add_mul, Int.one_mul]
      have ea : (W - u * t.toInt64 * x.toInt64).toInt = W.toInt - u.toInt * (t.toInt * x.toInt) := by
        have : 0 ≤ u.toInt * (t.toInt * x.toInt) := by omega
        rw [y_sb8 (by rw [hT.2]; omega) (by rw [hT.2]; omega), hT.2]
      have ca := y_abl (x := W - u * t.toInt64 * x.toInt64) (by rw [ea]; omega) (e.toInt64 * y.toInt64).toInt
      rw [ea, ef] at ca
      have go : ∀ b' : Int32, ((b' = Int32.ofInt 0 ∧ ∀ q : Int, 1 ≤ q → q < u.toInt + 1 → ¬ (W.toInt - q * (t.toInt * x.toInt) ≤ e.toInt * y.toInt ∧ q * (t.toInt * x.toInt) - W.toInt ≤ e.toInt * y.toInt)) ∨ (b' = Int32.ofInt 1 ∧ zNear W.toInt (t.toInt * x.toInt) (e.toInt * y.toInt))) → zL X 310 (zlM n t k g x y e [(11, .int c), (12, .int i1), (13, .int b'), (14, .long W), (16, .long (u + Int64.ofInt 1))]) [] (0, 59, ce, sl, J, L, zeR1) := fun b' h => by
        refine ih (u + Int64.ofInt 1) b' (by omega) ?_ ?_ ?_
        · rw [eu, em]; omega
        · rw [eu, em]; omega
        · rw [eu]; exact h
      rcases hb with ⟨hb0, hq⟩ | ⟨hb1, hyes⟩
      · by_cases hz : (z_abl (W - u * t.toInt64 * x.toInt64)).toInt ≤ e.toInt * y.toInt
        · have hz2 := ca.mp hz
          refine zL.step (fun N => ((zb_L_law_310 X _ N ce sl J L _ _ _ _ _ _ _ _ _ _ _ _).trans (if_neg hp)).trans ((if_pos hb0).trans (if_neg ?_))) (go _ (Or.inr ⟨rfl, u.toInt, hu, hz2.1, by omega⟩))
          rw [lg_cmp_gt, y_l_lt, ef]; omega
        · refine zL.step (fun N => ((zb_L_law_310 X _ N ce sl J L _ _ _ _ _ _ _ _ _ _ _ _).trans (if_neg hp)).trans ((if_pos hb0).trans (if_pos ?_))) (go _ (Or.inl ⟨rfl, fun q h1 h2 h3 => ?_⟩))
          · rw [lg_cmp_gt, y_l_lt, ef]; omega
          · by_cases hqu : q = u.toInt
            · rw [hqu] at h3
              exact hz (ca.mpr ⟨h3.1, by omega⟩)
            · exact hq q h1 (by omega) h3
      · exact zL.step (fun N => ((zb_L_law_310 X _ N ce sl J L _ _ _ _ _ _ _ _ _ _ _ _).trans (if_neg hp)).trans (if_neg (by rw [hb1]; decide))) (go _ (Or.inr ⟨rfl, hyes⟩))
theorem zl_280 (X : ZX) (hX : X.1 ≤ 260) (ce sl : Nat) (J : Nat → Nat → Int32) (L : Nat → Nat → Int64) (t k g x y e : Int32) (hcs : ce ≤ 90 ∧ sl ≤ 19000) (hJ : zL0 J t k g) (hx : 1 ≤ x.toInt ∧ x.toInt ≤ 50) (hy : 1 ≤ y.toInt ∧ y.toInt ≤ 50) (he : 0 ≤ e.toInt ∧ e.toInt ≤ 12) (ha : ∀ j < z_mny X, 0 ≤ (J 57 j).toInt ∧ (J 57 j).toInt ≤ 99999) (hr : ∀ j, j + 1 < z_mny X → (J 57 j).toInt < (J 57 (j + 1)).toInt) (hL : ∀ q < 4, L 58 q = zwd (J 57) (z_mny X) q) : ∀ (m i : Nat) (c : Int32), i + m = z_mny X → 1 ≤ i → ((c = Int32.ofInt 1 ∧ zAll (J 57) i (t.toInt * x.toInt) y.toInt e.toInt) ∨ (c = Int32.ofInt 0 ∧ ¬ zAll (J 57) i (t.toInt * x.toInt) y.toInt e.toInt)) →
    zL X 280 (zlM (z_mny X) t k g x y e [(11, .int c), (12, .int (Int32.ofInt (i : Int)))]) [] (0, 59, ce, sl, J, L, zeR1) := by
  have hm2 : 2 ≤ z_mny X := by unfold z_mny; omega
  have hm10 := z_mny_le X
  have hJ0 := hJ
  obtain ⟨-, -, -, -, j5, -, -, j8, -, -, ht⟩ := hJ
  intro m
  induction m with
  | zero =>
    intro i c hi hi1 hc
    have : i = z_mny X := by omega
    subst this
    obtain ⟨v, hv, hvc⟩ := zr_fits X 1 ce sl J L (J 57) (z_mny X) ⟨hm2, hm10⟩ ha hr e x y j5 (by rw [j8]; exact ht) he hx hy
    rw [j8] at hvc
    have hvc2 : v = c := by
      rcases hvc with ⟨h1, h2⟩ | ⟨h1, h2⟩ <;> rcases hc with ⟨h3, h4⟩ | ⟨h3, h4⟩
      · rw [h1, h3]
      · exact absurd h2 h4
      · exact absurd h4 h2
      · rw [h1, h3]
    subst hvc2
    have i0 : z_in (Int32.ofInt 0) 4 = true := y_in_t (by decide) (by decide)
    have i1 : z_in (Int32.ofInt 1) 4 = true := y_in_t (by decide) (by decide)
    have i2 : z_in (Int32.ofInt 2) 4 = true := y_in_t (by decide) (by decide)
    have i3 : z_in (Int32.ofInt 3) 4 = true := y_in_t (by decide) (by decide)
    have b0 := fun N => zb_L_law_280 X (z_run X z_cf z_ff 7) N ce sl J L t k g x y e (Int32.ofInt (z_mny X : Int)) v (Int32.ofInt (z_mny X : Int))
    rw [hL 0 (by omega), hL 1 (by omega), hL 2 (by omega), hL 3 (by omega)] at b0
    refine zL.step (fun N => ((b0 N).trans (if_pos (by rw [y_i_le]; omega))).trans ((z_gd_of i0 _).trans ((z_gd_of i1 _).trans ((z_gd_of i2 _).trans ((z_gd_of i3 _).trans (z_bi_of hv)))))) ?_
    exact zl_439 X hX ce sl J L t k g v hcs hJ0
  | succ m ih =>
    intro i c hi hi1 hc
    have hin : i < z_mny X := by omega
    have hai := ha i hin
    have ha0 := ha 0 (by omega)
    have hri := z_rise hr i hin
    have hs : ¬ Int32.ofInt (z_mny X : Int) ≤ Int32.ofInt (i : Int) := by
      rw [y_i_le, y_ofn (by omega), y_ofn (by omega)]; omega
    have eD : (J 57 i - J 57 0).toInt = (J 57 i).toInt - (J 57 0).toInt := y_sb (by omega) (by omega)
    have w0 : 0 ≤ ((J 57 i).toInt - (J 57 0).toInt) * y.toInt := Int.mul_nonneg (by omega) (by omega)
    have w1 : ((J 57 i).toInt - (J 57 0).toInt) * y.toInt ≤ 99999 * 50 := Int.le_trans (Int.mul_le_mul_of_nonneg_right (show (J 57 i).toInt - (J 57 0).toInt ≤ 99999 by omega) (by omega)) (Int.mul_le_mul_of_nonneg_left hy.2 (by omega))
    have ew : ((J 57 i - J 57 0).toInt64 * y.toInt64).toInt = ((J 57 i).toInt - (J 57 0).toInt) * y.toInt := by rw [y_mu8 (by rw [y_il, y_il, eD]; omega) (by rw [y_il, y_il, eD]; omega), y_il, y_il, eD]
    have b0 := fun N => zb_L_law_280 X (z_run X z_cf z_ff 7) N ce sl J L t k g x y e (Int32.ofInt (z_mny X : Int)) c (Int32.ofInt (i : Int))
    rw [y_ofN (by omega)] at b0
    refine zL.step (fun N => ((b0 N).trans (if_neg hs)).trans ((z_gd_of (y_inn hin (by omega)) _).trans (z_gd_of (y_in_t (by decide) (by rw [y_0]; omega)) _))) ?_
    refine zl_310 X ce sl (z_mny X) J L t k g x y e c (Int32.ofInt (i : Int)) _ ht hx hy he (by rw [ew]; omega) ?_ (((J 57 i).toInt - (J 57 0).toInt) * y.toInt + e.toInt * y.toInt + t.toInt * x.toInt + 1).toNat (Int64.ofInt 1) (Int32.ofInt 0) (by decide) ?_ ?_ (Or.inl ⟨rfl, fun q h1 h2 => ?_⟩)
    · intro r hr2
      rw [y_ofs (by omega)]
      refine ih (i + 1) r (by omega) (by omega) ?_
      rw [ew] at hr2
      rcases hr2 with ⟨r1, r2, r3⟩ | ⟨r1, r2⟩
      · refine Or.inl ⟨r1, fun j h1 h2 => ?_⟩
        have hcA : zAll (J 57) i (t.toInt * x.toInt) y.toInt e.toInt := by
          rcases hc with ⟨_, h⟩ | ⟨h, _⟩
          · exact h
          · exact absurd (by rw [h]; decide) r2
        by_cases hji : j = i
        · rw [hji]; exact r3
        · exact hcA j h1 (by omega)
      · refine Or.inr ⟨r1, fun hA => ?_⟩
        rcases r2 with r2 | r2
        · rcases hc with ⟨h, _⟩ | ⟨_, h⟩
          · rw [h] at r2; exact absurd r2 (by decide)
          · exact h (fun j h1 h2 => hA j h1 (by omega))
        · exact r2 (hA i hi1 (by omega))
    · rw [ew, show (Int64.ofInt 1).toInt = 1 from rfl]
      have f0 : 0 ≤ e.toInt * y.toInt := Int.mul_nonneg he.1 (by omega)
      have t0 : 0 ≤ t.toInt * x.toInt := Int.mul_nonneg (by omega) (by omega)
      omega
    · rw [ew, show (Int64.ofInt 1).toInt = 1 from rfl]
      have f0 : 0 ≤ e.toInt * y.toInt := Int.mul_nonneg he.1 (by omega)
      have t0 : 0 ≤ t.toInt * x.toInt := Int.mul_nonneg (by omega) (by omega)
      omega
    · rw [show (Int64.ofInt 1).toInt = 1 from rfl] at h2
      omega
