/-! THE LAW, 3: the marks as they are drawn; its entry -/
theorem zmw_c {A A' : Nat → Nat} {i : Nat} (h : ∀ j < i, A j = A' j) (q : Nat) : zmw A i q = zmw A' i q := by
  have g : ∀ j, zbj A i j = zbj A' i j := fun j => by
    unfold zbj
    by_cases hj : j < i
    · rw [if_pos hj, if_pos hj, h j hj]
    · rw [if_neg hj, if_neg hj]
  unfold zmw
  rw [g, g, g]
theorem zsh_b : (List.range 10).all (fun i => decide (((Int32.ofInt 17 * (Int32.ofInt (i : Int) - Int32.ofInt (i : Int) / Int32.ofInt 3 * Int32.ofInt 3)).toInt64 &&& 63) = Int64.ofNat (17 * (i % 3)))) = true := by decide +kernel
theorem zsh {i : Nat} (hi : i < 10) : ((Int32.ofInt 17 * (Int32.ofInt (i : Int) - Int32.ofInt (i : Int) / Int32.ofInt 3 * Int32.ofInt 3)).toInt64 &&& 63) = Int64.ofNat (17 * (i % 3)) := of_decide_eq_true (List.all_eq_true.mp zsh_b i (List.mem_range.mpr hi))
theorem z_third {i : Nat} (hi : i < 10) : Int32.ofInt (i : Int) / Int32.ofInt 3 = Int32.ofInt ((i / 3 : Nat) : Int) := by
  refine y_eqi ?_
  rw [y_dv (by rw [y_ofn (by omega)]; omega) (by decide), y_ofn (by omega), show (Int32.ofInt 3).toInt = 3 from rfl]
  omega
theorem z_mxi_ge (x y : Int32) : x.toInt ≤ (z_mxi x y).toInt := by
  unfold z_mxi
  split
  · rename_i h
    rw [y_i_lt] at h
    omega
  · exact Int.le_refl _
theorem zl_154 (X : ZX) (hX : X.1 ≤ 260) (ce sl : Nat) (t k g x y e : Int32) (hcs : ce ≤ 90 ∧ sl ≤ 19000) (hx : 1 ≤ x.toInt ∧ x.toInt ≤ 50) (hy : 1 ≤ y.toInt ∧ y.toInt ≤ 50) (he : 0 ≤ e.toInt ∧ e.toInt ≤ 12) : ∀ (m i : Nat) (J : Nat → Nat → Int32) (K : Nat → Nat → Int64), i + m = z_mny X → zL0 J t k g → (0 ≤ (J 57 0).toInt ∧ (J 57 0).toInt ≤ 500) → (∀ j < i, 0 ≤ (J 57 j).toInt ∧ (J 57 j).toInt ≤ 99999) → (∀ j, j + 1 < i → (J 57 j).toInt < (J 57 (j + 1)).toInt) → (∀ q < 4, K 58 q = zwd (J 57) i q) →
    zL X 154 (zlM (z_mny X) t k g x y e [(11, .int (Int32.ofInt (i : Int)))]) [] (0, 59, ce, sl, J, K, zeR1) := by
  have hm2 : 2 ≤ z_mny X := by unfold z_mny; omega
  have hm10 := z_mny_le X
  intro m
  induction m with
  | zero =>
    intro i J K hi hJ h0 ha hr hK
    have : i = z_mny X := by omega
    subst this
    exact zL.step (fun N => (zb_L_law_154 X _ N ce sl J K _ _ _ _ _ _ _ _).trans (if_pos (by rw [y_i_le]; omega))) (zl_280 X hX ce sl J K t k g x y e hcs hJ hx hy he ha hr hK (z_mny X - 1) 1 (Int32.ofInt 1) (by omega) (by omega) (Or.inl ⟨rfl, fun j h1 h2 => by omega⟩))
  | succ m ih =>
    intro i J K hi hJ h0 ha hr hK
    have hin : i < z_mny X := by omega
    have hi10 : i < 10 := by omega
    have hs : ¬ Int32.ofInt (z_mny X : Int) ≤ Int32.ofInt (i : Int) := by
      rw [y_i_le, y_ofn (by omega), y_ofn (by omega)]; omega
    have ek : (Int32.ofInt 5 + Int32.ofInt (i : Int)).toInt = 5 + i := by
      rw [y_ad (by rw [y_ofn (by omega), show (Int32.ofInt 5).toInt = 5 from rfl]; omega) (by rw [y_ofn (by omega), show (Int32.ofInt 5).toInt = 5 from rfl]; omega), y_ofn (by omega), show (Int32.ofInt 5).toInt = 5 from rfl]
    have n3 : ¬ (Int32.ofInt 3 : Int32) = 0 := by decide
    have hz := y_inn hin (show z_mny X ≤ 1000000 by omega)
    have hz0 : z_in (Int32.ofInt 0) (z_mny X) = true := y_in_t (by decide) (by rw [y_0]; omega)
    have hq4 : i / 3 < 4 := by omega
    have hz3 : z_in (Int32.ofInt (i : Int) / Int32.ofInt 3) 4 = true := by rw [z_third hi10]; exact y_inn hq4 (by omega)
    have e3 : (Int32.ofInt (i : Int) / Int32.ofInt 3).toNatClampNeg = i / 3 := by rw [z_third hi10]; exact y_ofN (by omega)
    -- the next turn, whatever the mark that was laid
    have next : ∀ J' : Nat → Nat → Int32, zL0 J' t k g → (0 ≤ (J' 57 0).toInt ∧ (J' 57 0).toInt ≤ 500) → (∀ j < i + 1, 0 ≤ (J' 57 j).toInt ∧ (J' 57 j).toInt ≤ 99999) → (∀ j, j + 1 < i + 1 → (J' 57 j).toInt < (J' 57 (j + 1)).toInt) → (∀ q < 4, K 58 q = zwd (J' 57) i q) → zL X 154 (zlM (z_mny X) t k g x y e [(11, .int (Int32.ofInt (i : Int) + Int32.ofInt 1))]) [] (0, 59, ce, sl, J', z_up K 58 (i / 3) (K 58 (i / 3) ||| ((J' 57 i).toInt64 <<< ((Int32.ofInt 17 * (Int32.ofInt (i : Int) - Int32.ofInt (i : Int) / Int32.ofInt 3 * Int32.ofInt 3)).toInt64 &&& 63))), zeR1) := by
      intro J' h1 h2 h3 h4 h5
      rw [y_ofs (by omega)]
      refine ih (i + 1) J' _ (by omega) h1 h2 h3 h4 (fun q hq => ?_)
      have hA : ∀ j < i, zA (J' 57) j < 131072 := zA_lt (fun j hj => h3 j (by omega))
      obtain ⟨p1, p2, p3⟩ := zmw_next hA
      have hi3 := h3 i (by omega)
      by_cases hqi : q = i / 3
      · subst hqi
        rw [z_up_s, h5 _ hq]
        have hA2 : zA (J' 57) i < 131072 := by
          show (J' 57 i).toInt.toNat < 131072
          omega
        rw [zput_val (zmw (zA (J' 57)) i (i / 3)) (17 * (i % 3)) (zA (J' 57) i) p1 (by omega) hA2 (J' 57 i) (by show _ = (((J' 57 i).toInt.toNat : Nat) : Int); omega) _ (zsh hi10), ← p2]
      · rw [z_up_k _ _ _ _ _ (z_beq_ne hqi), h5 q hq]
        show Int64.ofNat _ = Int64.ofNat _
        rw [p3 q hqi]
    have b1 := fun (N : Nat) (v : Int32) => zb_L_law_169 X (z_run X z_cf z_ff 7) N ce sl J K t k g x y e (Int32.ofInt (z_mny X : Int)) (Int32.ofInt (i : Int)) v
    refine zL.step (fun N => ((zb_L_law_154 X _ N ce sl J K _ _ _ _ _ _ _ _).trans (if_neg hs)).trans (z_bi_of (zr_cell X hX 6 _ _ (by rw [ek]; omega)))) ?_
    generalize zcel X (Int32.ofInt 5 + Int32.ofInt (i : Int)).toInt.toNat = v
    by_cases hi0 : i = 0
    · have c0 : Int32.ofInt (i : Int) ≤ 0 := by rw [y_i_le, y_ofn (by omega), y_i0]; omega
      have b2 := fun N => b1 N v
      rw [e3, y_ofN (by omega)] at b2
      have ha9 : J 57 i ≤ Int32.ofInt 99999 := by
        rw [y_i_le, hi0, show (Int32.ofInt 99999).toInt = 99999 from rfl]; omega
      refine zL.step (fun N => ((b2 N).trans (if_pos c0)).trans ((z_gd_of hz _).trans ((if_pos ha9).trans ((if_neg n3).trans ((z_gd_of hz3 _).trans ((z_gd_of hz _).trans ((if_neg n3).trans (z_gd_of hz3 _)))))))) ?_
      refine next J hJ h0 (fun j hj => ?_) (fun j hj => by omega) hK
      have : j = 0 := by omega
      subst this
      omega
    · have c0 : ¬ Int32.ofInt (i : Int) ≤ 0 := by rw [y_i_le, y_ofn (by omega), y_i0]; omega
      obtain ⟨r, hr1, -, -, -⟩ := zr_from X 6 (0, 59, ce, sl, J, K, zeR1) v (Int32.ofInt 1) (Int32.ofInt 3) (by decide) (by decide) (by decide)
      refine zL.step (fun N => ((b1 N v).trans (if_neg c0)).trans (z_bi_of hr1)) ?_
      have em : (Int32.ofInt (i : Int) - Int32.ofInt 1).toInt = i - 1 := by
        rw [y_sb (by rw [y_ofn (by omega), y_1]; omega) (by rw [y_ofn (by omega), y_1]; omega), y_ofn (by omega), y_1]
      have eN : (Int32.ofInt (i : Int) - Int32.ofInt 1).toNatClampNeg = i - 1 := by rw [y_tn, em]; omega
      have hzm : z_in (Int32.ofInt (i : Int) - Int32.ofInt 1) (z_mny X) = true := y_in_t (by rw [em]; omega) (by rw [em]; omega)
      obtain ⟨s, hs1, -, -, -⟩ := zr_from X 6 (0, 59, ce, sl, J, K, zeR1) (v >>> (Int32.ofInt 4 &&& 31)) (Int32.ofInt (-14)) (Int32.ofInt 14) (by decide) (by decide) (by decide)
      have hy0 : ¬ y = 0 := by rw [y_i_eq, y_i0]; omega
      have b3 := fun N => zb_L_law_183 X (z_run X z_cf z_ff 7) N ce sl J K t k g x y e (Int32.ofInt (z_mny X : Int)) (Int32.ofInt (i : Int)) v r
      rw [eN] at b3
      refine zL.step (fun N => (b3 N).trans ((z_gd_of hzm _).trans ((z_gd_of hz0 _).trans ((if_neg hy0).trans (z_bi_of hs1))))) ?_
      have b4 := fun N => zb_L_law_227 X (z_run X z_cf z_ff 7) N ce sl J K t k g x y e (Int32.ofInt (z_mny X : Int)) (Int32.ofInt (i : Int)) s (J 57 0 + (((r * Int32.ofInt (i : Int)) * t) * x) / y) (J 57 (i - 1) + Int32.ofInt 1) (Int32.ofInt (i : Int))
      have hm1 := ha (i - 1) (by omega)
      have hge := z_mxi_ge (J 57 (i - 1) + Int32.ofInt 1) (J 57 0 + (((r * Int32.ofInt (i : Int)) * t) * x) / y + s)
      rw [y_ad (by rw [y_1]; omega) (by rw [y_1]; omega), y_1] at hge
      generalize z_mxi (J 57 (i - 1) + Int32.ofInt 1) (J 57 0 + (((r * Int32.ofInt (i : Int)) * t) * x) / y + s) = A at hge b4
      rw [e3, y_ofN (by omega)] at b4
      obtain ⟨J', hJ'⟩ : ∃ J', J' = z_up J 57 i A := ⟨_, rfl⟩
      have j57 : ∀ j, J' 57 j = if j = i then A else J 57 j := fun j => by rw [hJ']; exact z_upr J 57 i j A
      have jr : ∀ c j, c ≠ 57 → J' c j = J c j := fun c j h1 => by rw [hJ', z_up_a _ _ _ _ _ _ (z_beq_ne h1)]
      rw [← hJ'] at b4
      by_cases hA : A.toInt ≤ 99999
      · have ha9 : J' 57 i ≤ Int32.ofInt 99999 := by
          rw [y_i_le, j57, if_pos rfl, show (Int32.ofInt 99999).toInt = 99999 from rfl]; exact hA
        refine zL.step (fun N => (b4 N).trans ((z_gd_of hz _).trans ((z_gd_of hz _).trans ((if_pos ha9).trans ((if_neg n3).trans ((z_gd_of hz3 _).trans ((z_gd_of hz _).trans ((if_neg n3).trans (z_gd_of hz3 _))))))))) ?_
        obtain ⟨q1, q2, q3, q4, q5, q6, q7, q8, q9⟩ := hJ
        refine next J' ⟨?_, ?_, ?_, ?_, ?_, ?_, ?_, ?_, q9⟩ ?_ (fun j hj => ?_) (fun j hj => ?_) (fun q hq => ?_)
        · rw [jr 2 2 (by decide)]; exact q1
        · rw [jr 3 0 (by decide)]; exact q2
        · rw [jr 4 0 (by decide)]; exact q3
        · rw [jr 55 9 (by decide)]; exact q4
        · rw [jr 5 2 (by decide)]; exact q5
        · rw [jr 55 0 (by decide)]; exact q6
        · rw [jr 55 8 (by decide)]; exact q7
        · rw [jr 55 6 (by decide)]; exact q8
        · rw [j57, if_neg (by omega)]; exact h0
        · rw [j57]
          by_cases hji : j = i
          · rw [if_pos hji]; omega
          · rw [if_neg hji]; exact ha j (by omega)
        · rw [j57, j57, if_neg (by omega)]
          by_cases hji : j + 1 = i
          · rw [if_pos hji]
            have : j = i - 1 := by omega
            rw [this]; omega
          · rw [if_neg hji]; exact hr j (by omega)
        · rw [hK q hq]
          show Int64.ofNat _ = Int64.ofNat _
          rw [zmw_c (fun j hj => by show (J 57 j).toInt.toNat = (J' 57 j).toInt.toNat; rw [j57, if_neg (by omega)]) q]
      · have ha9 : ¬ J' 57 i ≤ Int32.ofInt 99999 := by
          rw [y_i_le, j57, if_pos rfl, show (Int32.ofInt 99999).toInt = 99999 from rfl]; exact hA
        exact zL.fin (fun N => (b4 N).trans ((z_gd_of hz _).trans ((z_gd_of hz _).trans ((if_neg ha9).trans (z_gd_of z_b1_1 _))))) (by show ce ≤ 600036; omega) (by show sl ≤ 7301892; omega)
theorem z_main (X : ZX) (hX : X.1 ≤ 260) : zL X 0 [(0, .ref 1001)] [] z_w0 := by
  have hm10 := z_mny_le X
  refine zL.step (fun N => (zb_L_law_0 X _ N 0 0 (fun _ _ => 0) (fun _ _ => 0) (fun _ _ => none)).trans (z_b0_of (ze_X X 2))) ?_
  obtain ⟨L, hL⟩ : ∃ L : Nat → Nat → Int64, L = fun _ _ => 0 := ⟨_, rfl⟩
  rw [← hL]
  refine zL.step (fun N => (zb_L_law_7 X _ N _ _ zeI L).trans (z_bi_of (zr_cell X hX 6 _ _ (by decide)))) ?_
  obtain ⟨t, ht, t1, t2, -⟩ := zr_from X 6 (0, 55, 55, 13257, zeI, L, zeR) (zcel X (Int32.ofInt 0).toInt.toNat) (Int32.ofInt 100) (Int32.ofInt 400) (by decide) (by decide) (by decide)
  rw [show (Int32.ofInt 100).toInt = 100 from rfl] at t1
  rw [show (Int32.ofInt 400).toInt = 400 from rfl] at t2
  refine zL.step (fun N => (zb_L_law_13 X _ N _ _ zeI L _).trans (z_bi_of ht)) ?_
  refine zL.step (fun N => (zb_L_law_21 X _ N _ _ zeI L _).trans (z_bi_of (zr_cell X hX 6 _ _ (by decide)))) ?_
  obtain ⟨k, hk, k1, k2, -⟩ := zr_from X 6 (0, 55, 55, 13257, zeI, L, zeR) (zcel X (Int32.ofInt 1).toInt.toNat) (Int32.ofInt 1) (Int32.ofInt 99) (by decide) (by decide) (by decide)
  rw [y_1] at k1
  rw [show (Int32.ofInt 99).toInt = 99 from rfl] at k2
  refine zL.step (fun N => (zb_L_law_27 X _ N _ _ zeI L _ _).trans (z_bi_of hk)) ?_
  refine zL.step (fun N => (zb_L_law_33 X _ N _ _ zeI L _ _).trans (z_bi_of (zr_cell X hX 6 _ _ (by decide)))) ?_
  obtain ⟨g, hg, g1, g2, -⟩ := zr_from X 6 (0, 55, 55, 13257, zeI, L, zeR) (zcel X (Int32.ofInt 1).toInt.toNat >>> (Int32.ofInt 7 &&& 31)) (Int32.ofInt 0) (Int32.ofInt 200) (by decide) (by decide) (by decide)
  rw [y_0] at g1
  rw [show (Int32.ofInt 200).toInt = 200 from rfl] at g2
  refine zL.step (fun N => (zb_L_law_39 X _ N _ _ zeI L _ _ _).trans (z_bi_of hg)) ?_
  obtain ⟨I, v, hst, s1, s2, s3, s4, s5, s6, s7, s8⟩ := zr_stand X 1 55 13257 L k (Int32.ofInt 9999999) (Int32.ofInt 0) g (Int32.ofInt 1) (Int32.ofInt 1) t (Int32.ofInt 0) ⟨k1, by omega⟩ ⟨by decide, by decide⟩ ⟨by decide, by decide⟩ ⟨by rw [y_0]; omega, by omega⟩ ⟨by decide, by decide⟩ ⟨by decide, by decide⟩ ⟨t1, by omega⟩ ⟨by decide, by decide⟩
  refine zL.step (fun N => (zb_L_law_49 X _ N _ _ zeI L _ _ _).trans (z_bi_of hst)) ?_
  refine zL.step (fun N => (zb_L_law_65 X _ N _ _ I L _ _ _ _).trans (z_bi_of (zr_cell X hX 6 _ _ (by decide)))) ?_
  obtain ⟨x, hx, x1, x2, -⟩ := zr_from X 6 (0, 57, 55 + 2, 13257 + 25, I, L, zeR1) (zcel X (Int32.ofInt 2).toInt.toNat) (Int32.ofInt 1) (Int32.ofInt 50) (by decide) (by decide) (by decide)
  rw [y_1] at x1
  rw [show (Int32.ofInt 50).toInt = 50 from rfl] at x2
  refine zL.step (fun N => (zb_L_law_71 X _ N _ _ I L _ _ _ _).trans (z_bi_of hx)) ?_
  refine zL.step (fun N => (zb_L_law_77 X _ N _ _ I L _ _ _ _).trans (z_bi_of (zr_cell X hX 6 _ _ (by decide)))) ?_
  obtain ⟨y, hy, y1, y2, -⟩ := zr_from X 6 (0, 57, 55 + 2, 13257 + 25, I, L, zeR1) (zcel X (Int32.ofInt 2).toInt.toNat >>> (Int32.ofInt 6 &&& 31)) (Int32.ofInt 1) (Int32.ofInt 50) (by decide) (by decide) (by decide)
  rw [y_1] at y1
  rw [show (Int32.ofInt 50).toInt = 50 from rfl] at y2
  refine zL.step (fun N => (zb_L_law_84 X _ N _ _ I L _ _ _ _ _).trans (z_bi_of hy)) ?_
  refine zL.step (fun N => (zb_L_law_93 X _ N _ _ I L _ _ _ _ _).trans (z_bi_of (zr_cell X hX 6 _ _ (by decide)))) ?_
  obtain ⟨e, he, e1, e2, -⟩ := zr_from X 6 (0, 57, 55 + 2, 13257 + 25, I, L, zeR1) (zcel X (Int32.ofInt 2).toInt.toNat >>> (Int32.ofInt 12 &&& 31)) (Int32.ofInt 0) (Int32.ofInt 12) (by decide) (by decide) (by decide)
  rw [y_0] at e1
  rw [show (Int32.ofInt 12).toInt = 12 from rfl] at e2
  refine zL.step (fun N => (zb_L_law_100 X _ N _ _ I L _ _ _ _ _ _).trans (z_bi_of he)) ?_
  refine zL.step (fun N => (zb_L_law_109 X _ N _ _ I L _ _ _ _ _ _).trans (z_bi_of (zr_cell X hX 6 _ _ (by decide)))) ?_
  obtain ⟨n, hn, -, -, n3⟩ := zr_from X 6 (0, 57, 55 + 2, 13257 + 25, I, L, zeR1) (zcel X (Int32.ofInt 3).toInt.toNat) (Int32.ofInt 2) (Int32.ofInt 10) (by decide) (by decide) (by decide)
  have en : n = Int32.ofInt (z_mny X : Int) := by
    refine y_eqi ?_
    rw [n3, show (Int32.ofInt 2).toInt = 2 from rfl, show (Int32.ofInt 10).toInt = 10 from rfl]
    have hp := zand_lo (zcel X 3)
    show 2 + (zcel X 3 &&& Int32.ofInt 2147483647).toInt % (10 - 2 + 1) = ((2 + (zcel X 3 &&& Int32.ofInt 2147483647).toInt.toNat % 9 : Nat) : Int)
    omega
  refine zL.step (fun N => (zb_L_law_116 X _ N _ _ I L _ _ _ _ _ _ _).trans (z_bi_of hn)) ?_
  refine zL.step (fun N => ((zb_L_law_122 X _ N _ _ I L _ _ _ _ _ _ _).trans (if_pos en)).trans (z_bi_of (zr_cell X hX 6 _ _ (by decide)))) ?_
  obtain ⟨a, ha, a1, a2, -⟩ := zr_from X 6 (0, 59, 55 + 2 + 1 + 1, 13257 + 25 + z_mny X + 4, I, L, zeR1) (zcel X (Int32.ofInt 4).toInt.toNat) (Int32.ofInt 0) (Int32.ofInt 500) (by decide) (by decide) (by decide)
  rw [y_0] at a1
  rw [show (Int32.ofInt 500).toInt = 500 from rfl] at a2
  refine zL.step (fun N => (zb_L_law_143 X _ N _ _ I L _ _ _ _ _ _ _ _ _).trans (z_bi_of ha)) ?_
  have hz0 : z_in (Int32.ofInt 0) (z_mny X) = true := y_in_t (by decide) (by rw [y_0]; unfold z_mny; omega)
  have b0 := fun N => zb_L_law_150 X (z_run X z_cf z_ff 7) N (55 + 2 + 1 + 1) (13257 + 25 + z_mny X + 4) I L t k g x y e n a (Int32.ofInt 0)
  rw [show (Int32.ofInt 0).toNatClampNeg = 0 from rfl] at b0
  refine zL.step (fun N => (b0 N).trans (z_gd_of hz0 _)) ?_
  obtain ⟨J, hJ⟩ : ∃ J, J = z_up I 57 0 a := ⟨_, rfl⟩
  rw [← hJ, en]
  have jr : ∀ c j, c ≠ 57 → J c j = I c j := fun c j h1 => by rw [hJ, z_up_a _ _ _ _ _ _ (z_beq_ne h1)]
  have j0 : J 57 0 = a := by rw [hJ, z_up_s]
  refine zl_154 X hX _ _ t k g x y e ⟨by omega, by omega⟩ ⟨x1, x2⟩ ⟨y1, y2⟩ ⟨e1, e2⟩ (z_mny X) 0 J L (by omega) ⟨?_, ?_, ?_, ?_, ?_, ?_, ?_, ?_, ⟨k1, k2⟩, ⟨g1, g2⟩, ⟨t1, t2⟩⟩ (by rw [j0]; exact ⟨a1, a2⟩) (fun j hj => by omega) (fun j hj => by omega) (fun q hq => ?_)
  · rw [jr 2 2 (by decide)]; exact s6
  · rw [jr 3 0 (by decide)]; exact s7
  · rw [jr 4 0 (by decide)]; exact s8
  · rw [jr 55 9 (by decide)]; exact s4
  · rw [jr 5 2 (by decide)]; exact s5
  · rw [jr 55 0 (by decide)]; exact s1
  · rw [jr 55 8 (by decide)]; exact s3
  · rw [jr 55 6 (by decide)]; exact s2
  · have hz9 : ∀ j, zbj (zA (J 57)) 0 j = 0 := fun j => if_neg (by omega)
    show L 58 q = Int64.ofNat (zmw (zA (J 57)) 0 q)
    rw [hL]
    unfold zmw
    rw [hz9, hz9, hz9]
    rfl
