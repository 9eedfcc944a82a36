/-! CALLS, 1: runs with enough passages; the methods that touch no cell -/
def zM (X : ZX) (d y B pc : Nat) (lo : ZL) (st : List Value) (w : ZW) (r : ZR) : Prop := ∀ N, B ≤ N → z_loop X z_cf z_ff (z_run X z_cf z_ff d) y N pc lo st w = r
theorem zM.step {X : ZX} {d y pc pc' : Nat} {lo lo' : ZL} {st st' : List Value} {w w' : ZW} {r : ZR} (h : ∀ N, z_loop X z_cf z_ff (z_run X z_cf z_ff d) y (N + 1) pc lo st w = z_loop X z_cf z_ff (z_run X z_cf z_ff d) y N pc' lo' st' w') {B B' : Nat} (hB : B' + 1 ≤ B) (g : zM X d y B' pc' lo' st' w' r) : zM X d y B pc lo st w r := by
  intro N hN
  obtain ⟨M, rfl⟩ : ∃ M, N = M + 1 := ⟨N - 1, by omega⟩
  rw [h M]
  exact g M (by omega)
theorem zM.fin {X : ZX} {d y pc : Nat} {lo : ZL} {st : List Value} {w : ZW} {r : ZR} (h : ∀ N, z_loop X z_cf z_ff (z_run X z_cf z_ff d) y (N + 1) pc lo st w = r) {B : Nat} (hB : 1 ≤ B) : zM X d y B pc lo st w r := by
  intro N hN
  obtain ⟨M, rfl⟩ : ∃ M, N = M + 1 := ⟨N - 1, by omega⟩
  exact h M
theorem zM.mono {X : ZX} {d y pc : Nat} {lo : ZL} {st : List Value} {w : ZW} {r : ZR} {B B' : Nat} (g : zM X d y B pc lo st w r) (h : B ≤ B') : zM X d y B' pc lo st w r := fun N hN => g N (by omega)
theorem zM.run {X : ZX} {d y B : Nat} {av : List Value} {lo : ZL} {w : ZW} {r : ZR} (hy : Nat.ble 56 y = false) (hs : z_sm av (z_ml y) = true) (hl : lv_args 0 av = lo) (g : zM X d y B 0 lo [] w r) (hB : B ≤ 100000000) : z_run X z_cf z_ff (d + 1) y av w = r := ze_run X d y av lo w r hy hs hl (g _ hB)
theorem z_bi_of {hx : Nat → ZW → ZR} {r : ZR} {v : Int32} {w : ZW} {k : Int32 → ZW → ZR} (h : r = some (.inl (some (.int v)), w)) : z_bi hx r k = k v w := by rw [h]
theorem z_br_of {hx : Nat → ZW → ZR} {r : ZR} {v : Nat} {w : ZW} {k : Nat → ZW → ZR} (h : r = some (.inl (some (.ref v)), w)) : z_br hx r k = k v w := by rw [h]
theorem z_b0_of {hx : Nat → ZW → ZR} {r : ZR} {w : ZW} {k : ZW → ZR} (h : r = some (.inl none, w)) : z_b0 hx r k = k w := by rw [h]
abbrev zI (w : ZW) (v : Int32) : ZR := some (.inl (some (.int v)), w)
/-- the script's int at a place, 0 behind its end -/
def zcel (X : ZX) (j : Nat) : Int32 := if j < X.1 then X.2 j else 0
theorem zr_cell (X : ZX) (hX : X.1 ≤ 260) (d : Nat) (w : ZW) (k : Int32) (hk : 0 ≤ k.toInt) : z_run X z_cf z_ff (d + 1) 51 [.ref 1001, .int k] w = zI w (zcel X k.toInt.toNat) := by
  refine zM.run (B := 1) rfl rfl (lo := [(0, .ref 1001), (1, .int k)]) rfl (zM.fin (fun N => ?_) (Nat.le_refl _)) (by decide)
  have e1 : (Int32.ofNat X.1).toInt = X.1 := y_on (by omega)
  by_cases h : k.toInt < X.1
  · have h1 : ¬ Int32.ofNat X.1 ≤ k := by rw [y_i_le, e1]; omega
    refine ((zb_L_cell_0 X _ N w k).trans (if_neg h1)).trans ((z_gd_of (y_in_t hk h) _).trans ?_)
    unfold zcel
    rw [if_pos (by omega)]
    rfl
  · have h1 : Int32.ofNat X.1 ≤ k := by rw [y_i_le, e1]; omega
    refine ((zb_L_cell_0 X _ N w k).trans (if_pos h1)).trans ?_
    unfold zcel
    rw [if_neg (by omega)]
    rfl
theorem zand_lo (v : Int32) : 0 ≤ (v &&& Int32.ofInt 2147483647).toInt := by
  have e : (v &&& Int32.ofInt 2147483647).toBitVec = v.toBitVec &&& 2147483647#32 := rfl
  have h : (v.toBitVec &&& 2147483647#32).toNat ≤ 2147483647 := by
    rw [BitVec.toNat_and]
    exact Nat.and_le_right
  show 0 ≤ (v &&& Int32.ofInt 2147483647).toBitVec.toInt
  rw [e, BitVec.toInt_eq_toNat_of_lt (by omega)]
  omega
/-- a number drawn between two told ones -/
theorem zr_from (X : ZX) (d : Nat) (w : ZW) (v a b : Int32) (h0 : -1000 ≤ a.toInt) (h1 : a.toInt ≤ b.toInt) (h2 : b.toInt ≤ 1000) : ∃ r : Int32, z_run X z_cf z_ff (d + 1) 52 [.int v, .int a, .int b] w = zI w r ∧ a.toInt ≤ r.toInt ∧ r.toInt ≤ b.toInt ∧ r.toInt = a.toInt + (v &&& Int32.ofInt 2147483647).toInt % (b.toInt - a.toInt + 1) := by
  have e0 : (b - a).toInt = b.toInt - a.toInt := y_sb (by omega) (by omega)
  have e1 : (b - a + Int32.ofInt 1).toInt = b.toInt - a.toInt + 1 := by
    rw [y_ad (by rw [e0, y_oi (by decide) (by decide)]; omega) (by rw [e0, y_oi (by decide) (by decide)]; omega), e0, y_oi (by decide) (by decide)]
  have hne : ¬ b - a + Int32.ofInt 1 = 0 := by
    rw [y_i_eq, e1, y_i0]; omega
  have hp := zand_lo v
  have hq := y_hi (v &&& Int32.ofInt 2147483647)
  generalize hm : (v &&& Int32.ofInt 2147483647) = m at hp hq
  generalize hn : b - a + Int32.ofInt 1 = n at e1 hne
  have e2 : (m / n).toInt = m.toInt / n.toInt := y_dv hp (by omega)
  have k1 : m.toInt / n.toInt * n.toInt ≤ m.toInt := Int.ediv_mul_le _ (by omega)
  have k2 : 0 ≤ m.toInt / n.toInt * n.toInt := Int.mul_nonneg (Int.ediv_nonneg hp (by omega)) (by omega)
  have e3 : (m / n * n).toInt = m.toInt / n.toInt * n.toInt := by
    rw [y_mu (by rw [e2]; omega) (by rw [e2]; omega), e2]
  have e4 : (m - m / n * n).toInt = m.toInt % n.toInt := by
    rw [y_sb (by rw [e3]; omega) (by rw [e3]; omega), e3]
    have := Int.mul_ediv_add_emod m.toInt n.toInt
    rw [Int.mul_comm] at this
    omega
  have k3 := Int.emod_nonneg m.toInt (show n.toInt ≠ 0 by omega)
  have k4 := Int.emod_lt_of_pos m.toInt (show 0 < n.toInt by omega)
  have e5 : (a + (m - m / n * n)).toInt = a.toInt + m.toInt % n.toInt := by
    rw [y_ad (by rw [e4]; omega) (by rw [e4]; omega), e4]
  refine ⟨a + (m - m / n * n), ?_, by omega, by omega, by rw [e5, e1]⟩
  refine zM.run (B := 1) rfl rfl (lo := [(0, .int v), (1, .int a), (2, .int b)]) rfl (zM.fin (fun N => ?_) (Nat.le_refl _)) (by decide)
  have hb := zb_L_from_0 X (z_run X z_cf z_ff d) N w v a b
  rw [hm, hn] at hb
  exact hb.trans (if_neg hne)
theorem zr_within (X : ZX) (d : Nat) (w : ZW) (a b c : Int32) (h1 : b.toInt ≤ a.toInt) (h2 : a.toInt ≤ c.toInt) : z_run X z_cf z_ff (d + 1) 39 [.int a, .int b, .int c] w = zI w (Int32.ofInt 1) := by
  refine zM.run (B := 1) rfl rfl (lo := [(0, .int a), (1, .int b), (2, .int c)]) rfl (zM.fin (fun N => ?_) (Nat.le_refl _)) (by decide)
  exact (((zb_X_within_0 X _ N w a b c).trans (if_neg (by rw [y_i_lt]; omega))).trans (if_neg (by rw [y_i_lt]; omega))).trans (z_gd_of z_b1_1 _)
theorem y_1 : (Int32.ofInt 1).toInt = 1 := rfl
theorem y_0 : (Int32.ofInt 0).toInt = 0 := rfl
theorem zr_isThickness (X : ZX) (d : Nat) (w : ZW) (a : Int32) (h1 : 1 ≤ a.toInt) (h2 : a.toInt ≤ 60000) : z_run X z_cf z_ff (d + 2) 44 [.int a] w = zI w (Int32.ofInt 1) := by
  refine zM.run (B := 2) rfl rfl (lo := [(0, .int a)]) rfl (zM.step (fun N => (zb_X_isThickness_0 X _ N w a).trans (z_bi_of (zr_within X d w a _ _ h1 h2))) (Nat.le_refl _) (zM.fin (fun N => (zb_X_isThickness_7 X _ N w _).trans (z_gd_of z_b1_1 _)) (Nat.le_refl _))) (by decide)
theorem zr_isHardness (X : ZX) (d : Nat) (w : ZW) (a : Int32) (h1 : 1 ≤ a.toInt) (h2 : a.toInt ≤ 99) : z_run X z_cf z_ff (d + 2) 49 [.int a] w = zI w (Int32.ofInt 1) := by
  refine zM.run (B := 2) rfl rfl (lo := [(0, .int a)]) rfl (zM.step (fun N => (zb_X_isHardness_0 X _ N w a).trans (z_bi_of (zr_within X d w a _ _ h1 h2))) (Nat.le_refl _) (zM.fin (fun N => (zb_X_isHardness_7 X _ N w _).trans (z_gd_of z_b1_1 _)) (Nat.le_refl _))) (by decide)
theorem zr_isFrame (X : ZX) (d : Nat) (w : ZW) (a b c e : Int32) (h1 : 1 ≤ a.toInt) (h2 : a.toInt ≤ 999) (h3 : 1 ≤ b.toInt) (h4 : b.toInt ≤ 9999999) (h5 : 0 ≤ c.toInt) (h6 : c.toInt ≤ 60000) (h7 : c.toInt ≤ e.toInt) (h8 : e.toInt ≤ 60000) : z_run X z_cf z_ff (d + 2) 38 [.int a, .int b, .int c, .int e] w = zI w (Int32.ofInt 1) := by
  have hn : ¬ (Int32.ofInt 1 : Int32) = 0 := by decide
  refine zM.run (B := 5) rfl rfl (lo := [(0, .int a), (1, .int b), (2, .int c), (3, .int e)]) rfl ?_ (by decide)
  refine zM.step (fun N => (zb_X_isFrame_0 X _ N w a b c e).trans (z_bi_of (zr_within X d w a _ _ h1 h2))) (Nat.le_refl _) ?_
  refine zM.step (fun N => ((zb_X_isFrame_8 X _ N w b c e _).trans (if_neg hn)).trans (z_bi_of (zr_within X d w b _ _ h3 h4))) (Nat.le_refl _) ?_
  refine zM.step (fun N => ((zb_X_isFrame_19 X _ N w c e _).trans (if_neg hn)).trans (z_bi_of (zr_within X d w c _ _ h5 h6))) (Nat.le_refl _) ?_
  refine zM.step (fun N => ((zb_X_isFrame_29 X _ N w c e _).trans (if_neg hn)).trans (z_bi_of (zr_within X d w e _ _ h7 h8))) (Nat.le_refl _) ?_
  exact zM.fin (fun N => ((zb_X_isFrame_39 X _ N w _).trans (if_neg hn)).trans (z_gd_of z_b1_1 _)) (Nat.le_refl _)
theorem zr_isDrive (X : ZX) (d : Nat) (w : ZW) (a b c e : Int32) (h1 : 1 ≤ a.toInt) (h2 : a.toInt ≤ 60000) (h3 : 1 ≤ b.toInt) (h4 : b.toInt ≤ 999) (h5 : 100 ≤ c.toInt) (h6 : c.toInt ≤ 4000) (h7 : 0 ≤ e.toInt) (h8 : e.toInt ≤ 9) : z_run X z_cf z_ff (d + 2) 40 [.int a, .int b, .int c, .int e] w = zI w (Int32.ofInt 1) := by
  have hn : ¬ (Int32.ofInt 1 : Int32) = 0 := by decide
  refine zM.run (B := 5) rfl rfl (lo := [(0, .int a), (1, .int b), (2, .int c), (3, .int e)]) rfl ?_ (by decide)
  refine zM.step (fun N => (zb_X_isDrive_0 X _ N w a b c e).trans (z_bi_of (zr_within X d w a _ _ h1 h2))) (Nat.le_refl _) ?_
  refine zM.step (fun N => ((zb_X_isDrive_7 X _ N w b c e _).trans (if_neg hn)).trans (z_bi_of (zr_within X d w b _ _ h3 h4))) (Nat.le_refl _) ?_
  refine zM.step (fun N => ((zb_X_isDrive_18 X _ N w c e _).trans (if_neg hn)).trans (z_bi_of (zr_within X d w c _ _ h5 h6))) (Nat.le_refl _) ?_
  refine zM.step (fun N => ((zb_X_isDrive_30 X _ N w e _).trans (if_neg hn)).trans (z_bi_of (zr_within X d w e _ _ h7 h8))) (Nat.le_refl _) ?_
  exact zM.fin (fun N => ((zb_X_isDrive_40 X _ N w _).trans (if_neg hn)).trans (z_gd_of z_b1_1 _)) (Nat.le_refl _)
/-! the making of the stand -/
noncomputable def zSt (x1 x2 x3 x4 x5 x6 x7 x8 : Int32) : Nat → Nat → Int32 := z_up (z_up (z_up (z_up (z_up (z_up (z_up (z_up (z_up (z_up zeI 55 0 x1) 55 1 x2) 55 2 x3) 55 3 x4) 55 8 x4) 55 4 x5) 55 5 x6) 55 6 x7) 55 7 x8) 25 2 (Int32.ofInt 0)
theorem zr_stand (X : ZX) (d ce sl : Nat) (L : Nat → Nat → Int64) (x1 x2 x3 x4 x5 x6 x7 x8 : Int32) (h1 : 1 ≤ x1.toInt ∧ x1.toInt ≤ 999) (h2 : 1 ≤ x2.toInt ∧ x2.toInt ≤ 9999999) (h3 : 0 ≤ x3.toInt ∧ x3.toInt ≤ 60000) (h4 : x3.toInt ≤ x4.toInt ∧ x4.toInt ≤ 60000) (h5 : 1 ≤ x5.toInt ∧ x5.toInt ≤ 60000) (h6 : 1 ≤ x6.toInt ∧ x6.toInt ≤ 999) (h7 : 100 ≤ x7.toInt ∧ x7.toInt ≤ 4000) (h8 : 0 ≤ x8.toInt ∧ x8.toInt ≤ 9) :
    ∃ (I : Nat → Nat → Int32) (v : Int32), z_run X z_cf z_ff (d + 6) 37 [.ref 0, .int x1, .int x2, .int x3, .int x4, .int x5, .int x6, .int x7, .int x8] (0, 55, ce, sl, zeI, L, zeR) = zI (0, 57, ce + 2, sl + 25, I, L, zeR1) v ∧ I 55 0 = x1 ∧ I 55 6 = x7 ∧ I 55 8 = x4 ∧ I 55 9 = 0 ∧ I 5 2 = Int32.ofInt 1 ∧ I 2 2 = 0 ∧ I 3 0 = 0 ∧ I 4 0 = 0 := by
  have hn : ¬ (Int32.ofInt 1 : Int32) = 0 := by decide
  obtain ⟨J, hI⟩ : ∃ J, J = zSt x1 x2 x3 x4 x5 x6 x7 x8 := ⟨_, rfl⟩
  refine ⟨z_up (z_up J 5 0 (J 5 0 + Int32.ofInt 1)) 5 2 (0 + Int32.ofInt 1), (0 + Int32.ofInt 1) - Int32.ofInt 1, zM.run (B := 10) rfl rfl (lo := [(0, .ref 0), (1, .int x1), (2, .int x2), (3, .int x3), (4, .int x4), (5, .int x5), (6, .int x6), (7, .int x7), (8, .int x8)]) rfl ?_ (by decide), ?_⟩
  · have e1 : z_run X z_cf z_ff (d + 5) 26 [.ref 1] (0, 55, ce, sl, zeI, L, zeR) = zI (0, 55, ce, sl, zeI, L, zeR) (Int32.ofInt 0) := by
      refine zM.run (B := 2) rfl rfl (lo := [(0, .ref 1)]) rfl ?_ (by decide)
      have e2 : z_run X z_cf z_ff (d + 4) 3 [.ref 5] (0, 55, ce, sl, zeI, L, zeR) = zI (0, 55, ce, sl, zeI, L, zeR) (zeI 5 2) := zM.run (B := 1) rfl rfl (lo := [(0, .ref 5)]) rfl (zM.fin (fun N => zb_sArrayList_size_0 X _ N ce sl zeI L) (Nat.le_refl _)) (by decide)
      refine zM.step (fun N => (zb_sLine_many_0 X _ N ce sl zeI L).trans (z_bi_of e2)) (Nat.le_refl _) ?_
      exact zM.fin (fun N => zb_sLine_many_7 X _ N ce sl zeI L _) (Nat.le_refl _)
    refine zM.step (fun N => (zb_sX_stand_0 X _ N ce sl zeI L x1 x2 x3 x4 x5 x6 x7 x8).trans (z_bi_of e1)) (Nat.le_refl _) ?_
    refine zM.step (fun N => ((zb_sX_stand_7 X _ N ce sl zeI L x1 x2 x3 x4 x5 x6 x7 x8 _).trans (if_neg (by decide))).trans (z_bi_of (zr_isFrame X (d + 3) _ x1 x2 x3 x4 h1.1 h1.2 h2.1 h2.2 h3.1 h3.2 h4.1 h4.2))) (Nat.le_refl _) ?_
    refine zM.step (fun N => ((zb_sX_stand_19 X _ N ce sl zeI L x1 x2 x3 x4 x5 x6 x7 x8 _).trans (if_neg hn)).trans (z_bi_of (zr_isDrive X (d + 3) _ x5 x6 x7 x8 h5.1 h5.2 h6.1 h6.2 h7.1 h7.2 h8.1 h8.2))) (Nat.le_refl _) ?_
    refine zM.step (fun N => ((zb_sX_stand_33 X _ N ce sl zeI L x1 x2 x3 x4 x5 x6 x7 x8 _).trans (if_neg hn)).trans (z_b0_of (zM.run (d := d + 4) (B := 1) rfl rfl (lo := [(0, .ref 55), (1, .int x1), (2, .int x2), (3, .int x3), (4, .int x4)]) rfl (zM.fin (fun N => zb_tStand_init_0 X _ N _ _ zeI L x1 x2 x3 x4) (Nat.le_refl _)) (by decide)))) (Nat.le_refl _) ?_
    refine zM.step (fun N => (zb_sX_stand_50 X _ N _ _ _ L x5 x6 x7 x8).trans (z_b0_of (zM.run (d := d + 4) (B := 1) rfl rfl (lo := [(0, .ref 55), (1, .int x5), (2, .int x6), (3, .int x7), (4, .int x8)]) rfl (zM.fin (fun N => zb_tStand_setDrive_0 X _ N _ _ _ L x5 x6 x7 x8) (Nat.le_refl _)) (by decide)))) (Nat.le_refl _) ?_
    refine zM.step (fun N => (zb_sX_stand_65 X _ N _ _ _ L).trans (z_b0_of (zM.run (d := d + 4) (B := 1) rfl rfl (lo := [(0, .ref 25)]) rfl (zM.fin (fun N => (zb_tRun_forget_0 X _ N _ _ _ L).trans (z_gd_of z_b1_0 _)) (Nat.le_refl _)) (by decide)))) (Nat.le_refl _) ?_
    have hJ : J 5 2 = 0 := by rw [hI]; rfl
    show zM X (d + 5) 37 _ _ _ _ (0, 56, _, _, zSt x1 x2 x3 x4 x5 x6 x7 x8, L, zeR) _
    rw [← hI]
    have g2 : ∀ (d ce sl : Nat) (I : Nat → Nat → Int32) (x : Int32), x = Int32.ofInt 1 → z_run X z_cf z_ff (d + 1) 7 [.ref 5, .int x] (0, 56, ce, sl, I, L, zeR) = some (.inl (some (.ref 56)), (0, 57, ce + 1, sl + 10, I, L, zeRg)) := by
      intro d ce sl I x hx
      refine zM.run (B := 1) rfl rfl (lo := [(0, .ref 5), (1, .int x)]) rfl (zM.fin (fun N => ((zb_tArrayList_grow2_0 X _ N ce sl I L x).trans (if_neg (by decide))).trans (if_pos (by rw [hx]; decide))) (Nat.le_refl _)) (by decide)
    have g1 : ∀ (d ce sl : Nat) (I : Nat → Nat → Int32), I 5 2 = 0 → z_run X z_cf z_ff (d + 2) 6 [.ref 5] (0, 56, ce, sl, I, L, zeR) = some (.inl (some (.ref 56)), (0, 57, ce + 1, sl + 10, I, L, zeRg)) := by
      intro d ce sl I hi
      refine zM.run (B := 2) rfl rfl (lo := [(0, .ref 5)]) rfl ?_ (by decide)
      refine zM.step (fun N => (zb_tArrayList_grow1_0 X _ N ce sl I L).trans (z_br_of (g2 d ce sl I _ (by rw [hi]; decide)))) (Nat.le_refl _) ?_
      exact zM.fin (fun N => zb_tArrayList_grow1_10 X _ N _ _ I L) (Nat.le_refl _)
    have a2 : ∀ (d ce sl : Nat) (I : Nat → Nat → Int32), I 5 2 = 0 → z_run X z_cf z_ff (d + 3) 5 [.ref 5, .ref 55, .ref 1003, .int 0] (0, 56, ce, sl, I, L, zeR) = some (.inl none, (0, 57, ce + 1, sl + 10, z_up I 5 2 (0 + Int32.ofInt 1), L, zeR1)) := by
      intro d ce sl I hi
      refine zM.run (B := 2) rfl rfl (lo := [(0, .ref 5), (1, .ref 55), (2, .ref 1003), (3, .int 0)]) rfl ?_ (by decide)
      refine zM.step (fun N => ((zb_tArrayList_add2_0 X _ N ce sl I L 0).trans (if_pos (by decide))).trans (z_br_of (g1 d ce sl I hi))) (Nat.le_refl _) ?_
      exact zM.fin (fun N => (zb_tArrayList_add2_10 X _ N _ _ I L 0).trans (z_gd_of (y_in_t (by decide) (by decide)) _)) (Nat.le_refl _)
    have a1 : ∀ (d ce sl : Nat) (I : Nat → Nat → Int32), I 5 2 = 0 → z_run X z_cf z_ff (d + 4) 4 [.ref 5, .ref 55] (0, 56, ce, sl, I, L, zeR) = zI (0, 57, ce + 1, sl + 10, z_up (z_up I 5 0 (I 5 0 + Int32.ofInt 1)) 5 2 (0 + Int32.ofInt 1), L, zeR1) (Int32.ofInt 1) := by
      intro d ce sl I hi
      refine zM.run (B := 2) rfl rfl (lo := [(0, .ref 5), (1, .ref 55)]) rfl ?_ (by decide)
      have hb := fun N => zb_tArrayList_add1_0 X (z_run X z_cf z_ff (d + 3)) N ce sl I L
      rw [hi] at hb
      refine zM.step (fun N => (hb N).trans (z_b0_of (a2 d ce sl _ (show z_up I 5 0 _ 5 2 = 0 from hi)))) (Nat.le_refl _) ?_
      exact zM.fin (fun N => (zb_tArrayList_add1_23 X _ N _ _ _ L).trans (z_gd_of z_b1_1 _)) (Nat.le_refl _)
    have as : ∀ (d ce sl : Nat) (I : Nat → Nat → Int32), I 5 2 = 0 → z_run X z_cf z_ff (d + 5) 30 [.ref 1, .ref 55] (0, 56, ce, sl, I, L, zeR) = zI (0, 57, ce + 1, sl + 10, z_up (z_up I 5 0 (I 5 0 + Int32.ofInt 1)) 5 2 (0 + Int32.ofInt 1), L, zeR1) ((0 + Int32.ofInt 1) - Int32.ofInt 1) := by
      intro d ce sl I hi
      refine zM.run (B := 3) rfl rfl (lo := [(0, .ref 1), (1, .ref 55)]) rfl ?_ (by decide)
      refine zM.step (fun N => (zb_tLine_addStand_0 X _ N ce sl I L).trans (z_bi_of (a1 d ce sl I hi))) (Nat.le_refl _) ?_
      refine zM.step (fun N => (zb_tLine_addStand_8 X _ N _ _ _ L _).trans (z_bi_of (zM.run (d := d + 3) (B := 1) rfl rfl (lo := [(0, .ref 5)]) rfl (zM.fin (fun N => zb_uArrayList_size_0 X _ N _ _ _ L) (Nat.le_refl _)) (by decide)))) (Nat.le_refl _) ?_
      exact zM.fin (fun N => zb_tLine_addStand_16 X _ N _ _ _ L _) (Nat.le_refl _)
    refine zM.step (fun N => (zb_sX_stand_72 X _ N _ _ J L).trans (z_bi_of (as d _ _ J hJ))) (Nat.le_refl _) ?_
    exact zM.fin (fun N => zb_sX_stand_81 X _ N _ _ _ L _) (by decide)
  · rw [hI]
    exact ⟨rfl, rfl, rfl, rfl, rfl, rfl, rfl, rfl⟩
