/-! CALLS, 2: the stand's place; a point told -/
theorem zr_check (X : ZX) (d : Nat) (w : ZW) : z_run X z_cf z_ff (d + 2) 11 [.int (Int32.ofInt 0), .int (Int32.ofInt 1)] w = zI w (Int32.ofInt 0) := by
  refine zM.run (B := 2) rfl rfl (lo := [(0, .int (Int32.ofInt 0)), (1, .int (Int32.ofInt 1))]) rfl ?_ (by decide)
  refine zM.step (fun N => (zb_Objects_checkIndex_0 X _ N w _ _).trans (z_bi_of (zM.run (d := d) (B := 1) rfl rfl (lo := [(0, .int (Int32.ofInt 0)), (1, .int (Int32.ofInt 1)), (2, .null)]) rfl (zM.fin (fun N => ((zb_Preconditions_checkIndex_0 X _ N w _ _).trans (if_neg (by decide))).trans (if_pos (by decide))) (Nat.le_refl _)) (by decide)))) (Nat.le_refl _) ?_
  exact zM.fin (fun N => zb_Objects_checkIndex_6 X _ N w _) (Nat.le_refl _)
theorem zr_fsize (X : ZX) (d ce sl : Nat) (I : Nat → Nat → Int32) (L : Nat → Nat → Int64) (h : I 5 2 = Int32.ofInt 1) : z_run X z_cf z_ff (d + 1) 3 [.ref 5] (0, 59, ce, sl, I, L, zeR1) = zI (0, 59, ce, sl, I, L, zeR1) (Int32.ofInt 1) := by
  rw [← h]
  exact zM.run (B := 1) rfl rfl (lo := [(0, .ref 5)]) rfl (zM.fin (fun N => zb_fArrayList_size_0 X _ N ce sl I L) (Nat.le_refl _)) (by decide)
theorem zr_fmany (X : ZX) (d ce sl : Nat) (I : Nat → Nat → Int32) (L : Nat → Nat → Int64) (h : I 5 2 = Int32.ofInt 1) : z_run X z_cf z_ff (d + 2) 26 [.ref 1] (0, 59, ce, sl, I, L, zeR1) = zI (0, 59, ce, sl, I, L, zeR1) (Int32.ofInt 1) := by
  refine zM.run (B := 2) rfl rfl (lo := [(0, .ref 1)]) rfl ?_ (by decide)
  refine zM.step (fun N => (zb_fLine_many_0 X _ N ce sl I L).trans (z_bi_of (zr_fsize X d ce sl I L h))) (Nat.le_refl _) ?_
  exact zM.fin (fun N => zb_fLine_many_7 X _ N ce sl I L _) (Nat.le_refl _)
theorem zr_fget (X : ZX) (d ce sl : Nat) (I : Nat → Nat → Int32) (L : Nat → Nat → Int64) (h : I 5 2 = Int32.ofInt 1) : z_run X z_cf z_ff (d + 3) 10 [.ref 5, .int (Int32.ofInt 0)] (0, 59, ce, sl, I, L, zeR1) = some (.inl (some (.ref 55)), (0, 59, ce, sl, I, L, zeR1)) := by
  have b0 := fun N => zb_fArrayList_get_0 X (z_run X z_cf z_ff (d + 2)) N ce sl I L (Int32.ofInt 0)
  rw [h] at b0
  refine zM.run (B := 3) rfl rfl (lo := [(0, .ref 5), (1, .int (Int32.ofInt 0))]) rfl ?_ (by decide)
  refine zM.step (fun N => (b0 N).trans (z_bi_of (zr_check X d _))) (Nat.le_refl _) ?_
  refine zM.step (fun N => (zb_fArrayList_get_8 X _ N ce sl I L _ _).trans (z_br_of (zM.run (d := d + 1) (B := 1) rfl rfl (lo := [(0, .ref 5), (1, .int (Int32.ofInt 0))]) rfl (zM.fin (fun N => (zb_fArrayList_elementData_0 X _ N ce sl I L).trans (z_gd_of (y_in_t (by decide) (by decide)) _)) (Nat.le_refl _)) (by decide)))) (Nat.le_refl _) ?_
  exact zM.fin (fun N => zb_fArrayList_get_14 X _ N ce sl I L) (Nat.le_refl _)
theorem zr_fat (X : ZX) (d ce sl : Nat) (I : Nat → Nat → Int32) (L : Nat → Nat → Int64) (h : I 5 2 = Int32.ofInt 1) : z_run X z_cf z_ff (d + 4) 32 [.ref 1, .int (Int32.ofInt 0)] (0, 59, ce, sl, I, L, zeR1) = some (.inl (some (.ref 55)), (0, 59, ce, sl, I, L, zeR1)) := by
  refine zM.run (B := 2) rfl rfl (lo := [(0, .ref 1), (1, .int (Int32.ofInt 0))]) rfl ?_ (by decide)
  refine zM.step (fun N => (zb_fLine_at_0 X _ N ce sl I L _).trans (z_br_of (zr_fget X d ce sl I L h))) (Nat.le_refl _) ?_
  exact zM.fin (fun N => zb_fLine_at_8 X _ N ce sl I L) (Nat.le_refl _)
theorem zr_fstandAt (X : ZX) (d ce sl : Nat) (I : Nat → Nat → Int32) (L : Nat → Nat → Int64) (h : I 5 2 = Int32.ofInt 1) : z_run X z_cf z_ff (d + 5) 43 [.ref 0, .int (Int32.ofInt 0)] (0, 59, ce, sl, I, L, zeR1) = some (.inl (some (.ref 55)), (0, 59, ce, sl, I, L, zeR1)) := by
  refine zM.run (B := 4) rfl rfl (lo := [(0, .ref 0), (1, .int (Int32.ofInt 0))]) rfl ?_ (by decide)
  refine zM.step (fun N => (zb_fX_standAt_0 X _ N ce sl I L _).trans (z_bi_of (zr_fmany X (d + 2) ce sl I L h))) (Nat.le_refl _) ?_
  refine zM.step (fun N => (zb_fX_standAt_9 X _ N ce sl I L _ _ _ _).trans (z_bi_of (zr_within X (d + 3) _ _ _ _ (by decide) (by decide)))) (Nat.le_refl _) ?_
  refine zM.step (fun N => ((zb_fX_standAt_14 X _ N ce sl I L _ _).trans (if_neg (by decide))).trans (z_br_of (zr_fat X d ce sl I L h))) (Nat.le_refl _) ?_
  exact zM.fin (fun N => zb_fX_standAt_33 X _ N ce sl I L) (Nat.le_refl _)
theorem zr_wsize (X : ZX) (d ce sl : Nat) (I : Nat → Nat → Int32) (L : Nat → Nat → Int64) (h : I 5 2 = Int32.ofInt 1) : z_run X z_cf z_ff (d + 1) 3 [.ref 5] (0, 63, ce, sl, I, L, zeR1) = zI (0, 63, ce, sl, I, L, zeR1) (Int32.ofInt 1) := by
  rw [← h]
  exact zM.run (B := 1) rfl rfl (lo := [(0, .ref 5)]) rfl (zM.fin (fun N => zb_wArrayList_size_0 X _ N ce sl I L) (Nat.le_refl _)) (by decide)
theorem zr_wmany (X : ZX) (d ce sl : Nat) (I : Nat → Nat → Int32) (L : Nat → Nat → Int64) (h : I 5 2 = Int32.ofInt 1) : z_run X z_cf z_ff (d + 2) 26 [.ref 1] (0, 63, ce, sl, I, L, zeR1) = zI (0, 63, ce, sl, I, L, zeR1) (Int32.ofInt 1) := by
  refine zM.run (B := 2) rfl rfl (lo := [(0, .ref 1)]) rfl ?_ (by decide)
  refine zM.step (fun N => (zb_wLine_many_0 X _ N ce sl I L).trans (z_bi_of (zr_wsize X d ce sl I L h))) (Nat.le_refl _) ?_
  exact zM.fin (fun N => zb_wLine_many_7 X _ N ce sl I L _) (Nat.le_refl _)
theorem zr_wget (X : ZX) (d ce sl : Nat) (I : Nat → Nat → Int32) (L : Nat → Nat → Int64) (h : I 5 2 = Int32.ofInt 1) : z_run X z_cf z_ff (d + 3) 10 [.ref 5, .int (Int32.ofInt 0)] (0, 63, ce, sl, I, L, zeR1) = some (.inl (some (.ref 55)), (0, 63, ce, sl, I, L, zeR1)) := by
  have b0 := fun N => zb_wArrayList_get_0 X (z_run X z_cf z_ff (d + 2)) N ce sl I L (Int32.ofInt 0)
  rw [h] at b0
  refine zM.run (B := 3) rfl rfl (lo := [(0, .ref 5), (1, .int (Int32.ofInt 0))]) rfl ?_ (by decide)
  refine zM.step (fun N => (b0 N).trans (z_bi_of (zr_check X d _))) (Nat.le_refl _) ?_
  refine zM.step (fun N => (zb_wArrayList_get_8 X _ N ce sl I L _ _).trans (z_br_of (zM.run (d := d + 1) (B := 1) rfl rfl (lo := [(0, .ref 5), (1, .int (Int32.ofInt 0))]) rfl (zM.fin (fun N => (zb_wArrayList_elementData_0 X _ N ce sl I L).trans (z_gd_of (y_in_t (by decide) (by decide)) _)) (Nat.le_refl _)) (by decide)))) (Nat.le_refl _) ?_
  exact zM.fin (fun N => zb_wArrayList_get_14 X _ N ce sl I L) (Nat.le_refl _)
theorem zr_wat (X : ZX) (d ce sl : Nat) (I : Nat → Nat → Int32) (L : Nat → Nat → Int64) (h : I 5 2 = Int32.ofInt 1) : z_run X z_cf z_ff (d + 4) 32 [.ref 1, .int (Int32.ofInt 0)] (0, 63, ce, sl, I, L, zeR1) = some (.inl (some (.ref 55)), (0, 63, ce, sl, I, L, zeR1)) := by
  refine zM.run (B := 2) rfl rfl (lo := [(0, .ref 1), (1, .int (Int32.ofInt 0))]) rfl ?_ (by decide)
  refine zM.step (fun N => (zb_wLine_at_0 X _ N ce sl I L _).trans (z_br_of (zr_wget X d ce sl I L h))) (Nat.le_refl _) ?_
  exact zM.fin (fun N => zb_wLine_at_8 X _ N ce sl I L) (Nat.le_refl _)
theorem zr_wstandAt (X : ZX) (d ce sl : Nat) (I : Nat → Nat → Int32) (L : Nat → Nat → Int64) (h : I 5 2 = Int32.ofInt 1) : z_run X z_cf z_ff (d + 5) 43 [.ref 0, .int (Int32.ofInt 0)] (0, 63, ce, sl, I, L, zeR1) = some (.inl (some (.ref 55)), (0, 63, ce, sl, I, L, zeR1)) := by
  refine zM.run (B := 4) rfl rfl (lo := [(0, .ref 0), (1, .int (Int32.ofInt 0))]) rfl ?_ (by decide)
  refine zM.step (fun N => (zb_wX_standAt_0 X _ N ce sl I L _).trans (z_bi_of (zr_wmany X (d + 2) ce sl I L h))) (Nat.le_refl _) ?_
  refine zM.step (fun N => (zb_wX_standAt_9 X _ N ce sl I L _ _ _ _).trans (z_bi_of (zr_within X (d + 3) _ _ _ _ (by decide) (by decide)))) (Nat.le_refl _) ?_
  refine zM.step (fun N => ((zb_wX_standAt_14 X _ N ce sl I L _ _).trans (if_neg (by decide))).trans (z_br_of (zr_wat X d ce sl I L h))) (Nat.le_refl _) ?_
  exact zM.fin (fun N => zb_wX_standAt_33 X _ N ce sl I L) (Nat.le_refl _)
theorem zr_point (X : ZX) (d ce sl : Nat) (I : Nat → Nat → Int32) (L : Nat → Nat → Int64) (a b : Int32) (h22 : I 2 2 = 0) (h30 : I 3 0 = 0) (h40 : I 4 0 = 0) (ha : 1 ≤ a.toInt ∧ a.toInt ≤ 60000) (hb : 1 ≤ b.toInt ∧ b.toInt ≤ 99999) : ∃ v, z_run X z_cf z_ff (d + 3) 41 [.ref 0, .int a, .int b] (0, 61, ce, sl, I, L, zeR1) = zI (0, 61, ce, sl, z_up (z_up (z_up I 2 2 (Int32.ofInt 1)) 3 1 a) 4 1 b, L, zeR1) v := by
  have b0 := fun N => zb_pBiteLaw_addPoint_0 X (z_run X z_cf z_ff (d + 1)) N ce sl I L a b
  have b1 := fun N => zb_pBiteLaw_addPoint_26 X (z_run X z_cf z_ff (d + 1)) N ce sl I L a b (Int32.ofInt 1)
  have b2 := fun N => zb_pBiteLaw_addPoint_46 X (z_run X z_cf z_ff (d + 1)) N ce sl I L a b (Int32.ofInt 1)
  have e0 : (0 : Int32).toNatClampNeg = 0 := rfl
  have e1 : (0 : Int32) + Int32.ofInt 1 = Int32.ofInt 1 := rfl
  have e2 : (Int32.ofInt 1).toNatClampNeg = 1 := rfl
  rw [h22, e0, h30, e1] at b0
  rw [h22, e0, h40, e1] at b1
  rw [h22, e1, e2] at b2
  have i0 : z_in (0 : Int32) 11 = true := y_in_t (by decide) (by decide)
  have i1 : z_in (Int32.ofInt 1) 11 = true := y_in_t (by decide) (by decide)
  have hn : ¬ (Int32.ofInt 1 : Int32) = 0 := by decide
  have hA : z_run X z_cf z_ff (d + 2) 31 [.ref 2, .int a, .int b] (0, 61, ce, sl, I, L, zeR1) = zI (0, 61, ce, sl, z_up (z_up (z_up I 2 2 (Int32.ofInt 1)) 3 1 a) 4 1 b, L, zeR1) (Int32.ofInt 1) := by
    refine zM.run (B := 3) rfl rfl (lo := [(0, .ref 2), (1, .int a), (2, .int b)]) rfl ?_ (by decide)
    refine zM.step (fun N => ((b0 N).trans (if_neg (by decide))).trans ((z_gd_of i0 _).trans (z_bi_of (zr_within X d _ a _ _ ha.1 ha.2)))) (Nat.le_refl _) ?_
    refine zM.step (fun N => ((b1 N).trans (if_neg hn)).trans ((z_gd_of i0 _).trans (z_bi_of (zr_within X d _ b _ _ hb.1 hb.2)))) (Nat.le_refl _) ?_
    exact zM.fin (fun N => ((b2 N).trans (if_neg hn)).trans ((z_gd_of i1 _).trans (z_gd_of i1 _))) (Nat.le_refl _)
  refine ⟨Int32.ofInt 1, zM.run (B := 2) rfl rfl (lo := [(0, .ref 0), (1, .int a), (2, .int b)]) rfl ?_ (by decide)⟩
  refine zM.step (fun N => (zb_pX_point_0 X _ N ce sl I L a b).trans (z_bi_of hA)) (Nat.le_refl _) ?_
  exact zM.fin (fun N => zb_pX_point_12 X _ N _ _ _ L _) (Nat.le_refl _)
