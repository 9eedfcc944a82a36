/-! CALLS, 45: run -/
/-- rows of the latest run agree behind their end -/
def zg_W (I : Nat → Nat → Int32) : Prop := (∀ j, 200 ≤ j → I 26 j = I 80 j) ∧ (∀ j, 5 ≤ j → I 27 j = I 82 j)
theorem zr_both8 (X : ZX) (d d2 m ce sl ce2 sl2 : Nat) (I Im : Nat → Nat → Int32) (L L2 : Nat → Nat → Int64) (t u r q : Nat) {c C p : Nat} (hS : zg_S C m I) (hL : zg_L p I) (hC : zg_C I) (hc : (I 22 2).toInt = c) (h511 : C ≤ 511) (hW : zg_W I) {l : List zcl} (hV : zg_V8 l I) (a : Int32) (ha0 : 1 ≤ a.toInt) (ha1 : a.toInt ≤ 60000) (hM : ∀ x, x < 118 → (x < 25 ∨ 29 < x) → x ≠ 10 → x ≠ 17 → Im x = I x) : ∃ (J K K0 : Nat → Nat → Int32) (g : Nat) (e : Int32), zRe m c a I K0 J K g ∧ g ≤ 44 ∧
    (∀ x, x ≠ 55 → x ≠ 80 → x ≠ 82 → x ≠ 88 → K0 x = Im x) ∧ (∀ j, j ≠ 0 → (j < 43 ∨ 48 < j) → j ≠ 54 → j ≠ 55 → K0 55 j = Im 55 j) ∧ K0 55 55 = a ∧ K0 55 48 = Int32.ofInt 1 ∧ K0 55 47 = I 55 1 ∧ K0 55 0 = Int32.ofInt 0 ∧
    z_pu (z_run X z_cf z_ff (d + 8)) 81 [.ref 25, .ref 8, .int a] (118, z_sd m, ce, sl, I, L, z_rr t u r q (z_gg m) (z_sf m)) = some (.inl (some (.int e)), (118, z_sd m, ce, sl, J, L, z_rr t u r q (z_gg m) (z_sf m))) ∧
    z_pu (z_run X z_cf z_ff (d2 + 8)) 208 [.ref 55, .int a] (118, z_sd m, ce2, sl2, Im, L2, z_rr t u r q (z_gg m) (z_sf m)) = some (.inl (some (.int e)), (118, z_sd m, ce2, sl2, K, L2, z_rr t u r q (z_gg m) (z_sf m))) := by
  have h55 : Im 55 = I 55 := hM 55 (by omega) (by omega) (by omega) (by omega)
  obtain ⟨c1, c2, c3, c4, c5, c6⟩ := id hC
  have h40 : c ≤ 40 := by omega
  obtain ⟨b1, b2, b3, b4, b5⟩ := id hS
  have hc5 : (I 55 42).toInt = c := by rw [← c1, hc]
  obtain ⟨J1, j0, j1, j2, j3, j4, j5, j6, j7, j8, j12, j26, j27⟩ := zr_begin X d m ce sl I L t u r q a
  obtain ⟨K0, k0, k1, k2, k43, k44, k45, k46, k54, k55, k48, k47, k550, k80, k82, k88⟩ := zr_Mbegin X d2 m ce2 sl2 Im L2 t u r q a h40 b1 (by rw [h55, hc5]) (by rw [h55, b3]) ha0 ha1
  have hB : zBs m c C p I K0 := by
    refine ⟨hS, hL, hC, hc, h511, ?_, ?_, ?_, ?_, ?_, ?_⟩
    · intro x x1 x2 x3 x4
      rw [k1 x x2 (by omega) (by omega) (by omega)]
      exact hM x x1 x3.1 x3.2.1 x3.2.2
    · rw [k2 1 (by omega) (by omega) (by omega) (by omega), h55]
    · rw [k2 13 (by omega) (by omega) (by omega) (by omega), h55]
    · rw [k2 42 (by omega) (by omega) (by omega) (by omega), h55]
    · rw [k2 28 (by omega) (by omega) (by omega) (by omega), h55]
    · rw [k2 29 (by omega) (by omega) (by omega) (by omega), h55]
  have h80' : ∀ j < 200, K0 80 j = Int32.ofInt (-1) := fun j hj => by rw [k80 j, if_pos (by omega)]
  have hsd : ∀ k, J1 (z_sd k) = I (z_sd k) := fun k => j1 _ (by have := z_sd_ge k; omega) (by have := z_sd_ge k; omega) (by have := z_sd_ge k; omega)
  have hRe := zRe_start (aim := a) hB j1 j2 j3 j4 j5 j6 j7 j8 j12
    (by
      funext j
      rw [j26 j, k80 j, hM 80 (by omega) (by omega) (by omega) (by omega)]
      by_cases x : 0 ≤ j ∧ j < 200
      · rw [if_pos x, if_pos x]
      · rw [if_neg x, if_neg x, hW.1 j (by omega)])
    (by
      funext j
      rw [j27 j, k82 j, hM 82 (by omega) (by omega) (by omega) (by omega)]
      by_cases x : 0 ≤ j ∧ j < 5
      · rw [if_pos x, if_pos x]
      · rw [if_neg x, if_neg x, hW.2 j (by omega)])
    h80' k43 k44 k45 k46 k54
    (fun k hk => by rw [k1 64 (by omega) (by omega) (by omega) (by omega), hM 64 (by omega) (by omega) (by omega) (by omega), hsd k]; exact (b4 k hk).1.2.2.2.2.2.2.2.2.1.symm)
    (fun k hk => by rw [k1 65 (by omega) (by omega) (by omega) (by omega), hM 65 (by omega) (by omega) (by omega) (by omega), hsd k]; exact (b4 k hk).1.2.2.2.2.2.2.2.2.2.1.symm)
  have hRD := zRD_start hB hRe h80' (fun j hj => by rw [k88 j, if_pos (by omega), hM 79 (by omega) (by omega) (by omega) (by omega), c5]) (fun k hk => by rw [k1 65 (by omega) (by omega) (by omega) (by omega), hM 65 (by omega) (by omega) (by omega) (by omega)])
  obtain ⟨M', m1, m2⟩ := zr_due8 X d m ce sl J1 L t u r q h40 b1 (by rw [j1 22 (by omega) (by omega) (by omega), hc]) (by rw [j1 5 (by omega) (by omega) (by omega), b2]) 99999995
  have hcl : ∀ R, z_loop X z_cf z_ff (z_pu (z_run X z_cf z_ff (d + 7))) 81 M' 52 [(0, .ref 25), (1, .ref 8), (3, .int (zdue m c)), (4, .int (Int32.ofInt 0))] [] (118, z_sd m, ce, sl, J1, L, z_rr t u r q (z_gg m) (z_sf m)) = R → z_pu (z_run X z_cf z_ff (d + 8)) 81 [.ref 25, .ref 8, .int a] (118, z_sd m, ce, sl, I, L, z_rr t u r q (z_gg m) (z_sf m)) = R := by
    intro R hR
    refine z_en X (d + 5) _ _ [(0, .ref 25), (1, .ref 8), (2, .int a)] _ _ rfl rfl rfl ?_
    rw [show (100000000 : Nat) = (99999995 + 4) + 1 by omega, zb_Run_roll_25_8_0, j0, z_b0_v, m2]
    exact hR
  by_cases hd : 1 ≤ m ∧ 1 ≤ c
  · have hdue : (zdue m c).toInt = ((m + c - 1 : Nat) : Int) := by
      unfold zdue
      rw [if_pos hd, y_oi (by omega) (by omega)]
      omega
    obtain ⟨J, K, g, e, g1, g2, g3, g4⟩ := zr_ticks8 X d d2 m ce sl ce2 sl2 L L2 t u r q hB hd.1 k55 l hV (zdue m c) hdue (by omega) (m + c - 1) 0 J1 K0 (Int32.ofInt 0) (by omega) rfl hRD hRe
    refine ⟨J, K, K0, g, e, g1, g2, k1, k2, k55, k48, by rw [k47, h55], k550, hcl _ ?_, k0 _ ?_⟩
    · rw [show M' = (M' - 6 * (m + c - 1) - 1) + 6 * (m + c - 1) + 1 by omega]
      exact g3 _
    · intro N hN
      rw [show N = (N - 2 * (m + c - 1) - 2) + 2 * (m + c - 1) + 2 by omega]
      exact g4 _
  · have hdue : zdue m c = Int32.ofInt 0 := by
      unfold zdue
      rw [if_neg hd]
    have h00 : (Int32.ofInt 0 : Int32) ≤ Int32.ofInt 0 := by decide
    refine ⟨J1, K0, K0, 0, Int32.ofInt 0, hRe, by omega, k1, k2, k55, k48, by rw [k47, h55], k550, hcl _ ?_, k0 _ ?_⟩
    · rw [show M' = (M' - 1) + 1 by omega, zb_Run_roll_25_8_52, hdue, if_pos h00]
    · intro N hN
      rw [show N = (N - 1) + 1 by omega, zb_M_run_167, hdue, if_pos h00]
theorem zr_both15 (X : ZX) (d d2 m ce sl ce2 sl2 : Nat) (I Im : Nat → Nat → Int32) (L L2 : Nat → Nat → Int64) (t u r q : Nat) {c C p : Nat} (hS : zg_S C m I) (hL : zg_L p I) (hC : zg_C I) (hc : (I 22 2).toInt = c) (h511 : C ≤ 511) (hW : zg_W I) {l : List zcl} (hV : zg_V15 l I) (a : Int32) (ha0 : 1 ≤ a.toInt) (ha1 : a.toInt ≤ 60000) (hM : ∀ x, x < 118 → (x < 25 ∨ 29 < x) → x ≠ 10 → x ≠ 17 → Im x = I x) : ∃ (J K K0 : Nat → Nat → Int32) (g : Nat) (e : Int32), zRe m c a I K0 J K g ∧ g ≤ 44 ∧
    (∀ x, x ≠ 55 → x ≠ 80 → x ≠ 82 → x ≠ 88 → K0 x = Im x) ∧ (∀ j, j ≠ 0 → (j < 43 ∨ 48 < j) → j ≠ 54 → j ≠ 55 → K0 55 j = Im 55 j) ∧ K0 55 55 = a ∧ K0 55 48 = Int32.ofInt 1 ∧ K0 55 47 = I 55 1 ∧ K0 55 0 = Int32.ofInt 0 ∧
    z_pu (z_run X z_cf z_ff (d + 8)) 81 [.ref 25, .ref 15, .int a] (118, z_sd m, ce, sl, I, L, z_rr t u r q (z_gg m) (z_sf m)) = some (.inl (some (.int e)), (118, z_sd m, ce, sl, J, L, z_rr t u r q (z_gg m) (z_sf m))) ∧
    z_pu (z_run X z_cf z_ff (d2 + 8)) 208 [.ref 55, .int a] (118, z_sd m, ce2, sl2, Im, L2, z_rr t u r q (z_gg m) (z_sf m)) = some (.inl (some (.int e)), (118, z_sd m, ce2, sl2, K, L2, z_rr t u r q (z_gg m) (z_sf m))) := by
  have h55 : Im 55 = I 55 := hM 55 (by omega) (by omega) (by omega) (by omega)
  obtain ⟨c1, c2, c3, c4, c5, c6⟩ := id hC
  have h40 : c ≤ 40 := by omega
  obtain ⟨b1, b2, b3, b4, b5⟩ := id hS
  have hc5 : (I 55 42).toInt = c := by rw [← c1, hc]
  obtain ⟨J1, j0, j1, j2, j3, j4, j5, j6, j7, j8, j12, j26, j27⟩ := zr_begin X d m ce sl I L t u r q a
  obtain ⟨K0, k0, k1, k2, k43, k44, k45, k46, k54, k55, k48, k47, k550, k80, k82, k88⟩ := zr_Mbegin X d2 m ce2 sl2 Im L2 t u r q a h40 b1 (by rw [h55, hc5]) (by rw [h55, b3]) ha0 ha1
  have hB : zBs m c C p I K0 := by
    refine ⟨hS, hL, hC, hc, h511, ?_, ?_, ?_, ?_, ?_, ?_⟩
    · intro x x1 x2 x3 x4
      rw [k1 x x2 (by omega) (by omega) (by omega)]
      exact hM x x1 x3.1 x3.2.1 x3.2.2
    · rw [k2 1 (by omega) (by omega) (by omega) (by omega), h55]
    · rw [k2 13 (by omega) (by omega) (by omega) (by omega), h55]
    · rw [k2 42 (by omega) (by omega) (by omega) (by omega), h55]
    · rw [k2 28 (by omega) (by omega) (by omega) (by omega), h55]
    · rw [k2 29 (by omega) (by omega) (by omega) (by omega), h55]
  have h80' : ∀ j < 200, K0 80 j = Int32.ofInt (-1) := fun j hj => by rw [k80 j, if_pos (by omega)]
  have hsd : ∀ k, J1 (z_sd k) = I (z_sd k) := fun k => j1 _ (by have := z_sd_ge k; omega) (by have := z_sd_ge k; omega) (by have := z_sd_ge k; omega)
  have hRe := zRe_start (aim := a) hB j1 j2 j3 j4 j5 j6 j7 j8 j12
    (by
      funext j
      rw [j26 j, k80 j, hM 80 (by omega) (by omega) (by omega) (by omega)]
      by_cases x : 0 ≤ j ∧ j < 200
      · rw [if_pos x, if_pos x]
      · rw [if_neg x, if_neg x, hW.1 j (by omega)])
    (by
      funext j
      rw [j27 j, k82 j, hM 82 (by omega) (by omega) (by omega) (by omega)]
      by_cases x : 0 ≤ j ∧ j < 5
      · rw [if_pos x, if_pos x]
      · rw [if_neg x, if_neg x, hW.2 j (by omega)])
    h80' k43 k44 k45 k46 k54
    (fun k hk => by rw [k1 64 (by omega) (by omega) (by omega) (by omega), hM 64 (by omega) (by omega) (by omega) (by omega), hsd k]; exact (b4 k hk).1.2.2.2.2.2.2.2.2.1.symm)
    (fun k hk => by rw [k1 65 (by omega) (by omega) (by omega) (by omega), hM 65 (by omega) (by omega) (by omega) (by omega), hsd k]; exact (b4 k hk).1.2.2.2.2.2.2.2.2.2.1.symm)
  have hRD := zRD_start hB hRe h80' (fun j hj => by rw [k88 j, if_pos (by omega), hM 79 (by omega) (by omega) (by omega) (by omega), c5]) (fun k hk => by rw [k1 65 (by omega) (by omega) (by omega) (by omega), hM 65 (by omega) (by omega) (by omega) (by omega)])
  obtain ⟨M', m1, m2⟩ := zr_due15 X d m ce sl J1 L t u r q h40 b1 (by rw [j1 22 (by omega) (by omega) (by omega), hc]) (by rw [j1 5 (by omega) (by omega) (by omega), b2]) 99999995
  have hcl : ∀ R, z_loop X z_cf z_ff (z_pu (z_run X z_cf z_ff (d + 7))) 81 M' 52 [(0, .ref 25), (1, .ref 15), (3, .int (zdue m c)), (4, .int (Int32.ofInt 0))] [] (118, z_sd m, ce, sl, J1, L, z_rr t u r q (z_gg m) (z_sf m)) = R → z_pu (z_run X z_cf z_ff (d + 8)) 81 [.ref 25, .ref 15, .int a] (118, z_sd m, ce, sl, I, L, z_rr t u r q (z_gg m) (z_sf m)) = R := by
    intro R hR
    refine z_en X (d + 5) _ _ [(0, .ref 25), (1, .ref 15), (2, .int a)] _ _ rfl rfl rfl ?_
    rw [show (100000000 : Nat) = (99999995 + 4) + 1 by omega, zb_Run_roll_25_15_0, j0, z_b0_v, m2]
    exact hR
  by_cases hd : 1 ≤ m ∧ 1 ≤ c
  · have hdue : (zdue m c).toInt = ((m + c - 1 : Nat) : Int) := by
      unfold zdue
      rw [if_pos hd, y_oi (by omega) (by omega)]
      omega
    obtain ⟨J, K, g, e, g1, g2, g3, g4⟩ := zr_ticks15 X d d2 m ce sl ce2 sl2 L L2 t u r q hB hd.1 k55 l hV (zdue m c) hdue (by omega) (m + c - 1) 0 J1 K0 (Int32.ofInt 0) (by omega) rfl hRD hRe
    refine ⟨J, K, K0, g, e, g1, g2, k1, k2, k55, k48, by rw [k47, h55], k550, hcl _ ?_, k0 _ ?_⟩
    · rw [show M' = (M' - 6 * (m + c - 1) - 1) + 6 * (m + c - 1) + 1 by omega]
      exact g3 _
    · intro N hN
      rw [show N = (N - 2 * (m + c - 1) - 2) + 2 * (m + c - 1) + 2 by omega]
      exact g4 _
  · have hdue : zdue m c = Int32.ofInt 0 := by
      unfold zdue
      rw [if_neg hd]
    have h00 : (Int32.ofInt 0 : Int32) ≤ Int32.ofInt 0 := by decide
    refine ⟨J1, K0, K0, 0, Int32.ofInt 0, hRe, by omega, k1, k2, k55, k48, by rw [k47, h55], k550, hcl _ ?_, k0 _ ?_⟩
    · rw [show M' = (M' - 1) + 1 by omega, zb_Run_roll_25_15_52, hdue, if_pos h00]
    · intro N hN
      rw [show N = (N - 1) + 1 by omega, zb_M_run_167, hdue, if_pos h00]
/-- what a run leaves -/
theorem zRe_close {m c C g : Nat} {a : Int32} {I J K K0 Im : Nat → Nat → Int32} (hS : zg_S C m I) (hC : zg_C I) (hc : (I 22 2).toInt = c) (ha0 : 1 ≤ a.toInt) (ha1 : a.toInt ≤ 60000) (h : zRe m c a I K0 J K g) (hg : g ≤ 44) (hW : zg_W I) (e1 : ∀ x, x ≠ 55 → x ≠ 80 → x ≠ 82 → x ≠ 88 → K0 x = Im x) (e2 : ∀ j, j ≠ 0 → (j < 43 ∨ 48 < j) → j ≠ 54 → j ≠ 55 → K0 55 j = Im 55 j) (e55 : K0 55 55 = a) (e48 : K0 55 48 = Int32.ofInt 1) (e47 : K0 55 47 = I 55 1) (hI : Im = J) :
    zg_S (C + 1) m K ∧ zg_U m K ∧ zg_W K ∧ zFr [10, 17, 25, 26, 27, 28, 29, 64, 65, 80, 81, 82, 83, 84, 85, 86, 87, 88, 89, 90] [43, 44, 45, 46, 47, 48, 54, 55] I K := by
  subst hI
  obtain ⟨r1, r2, r3, r4, r5, r6, r7, q1, q2, q3, q4, q5, q6, q7, q8, q9⟩ := h
  obtain ⟨b1, b2, b3, b4, b5⟩ := id hS
  obtain ⟨c1, c2, c3, c4, c5, c6⟩ := id hC
  have hcl : ∀ x, x ≠ 55 → x ≠ 64 → x ≠ 65 → (x < 80 ∨ 90 < x) → K x = Im x := by
    intro x x1 x2 x3 x4
    rw [r2.1 x x1 x2 x3 x4, e1 x x1 (by omega) (by omega) (by omega)]
  have hII : ∀ x, x < 118 → x ≠ 55 → x ≠ 64 → x ≠ 65 → (x < 80 ∨ 90 < x) → (x < 25 ∨ 29 < x) → x ≠ 10 → x ≠ 17 → K x = I x := by
    intro x x0 x1 x2 x3 x4 x5 x6 x7
    rw [hcl x x1 x2 x3 x4]
    exact r1.1 x x0 (by omega) (by omega) (by omega) (by omega) ⟨x6, x7⟩
  have h55 : Im 55 = I 55 := r1.1 55 (by omega) (by omega) (by omega) (by omega) (by omega) (by omega)
  have hI5 : ∀ j, j ≠ 0 → (j < 43 ∨ 48 < j) → j ≠ 54 → j ≠ 55 → K 55 j = I 55 j := by
    intro j j0 j1 j2 j3
    rw [r2.2 j (by omega) j2, e2 j j0 j1 j2 j3, h55]
  have hsd : ∀ k, K (z_sd k) = Im (z_sd k) := fun k => hcl _ (by have := z_sd_ge k; omega) (by have := z_sd_ge k; omega) (by have := z_sd_ge k; omega) (by have := z_sd_ge k; omega)
  have k25 : K 25 = Im 25 := hcl 25 (by omega) (by omega) (by omega) (by omega)
  have k26 : K 26 = K 80 := by rw [hcl 26 (by omega) (by omega) (by omega) (by omega), r4]
  have k27 : K 27 = K 82 := by rw [hcl 27 (by omega) (by omega) (by omega) (by omega), r5]
  refine ⟨⟨b1, ?_, ?_, ?_, ?_⟩, ⟨?_, ?_, ?_⟩, ⟨?_, ?_⟩, ⟨?_, ?_⟩⟩
  · rw [hII 5 (by omega) (by omega) (by omega) (by omega) (by omega) (by omega) (by omega) (by omega), b2]
  · rw [hI5 1 (by omega) (by omega) (by omega) (by omega), b3]
  · intro k hk
    obtain ⟨⟨s0, s1, s2, s3, s4, s5, s6, s7, s8, s9, s10⟩, f1, f2, f3, f4, f5, f6, f7, f8, f9, f10, f11, f12, f13, f14, f15, f16, f17, f18⟩ := b4 k hk
    obtain ⟨t1, t2, t3, t4, t5, t6⟩ := r3 k hk
    have hm : ∀ x, 56 ≤ x → x ≤ 66 → x ≠ 64 → x ≠ 65 → K x = I x := fun x x1 x2 x3 x4 => hII x (by omega) (by omega) x3 x4 (by omega) (by omega) (by omega) (by omega)
    have hj : ∀ j, (j < 8 ∨ j = 10) → K (z_sd k) j = I (z_sd k) j := by
      intro j hj
      rw [hsd k]
      exact r1.2.1 k j hk hj
    unfold zg_S1
    rw [hj 0 (by omega), hj 1 (by omega), hj 2 (by omega), hj 3 (by omega), hj 4 (by omega), hj 5 (by omega), hj 6 (by omega), hj 7 (by omega), hj 10 (by omega), hsd k, hm 56 (by omega) (by omega) (by omega) (by omega), hm 57 (by omega) (by omega) (by omega) (by omega), hm 58 (by omega) (by omega) (by omega) (by omega), hm 59 (by omega) (by omega) (by omega) (by omega), hm 60 (by omega) (by omega) (by omega) (by omega), hm 61 (by omega) (by omega) (by omega) (by omega), hm 62 (by omega) (by omega) (by omega) (by omega), hm 63 (by omega) (by omega) (by omega) (by omega), hm 66 (by omega) (by omega) (by omega) (by omega)]
    refine ⟨⟨s0, s1, s2, s3, s4, s5, s6, s7, t1, t2, s10⟩, f1, f2, f3, f4, f5, t3, t4, f8, f9, f10, f11, f12, f13, f14, f15, f16, t5, ?_⟩
    omega
  · intro k h1 h2 j
    rw [hsd k, r1.2.2 k h1 h2]
    exact b5 k h1 h2 j
  · rw [k25, q1, r2.2 48 (by omega) (by omega), e48]
  · rw [k25, q1]
    exact Or.inr rfl
  · intro _
    have h23 : K 23 = I 23 := hII 23 (by omega) (by omega) (by omega) (by omega) (by omega) (by omega) (by omega) (by omega)
    have h22 : K 22 = I 22 := hII 22 (by omega) (by omega) (by omega) (by omega) (by omega) (by omega) (by omega) (by omega)
    have h28 : K 28 = Im 28 := hcl 28 (by omega) (by omega) (by omega) (by omega)
    rw [k25]
    refine ⟨?_, ?_, ?_, q3, q4, q5, q6, ?_, q7, by omega, by omega, ?_, k26, k27, ?_, ?_⟩
    · rw [q2, r2.2 55 (by omega) (by omega), e55]
    · rw [q2]
      exact ha0
    · rw [q2]
      exact ha1
    · rw [r2.2 47 (by omega) (by omega), e47, b3]
    · intro k hk
      rw [h28]
      exact q9 k (by omega)
    · intro k hk
      rw [k26]
      exact r6 k hk
    · rw [k26, h23, h22, hc]
      exact r7
  · intro j hj
    rw [k26]
  · intro j hj
    rw [k27]
  · intro x x0 x1 x2
    simp only [List.mem_cons, List.not_mem_nil, or_false, not_or] at x2
    exact hII x x0 x1 (by omega) (by omega) (by omega) (by omega) (by omega) (by omega)
  · intro j j0 x2
    simp only [List.mem_cons, List.not_mem_nil, or_false, not_or] at x2
    exact hI5 j j0 (by omega) (by omega) (by omega)
theorem zo_run8 (X : ZX) (d m ce sl : Nat) (I : Nat → Nat → Int32) (L : Nat → Nat → Int64) (u r q : Nat) {C p : Nat} (hS : zg_S C m I) (hL : zg_L p I) (hC : zg_C I) (h511 : C ≤ 511) (hW : zg_W I) (hU : zg_U m I) {l : List zcl} (hV : zg_V8 l I) (a : Int32) : zOL X (d + 200) 258 [.ref 0, .int a, .ref 117] 208 [.ref 55, .int a] (118, z_sd m, ce, sl, I, L, z_rr 8 u r q (z_gg m) (z_sf m)) (zQ m 8 u r q ce sl I L [10, 17, 25, 26, 27, 28, 29, 64, 65, 80, 81, 82, 83, 84, 85, 86, 87, 88, 89, 90] [43, 44, 45, 46, 47, 48, 54, 55] (fun J => zg_S (C + 1) m J ∧ zg_U m J ∧ zg_W J)) := by
  by_cases c : 1 ≤ a.toInt ∧ a.toInt ≤ 60000
  · obtain ⟨c, hc⟩ : ∃ k : Nat, (I 22 2).toInt = k := ⟨(I 22 2).toInt.toNat, by obtain ⟨_, _, _⟩ := hC; omega⟩
    obtain ⟨ha0, ha1⟩ := ‹1 ≤ a.toInt ∧ a.toInt ≤ 60000›
    obtain ⟨J, K1, K01, g1, e, z1, z2, z3, z4, z5, z6, z7, z8, z9, _⟩ := zr_both8 X (d + 190) (d + 192) m ce sl ce sl I I L L 8 u r q hS hL hC hc h511 hW hV a ha0 ha1 (fun _ _ _ _ _ => rfl)
    obtain ⟨J', K, K0, g, e', y1, y2, y3, y4, y5, y6, y7, y8, y9, y10⟩ := zr_both8 X (d + 190) (d + 192) m ce sl ce sl I J L (z_up L 117 0 e.toInt64) 8 u r q hS hL hC hc h511 hW hV a ha0 ha1 (fun x x1 x2 x3 x4 => z1.1.1 x x1 (by omega) (by omega) (by omega) (by omega) ⟨x3, x4⟩)
    have hsame := z9.symm.trans y9
    simp only [Option.some.injEq, Prod.mk.injEq, Sum.inl.injEq, Value.int.injEq, true_and, and_true] at hsame
    obtain ⟨he, hJ⟩ := hsame
    rw [← hJ] at y1
    rw [← he] at y10
    obtain ⟨f1, f2, f3, f4⟩ := zRe_close hS hC hc ha0 ha1 y1 y2 hW y3 y4 y5 y6 y7 rfl
    refine ⟨Int32.ofInt 0, e, zw m 8 u r q ce sl J (z_up L 117 0 e.toInt64), zw m 8 u r q ce sl K (z_up L 117 0 e.toInt64), ?_, y10, ?_, fun _ => rfl, ⟨ce, sl, K, _, rfl, by omega, by omega, f4, fun b hb => z_up117 L _ b hb, f1, f2, f3⟩⟩
    · refine z_en X (d + 197) _ _ [(0, .ref 0), (1, .int a), (2, .ref 117)] _ _ rfl rfl rfl ?_
      have e1 : z_pu (z_run X z_cf z_ff (d + 199)) 143 [.ref 0, .int a] (118, z_sd m, ce, sl, I, L, z_rr 8 u r q (z_gg m) (z_sf m)) = some (.inl (some (.int e)), (118, z_sd m, ce, sl, J, L, z_rr 8 u r q (z_gg m) (z_sf m))) := by
        refine z_en X (d + 196) _ _ [(0, .ref 0), (1, .int a)] _ _ rfl rfl rfl ?_
        rw [zb_X_run_0_8, if_neg (by rw [y_th0]; omega)]
        rw [z9, z_bi_v, zb_X_run_30]
      rw [zb_L_run_0, e1, z_bi_v, zb_L_run_7, z_gd_inc (by omega) (by omega) (by omega)]
      rfl
    · show K 55 0 = Int32.ofInt 0
      rw [y1.2.1.2 0 (by omega) (by omega), y8]
  · refine ⟨Int32.ofInt 1, Int32.ofInt 0, zw m 8 u r q (ce + 1) (sl + 6) I L, zw m 8 u r q (ce + 1) (sl + 6) (z_up (z_up I 55 0 (Int32.ofInt 0)) 55 0 (Int32.ofInt 1)) L, ?_, ?_, rfl, fun hk => absurd hk (by decide), zQ_no _ _ _ _ _ _ _ _ _ _ _ _ _ _ ⟨?_, ?_, ?_⟩⟩
    · refine z_en X (d + 197) _ _ [(0, .ref 0), (1, .int a), (2, .ref 117)] _ _ rfl rfl rfl ?_
      have e : z_pu (z_run X z_cf z_ff (d + 199)) 143 [.ref 0, .int a] (118, z_sd m, ce, sl, I, L, z_rr 8 u r q (z_gg m) (z_sf m)) = some (.inr 1, (118, z_sd m, ce + 1, sl + 6, I, L, z_rr 8 u r q (z_gg m) (z_sf m))) := by
        refine z_en X (d + 196) _ _ [(0, .ref 0), (1, .int a)] _ _ rfl rfl rfl ?_
        rw [zb_X_run_0_8, if_pos (by rw [y_th0]; omega)]
      rw [zb_L_run_0, e, z_bi_e]
      exact z_x1 rfl rfl
    · refine z_en X (d + 197) _ _ [(0, .ref 55), (1, .int a)] _ _ rfl rfl rfl ?_
      rw [zt_M_run_0 X (d + 196), if_pos (by rw [y_mt0]; omega)]
    · exact zg_S_fr hS (by omega) (zFs_up00 I _ _) rfl rfl (fun b b1 b2 => by rw [z_up_r _ _ _ _ _ (by omega), z_up_r _ _ _ _ _ (by omega)])
    · exact zg_U_fr hU rfl rfl rfl rfl rfl rfl rfl rfl rfl rfl rfl rfl rfl rfl rfl rfl rfl
    · exact hW
theorem zo_run15 (X : ZX) (d m ce sl : Nat) (I : Nat → Nat → Int32) (L : Nat → Nat → Int64) (u r q : Nat) {C p : Nat} (hS : zg_S C m I) (hL : zg_L p I) (hC : zg_C I) (h511 : C ≤ 511) (hW : zg_W I) (hU : zg_U m I) {l : List zcl} (hV : zg_V15 l I) (a : Int32) : zOL X (d + 200) 258 [.ref 0, .int a, .ref 117] 208 [.ref 55, .int a] (118, z_sd m, ce, sl, I, L, z_rr 15 u r q (z_gg m) (z_sf m)) (zQ m 15 u r q ce sl I L [10, 17, 25, 26, 27, 28, 29, 64, 65, 80, 81, 82, 83, 84, 85, 86, 87, 88, 89, 90] [43, 44, 45, 46, 47, 48, 54, 55] (fun J => zg_S (C + 1) m J ∧ zg_U m J ∧ zg_W J)) := by
  by_cases c : 1 ≤ a.toInt ∧ a.toInt ≤ 60000
  · obtain ⟨c, hc⟩ : ∃ k : Nat, (I 22 2).toInt = k := ⟨(I 22 2).toInt.toNat, by obtain ⟨_, _, _⟩ := hC; omega⟩
    obtain ⟨ha0, ha1⟩ := ‹1 ≤ a.toInt ∧ a.toInt ≤ 60000›
    obtain ⟨J, K1, K01, g1, e, z1, z2, z3, z4, z5, z6, z7, z8, z9, _⟩ := zr_both15 X (d + 190) (d + 192) m ce sl ce sl I I L L 15 u r q hS hL hC hc h511 hW hV a ha0 ha1 (fun _ _ _ _ _ => rfl)
    obtain ⟨J', K, K0, g, e', y1, y2, y3, y4, y5, y6, y7, y8, y9, y10⟩ := zr_both15 X (d + 190) (d + 192) m ce sl ce sl I J L (z_up L 117 0 e.toInt64) 15 u r q hS hL hC hc h511 hW hV a ha0 ha1 (fun x x1 x2 x3 x4 => z1.1.1 x x1 (by omega) (by omega) (by omega) (by omega) ⟨x3, x4⟩)
    have hsame := z9.symm.trans y9
    simp only [Option.some.injEq, Prod.mk.injEq, Sum.inl.injEq, Value.int.injEq, true_and, and_true] at hsame
    obtain ⟨he, hJ⟩ := hsame
    rw [← hJ] at y1
    rw [← he] at y10
    obtain ⟨f1, f2, f3, f4⟩ := zRe_close hS hC hc ha0 ha1 y1 y2 hW y3 y4 y5 y6 y7 rfl
    refine ⟨Int32.ofInt 0, e, zw m 15 u r q ce sl J (z_up L 117 0 e.toInt64), zw m 15 u r q ce sl K (z_up L 117 0 e.toInt64), ?_, y10, ?_, fun _ => rfl, ⟨ce, sl, K, _, rfl, by omega, by omega, f4, fun b hb => z_up117 L _ b hb, f1, f2, f3⟩⟩
    · refine z_en X (d + 197) _ _ [(0, .ref 0), (1, .int a), (2, .ref 117)] _ _ rfl rfl rfl ?_
      have e1 : z_pu (z_run X z_cf z_ff (d + 199)) 143 [.ref 0, .int a] (118, z_sd m, ce, sl, I, L, z_rr 15 u r q (z_gg m) (z_sf m)) = some (.inl (some (.int e)), (118, z_sd m, ce, sl, J, L, z_rr 15 u r q (z_gg m) (z_sf m))) := by
        refine z_en X (d + 196) _ _ [(0, .ref 0), (1, .int a)] _ _ rfl rfl rfl ?_
        rw [zb_X_run_0_15, if_neg (by rw [y_th0]; omega)]
        rw [z9, z_bi_v, zb_X_run_30]
      rw [zb_L_run_0, e1, z_bi_v, zb_L_run_7, z_gd_inc (by omega) (by omega) (by omega)]
      rfl
    · show K 55 0 = Int32.ofInt 0
      rw [y1.2.1.2 0 (by omega) (by omega), y8]
  · refine ⟨Int32.ofInt 1, Int32.ofInt 0, zw m 15 u r q (ce + 1) (sl + 6) I L, zw m 15 u r q (ce + 1) (sl + 6) (z_up (z_up I 55 0 (Int32.ofInt 0)) 55 0 (Int32.ofInt 1)) L, ?_, ?_, rfl, fun hk => absurd hk (by decide), zQ_no _ _ _ _ _ _ _ _ _ _ _ _ _ _ ⟨?_, ?_, ?_⟩⟩
    · refine z_en X (d + 197) _ _ [(0, .ref 0), (1, .int a), (2, .ref 117)] _ _ rfl rfl rfl ?_
      have e : z_pu (z_run X z_cf z_ff (d + 199)) 143 [.ref 0, .int a] (118, z_sd m, ce, sl, I, L, z_rr 15 u r q (z_gg m) (z_sf m)) = some (.inr 1, (118, z_sd m, ce + 1, sl + 6, I, L, z_rr 15 u r q (z_gg m) (z_sf m))) := by
        refine z_en X (d + 196) _ _ [(0, .ref 0), (1, .int a)] _ _ rfl rfl rfl ?_
        rw [zb_X_run_0_15, if_pos (by rw [y_th0]; omega)]
      rw [zb_L_run_0, e, z_bi_e]
      exact z_x1 rfl rfl
    · refine z_en X (d + 197) _ _ [(0, .ref 55), (1, .int a)] _ _ rfl rfl rfl ?_
      rw [zt_M_run_0 X (d + 196), if_pos (by rw [y_mt0]; omega)]
    · exact zg_S_fr hS (by omega) (zFs_up00 I _ _) rfl rfl (fun b b1 b2 => by rw [z_up_r _ _ _ _ _ (by omega), z_up_r _ _ _ _ _ (by omega)])
    · exact zg_U_fr hU rfl rfl rfl rfl rfl rfl rfl rfl rfl rfl rfl rfl rfl rfl rfl rfl rfl
    · exact hW
