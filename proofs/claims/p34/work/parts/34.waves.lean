/-! WAVES: the class's slices -/
def zsum (f : Nat → Int64) : Nat → Int64
  | 0 => Int64.ofInt 0
  | n + 1 => zsum f n + f n
def zbits (c : Nat → Bool) : Nat → Int32
  | 0 => Int32.ofInt 0
  | n + 1 => if c n = true then zbits c n ||| (Int32.ofInt 1 <<< (Int32.ofInt (n : Int) &&& 31)) else zbits c n
/-- where waves come: in a and out b at each slice, more than n in 1000 -/
def zcw (a b : Nat → Int32) (n : Int32) (k : Nat) : Bool := decide (((b k).toInt64 * zsum (fun j => (a j).toInt64) 5) * (Int64.ofInt 1000 + n.toInt64) < ((a k).toInt64 * zsum (fun j => (b j).toInt64) 5) * Int64.ofInt 1000)
theorem zsum_c {f g : Nat → Int64} : ∀ n, (∀ k < n, f k = g k) → zsum f n = zsum g n
  | 0, _ => rfl
  | n + 1, h => by rw [zsum, zsum, zsum_c n (fun k hk => h k (by omega)), h n (by omega)]
theorem zbits_c {c e : Nat → Bool} : ∀ n, (∀ k < n, c k = e k) → zbits c n = zbits e n
  | 0, _ => rfl
  | n + 1, h => by rw [zbits, zbits, zbits_c n (fun k hk => h k (by omega)), h n (by omega)]
theorem zcw_c {a a' b b' : Nat → Int32} {n : Int32} (ha : ∀ k < 5, a k = a' k) (hb : ∀ k < 5, b k = b' k) : ∀ k < 5, zcw a b n k = zcw a' b' n k := by
  intro k hk
  unfold zcw
  rw [ha k hk, hb k hk, zsum_c 5 (fun j hj => by rw [ha j hj] : ∀ j < 5, (a j).toInt64 = (a' j).toInt64), zsum_c 5 (fun j hj => by rw [hb j hj] : ∀ j < 5, (b j).toInt64 = (b' j).toInt64)]
theorem y_ofn {n : Nat} (h : n ≤ 1000000) : (Int32.ofInt (n : Int)).toInt = n := y_oi (by omega) (by omega)
theorem y_ofN {n : Nat} (h : n ≤ 1000000) : (Int32.ofInt (n : Int)).toNatClampNeg = n := by rw [y_tn, y_ofn h]; omega
theorem y_ofs {n : Nat} (h : n ≤ 1000000) : Int32.ofInt (n : Int) + Int32.ofInt 1 = Int32.ofInt ((n + 1 : Nat) : Int) := by
  refine y_eqi ?_
  rw [y_ad (by rw [y_ofn h, y_1]; omega) (by rw [y_ofn h, y_1]; omega), y_ofn h, y_1]
  omega
theorem y_inn {n m : Nat} (h : n < m) (hm : m ≤ 1000000) : z_in (Int32.ofInt (n : Int)) m = true := y_in_t (by rw [y_ofn (by omega)]; omega) (by rw [y_ofn (by omega)]; omega)
theorem zr_thick (X : ZX) (d ce sl : Nat) (I : Nat → Nat → Int32) (L : Nat → Nat → Int64) (hI : ∀ k < 5, 1 ≤ (I 39 k).toInt ∧ (I 39 k).toInt ≤ 60000) : z_run X z_cf z_ff (d + 3) 48 [.ref 39] (0, 63, ce, sl, I, L, zeR1) = zI (0, 63, ce, sl, I, L, zeR1) (Int32.ofInt 1) := by
  have key : ∀ (n k : Nat), k + n = 5 → zM X (d + 2) 48 (2 * n + 1) 7 [(1, .ref 39), (2, .int (Int32.ofNat 5)), (3, .int (Int32.ofInt (k : Int)))] [] (0, 63, ce, sl, I, L, zeR1) (zI (0, 63, ce, sl, I, L, zeR1) (Int32.ofInt 1)) := by
    intro n
    induction n with
    | zero =>
      intro k hk
      have : k = 5 := by omega
      subst this
      exact zM.fin (fun N => ((zb_wX_areThicknesses_7 X _ N ce sl I L _ _).trans (if_pos (by decide))).trans (z_gd_of z_b1_1 _)) (by omega)
    | succ n ih =>
      intro k hk
      have hk5 : k < 5 := by omega
      have b0 := fun N => zb_wX_areThicknesses_7 X (z_run X z_cf z_ff (d + 2)) N ce sl I L (Int32.ofNat 5) (Int32.ofInt (k : Int))
      rw [y_ofN (by omega)] at b0
      have hn : ¬ Int32.ofNat 5 ≤ Int32.ofInt (k : Int) := by
        rw [y_i_le, y_ofn (by omega), show (Int32.ofNat 5).toInt = 5 from rfl]; omega
      refine zM.step (fun N => ((b0 N).trans (if_neg hn)).trans ((z_gd_of (y_inn hk5 (by omega)) _).trans (z_bi_of (zr_isThickness X d _ _ (hI k hk5).1 (hI k hk5).2)))) (B' := 2 * n + 2) (by omega) ?_
      refine zM.step (fun N => (zb_wX_areThicknesses_22 X _ N ce sl I L _ _ _).trans (if_neg (by decide))) (B' := 2 * n + 1) (by omega) ?_
      rw [y_ofs (by omega)]
      exact ih (k + 1) (by omega)
  exact zM.run (B := 12) rfl rfl (lo := [(0, .ref 39)]) rfl (zM.step (fun N => zb_wX_areThicknesses_0 X _ N ce sl I L) (B' := 11) (by decide) (key 5 0 rfl)) (by decide)
theorem y_k64 {n : Int32} (h : 0 ≤ n.toInt ∧ n.toInt ≤ 1000) : (Int32.ofInt 1000 + n).toInt64 = Int64.ofInt 1000 + n.toInt64 := by
  have e : (Int32.ofInt 1000).toInt = 1000 := rfl
  have f : (Int64.ofInt 1000).toInt = 1000 := rfl
  rw [y_l_eq, y_il, y_ad (by rw [e]; omega) (by rw [e]; omega), y_ad8 (by rw [f, y_il]; omega) (by rw [f, y_il]; omega), e, f, y_il]
theorem zr_waveBits (X : ZX) (d ce sl : Nat) (I : Nat → Nat → Int32) (L : Nat → Nat → Int64) (n : Int32) (hn : 0 ≤ n.toInt ∧ n.toInt ≤ 1000) : z_run X z_cf z_ff (d + 1) 50 [.ref 0, .int n] (0, 63, ce, sl, I, L, zeR1) = zI (0, 63, ce, sl, I, L, zeR1) (zbits (zcw (I 39) (I 40) n) 5) := by
  have k2 : ∀ (m k : Nat), k + m = 5 → zM X d 50 (m + 1) 50 [(0, .ref 0), (1, .int n), (2, .long (zsum (fun j => (I 39 j).toInt64) 5)), (4, .long (zsum (fun j => (I 40 j).toInt64) 5)), (6, .int (zbits (zcw (I 39) (I 40) n) k)), (7, .int (Int32.ofInt (k : Int)))] [] (0, 63, ce, sl, I, L, zeR1) (zI (0, 63, ce, sl, I, L, zeR1) (zbits (zcw (I 39) (I 40) n) 5)) := by
    intro m
    induction m with
    | zero =>
      intro k hk
      have : k = 5 := by omega
      subst this
      exact zM.fin (fun N => (zb_wX_waveBits_50 X _ N ce sl I L n _ _ _ _).trans (if_pos (by decide))) (by omega)
    | succ m ih =>
      intro k hk
      have hk5 : k < 5 := by omega
      have b0 := fun N => zb_wX_waveBits_50 X (z_run X z_cf z_ff d) N ce sl I L n (zsum (fun j => (I 39 j).toInt64) 5) (zsum (fun j => (I 40 j).toInt64) 5) (zbits (zcw (I 39) (I 40) n) k) (Int32.ofInt (k : Int))
      have hs : ¬ Int32.ofInt 5 ≤ Int32.ofInt (k : Int) := by
        rw [y_i_le, y_ofn (by omega), show (Int32.ofInt 5).toInt = 5 from rfl]; omega
      have hin := y_inn hk5 (show 5 ≤ 1000000 by omega)
      rw [y_ofN (by omega), y_ofs (by omega), y_k64 hn] at b0
      have ec : (Int64.ofInt 1000 + n.toInt64) * zsum (fun j => (I 39 j).toInt64) 5 * (I 40 k).toInt64 = ((I 40 k).toInt64 * zsum (fun j => (I 39 j).toInt64) 5) * (Int64.ofInt 1000 + n.toInt64) := by
        rw [Int64.mul_comm (Int64.ofInt 1000 + n.toInt64), Int64.mul_comm _ (I 40 k).toInt64, ← Int64.mul_assoc]
      rw [ec] at b0
      have ih := ih (k + 1) (by omega)
      by_cases hc : zcw (I 39) (I 40) n k = true
      · have hz : zbits (zcw (I 39) (I 40) n) (k + 1) = zbits (zcw (I 39) (I 40) n) k ||| (Int32.ofInt 1 <<< (Int32.ofInt (k : Int) &&& 31)) := by rw [zbits, if_pos hc]
        rw [hz] at ih
        refine zM.step (fun N => ((b0 N).trans (if_neg hs)).trans ((z_gd_of hin _).trans ((z_gd_of hin _).trans (if_neg ?_)))) (B' := m + 1) (by omega) ih
        rw [lg_cmp_le]
        intro hle
        have h9 : _ < _ := of_decide_eq_true hc
        rw [y_l_lt] at h9
        rw [y_l_le] at hle
        omega
      · have hz : zbits (zcw (I 39) (I 40) n) (k + 1) = zbits (zcw (I 39) (I 40) n) k := by rw [zbits, if_neg hc]
        rw [hz] at ih
        refine zM.step (fun N => ((b0 N).trans (if_neg hs)).trans ((z_gd_of hin _).trans ((z_gd_of hin _).trans (if_pos ?_)))) (B' := m + 1) (by omega) ih
        rw [lg_cmp_le, y_l_le]
        refine Int.not_lt.mp (fun h9 => hc (decide_eq_true ?_))
        rw [y_l_lt]
        exact h9
  have k1 : ∀ (m k : Nat), k + m = 5 → zM X d 50 (m + 7) 8 [(0, .ref 0), (1, .int n), (2, .long (zsum (fun j => (I 39 j).toInt64) k)), (4, .long (zsum (fun j => (I 40 j).toInt64) k)), (6, .int (Int32.ofInt (k : Int)))] [] (0, 63, ce, sl, I, L, zeR1) (zI (0, 63, ce, sl, I, L, zeR1) (zbits (zcw (I 39) (I 40) n) 5)) := by
    intro m
    induction m with
    | zero =>
      intro k hk
      have : k = 5 := by omega
      subst this
      exact zM.step (fun N => (zb_wX_waveBits_8 X _ N ce sl I L n _ _ _).trans (if_pos (by decide))) (B' := 6) (by omega) (k2 5 0 rfl)
    | succ m ih =>
      intro k hk
      have hk5 : k < 5 := by omega
      have b0 := fun N => zb_wX_waveBits_8 X (z_run X z_cf z_ff d) N ce sl I L n (zsum (fun j => (I 39 j).toInt64) k) (zsum (fun j => (I 40 j).toInt64) k) (Int32.ofInt (k : Int))
      have hs : ¬ Int32.ofInt 5 ≤ Int32.ofInt (k : Int) := by
        rw [y_i_le, y_ofn (by omega), show (Int32.ofInt 5).toInt = 5 from rfl]; omega
      have hin := y_inn hk5 (show 5 ≤ 1000000 by omega)
      rw [y_ofN (by omega), y_ofs (by omega)] at b0
      exact zM.step (fun N => ((b0 N).trans (if_neg hs)).trans ((z_gd_of hin _).trans (z_gd_of hin _))) (B' := m + 7) (by omega) (ih (k + 1) (by omega))
  exact zM.run (B := 13) rfl rfl (lo := [(0, .ref 0), (1, .int n)]) rfl (zM.step (fun N => zb_wX_waveBits_0 X _ N ce sl I L n) (B' := 12) (by decide) (k1 5 0 rfl)) (by decide)
/-- the gap at a slice of a bent roll -/
def zgp (g e : Int32) (k : Nat) : Int32 := z_mxi (Int32.ofInt 0) (g + (z_bend k * e) / Int32.ofInt 10)
theorem zbend_b : (List.range 5).all (fun k => (List.range 121).all (fun j => decide (-30 ≤ ((z_bend k * Int32.ofInt ((j : Int) - 60)) / Int32.ofInt 10).toInt ∧ ((z_bend k * Int32.ofInt ((j : Int) - 60)) / Int32.ofInt 10).toInt ≤ 30))) = true := by decide +kernel
theorem zgp_b {g e : Int32} {k : Nat} (hk : k < 5) (hg : 0 ≤ g.toInt ∧ g.toInt ≤ 200) (he : -60 ≤ e.toInt ∧ e.toInt ≤ 60) : 0 ≤ (zgp g e k).toInt ∧ (zgp g e k).toInt ≤ 300 := by
  have h1 := List.all_eq_true.mp zbend_b k (List.mem_range.mpr hk)
  have h2 := List.all_eq_true.mp h1 (e.toInt + 60).toNat (List.mem_range.mpr (by omega))
  have h3 := of_decide_eq_true h2
  rw [show (((e.toInt + 60).toNat : Nat) : Int) - 60 = e.toInt by omega, y_ofi] at h3
  unfold zgp z_mxi
  have e1 : (g + z_bend k * e / Int32.ofInt 10).toInt = g.toInt + (z_bend k * e / Int32.ofInt 10).toInt := y_ad (by omega) (by omega)
  split
  · rename_i h
    rw [y_i_lt, e1, y_0] at h
    rw [e1]
    omega
  · rw [y_0]; omega
/-- what stands in the cells while the slices are bitten -/
def zWv (s : Nat → Int32) (F D k : Int) (g : Int32) (J : Nat → Nat → Int32) : Prop := (∀ j < 5, J 39 j = s j) ∧ zFc J ∧ (J 4 1).toInt = F ∧ (J 3 1).toInt = D ∧ (J 55 0).toInt = k ∧ J 55 8 = g
theorem zWv_40 {s : Nat → Int32} {F D k : Int} {g : Int32} {J : Nat → Nat → Int32} (h : zWv s F D k g J) (i : Nat) (v : Int32) : zWv s F D k g (z_up J 40 i v) := h
theorem z_up40 (J : Nat → Nat → Int32) (i j : Nat) (v : Int32) : z_up J 40 i v 40 j = if j = i then v else J 40 j := by
  by_cases h : j = i
  · rw [if_pos h, h, z_up_s]
  · rw [if_neg h, z_up_k]
    exact z_beq_ne h
theorem zr_wloop (X : ZX) (d ce sl : Nat) (L : Nat → Nat → Int64) (s : Nat → Int32) (F D k : Int) (g h e n : Int32) (hs : ∀ j < 5, 1 ≤ (s j).toInt ∧ (s j).toInt ≤ 250) (hN : zN F D h.toInt k) (hg : 0 ≤ g.toInt ∧ g.toInt ≤ 200) (he : -60 ≤ e.toInt ∧ e.toInt ≤ 60) (hn : 0 ≤ n.toInt ∧ n.toInt ≤ 1000) : ∀ (m i : Nat), i + m = 5 → ∀ J : Nat → Nat → Int32, zWv s F D k g J → (∀ j < i, zOut F D h.toInt k (zgp g e j).toInt (s j).toInt (J 40 j).toInt) →
    ∃ J' : Nat → Nat → Int32, zM X (d + 5) 47 (2 * m + 2) 100 [(0, .ref 0), (7, .int h), (8, .int e), (9, .int n), (10, .ref 55), (11, .int (Int32.ofInt (i : Int)))] [] (0, 63, ce, sl, J, L, zeR1) (zI (0, 63, ce, sl, J', L, zeR1) (zbits (zcw s (J' 40) n) 5)) ∧ (∀ j < 5, zOut F D h.toInt k (zgp g e j).toInt (s j).toInt (J' 40 j).toInt) := by
  intro m
  induction m with
  | zero =>
    intro i hi J hJ hO
    have : i = 5 := by omega
    subst this
    refine ⟨J, ?_, hO⟩
    have hw := zr_waveBits X (d + 4) ce sl J L n hn
    rw [zbits_c 5 (zcw_c (n := n) (b := J 40) (b' := J 40) hJ.1 (fun _ _ => rfl))] at hw
    refine zM.step (fun N => ((zb_wX_waves_100 X _ N ce sl J L h e n _).trans (if_pos (by decide))).trans (z_bi_of hw)) (B' := 1) (by omega) ?_
    exact zM.fin (fun N => zb_wX_waves_172 X _ N ce sl J L _) (by omega)
  | succ m ih =>
    intro i hi J hJ hO
    have hi5 : i < 5 := by omega
    have b0 := fun N => zb_wX_waves_100 X (z_run X z_cf z_ff (d + 5)) N ce sl J L h e n (Int32.ofInt (i : Int))
    have hsn : ¬ Int32.ofInt 5 ≤ Int32.ofInt (i : Int) := by
      rw [y_i_le, y_ofn (by omega), show (Int32.ofInt 5).toInt = 5 from rfl]; omega
    have hin := y_inn hi5 (show 5 ≤ 1000000 by omega)
    rw [y_ofN (by omega), hJ.1 i hi5, hJ.2.2.2.2.2] at b0
    have hgb := zgp_b hi5 hg he
    obtain ⟨v, hv, hvO⟩ := zr_outFor X (d + 2) ce sl J L (s i) h (zgp g e i) hJ.2.1 (by rw [hJ.2.2.1, hJ.2.2.2.1, hJ.2.2.2.2.1]; exact hN) ⟨(hs i hi5).1, by have := (hs i hi5).2; omega⟩ hgb
    rw [hJ.2.2.1, hJ.2.2.2.1, hJ.2.2.2.2.1] at hvO
    obtain ⟨J', g1, g2⟩ := ih (i + 1) (by omega) (z_up J 40 i v) (zWv_40 hJ i v) (by
      intro j hj
      rw [z_up40]
      by_cases hji : j = i
      · rw [if_pos hji, hji]; exact hvO
      · rw [if_neg hji]; exact hO j (by omega))
    refine ⟨J', ?_, g2⟩
    refine zM.step (fun N => ((b0 N).trans (if_neg hsn)).trans ((z_gd_of hin _).trans ((if_neg (by decide)).trans ((z_gd_of hin _).trans (z_bi_of hv))))) (B' := 2 * m + 3) (by omega) ?_
    have b1 := fun N => zb_wX_waves_159 X (z_run X z_cf z_ff (d + 5)) N ce sl J L h e n (Int32.ofInt (i : Int)) v (Int32.ofInt (i : Int))
    rw [y_ofN (by omega), y_ofs (by omega)] at b1
    exact zM.step (fun N => (b1 N).trans (z_gd_of hin _)) (B' := 2 * m + 2) (by omega) g1
theorem zr_waves (X : ZX) (d ce sl : Nat) (I : Nat → Nat → Int32) (L : Nat → Nat → Int64) (s : Nat → Int32) (h e n : Int32) (h52 : I 5 2 = Int32.ofInt 1) (hI : zFc I) (hs : ∀ j < 5, 1 ≤ (s j).toInt ∧ (s j).toInt ≤ 250) (hN : zN (I 4 1).toInt (I 3 1).toInt h.toInt (I 55 0).toInt) (hg : 0 ≤ (I 55 8).toInt ∧ (I 55 8).toInt ≤ 200) (he : -60 ≤ e.toInt ∧ e.toInt ≤ 60) (hn : 0 ≤ n.toInt ∧ n.toInt ≤ 1000) :
    ∃ J' : Nat → Nat → Int32, z_run X z_cf z_ff (d + 6) 47 [.ref 0, .int (Int32.ofInt 0), .int (s 0), .int (s 1), .int (s 2), .int (s 3), .int (s 4), .int h, .int e, .int n] (0, 63, ce, sl, I, L, zeR1) = zI (0, 63, ce, sl, J', L, zeR1) (zbits (zcw s (J' 40) n) 5) ∧ (∀ j < 5, zOut (I 4 1).toInt (I 3 1).toInt h.toInt (I 55 0).toInt (zgp (I 55 8) e j).toInt (s j).toInt (J' 40 j).toInt) := by
  have hn1 : ¬ (Int32.ofInt 1 : Int32) = 0 := by decide
  obtain ⟨J, hJe⟩ : ∃ J, J = z_up (z_up (z_up (z_up (z_up I 39 0 (s 0)) 39 1 (s 1)) 39 2 (s 2)) 39 3 (s 3)) 39 4 (s 4) := ⟨_, rfl⟩
  have hJ : zWv s (I 4 1).toInt (I 3 1).toInt (I 55 0).toInt (I 55 8) J := by
    rw [hJe]
    refine ⟨?_, hI, rfl, rfl, rfl, rfl⟩
    intro j hj
    match j, hj with
    | 0, _ => rfl
    | 1, _ => rfl
    | 2, _ => rfl
    | 3, _ => rfl
    | 4, _ => rfl
    | j + 5, hj => omega
  obtain ⟨J', g1, g2⟩ := zr_wloop X d ce sl L s _ _ _ _ h e n hs hN hg he hn 5 0 rfl J hJ (fun j hj => by omega)
  refine ⟨J', zM.run (B := 19) rfl rfl (lo := [(0, .ref 0), (1, .int (Int32.ofInt 0)), (2, .int (s 0)), (3, .int (s 1)), (4, .int (s 2)), (5, .int (s 3)), (6, .int (s 4)), (7, .int h), (8, .int e), (9, .int n)]) rfl ?_ (by decide), g2⟩
  have i0 : z_in (Int32.ofInt 0) 5 = true := y_in_t (by decide) (by decide)
  have i1 : z_in (Int32.ofInt 1) 5 = true := y_in_t (by decide) (by decide)
  have i2 : z_in (Int32.ofInt 2) 5 = true := y_in_t (by decide) (by decide)
  have i3 : z_in (Int32.ofInt 3) 5 = true := y_in_t (by decide) (by decide)
  have i4 : z_in (Int32.ofInt 4) 5 = true := y_in_t (by decide) (by decide)
  have hth := zr_thick X (d + 2) ce sl J L (fun k hk => by rw [hJ.1 k hk]; have := hs k hk; omega)
  rw [hJe] at hth
  refine zM.step (fun N => (zb_wX_waves_0 X _ N ce sl I L _ _ _ _ _ _ _ _ _).trans (z_br_of (zr_wstandAt X d ce sl I L h52))) (B' := 18) (by omega) ?_
  refine zM.step (fun N => (zb_wX_waves_5 X _ N ce sl I L _ _ _ _ _ _ _ _).trans ((z_gd_of i0 _).trans ((z_gd_of i1 _).trans ((z_gd_of i2 _).trans ((z_gd_of i3 _).trans ((z_gd_of i4 _).trans (z_bi_of hth))))))) (B' := 17) (by omega) ?_
  rw [← hJe]
  have hN1 := hN.2.2.1
  refine zM.step (fun N => ((zb_wX_waves_52 X _ N ce sl J L _ _ _ _).trans (if_neg hn1)).trans (z_bi_of (zr_isHardness X (d + 3) _ h hN1.1 (by omega)))) (B' := 16) (by omega) ?_
  refine zM.step (fun N => ((zb_wX_waves_60 X _ N ce sl J L _ _ _ _).trans (if_neg hn1)).trans (z_bi_of (zr_within X (d + 4) _ e _ _ (by rw [show (Int32.ofInt (-999)).toInt = -999 from rfl]; omega) (by rw [show (Int32.ofInt 999).toInt = 999 from rfl]; omega)))) (B' := 15) (by omega) ?_
  refine zM.step (fun N => ((zb_wX_waves_74 X _ N ce sl J L _ _ _ _).trans (if_neg hn1)).trans (z_bi_of (zr_within X (d + 4) _ n _ _ hn.1 (by rw [show (Int32.ofInt 1000).toInt = 1000 from rfl]; omega)))) (B' := 14) (by omega) ?_
  exact zM.step (fun N => (zb_wX_waves_86 X _ N ce sl J L _ _ _ _).trans (if_neg hn1)) (B' := 12) (by omega) g1
