/-! CALLS, 27: run: a stand's turn, in both -/
theorem zr_step (X : ZX) (d d2 m ce sl ce2 sl2 : Nat) (L L2 : Nat → Nat → Int64) (t u r q : Nat) {c C p T s g : Nat} {aim : Int32} {I0 K0 Ic Im : Nat → Nat → Int32} (hB : zBs m c C p I0 K0) (h : zRR m c aim I0 K0 Ic Im T s g) (hs : s < m) (T1 x : Int32) (hT1 : T1.toInt = T) (hT44 : T < 44) (hx : x.toInt = s) : ∃ J K : Nat → Nat → Int32,
    (zRR m c aim I0 K0 J K T (s + 1) g ∧
      (∀ M, ∃ M', M ≤ M' ∧ z_loop X z_cf z_ff (z_pu (z_run X z_cf z_ff (d + 6))) 83 (M + 8) 2 [(0, .ref 25), (1, .int T1), (2, .int x)] [] (118, z_sd m, ce, sl, Ic, L, z_rr t u r q (z_gg m) (z_sf m)) = z_loop X z_cf z_ff (z_pu (z_run X z_cf z_ff (d + 6))) 83 M' 2 [(0, .ref 25), (1, .int T1), (2, .int (x + Int32.ofInt 1))] [] (118, z_sd m, ce, sl, J, L, z_rr t u r q (z_gg m) (z_sf m))) ∧
      (∀ N, ∃ N', N ≤ N' ∧ z_loop X z_cf z_ff (z_pu (z_run X z_cf z_ff (d2 + 6))) 209 (N + 4) 63 [(0, .ref 55), (1, .int T1), (2, .int x)] [] (118, z_sd m, ce2, sl2, Im, L2, z_rr t u r q (z_gg m) (z_sf m)) = z_loop X z_cf z_ff (z_pu (z_run X z_cf z_ff (d2 + 6))) 209 N' 63 [(0, .ref 55), (1, .int T1), (2, .int (x + Int32.ofInt 1))] [] (118, z_sd m, ce2, sl2, K, L2, z_rr t u r q (z_gg m) (z_sf m)))) ∨
    (zRe m c aim I0 K0 J K g ∧
      (∀ M, z_loop X z_cf z_ff (z_pu (z_run X z_cf z_ff (d + 6))) 83 (M + 8) 2 [(0, .ref 25), (1, .int T1), (2, .int x)] [] (118, z_sd m, ce, sl, Ic, L, z_rr t u r q (z_gg m) (z_sf m)) = some (.inl (some (.int (Int32.ofInt 0))), (118, z_sd m, ce, sl, J, L, z_rr t u r q (z_gg m) (z_sf m)))) ∧
      (∀ N, z_loop X z_cf z_ff (z_pu (z_run X z_cf z_ff (d2 + 6))) 209 (N + 4) 63 [(0, .ref 55), (1, .int T1), (2, .int x)] [] (118, z_sd m, ce2, sl2, Im, L2, z_rr t u r q (z_gg m) (z_sf m)) = some (.inl (some (.int (Int32.ofInt 1))), (118, z_sd m, ce2, sl2, K, L2, z_rr t u r q (z_gg m) (z_sf m))))) := by
  have h' := h
  obtain ⟨r1, r2, r3, r4, r5, r6, r7⟩ := h
  obtain ⟨⟨h5, hs5, hm1, hst, hsf⟩, hL, ⟨c1, c2, c3, c4, c5, c6⟩, hc, hC, hK, hk1, hk13, hk42, hk28, hk29⟩ := hB
  have hc40 : c ≤ 40 := by omega
  have hge := z_sd_ge s
  have a1 := r1.1
  have a2 := r2.1
  have hIc5 : Ic 5 2 = Int32.ofNat m := by rw [a1 5 (by omega) (by omega) (by omega) (by omega) (by omega) (by omega), hs5]
  have hLc : zg_L p Ic := zg_L_fr hL (congrFun (a1 2 (by omega) (by omega) (by omega) (by omega) (by omega) (by omega)) 2) (a1 3 (by omega) (by omega) (by omega) (by omega) (by omega) (by omega)) (a1 4 (by omega) (by omega) (by omega) (by omega) (by omega) (by omega)) (congrFun (a1 55 (by omega) (by omega) (by omega) (by omega) (by omega) (by omega)) 13) (a1 67 (by omega) (by omega) (by omega) (by omega) (by omega) (by omega)) (a1 68 (by omega) (by omega) (by omega) (by omega) (by omega) (by omega))
  have mm : ∀ a, a < 118 → a ≠ 55 → a ≠ 64 → a ≠ 65 → ((a < 25 ∨ 29 < a) ∧ a ≠ 10 ∧ a ≠ 17) → (a < 80 ∨ 90 < a) → Im a = I0 a := fun a g1 g2 g3 g4 g5 g6 => by rw [a2 a g2 g3 g4 g6, hK a g1 g2 g5 g6]
  have hm13 : Im 55 13 = I0 55 13 := by rw [r2.2 13 (by omega) (by omega), hk13]
  have hm1' : Im 55 1 = Int32.ofNat m := by rw [r2.2 1 (by omega) (by omega), hk1, hm1]
  have hm42 : (Im 55 42).toInt = c := by rw [r2.2 42 (by omega) (by omega), hk42, ← c1, hc]
  have hLm : zg_L p Im := zg_L_fr hL (congrFun (mm 2 (by omega) (by omega) (by omega) (by omega) (by omega) (by omega)) 2) (mm 3 (by omega) (by omega) (by omega) (by omega) (by omega) (by omega)) (mm 4 (by omega) (by omega) (by omega) (by omega) (by omega) (by omega)) hm13 (mm 67 (by omega) (by omega) (by omega) (by omega) (by omega) (by omega)) (mm 68 (by omega) (by omega) (by omega) (by omega) (by omega) (by omega))
  have e3 : Ic 3 = Im 3 := by rw [a1 3 (by omega) (by omega) (by omega) (by omega) (by omega) (by omega), mm 3 (by omega) (by omega) (by omega) (by omega) (by omega) (by omega)]
  have e4 : Ic 4 = Im 4 := by rw [a1 4 (by omega) (by omega) (by omega) (by omega) (by omega) (by omega), mm 4 (by omega) (by omega) (by omega) (by omega) (by omega) (by omega)]
  have hok : ∀ J, z_ok (118, z_sd m, ce, sl, J, L, z_rr t u r q (z_gg m) (z_sf m)) (z_sd s) 10 = true := fun J => z_okS (k := s) (m := m) hs (by omega) 118 ce sl J L (z_rr t u r q (z_gg m) (z_sf m))
  have hxn : x.toNatClampNeg = s := by rw [y_tn, hx]; rfl
  have hIc22 : (Ic 22 2).toInt = c := by rw [a1 22 (by omega) (by omega) (by omega) (by omega) (by omega) (by omega), hc]
  by_cases hj : s ≤ T ∧ T < s + c
  · obtain ⟨j, hjT⟩ : ∃ j, T = j + s := ⟨T - s, by omega⟩
    have hjc : j < c := by omega
    obtain ⟨⟨f0, f1, f2, f3, f4, f5, f6, f7, f8, f9, f10⟩, fb⟩ := hst s hs
    obtain ⟨g1, g2, g3, g4, g5, g6⟩ := r3 s hs
    have hsd := fun i hi => r1.2.1 s i hs hi
    obtain ⟨w, hw⟩ : ∃ w, w = if s = 0 then Ic 23 j else Ic 26 (40 * (s - 1) + j) := ⟨_, rfl⟩
    have hIc23 : Ic 23 = I0 23 := a1 23 (by omega) (by omega) (by omega) (by omega) (by omega) (by omega)
    have hIc24 : Ic 24 = I0 24 := a1 24 (by omega) (by omega) (by omega) (by omega) (by omega) (by omega)
    have hwm : w = if s = 0 then Im 78 j else Im 80 (40 * (s - 1) + j) := by
      rw [hw, hIc23, c4, mm 78 (by omega) (by omega) (by omega) (by omega) (by omega) (by omega), r5.1]
    have hwr : 1 ≤ w.toInt ∧ w.toInt ≤ 60000 := by
      by_cases h0 : s = 0
      · rw [hw, if_pos h0, hIc23]
        have := c6 j (by omega)
        omega
      · rw [hwm, if_neg h0]
        have q1 := (r5.2.2.2.1 (s - 1) j (by omega) hjc).1 (by unfold zbtn; omega)
        rcases r5.2.2.1 (40 * (s - 1) + j) (by omega) with q2 | q2
        · rw [q2] at q1
          exact absurd q1 (by decide)
        · exact q2
    have hz1 : zn T s j m = s := by
      unfold zn
      rw [if_neg (by omega), if_neg (by omega)]
      omega
    have h88 := r7 j hjc
    rw [hz1] at h88
    have hW : ∀ k, k < m → 0 ≤ (I0 (z_sd k) 7).toInt ∧ (I0 (z_sd k) 7).toInt ≤ 9 := by
      intro k hk
      obtain ⟨⟨_, _, _, _, _, _, _, p7, _⟩, pb⟩ := hst k hk
      rw [p7]
      omega
    have hWc : ∀ k, k < m → 0 ≤ (Ic (z_sd k) 7).toInt ∧ (Ic (z_sd k) 7).toInt ≤ 9 := by
      intro k hk
      rw [r1.2.1 k 7 hk (by omega)]
      exact hW k hk
    have hhw : zhw Ic (Ic 24 j) s = (Im 88 j).toInt := by
      rw [h88]
      unfold zhw
      rw [hIc24, zhs_fr (m := m) (fun k hk => r1.2.1 k 7 hk (by omega)) s (by omega)]
    have hhr : 0 ≤ (Im 88 j).toInt ∧ (Im 88 j).toInt ≤ 99 := by
      have := zhs_r hW s (by omega)
      have := c6 j (by omega)
      rw [h88]
      unfold zhw
      omega
    have hh24 := c6 j (by omega)
    have hmost : (Ic (z_sd s) 1) = Im 57 s := by rw [hsd 1 (by omega), f1, mm 57 (by omega) (by omega) (by omega) (by omega) (by omega) (by omega)]
    have h0c : Ic (z_sd s) 0 = I0 56 s := by rw [hsd 0 (by omega), f0]
    have h56 : Im 56 s = I0 56 s := by rw [mm 56 (by omega) (by omega) (by omega) (by omega) (by omega) (by omega)]
    have hbs : zbs Ic s := by
      unfold zbs
      rw [g1, g2, h0c]
      omega
    have hms : zms Im s := by
      unfold zms
      rw [h56]
      omega
    obtain ⟨b1, b2, b3, b4, b5, b6⟩ := zbJ_f p Ic s w (Im 88 j)
    obtain ⟨V, hV⟩ : ∃ V, V = zbo p Ic (Ic (z_sd s) 0).toInt (Ic (z_sd s) 8).toInt (Ic (z_sd s) 9).toInt w (Im 88 j) := ⟨_, rfl⟩
    obtain ⟨P, hP⟩ : ∃ P, P = zbp p Ic w V (Im 88 j) := ⟨_, rfl⟩
    obtain ⟨v1, v2⟩ := zbo_r hLc (k := (Ic (z_sd s) 0).toInt) (g := (Ic (z_sd s) 8).toInt) (r := (Ic (z_sd s) 9).toInt) (w := w) (h := Im 88 j) hbs.2.2.1 hwr.1
    rw [← hV] at b5 b6 v1 v2
    rw [← hP] at b6
    have hP0 := zbp_r hLc (w := w) (v := V) (h := Im 88 j) v2 hhr.1
    rw [← hP] at hP0
    have hVm : zbo p Im (Im 56 s).toInt (Im 64 s).toInt (Im 65 s).toInt w (Im 88 j) = V := by rw [hV, h0c, g1, g2, h56, zbo_eq e3 e4]
    have hPm : zbp p Im w V (Im 88 j) = P := by rw [hP, zbp_eq e3 e4]
    obtain ⟨m1, m2, m3, m4, m5, m6, m7, m8⟩ := zmJ_f p Im s w (Im 88 j) hVm hPm
    have hjs : (T1 - x).toInt = j := by rw [y_sb (by omega) (by omega)]; omega
    obtain ⟨A, hA⟩ : ∃ A, A = zbJ p Ic s w (Im 88 j) := ⟨_, rfl⟩
    obtain ⟨B, hBB⟩ : ∃ B, B = zmJ p Im s w (Im 88 j) := ⟨_, rfl⟩
    have hcl : ∀ M, z_loop X z_cf z_ff (z_pu (z_run X z_cf z_ff (d + 6))) 83 (M + 8) 2 [(0, .ref 25), (1, .int T1), (2, .int x)] [] (118, z_sd m, ce, sl, Ic, L, z_rr t u r q (z_gg m) (z_sf m)) = z_loop X z_cf z_ff (z_pu (z_run X z_cf z_ff (d + 6))) 83 (M + 3) 111 [(0, .ref 25), (1, .int T1), (2, .int x), (3, .ref (z_sd s)), (4, .int (T1 - x))] [] (118, z_sd m, ce, sl, A, L, z_rr t u r q (z_gg m) (z_sf m)) := by
      intro M
      have q := zr_bc1 X d (M + 3) m ce sl Ic L t u r q hLc s j hs h5 hIc5 hWc hbs T1 x w (by omega) hx hIc22 hc40 hjc hw hwr.1 hwr.2 (by rw [hIc24]; omega) (by rw [hIc24]; omega)
      rw [hhw, y_ofi, ← hA] at q
      exact q
    have hml : ∀ N, z_loop X z_cf z_ff (z_pu (z_run X z_cf z_ff (d2 + 6))) 209 (N + 4) 63 [(0, .ref 55), (1, .int T1), (2, .int x)] [] (118, z_sd m, ce2, sl2, Im, L2, z_rr t u r q (z_gg m) (z_sf m)) = z_loop X z_cf z_ff (z_pu (z_run X z_cf z_ff (d2 + 6))) 209 (N + 3) 98 [(0, .ref 55), (1, .int T1), (2, .int x)] [] (118, z_sd m, ce2, sl2, B, L2, z_rr t u r q (z_gg m) (z_sf m)) := by
      intro N
      rw [hBB]
      exact zr_mt4 X d2 (N + 3) m ce2 sl2 Im L2 t u r q hLm s j hs h5 hm1' hm42 hc40 hjc hms T1 x w (Im 88 j) hx (by omega) hwm hwr.1 hwr.2 rfl hhr.1 hhr.2
    rw [← hA] at b1 b2 b3 b4 b5 b6
    rw [← hBB] at m1 m2 m3 m4 m5 m6 m7 m8
    have hA1 : A (z_sd s) 1 = Im 57 s := by rw [b2 1 (by omega), hmost]
    have hB86 : B 86 s = P := by rw [m7, if_pos rfl]
    have hB57 : B 57 s = Im 57 s := by rw [m1 57 (by omega) (by omega)]
    have h57 : (Im 57 s).toInt ≤ 9999999 := by
      rw [mm 57 (by omega) (by omega) (by omega) (by omega) (by omega) (by omega)]
      omega
    by_cases hle : P.toInt ≤ (Im 57 s).toInt
    · refine ⟨zbN A m s j, zmN B m s j, Or.inl ⟨?_, ?_, ?_⟩⟩
      · obtain ⟨n1, n2, n3, n4, n5, n6, n7, n8⟩ := zbN_f A m s j
        obtain ⟨k1, k2, k3, k4, k5, k6⟩ := zmN_f B m s j
        have hA25 : A 25 = Ic 25 := b1 25 (by omega)
        have hA26 : A 26 = Ic 26 := b1 26 (by omega)
        have hA23 : A 23 = Ic 23 := b1 23 (by omega)
        refine zRR_bite (w := w) (h := Im 88 j) (V := V) (P := P) h' hs h5 hjT hjc hc40 (fun k hk => ⟨(c6 k (by omega)).1, (c6 k (by omega)).2.1⟩) (fun k hk => (c6 k (by omega)).2.2) hW (by rw [f7, mm 63 (by omega) (by omega) (by omega) (by omega) (by omega) (by omega)]) hC (by omega) hwr.1 v1 (by omega) hP0 (by omega) rfl ?_ ?_ ?_ ?_ ?_ ?_ ?_ ?_ ?_ ?_ ?_ ?_ ?_ ?_ ?_ ?_ ?_ ?_ ?_ ?_ ?_ ?_ ?_ ?_
        · intro a q1 q2 q3
          rw [n1 a q1 q2 q3, b1 a q1]
        · intro i hi
          rw [n2 i (by omega), b2 i (by omega)]
        · rw [n3, b6, b2 9 (by omega)]
        · rw [n2 11 (by omega), b3]
        · rw [n2 12 (by omega), b4]
        · rw [n2 13 (by omega), b5]
        · rw [n2 14 (by omega), b6]
        · intro i
          rw [n4, b5, hA26]
        · intro i q1 q2 q3
          rw [n5 i q1 q2 q3, hA25]
        · rw [n6, b6, hA25]
        · rw [n7, hA25]
        · rw [n8, hA25, hA23, b5]
        · intro a q1 q2 q3 q4
          rw [k1 a q1 q2 q3 (by omega), m1 a q1 (by omega)]
        · intro i q1 q2
          rw [k2 i q2, m2 i q1]
        · rw [k2 45 (by omega), m3]
        · rw [k3, m2 46 (by omega)]
        · intro i
          rw [k4, hB86, m1 65 (by omega) (by omega)]
        · intro i
          rw [k5, m6, if_pos rfl, m1 80 (by omega) (by omega)]
        · intro i
          rw [k1 83 (by omega) (by omega) (by omega) (by omega), m4]
        · intro i
          rw [k1 84 (by omega) (by omega) (by omega) (by omega), m5]
        · intro i
          rw [k1 85 (by omega) (by omega) (by omega) (by omega), m6]
        · intro i
          rw [k1 86 (by omega) (by omega) (by omega) (by omega), m7]
        · intro i
          rw [k1 87 (by omega) (by omega) (by omega) (by omega), m8]
        · intro i
          rw [k6, m1 88 (by omega) (by omega), m1 63 (by omega) (by omega)]
      · intro M
        refine ⟨if s + 1 = m then M else M + 1, by split <;> omega, ?_⟩
        have hA5 : A 5 2 = Int32.ofNat m := by rw [b1 5 (by omega), hIc5]
        obtain ⟨n1, n2, n3, n4, n5, n6⟩ := zbK_f A s j
        rw [hcl M, show M + 3 = (M + 2) + 1 by omega, zr_bc2 X d (M + 2) m ce sl A L t u r q s j hs h5 hA5 (by omega) T1 x (T1 - x) hx hjs (by rw [b6, hA1]; exact hle), zr_bc3 X d M m ce sl (zbK A s j) L t u r q s j hs h5 (by omega) T1 x (T1 - x) hx hjs (by rw [n2 13 (by omega), b5]; exact v1)]
        unfold zbN
        rw [n5 7 (by omega), n5 8 (by omega), n1 23 (by omega) (by omega) (by omega), n2 13 (by omega)]
      · intro N
        refine ⟨N + 1, by omega, ?_⟩
        rw [hml N, show N + 3 = (N + 1) + 2 by omega, zr_mt1 X (d2 + 2) (N + 1) m ce2 sl2 B L2 t u r q s j hs h5 (by rw [m2 1 (by omega), hm1']) (by omega) T1 x hx (by omega) (by rw [hB86, hB57]; exact hle)]
        rfl
    · refine ⟨z_up (z_up A 25 6 (z_mxi (A 25 6) (A (z_sd s) 14))) 25 5 x, z_up B 55 44 x, Or.inr ⟨?_, ?_, ?_⟩⟩
      · refine zRe_break (x := x) (P := P) h' hc40 hs ?_ ?_ ?_ ?_ ?_ ?_ ?_ ?_ ?_
        · intro a q1 q2
          rw [z_up_r _ _ _ _ _ q2, z_up_r _ _ _ _ _ q2, b1 a q1]
        · intro i hi
          rw [z_up_r _ _ _ _ _ (by omega), z_up_r _ _ _ _ _ (by omega), b2 i hi]
        · intro i q1 q2
          rw [z_up_j _ _ _ _ _ q1, z_up_j _ _ _ _ _ q2, b1 25 (by omega)]
        · rw [z_up_s]
        · rw [z_up_j _ _ _ _ _ (show (6 : Nat) ≠ 5 by omega), z_up_s, b6, b1 25 (by omega)]
        · intro a q1 q2
          rw [z_up_r _ _ _ _ _ q1, m1 a q1 q2]
        · intro i q1 q2
          rw [z_up_j _ _ _ _ _ q1, m2 i q2]
        · rw [z_up_s]
        · rw [z_up_j _ _ _ _ _ (show (45 : Nat) ≠ 44 by omega), m3]
      · intro M
        rw [hcl M, show M + 3 = (M + 2) + 1 by omega, zr_bc4 X d (M + 2) m ce sl A L t u r q s j hs h5 T1 x (T1 - x) (by rw [b6, hA1]; omega)]
      · intro N
        rw [hml N, show N + 3 = (N + 1) + 2 by omega, zr_mt2 X (d2 + 2) (N + 1) m ce2 sl2 B L2 t u r q s (by omega) T1 x hx (by rw [hB86, hB57]; omega)]
  · refine ⟨z_up (z_up (z_up (z_up Ic (z_sd s) 11 (Int32.ofInt 0)) (z_sd s) 12 (Int32.ofInt 0)) (z_sd s) 13 (Int32.ofInt 0)) (z_sd s) 14 (Int32.ofInt 0), Im, Or.inl ⟨?_, ?_, ?_⟩⟩
    · refine zRR_rest h' hs (by omega) ?_ ?_ ?_ ?_ ?_ ?_
      · intro a ha
        rw [z_up_r _ _ _ _ _ ha, z_up_r _ _ _ _ _ ha, z_up_r _ _ _ _ _ ha, z_up_r _ _ _ _ _ ha]
      · intro i hi
        rw [z_up_j _ _ _ _ _ (by omega), z_up_j _ _ _ _ _ (by omega), z_up_j _ _ _ _ _ (by omega), z_up_j _ _ _ _ _ (by omega)]
      · rw [z_up_j _ _ _ _ _ (by omega), z_up_j _ _ _ _ _ (by omega), z_up_j _ _ _ _ _ (by omega), z_up_s]
        rfl
      · rw [z_up_j _ _ _ _ _ (by omega), z_up_j _ _ _ _ _ (by omega), z_up_s]
        rfl
      · rw [z_up_j _ _ _ _ _ (by omega), z_up_s]
        rfl
      · rw [z_up_s]
        rfl
    · intro M
      refine ⟨M + 4, by omega, ?_⟩
      have w0 : (z_p_X_within (T1 - x) (Int32.ofInt 0) ((Ic 22 2) - (Int32.ofInt 1))) = 0 := by
        rw [y_wi0, y_oi0, y_sbl (by omega) (by omega) (by omega) (by omega), y_sb (by omega) (by omega)]
        omega
      rw [show M + 8 = (M + 4) + 4 by omega, zt_Run_biteAll_2 X d, if_neg (by rw [hIc5, y_i_le, y_on (by omega)]; omega), y_ix_T (by omega) (by omega) h5 hIc5, z_gd_t, if_pos w0, hxn]
      simp only [hok, z_gd_t]
    · intro N
      refine ⟨N + 2, by omega, ?_⟩
      rw [show N + 4 = (N + 2) + 2 by omega, zr_mt3 X (z_run X z_cf z_ff (d2 + 6)) (N + 2) _ ce2 sl2 Im L2 t u r q _ _ s hs h5 hm1' hm42 T1 x hx (by omega) (by omega)]
