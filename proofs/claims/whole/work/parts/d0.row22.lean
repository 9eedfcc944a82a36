/-! ROW, 22: rowed -/
theorem zshO : ∀ i, i < 9 → z_p_Orders_orderShift (Int32.ofNat i) = Int32.ofNat (8 + 4 * (8 - i)) ∧ zoP i = 2 ^ (8 + 4 * (8 - i)) := by decide +kernel
theorem zshC : ∀ i, i < 9 → z_p_Orders_changeShift (Int32.ofNat i) = Int32.ofNat (8 - i) ∧ zcP i = 2 ^ (8 - i) := by decide +kernel
theorem zo_rowed (X : ZX) (d m ce sl : Nat) (I : Nat → Nat → Int32) (L : Nat → Nat → Int64) (t u r q : Nat) (hG : zg_O I) (hY : zg_Y I L) (i : Int32) : zOL X (d + 200) 268 [.ref 0, .int i, .ref 117] 246 [.ref 55, .int i] (118, z_sd m, ce, sl, I, L, z_rr t u r q (z_gg m) (z_sf m)) (zQ m t u r q ce sl I L [] [] (fun J => zFs I J)) := by
  obtain ⟨k, y1, y2, y3, y4, y5⟩ := id hY
  have hk9 : k ≤ 9 := by
    have := hG.2.2.1
    omega
  have k8 : (I 41 8).toInt = k := by rw [y1, y_on (by omega)]
  have k77 : (I 55 77).toInt = k := by rw [y2, y_on (by omega)]
  have e8 : (I 41 8 - Int32.ofInt 1).toInt = (k : Int) - 1 := by rw [y_sbl (by omega) (by omega) (by omega) (by omega), k8]
  have hi0 : (Int32.ofInt 0).toInt = 0 := rfl
  by_cases c : 0 ≤ i.toInt ∧ i.toInt < k
  · obtain ⟨c0, c1⟩ := c
    obtain ⟨j, hj⟩ : ∃ j : Nat, i.toInt = j := ⟨i.toInt.toNat, by omega⟩
    have hjk : j < k := by omega
    have hie : i = Int32.ofNat j := y_nat hj
    have hin : i.toNatClampNeg = j := by rw [y_tn, hj]; rfl
    obtain ⟨k0, a, coin, x1, x2, x3, x4, x5, x6, x7⟩ := y5 (by omega)
    have hly := zFull_is hk9 x1
    have hry := zky_r hk9 x1
    have hv0 : 0 ≤ (L 41 7).toInt := by
      rw [x4]
      unfold zky
      omega
    obtain ⟨s1, s2⟩ := zshO j (by omega)
    obtain ⟨s3, s4⟩ := zshC j (by omega)
    have ord : ((zUS (L 41 7) (z_p_Orders_orderShift i)).toInt32 &&& Int32.ofInt 15) = I 104 j := by
      refine y_i_eq.mpr ?_
      rw [hie, s1, zUS_15, zUS_is hv0 (by omega), ← s2, x4, zky_o hk9 x1 hjk, x6 j hjk]
    have m1 := (zwok_m a _ x1.2.1).1
    have hr4 : 0 ≤ (I 104 j).toInt ∧ (I 104 j).toInt ≤ 15 := by
      rw [← ord, zUS_15]
      omega
    have nw : ¬ z_p_X_within i (Int32.ofInt 0) (I 41 8 - Int32.ofInt 1) = 0 := by rw [y_wi0]; omega
    have nI : ¬ i < 0 := by rw [y_i_lt, y_i0]; omega
    have nk : ¬ (I 55 77) ≤ i := by rw [y_i_le]; omega
    have hi9 : z_in i 9 = true := y_in_t (by omega) (by omega)
    have fin : ∀ v : Int32, zQ m t u r q ce sl I L [] [] (fun J => zFs I J) (118, z_sd m, ce, sl, z_up I 55 0 (Int32.ofInt 0), z_up L 117 0 v.toInt64, z_rr t u r q (z_gg m) (z_sf m)) := fun v => ⟨ce, sl, _, _, rfl, by omega, by omega, ⟨fun x _ h2 _ => z_up_r _ _ _ _ _ h2, fun y h1 _ => z_up_j _ _ _ _ _ h1⟩, fun x hx => z_up117 L _ x hx, zFs_up0 I _⟩
    obtain ⟨v, v1, v2⟩ : ∃ v : Int32, z_pu (z_run X z_cf z_ff (d + 200)) 268 [.ref 0, .int i, .ref 117] (118, z_sd m, ce, sl, I, L, z_rr t u r q (z_gg m) (z_sf m)) = some (.inl (some (.int (Int32.ofInt 0))), (118, z_sd m, ce, sl, I, z_up L 117 0 v.toInt64, z_rr t u r q (z_gg m) (z_sf m))) ∧ z_pu (z_run X z_cf z_ff (d + 200)) 246 [.ref 55, .int i] (118, z_sd m, ce, sl, I, z_up L 117 0 v.toInt64, z_rr t u r q (z_gg m) (z_sf m)) = some (.inl (some (.int v)), (118, z_sd m, ce, sl, z_up I 55 0 (Int32.ofInt 0), z_up L 117 0 v.toInt64, z_rr t u r q (z_gg m) (z_sf m))) := by
      by_cases cj : j = 0
      · -- the first
        have z5 : (I 105 j).toInt = 0 := by rw [x7 j hjk, cj]; rfl
        refine ⟨I 104 j, ?_, ?_⟩
        · rw [zk_L_rowed_0 X (d + 195), if_neg nw, if_pos (by rw [y_i_le, y_i0]; omega), z_gd_inc (by omega) (by omega) (by omega), ← ord]
          rfl
        · rw [zk_M_rowed_0 X (d + 196), if_neg nI, if_neg nk, hi9, z_gd_t, z_gd_t, hin, if_pos (by rw [y_i_eq, y_i0]; exact z5)]
          have : I 104 j + Int32.ofInt 0 = I 104 j := y_i_eq.mpr (by rw [y_adl (by omega) (by omega) (by omega) (by omega)]; omega)
          rw [this]
      · have fl : (zUS (L 41 7) (z_p_Orders_changeShift i) &&& Int64.ofInt 1).toInt = (I 105 j).toInt := by
          rw [hie, s3, zUS_1, zUS_is hv0 (by omega), ← s4, x4, show j = (j - 1) + 1 by omega, zky_f hk9 x1 (by omega), x7 _ (by omega)]
          rfl
        have nle : ¬ i ≤ 0 := by rw [y_i_le, y_i0]; omega
        have r5 : (I 105 j).toInt = 0 ∨ (I 105 j).toInt = 1 := by
          rw [← fl, zUS_1]
          omega
        have e1 : (Int64.ofInt 1).toInt = 1 := y_ol (by omega) (by omega)
        rcases r5 with r5 | r5
        · refine ⟨I 104 j, ?_, ?_⟩
          · rw [zk_L_rowed_0 X (d + 195), if_neg nw, if_neg nle, if_neg (by
              rw [z_lg_eq]
              show ¬ (zUS (L 41 7) (z_p_Orders_changeShift i) &&& Int64.ofInt 1).toInt = _
              rw [fl, e1]
              omega), z_gd_inc (by omega) (by omega) (by omega), ← ord]
            rfl
          · rw [zk_M_rowed_0 X (d + 196), if_neg nI, if_neg nk, hi9, z_gd_t, z_gd_t, hin, if_pos (by rw [y_i_eq, y_i0]; exact r5)]
            have : I 104 j + Int32.ofInt 0 = I 104 j := y_i_eq.mpr (by rw [y_adl (by omega) (by omega) (by omega) (by omega)]; omega)
            rw [this]
        · refine ⟨I 104 j + Int32.ofInt 100, ?_, ?_⟩
          · rw [zk_L_rowed_0 X (d + 195), if_neg nw, if_neg nle, if_pos (by
              rw [z_lg_eq]
              show (zUS (L 41 7) (z_p_Orders_changeShift i) &&& Int64.ofInt 1).toInt = _
              rw [fl, e1]
              omega), z_gd_inc (by omega) (by omega) (by omega), ← ord]
            rfl
          · rw [zk_M_rowed_0 X (d + 196), if_neg nI, if_neg nk, hi9, z_gd_t, z_gd_t, hin, if_neg (by rw [y_i_eq, y_i0]; omega)]
    exact ⟨Int32.ofInt 0, v, _, _, v1, v2, rfl, fun _ => rfl, fin v⟩
  · have fin : zQ m t u r q ce sl I L [] [] (fun J => zFs I J) (118, z_sd m, ce + 1, sl + 6, z_up (z_up I 55 0 (Int32.ofInt 0)) 55 0 (Int32.ofInt 1), L, z_rr t u r q (z_gg m) (z_sf m)) := ⟨ce + 1, sl + 6, _, _, rfl, by omega, by omega, ⟨fun x _ h2 _ => by rw [z_up_r _ _ _ _ _ h2, z_up_r _ _ _ _ _ h2], fun y h1 _ => by rw [z_up_j _ _ _ _ _ h1, z_up_j _ _ _ _ _ h1]⟩, fun x hx => rfl, zFs_up00 I _ _⟩
    refine ⟨Int32.ofInt 1, Int32.ofInt 0, zw m t u r q (ce + 1) (sl + 6) I L, _, ?_, ?_, rfl, fun hk => absurd hk (by decide), fin⟩
    · rw [zk_L_rowed_0 X (d + 195), if_pos (by rw [y_wi0]; omega)]
    · rw [zk_M_rowed_0 X (d + 196)]
      by_cases c1 : i.toInt < 0
      · rw [if_pos (by rw [y_i_lt, y_i0]; exact c1)]
      · rw [if_neg (by rw [y_i_lt, y_i0]; exact c1), if_pos (by rw [y_i_le]; omega)]
