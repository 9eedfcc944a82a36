/-! PLAN, 10: the two tables in the model -/
def zIsW (T w : Nat → Int) (y : Int) : Prop := (∀ t, t < 13 → T t ≠ -1 → w t ≠ zNV → y ≤ max (T t) (w t)) ∧ (y = zNV ∨ ∃ t, t < 13 ∧ T t ≠ -1 ∧ w t ≠ zNV ∧ y = max (T t) (w t))
def zIsS (B : Int) (T w : Nat → Int) (y : Int) : Prop := (∀ t, t < 13 → T t ≠ -1 → T t ≤ B → w t ≠ zNV → y ≤ T t + w t) ∧ (y = zNV ∨ ∃ t, t < 13 ∧ T t ≠ -1 ∧ T t ≤ B ∧ w t ≠ zNV ∧ y = T t + w t)
def zTok (T : Nat → Int) : Prop := ∀ t, T t = -1 ∨ 0 ≤ T t ∧ T t ≤ 9999999
theorem zr_leastWorst (X : ZX) (d n0 ce sl : Nat) (I : Nat → Nat → Int32) (L : Nat → Nat → Int64) (t u r q g : Nat) (st : Nat → Option Nat) {s f : Nat} (hs : s < 5) (hf : f < 13) (T w : Nat → Int) (hT : zTok T) (hI : ∀ k, k < 13 → I 97 (169 * s + 13 * f + k) = Int32.ofInt (T k)) (hL : ∀ k, k < 13 → (L 95 (13 * (s + 1) + k)).toInt = w k) (hw : ∀ k, k < 13 → w k = zNV ∨ 0 ≤ w k ∧ w k ≤ 1000000000) (x1 x2 : Int32) (h1 : x1.toInt = s) (h2 : x2.toInt = f) : ∃ y : Int64, z_pu (z_run X z_cf z_ff (d + 3)) 232 [.ref 55, .int x1, .int x2] (118, n0, ce, sl, I, L, z_rr t u r q g st) = some (.inl (some (.long y)), (118, n0, ce, sl, I, L, z_rr t u r q g st)) ∧ zIsW T w y.toInt := by
  have hNV : zNV = 1000000000000000 := rfl
  have h13 : (Int32.ofInt 13).toInt = 13 := rfl
  have hm1 : (Int32.ofInt (-1)).toInt = -1 := rfl
  have hN : (Int64.ofInt 1000000000000000).toInt = 1000000000000000 := y_ol (by omega) (by omega)
  have h1p : (x1 + Int32.ofInt 1).toInt = ((s + 1 : Nat) : Int) := by rw [y_adl (by omega) (by omega) (by omega) (by omega)]; omega
  have lp : ∀ n, ∀ (k : Nat) (x5 : Int32) (y : Int64), k + n = 13 → x5.toInt = k → (∀ j, j < k → T j ≠ -1 → w j ≠ zNV → y.toInt ≤ max (T j) (w j)) → (y.toInt = zNV ∨ ∃ j, j < 13 ∧ T j ≠ -1 ∧ w j ≠ zNV ∧ y.toInt = max (T j) (w j)) → ∃ z : Int64, (∀ M, z_loop X z_cf z_ff (z_pu (z_run X z_cf z_ff (d + 2))) 232 (M + n + 1) 7 [(0, .ref 55), (1, .int x1), (2, .int x2), (3, .long y), (5, .int x5)] [] (118, n0, ce, sl, I, L, z_rr t u r q g st) = some (.inl (some (.long z)), (118, n0, ce, sl, I, L, z_rr t u r q g st))) ∧ zIsW T w z.toInt := by
    intro n
    induction n with
    | zero =>
      intro k x5 y a1 a2 a3 a4
      refine ⟨y, fun M => ?_, fun j hj => a3 j (by omega), a4⟩
      rw [show M + 0 + 1 = M + 1 by omega, zb_M_leastWorst_7, if_pos (by rw [y_i_le, h13]; omega)]
    | succ n ih =>
      intro k x5 y a1 a2 a3 a4
      have hix := z_tix h1 h2 a2 hs hf (by omega)
      have hixn : (Int32.ofInt 169 * x1 + Int32.ofInt 13 * x2 + x5).toNatClampNeg = 169 * s + 13 * f + k := by rw [y_tn, hix]; rfl
      have hin : z_in (Int32.ofInt 169 * x1 + Int32.ofInt 13 * x2 + x5) 845 = true := y_in_t (by omega) (by omega)
      have hiy := z_tiy h1p a2 (by omega) (by omega)
      have hiyn : (Int32.ofInt 13 * (x1 + Int32.ofInt 1) + x5).toNatClampNeg = 13 * (s + 1) + k := by rw [y_tn, hiy]; rfl
      have hin2 : z_in (Int32.ofInt 13 * (x1 + Int32.ofInt 1) + x5) 78 = true := y_in_t (by omega) (by omega)
      have a2' : (x5 + Int32.ofInt 1).toInt = ((k + 1 : Nat) : Int) := by rw [y_adl (by omega) (by omega) (by omega) (by omega)]; omega
      have hTk := hT k
      have hTe : (Int32.ofInt (T k)).toInt = T k := y_oi (by omega) (by omega)
      have hTl : (Int32.ofInt (T k)).toInt64.toInt = T k := by rw [y_il, hTe]
      have hwk := hw k (by omega)
      have hLk := hL k (by omega)
      by_cases c1 : T k = -1
      · obtain ⟨z, z1, z2⟩ := ih (k + 1) (x5 + Int32.ofInt 1) y (by omega) a2' (by
          intro j hj j1 j2
          by_cases cj : j = k
          · subst cj
            exact absurd c1 j1
          · exact a3 j (by omega) j1 j2) a4
        refine ⟨z, fun M => ?_, z2⟩
        rw [show M + (n + 1) + 1 = (M + n + 1) + 1 by omega, zb_M_leastWorst_7, if_neg (by rw [y_i_le, h13]; omega), hin, z_gd_t, hixn, hI k (by omega), if_pos (by rw [c1])]
        exact z1 M
      · have nc1 : ¬ Int32.ofInt (T k) = Int32.ofInt (-1) := by rw [y_i_eq, hTe, hm1]; exact c1
        by_cases c2 : w k = zNV
        · obtain ⟨z, z1, z2⟩ := ih (k + 1) (x5 + Int32.ofInt 1) y (by omega) a2' (by
            intro j hj j1 j2
            by_cases cj : j = k
            · subst cj
              exact absurd c2 j2
            · exact a3 j (by omega) j1 j2) a4
          refine ⟨z, fun M => ?_, z2⟩
          rw [show M + (n + 1) + 1 = (M + n + 1) + 1 by omega, zb_M_leastWorst_7, if_neg (by rw [y_i_le, h13]; omega), hin, z_gd_t, hixn, hI k (by omega), if_neg nc1, hin2, z_gd_t, hiyn, if_pos (by rw [z_lg_eq, hLk, hN]; omega)]
          exact z1 M
        · have nc2 : ¬ lg_cmp (L 95 (13 * (s + 1) + k)) (Int64.ofInt 1000000000000000) = 0 := by rw [z_lg_eq, hLk, hN]; omega
          -- the better of the two
          have keep : y.toInt ≤ max (T k) (w k) → (∀ M, z_loop X z_cf z_ff (z_pu (z_run X z_cf z_ff (d + 2))) 232 (M + 1) 7 [(0, .ref 55), (1, .int x1), (2, .int x2), (3, .long y), (5, .int x5)] [] (118, n0, ce, sl, I, L, z_rr t u r q g st) = z_loop X z_cf z_ff (z_pu (z_run X z_cf z_ff (d + 2))) 232 M 7 [(0, .ref 55), (1, .int x1), (2, .int x2), (3, .long y), (5, .int (x5 + Int32.ofInt 1))] [] (118, n0, ce, sl, I, L, z_rr t u r q g st)) → ∃ z : Int64, (∀ M, z_loop X z_cf z_ff (z_pu (z_run X z_cf z_ff (d + 2))) 232 (M + (n + 1) + 1) 7 [(0, .ref 55), (1, .int x1), (2, .int x2), (3, .long y), (5, .int x5)] [] (118, n0, ce, sl, I, L, z_rr t u r q g st) = some (.inl (some (.long z)), (118, n0, ce, sl, I, L, z_rr t u r q g st))) ∧ zIsW T w z.toInt := by
            intro e1 e2
            obtain ⟨z, z1, z2⟩ := ih (k + 1) (x5 + Int32.ofInt 1) y (by omega) a2' (by
              intro j hj j1 j2
              by_cases cj : j = k
              · subst cj
                exact e1
              · exact a3 j (by omega) j1 j2) a4
            refine ⟨z, fun M => ?_, z2⟩
            rw [show M + (n + 1) + 1 = (M + n + 1) + 1 by omega, e2]
            exact z1 M
          have take : ∀ v : Int64, v.toInt = max (T k) (w k) → max (T k) (w k) < y.toInt → (∀ M, z_loop X z_cf z_ff (z_pu (z_run X z_cf z_ff (d + 2))) 232 (M + 1) 7 [(0, .ref 55), (1, .int x1), (2, .int x2), (3, .long y), (5, .int x5)] [] (118, n0, ce, sl, I, L, z_rr t u r q g st) = z_loop X z_cf z_ff (z_pu (z_run X z_cf z_ff (d + 2))) 232 M 7 [(0, .ref 55), (1, .int x1), (2, .int x2), (3, .long v), (5, .int (x5 + Int32.ofInt 1))] [] (118, n0, ce, sl, I, L, z_rr t u r q g st)) → ∃ z : Int64, (∀ M, z_loop X z_cf z_ff (z_pu (z_run X z_cf z_ff (d + 2))) 232 (M + (n + 1) + 1) 7 [(0, .ref 55), (1, .int x1), (2, .int x2), (3, .long y), (5, .int x5)] [] (118, n0, ce, sl, I, L, z_rr t u r q g st) = some (.inl (some (.long z)), (118, n0, ce, sl, I, L, z_rr t u r q g st))) ∧ zIsW T w z.toInt := by
            intro v hv e1 e2
            obtain ⟨z, z1, z2⟩ := ih (k + 1) (x5 + Int32.ofInt 1) v (by omega) a2' (by
              intro j hj j1 j2
              by_cases cj : j = k
              · subst cj
                omega
              · have := a3 j (by omega) j1 j2
                omega) (Or.inr ⟨k, by omega, c1, c2, hv⟩)
            refine ⟨z, fun M => ?_, z2⟩
            rw [show M + (n + 1) + 1 = (M + n + 1) + 1 by omega, e2]
            exact z1 M
          by_cases c3 : w k ≤ T k
          · by_cases c4 : y.toInt ≤ T k
            · refine keep (by omega) (fun M => ?_)
              rw [zb_M_leastWorst_7, if_neg (by rw [y_i_le, h13]; omega), hin, z_gd_t, hixn, hI k (by omega), if_neg nc1, hin2, z_gd_t, hiyn, if_neg nc2, z_gd_t, if_pos (by rw [z_lg_le, hLk, hTl]; exact c3), if_pos (by rw [z_lg_ge, hTl]; exact c4)]
            · refine take (Int32.ofInt (T k)).toInt64 (by rw [hTl]; omega) (by omega) (fun M => ?_)
              rw [zb_M_leastWorst_7, if_neg (by rw [y_i_le, h13]; omega), hin, z_gd_t, hixn, hI k (by omega), if_neg nc1, hin2, z_gd_t, hiyn, if_neg nc2, z_gd_t, if_pos (by rw [z_lg_le, hLk, hTl]; exact c3), if_neg (by rw [z_lg_ge, hTl]; exact c4)]
          · by_cases c4 : y.toInt ≤ w k
            · refine keep (by omega) (fun M => ?_)
              rw [zb_M_leastWorst_7, if_neg (by rw [y_i_le, h13]; omega), hin, z_gd_t, hixn, hI k (by omega), if_neg nc1, hin2, z_gd_t, hiyn, if_neg nc2, z_gd_t, if_neg (by rw [z_lg_le, hLk, hTl]; exact c3), z_gd_t, if_pos (by rw [z_lg_ge, hLk]; exact c4)]
            · refine take (L 95 (13 * (s + 1) + k)) (by rw [hLk]; omega) (by omega) (fun M => ?_)
              rw [zb_M_leastWorst_7, if_neg (by rw [y_i_le, h13]; omega), hin, z_gd_t, hixn, hI k (by omega), if_neg nc1, hin2, z_gd_t, hiyn, if_neg nc2, z_gd_t, if_neg (by rw [z_lg_le, hLk, hTl]; exact c3), z_gd_t, if_neg (by rw [z_lg_ge, hLk]; exact c4)]
  obtain ⟨z, z1, z2⟩ := lp 13 0 (Int32.ofInt 0) (Int64.ofInt 1000000000000000) (by omega) rfl (fun j hj => by omega) (Or.inl (by rw [hN]; rfl))
  refine ⟨z, ?_, z2⟩
  refine z_en X d _ _ [(0, .ref 55), (1, .int x1), (2, .int x2)] _ _ rfl rfl rfl ?_
  rw [zb_M_leastWorst_0, show (99999999 : Nat) = 99999985 + 13 + 1 by omega]
  exact z1 _
theorem zr_leastSum (X : ZX) (d n0 ce sl : Nat) (I : Nat → Nat → Int32) (L : Nat → Nat → Int64) (t u r q g : Nat) (st : Nat → Option Nat) {s f : Nat} (hs : s < 5) (hf : f < 13) (T w : Nat → Int) (hT : zTok T) (hI : ∀ k, k < 13 → I 97 (169 * s + 13 * f + k) = Int32.ofInt (T k)) (hL : ∀ k, k < 13 → (L 96 (13 * (s + 1) + k)).toInt = w k) (hw : ∀ k, k < 13 → w k = zNV ∨ 0 ≤ w k ∧ w k ≤ 1000000000) (x1 x2 : Int32) (x3 : Int64) (h1 : x1.toInt = s) (h2 : x2.toInt = f) : ∃ y : Int64, z_pu (z_run X z_cf z_ff (d + 3)) 233 [.ref 55, .int x1, .int x2, .long x3] (118, n0, ce, sl, I, L, z_rr t u r q g st) = some (.inl (some (.long y)), (118, n0, ce, sl, I, L, z_rr t u r q g st)) ∧ zIsS x3.toInt T w y.toInt := by
  have hNV : zNV = 1000000000000000 := rfl
  have h13 : (Int32.ofInt 13).toInt = 13 := rfl
  have hm1 : (Int32.ofInt (-1)).toInt = -1 := rfl
  have hN : (Int64.ofInt 1000000000000000).toInt = 1000000000000000 := y_ol (by omega) (by omega)
  have h1p : (x1 + Int32.ofInt 1).toInt = ((s + 1 : Nat) : Int) := by rw [y_adl (by omega) (by omega) (by omega) (by omega)]; omega
  have lp : ∀ n, ∀ (k : Nat) (x5 : Int32) (y : Int64), k + n = 13 → x5.toInt = k → (∀ j, j < k → T j ≠ -1 → T j ≤ x3.toInt → w j ≠ zNV → y.toInt ≤ T j + w j) → (y.toInt = zNV ∨ ∃ j, j < 13 ∧ T j ≠ -1 ∧ T j ≤ x3.toInt ∧ w j ≠ zNV ∧ y.toInt = T j + w j) → ∃ z : Int64, (∀ M, z_loop X z_cf z_ff (z_pu (z_run X z_cf z_ff (d + 2))) 233 (M + n + 1) 8 [(0, .ref 55), (1, .int x1), (2, .int x2), (3, .long x3), (5, .long y), (7, .int x5)] [] (118, n0, ce, sl, I, L, z_rr t u r q g st) = some (.inl (some (.long z)), (118, n0, ce, sl, I, L, z_rr t u r q g st))) ∧ zIsS x3.toInt T w z.toInt := by
    intro n
    induction n with
    | zero =>
      intro k x5 y a1 a2 a3 a4
      refine ⟨y, fun M => ?_, fun j hj => a3 j (by omega), a4⟩
      rw [show M + 0 + 1 = M + 1 by omega, zb_M_leastSum_8, if_pos (by rw [y_i_le, h13]; omega)]
    | succ n ih =>
      intro k x5 y a1 a2 a3 a4
      have hix := z_tix h1 h2 a2 hs hf (by omega)
      have hixn : (Int32.ofInt 169 * x1 + Int32.ofInt 13 * x2 + x5).toNatClampNeg = 169 * s + 13 * f + k := by rw [y_tn, hix]; rfl
      have hin : z_in (Int32.ofInt 169 * x1 + Int32.ofInt 13 * x2 + x5) 845 = true := y_in_t (by omega) (by omega)
      have hiy := z_tiy h1p a2 (by omega) (by omega)
      have hiyn : (Int32.ofInt 13 * (x1 + Int32.ofInt 1) + x5).toNatClampNeg = 13 * (s + 1) + k := by rw [y_tn, hiy]; rfl
      have hin2 : z_in (Int32.ofInt 13 * (x1 + Int32.ofInt 1) + x5) 78 = true := y_in_t (by omega) (by omega)
      have a2' : (x5 + Int32.ofInt 1).toInt = ((k + 1 : Nat) : Int) := by rw [y_adl (by omega) (by omega) (by omega) (by omega)]; omega
      have hTk := hT k
      have hTe : (Int32.ofInt (T k)).toInt = T k := y_oi (by omega) (by omega)
      have hTl : (Int32.ofInt (T k)).toInt64.toInt = T k := by rw [y_il, hTe]
      have hwk := hw k (by omega)
      have hLk := hL k (by omega)
      by_cases c1 : T k = -1
      · obtain ⟨z, z1, z2⟩ := ih (k + 1) (x5 + Int32.ofInt 1) y (by omega) a2' (by
          intro j hj j1 jb j2
          by_cases cj : j = k
          · subst cj
            exact absurd c1 j1
          · exact a3 j (by omega) j1 jb j2) a4
        refine ⟨z, fun M => ?_, z2⟩
        rw [show M + (n + 1) + 1 = (M + n + 1) + 1 by omega, zb_M_leastSum_8, if_neg (by rw [y_i_le, h13]; omega), hin, z_gd_t, hixn, hI k (by omega), if_pos (by rw [c1])]
        exact z1 M
      · have nc1 : ¬ Int32.ofInt (T k) = Int32.ofInt (-1) := by rw [y_i_eq, hTe, hm1]; exact c1
        by_cases cb : T k ≤ x3.toInt
        · have ncb : ¬ 0 < lg_cmp (Int32.ofInt (T k)).toInt64 x3 := by rw [z_lg_gt, hTl]; omega
          by_cases c2 : w k = zNV
          · obtain ⟨z, z1, z2⟩ := ih (k + 1) (x5 + Int32.ofInt 1) y (by omega) a2' (by
              intro j hj j1 jb j2
              by_cases cj : j = k
              · subst cj
                exact absurd c2 j2
              · exact a3 j (by omega) j1 jb j2) a4
            refine ⟨z, fun M => ?_, z2⟩
            rw [show M + (n + 1) + 1 = (M + n + 1) + 1 by omega, zb_M_leastSum_8, if_neg (by rw [y_i_le, h13]; omega), hin, z_gd_t, hixn, hI k (by omega), if_neg nc1, if_neg ncb, hin2, z_gd_t, hiyn, if_pos (by rw [z_lg_eq, hLk, hN]; omega)]
            exact z1 M
          · have nc2 : ¬ lg_cmp (L 96 (13 * (s + 1) + k)) (Int64.ofInt 1000000000000000) = 0 := by rw [z_lg_eq, hLk, hN]; omega
            -- the better of the two
            have keep : y.toInt ≤ T k + w k → (∀ M, z_loop X z_cf z_ff (z_pu (z_run X z_cf z_ff (d + 2))) 233 (M + 1) 8 [(0, .ref 55), (1, .int x1), (2, .int x2), (3, .long x3), (5, .long y), (7, .int x5)] [] (118, n0, ce, sl, I, L, z_rr t u r q g st) = z_loop X z_cf z_ff (z_pu (z_run X z_cf z_ff (d + 2))) 233 M 8 [(0, .ref 55), (1, .int x1), (2, .int x2), (3, .long x3), (5, .long y), (7, .int (x5 + Int32.ofInt 1))] [] (118, n0, ce, sl, I, L, z_rr t u r q g st)) → ∃ z : Int64, (∀ M, z_loop X z_cf z_ff (z_pu (z_run X z_cf z_ff (d + 2))) 233 (M + (n + 1) + 1) 8 [(0, .ref 55), (1, .int x1), (2, .int x2), (3, .long x3), (5, .long y), (7, .int x5)] [] (118, n0, ce, sl, I, L, z_rr t u r q g st) = some (.inl (some (.long z)), (118, n0, ce, sl, I, L, z_rr t u r q g st))) ∧ zIsS x3.toInt T w z.toInt := by
              intro e1 e2
              obtain ⟨z, z1, z2⟩ := ih (k + 1) (x5 + Int32.ofInt 1) y (by omega) a2' (by
                intro j hj j1 jb j2
                by_cases cj : j = k
                · subst cj
                  exact e1
                · exact a3 j (by omega) j1 jb j2) a4
              refine ⟨z, fun M => ?_, z2⟩
              rw [show M + (n + 1) + 1 = (M + n + 1) + 1 by omega, e2]
              exact z1 M
            have take : ∀ v : Int64, v.toInt = T k + w k → T k + w k < y.toInt → (∀ M, z_loop X z_cf z_ff (z_pu (z_run X z_cf z_ff (d + 2))) 233 (M + 1) 8 [(0, .ref 55), (1, .int x1), (2, .int x2), (3, .long x3), (5, .long y), (7, .int x5)] [] (118, n0, ce, sl, I, L, z_rr t u r q g st) = z_loop X z_cf z_ff (z_pu (z_run X z_cf z_ff (d + 2))) 233 M 8 [(0, .ref 55), (1, .int x1), (2, .int x2), (3, .long x3), (5, .long v), (7, .int (x5 + Int32.ofInt 1))] [] (118, n0, ce, sl, I, L, z_rr t u r q g st)) → ∃ z : Int64, (∀ M, z_loop X z_cf z_ff (z_pu (z_run X z_cf z_ff (d + 2))) 233 (M + (n + 1) + 1) 8 [(0, .ref 55), (1, .int x1), (2, .int x2), (3, .long x3), (5, .long y), (7, .int x5)] [] (118, n0, ce, sl, I, L, z_rr t u r q g st) = some (.inl (some (.long z)), (118, n0, ce, sl, I, L, z_rr t u r q g st))) ∧ zIsS x3.toInt T w z.toInt := by
              intro v hv e1 e2
              obtain ⟨z, z1, z2⟩ := ih (k + 1) (x5 + Int32.ofInt 1) v (by omega) a2' (by
                intro j hj j1 jb j2
                by_cases cj : j = k
                · subst cj
                  omega
                · have := a3 j (by omega) j1 jb j2
                  omega) (Or.inr ⟨k, by omega, c1, cb, c2, hv⟩)
              refine ⟨z, fun M => ?_, z2⟩
              rw [show M + (n + 1) + 1 = (M + n + 1) + 1 by omega, e2]
              exact z1 M
            have e96 : (L 96 (13 * (s + 1) + k) + (Int32.ofInt (T k)).toInt64).toInt = T k + w k := by
              rw [y_ad8 (by omega) (by omega), hLk, hTl]
              omega
            by_cases c4 : y.toInt ≤ T k + w k
            · refine keep c4 (fun M => ?_)
              rw [zb_M_leastSum_8, if_neg (by rw [y_i_le, h13]; omega), hin, z_gd_t, hixn, hI k (by omega), if_neg nc1, if_neg ncb, hin2, z_gd_t, hiyn, if_neg nc2, z_gd_t, if_pos (by rw [z_lg_ge, e96]; exact c4)]
            · refine take (L 96 (13 * (s + 1) + k) + (Int32.ofInt (T k)).toInt64) e96 (by omega) (fun M => ?_)
              rw [zb_M_leastSum_8, if_neg (by rw [y_i_le, h13]; omega), hin, z_gd_t, hixn, hI k (by omega), if_neg nc1, if_neg ncb, hin2, z_gd_t, hiyn, if_neg nc2, z_gd_t, if_neg (by rw [z_lg_ge, e96]; exact c4)]
        · obtain ⟨z, z1, z2⟩ := ih (k + 1) (x5 + Int32.ofInt 1) y (by omega) a2' (by
            intro j hj j1 jb j2
            by_cases cj : j = k
            · subst cj
              exact absurd jb cb
            · exact a3 j (by omega) j1 jb j2) a4
          refine ⟨z, fun M => ?_, z2⟩
          rw [show M + (n + 1) + 1 = (M + n + 1) + 1 by omega, zb_M_leastSum_8, if_neg (by rw [y_i_le, h13]; omega), hin, z_gd_t, hixn, hI k (by omega), if_neg nc1, if_pos (by rw [z_lg_gt, hTl]; omega)]
          exact z1 M
  obtain ⟨z, z1, z2⟩ := lp 13 0 (Int32.ofInt 0) (Int64.ofInt 1000000000000000) (by omega) rfl (fun j hj => by omega) (Or.inl (by rw [hN]; rfl))
  refine ⟨z, ?_, z2⟩
  refine z_en X d _ _ [(0, .ref 55), (1, .int x1), (2, .int x2), (3, .long x3)] _ _ rfl rfl rfl ?_
  rw [zb_M_leastSum_0, show (99999999 : Nat) = 99999985 + 13 + 1 by omega]
  exact z1 _
