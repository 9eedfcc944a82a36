/-! CALLS, 6: lost, ran -/
theorem z_abi_i {x : Int32} (h : -2147483647 ≤ x.toInt) : (z_abi x).toInt = max x.toInt (-x.toInt) := by
  unfold z_abi
  split
  · rename_i g
    rw [y_i_le, y_i0] at g
    omega
  · rename_i g
    rw [y_i_le, y_i0] at g
    have := y_hi x
    rw [y_sb (by rw [y_i0]; omega) (by rw [y_i0]; omega), y_i0]
    omega
/-- what went out of the last of m stands -/
def zov (F : Nat → Int32) (m k : Nat) : Int := if m = 0 then -1 else (F (40 * (m - 1) + k)).toInt
def zoff (F : Nat → Int32) (m : Nat) (aim e : Int) (k : Nat) : Bool := decide (zov F m k = -1 ∨ e < zov F m k - aim ∨ e < aim - zov F m k)
theorem y_m1 : (Int32.ofInt (-1)).toInt = -1 := rfl
theorem zr_isOffC (X : ZX) (d m ce sl : Nat) (I : Nat → Nat → Int32) (L : Nat → Nat → Int64) (t u r q : Nat) (x e : Int32) {k : Nat} (h5 : m ≤ 5) (hs' : (I 5 2).toInt = m) (hx : x.toInt = k) (hk : k < 40) (he : 0 ≤ e.toInt) (a1 : 1 ≤ (I 25 3).toInt) (a2 : (I 25 3).toInt ≤ 60000)
    (hg : ∀ k : Nat, k < 200 → I 26 k = Int32.ofInt (-1) ∨ (1 ≤ (I 26 k).toInt ∧ (I 26 k).toInt ≤ 60000)) : z_pu (z_run X z_cf z_ff (d + 5)) 100 [.ref 25, .int x, .int e] (118, z_sd m, ce, sl, I, L, z_rr t u r q (z_gg m) (z_sf m)) = some (.inl (some (.int (if zoff (I 26) m (I 25 3).toInt e.toInt k = true then Int32.ofInt 1 else Int32.ofInt 0))), (118, z_sd m, ce, sl, I, L, z_rr t u r q (z_gg m) (z_sf m))) := by
  have hs1 : (I 5 2 - Int32.ofInt 1).toInt = m - 1 := by rw [y_sbl (by omega) (by omega) (by omega) (by omega), hs']
  rw [zk_Run_isOff_0 X d]
  unfold zoff zov
  by_cases h0 : m = 0
  · rw [if_pos (by rw [y_wi0, hs1, y_oi0]; omega), if_pos rfl, if_pos h0, if_pos (decide_eq_true (Or.inl rfl))]
  · have e1 : ((I 5 2 - Int32.ofInt 1) * Int32.ofInt 40).toInt = (m - 1) * 40 := by rw [y_mul (by omega) (by omega) (by rw [hs1]; omega) (by rw [hs1]; omega), hs1]
    have e2 : ((I 5 2 - Int32.ofInt 1) * Int32.ofInt 40 + x).toInt = (m - 1) * 40 + k := by rw [y_ad (by omega) (by omega), e1, hx]
    have e3 : ((I 5 2 - Int32.ofInt 1) * Int32.ofInt 40 + x).toNatClampNeg = 40 * (m - 1) + k := by rw [y_tn, e2]; omega
    rw [if_neg (by rw [y_wi0, hs1, y_oi0, y_oi (by omega) (by omega)]; omega), if_neg (by rw [y_wi0, y_oi0, y_oi (by omega) (by omega)]; omega), y_in_t (by omega) (by omega), z_gd_t, e3, if_neg h0]
    have hv := hg (40 * (m - 1) + k) (by omega)
    generalize I 26 (40 * (m - 1) + k) = v at *
    by_cases h1 : v = Int32.ofInt (-1)
    · rw [if_pos h1, if_pos (decide_eq_true (Or.inl (by rw [h1]; rfl)))]
    · have hv2 := hv.resolve_left h1
      have e4 : (v - I 25 3).toInt = v.toInt - (I 25 3).toInt := y_sb (by omega) (by omega)
      rw [if_neg h1]
      by_cases h2 : z_abi (v - I 25 3) ≤ e
      · rw [if_pos h2, if_neg]
        rw [y_i_le, z_abi_i (by omega), e4] at h2
        intro h3
        have h4 := of_decide_eq_true h3
        omega
      · rw [if_neg h2, if_pos]
        rw [y_i_le, z_abi_i (by omega), e4] at h2
        apply decide_eq_true
        omega
theorem zr_isOffM (X : ZX) (d m ce sl : Nat) (I : Nat → Nat → Int32) (L : Nat → Nat → Int64) (t u r q : Nat) (x e : Int32) {k : Nat} (h5 : m ≤ 5) (hs' : (I 55 47).toInt = m) (hx : x.toInt = k) (hk : k < 40) (he : 0 ≤ e.toInt) (a1 : 1 ≤ (I 55 55).toInt) (a2 : (I 55 55).toInt ≤ 60000)
    (hg : ∀ k : Nat, k < 200 → I 80 k = Int32.ofInt (-1) ∨ (1 ≤ (I 80 k).toInt ∧ (I 80 k).toInt ≤ 60000)) : z_pu (z_run X z_cf z_ff (d + 3)) 225 [.ref 55, .int x, .int e] (118, z_sd m, ce, sl, I, L, z_rr t u r q (z_gg m) (z_sf m)) = some (.inl (some (.int (if zoff (I 80) m (I 55 55).toInt e.toInt k = true then Int32.ofInt 1 else Int32.ofInt 0))), (118, z_sd m, ce, sl, I, L, z_rr t u r q (z_gg m) (z_sf m))) := by
  rw [zk_M_isOff_0 X d]
  unfold zoff zov
  by_cases h0 : m = 0
  · rw [if_pos (by rw [y_i_eq, y_i0, hs']; omega), if_pos rfl, if_pos h0, if_pos (decide_eq_true (Or.inl rfl))]
  · have hs1 : (I 55 47 - Int32.ofInt 1).toInt = m - 1 := by rw [y_sbl (by omega) (by omega) (by omega) (by omega), hs']
    have e1 : (Int32.ofInt 40 * (I 55 47 - Int32.ofInt 1)).toInt = 40 * (m - 1) := by rw [y_lmu (by omega) (by omega) (by rw [hs1]; omega) (by rw [hs1]; omega), hs1]
    have e2 : (Int32.ofInt 40 * (I 55 47 - Int32.ofInt 1) + x).toInt = 40 * (m - 1) + k := by rw [y_ad (by omega) (by omega), e1, hx]
    have e3 : (Int32.ofInt 40 * (I 55 47 - Int32.ofInt 1) + x).toNatClampNeg = 40 * (m - 1) + k := by rw [y_tn, e2]; omega
    rw [if_neg (by rw [y_i_eq, y_i0, hs']; omega), y_in_t (by omega) (by omega), z_gd_t, e3, if_neg h0]
    have hv := hg (40 * (m - 1) + k) (by omega)
    generalize I 80 (40 * (m - 1) + k) = v at *
    by_cases h1 : v = Int32.ofInt (-1)
    · rw [if_pos h1, if_pos (decide_eq_true (Or.inl (by rw [h1]; rfl)))]
    · have hv2 := hv.resolve_left h1
      have e4 : (v - I 55 55).toInt = v.toInt - (I 55 55).toInt := y_sb (by omega) (by omega)
      have e5 : (I 55 55 - v).toInt = (I 55 55).toInt - v.toInt := y_sb (by omega) (by omega)
      rw [if_neg h1]
      by_cases h2 : e < v - I 55 55
      · rw [if_pos h2, if_pos]
        rw [y_i_lt, e4] at h2
        apply decide_eq_true
        omega
      · rw [if_neg h2]
        rw [y_i_lt, e4] at h2
        by_cases h3 : I 55 55 - v ≤ e
        · rw [if_pos h3, if_neg]
          rw [y_i_le, e5] at h3
          intro h4
          have h4 := of_decide_eq_true h4
          omega
        · rw [if_neg h3, if_pos]
          rw [y_i_le, e5] at h3
          apply decide_eq_true
          omega
def zlo (f : Nat → Bool) : Nat → Nat → Nat
  | 0, i => i
  | n + 1, i => if f i = true then zlo f n (i + 1) else i
/-- the segment that is asked, from the head or from the tail -/
def zlseg (tail : Int32) (c i : Nat) : Nat := if tail = 0 then i else c - 1 - i
theorem zr_lostC (X : ZX) (d m ce sl : Nat) (I : Nat → Nat → Int32) (L : Nat → Nat → Int64) (t u r q : Nat) (tl e : Int32) {c : Nat} (hc : c ≤ 40) (hc' : (I 22 2).toInt = c) (h5 : m ≤ 5) (hs' : (I 5 2).toInt = m) (he : 0 ≤ e.toInt) (a1 : 1 ≤ (I 25 3).toInt) (a2 : (I 25 3).toInt ≤ 60000)
    (hg : ∀ k : Nat, k < 200 → I 26 k = Int32.ofInt (-1) ∨ (1 ≤ (I 26 k).toInt ∧ (I 26 k).toInt ≤ 60000)) (n : Nat) : ∀ (i M : Nat), i + n = c → 2 * n < M →
    z_loop X z_cf z_ff (z_pu (z_run X z_cf z_ff (d + 5))) 99 M 2 [(0, .ref 25), (1, .int tl), (2, .int e), (3, .int (Int32.ofNat i))] [] (118, z_sd m, ce, sl, I, L, z_rr t u r q (z_gg m) (z_sf m)) = some (.inl (some (.int (Int32.ofNat (zlo (fun j => zoff (I 26) m (I 25 3).toInt e.toInt (zlseg tl c j)) n i)))), (118, z_sd m, ce, sl, I, L, z_rr t u r q (z_gg m) (z_sf m))) := by
  induction n with
  | zero =>
    intro i M h1 h2
    obtain ⟨M, rfl⟩ : ∃ N, M = N + 1 := ⟨M - 1, by omega⟩
    rw [zb_Run_lostAt_2, if_pos (by rw [y_i_le, hc', y_on (by omega)]; omega)]
    rfl
  | succ n ih =>
    intro i M h1 h2
    obtain ⟨M, rfl⟩ : ∃ N, M = N + 1 + 1 := ⟨M - 2, by omega⟩
    have hseg : zlseg tl c i < 40 := by unfold zlseg; split <;> omega
    have e1 : ((I 22 2 - Int32.ofInt 1) - Int32.ofNat i).toInt = c - 1 - i := by
      have e0 : (I 22 2 - Int32.ofInt 1).toInt = c - 1 := by rw [y_sbl (by omega) (by omega) (by omega) (by omega), hc']
      rw [y_sb (by rw [e0, y_on (by omega)]; omega) (by rw [e0, y_on (by omega)]; omega), e0, y_on (by omega)]
    rw [zb_Run_lostAt_2, if_neg (by rw [y_i_le, hc', y_on (by omega)]; omega)]
    have hfin : ∀ x : Int32, x.toInt = (zlseg tl c i : Nat) → z_bi (z_x [] 34) (z_pu (z_run X z_cf z_ff (d + 5)) 100 [.ref 25, .int x, .int e] (118, z_sd m, ce, sl, I, L, z_rr t u r q (z_gg m) (z_sf m))) (fun v w => z_loop X z_cf z_ff (z_pu (z_run X z_cf z_ff (d + 5))) 99 (M + 1) 37 [(0, .ref 25), (1, .int tl), (2, .int e), (3, .int (Int32.ofNat i))] [.int v] w) = some (.inl (some (.int (Int32.ofNat (zlo (fun j => zoff (I 26) m (I 25 3).toInt e.toInt (zlseg tl c j)) (n + 1) i)))), (118, z_sd m, ce, sl, I, L, z_rr t u r q (z_gg m) (z_sf m))) := by
      intro x hx
      rw [zr_isOffC X d m ce sl I L t u r q x e h5 hs' hx hseg he a1 a2 hg, z_bi_v, zb_Run_lostAt_37]
      show _ = (some (.inl (some (.int (Int32.ofNat (if zoff (I 26) m (I 25 3).toInt e.toInt (zlseg tl c i) = true then zlo _ n (i + 1) else i)))), _) : ZR)
      by_cases hb : zoff (I 26) m (I 25 3).toInt e.toInt (zlseg tl c i) = true
      · rw [if_pos hb, if_pos hb, if_neg (by decide), z_ofa (by omega)]
        exact ih (i + 1) M (by omega) (by omega)
      · rw [if_neg hb, if_neg hb, if_pos (by decide)]
    by_cases ht : tl = 0
    · rw [if_pos ht]
      refine hfin _ ?_
      rw [y_on (by omega)]
      unfold zlseg
      rw [if_pos ht]
    · rw [if_neg ht]
      refine hfin _ ?_
      rw [e1]
      unfold zlseg
      rw [if_neg ht]
      omega
theorem zr_lostM (X : ZX) (d m ce sl : Nat) (I : Nat → Nat → Int32) (L : Nat → Nat → Int64) (t u r q : Nat) (tl e : Int32) {c : Nat} (hc : c ≤ 40) (hc' : (I 55 42).toInt = c) (h5 : m ≤ 5) (hs' : (I 55 47).toInt = m) (he : 0 ≤ e.toInt) (a1 : 1 ≤ (I 55 55).toInt) (a2 : (I 55 55).toInt ≤ 60000)
    (hg : ∀ k : Nat, k < 200 → I 80 k = Int32.ofInt (-1) ∨ (1 ≤ (I 80 k).toInt ∧ (I 80 k).toInt ≤ 60000)) (n : Nat) : ∀ (i M : Nat), i + n = c → 2 * n < M →
    z_loop X z_cf z_ff (z_pu (z_run X z_cf z_ff (d + 3))) 224 M 38 [(0, .ref 55), (1, .int tl), (2, .int e), (3, .int (Int32.ofNat i))] [] (118, z_sd m, ce, sl, I, L, z_rr t u r q (z_gg m) (z_sf m)) = some (.inl (some (.int (Int32.ofNat (zlo (fun j => zoff (I 80) m (I 55 55).toInt e.toInt (zlseg tl c j)) n i)))), (118, z_sd m, ce, sl, I, L, z_rr t u r q (z_gg m) (z_sf m))) := by
  induction n with
  | zero =>
    intro i M h1 h2
    obtain ⟨M, rfl⟩ : ∃ N, M = N + 1 := ⟨M - 1, by omega⟩
    rw [zb_M_lost_38, if_pos (by rw [y_i_le, hc', y_on (by omega)]; omega)]
    rfl
  | succ n ih =>
    intro i M h1 h2
    obtain ⟨M, rfl⟩ : ∃ N, M = N + 1 + 1 := ⟨M - 2, by omega⟩
    have hseg : zlseg tl c i < 40 := by unfold zlseg; split <;> omega
    have e1 : ((I 55 42 - Int32.ofInt 1) - Int32.ofNat i).toInt = c - 1 - i := by
      have e0 : (I 55 42 - Int32.ofInt 1).toInt = c - 1 := by rw [y_sbl (by omega) (by omega) (by omega) (by omega), hc']
      rw [y_sb (by rw [e0, y_on (by omega)]; omega) (by rw [e0, y_on (by omega)]; omega), e0, y_on (by omega)]
    rw [zb_M_lost_38, if_neg (by rw [y_i_le, hc', y_on (by omega)]; omega)]
    have hfin : ∀ x : Int32, x.toInt = (zlseg tl c i : Nat) → z_bi (z_x [] 64) (z_pu (z_run X z_cf z_ff (d + 3)) 225 [.ref 55, .int x, .int e] (118, z_sd m, ce, sl, I, L, z_rr t u r q (z_gg m) (z_sf m))) (fun v w => z_loop X z_cf z_ff (z_pu (z_run X z_cf z_ff (d + 3))) 224 (M + 1) 67 [(0, .ref 55), (1, .int tl), (2, .int e), (3, .int (Int32.ofNat i))] [.int v] w) = some (.inl (some (.int (Int32.ofNat (zlo (fun j => zoff (I 80) m (I 55 55).toInt e.toInt (zlseg tl c j)) (n + 1) i)))), (118, z_sd m, ce, sl, I, L, z_rr t u r q (z_gg m) (z_sf m))) := by
      intro x hx
      rw [zr_isOffM X d m ce sl I L t u r q x e h5 hs' hx hseg he a1 a2 hg, z_bi_v, zb_M_lost_67]
      show _ = (some (.inl (some (.int (Int32.ofNat (if zoff (I 80) m (I 55 55).toInt e.toInt (zlseg tl c i) = true then zlo _ n (i + 1) else i)))), _) : ZR)
      by_cases hb : zoff (I 80) m (I 55 55).toInt e.toInt (zlseg tl c i) = true
      · rw [if_pos hb, if_pos hb, if_neg (by decide), z_ofa (by omega)]
        exact ih (i + 1) M (by omega) (by omega)
      · rw [if_neg hb, if_neg hb, if_pos (by decide)]
    by_cases ht : tl = 0
    · rw [if_pos ht]
      refine hfin _ ?_
      rw [y_on (by omega)]
      unfold zlseg
      rw [if_pos ht]
    · rw [if_neg ht]
      refine hfin _ ?_
      rw [e1]
      unfold zlseg
      rw [if_neg ht]
      omega
theorem zo_lost (X : ZX) (d m ce sl : Nat) (I : Nat → Nat → Int32) (L : Nat → Nat → Int64) (t u r q : Nat) {C : Nat} (hS : zg_S C m I) (hC : zg_C I) (hU : zg_U m I) (a b : Int32) : zOL X (d + 200) 263 [.ref 0, .int a, .int b, .ref 117] 224 [.ref 55, .int a, .int b] (118, z_sd m, ce, sl, I, L, z_rr t u r q (z_gg m) (z_sf m)) (zQ m t u r q ce sl I L [] [] (zFs I)) := by
  obtain ⟨h5, hs, hm, h1, hf⟩ := hS
  have hs' : (I 5 2).toInt = m := by rw [hs, y_on (by omega)]
  obtain ⟨q1, q2, q3, _⟩ := hC
  obtain ⟨c, hc⟩ : ∃ c : Nat, (I 22 2).toInt = c := ⟨(I 22 2).toInt.toNat, by omega⟩
  have hc2 : (I 55 42).toInt = c := by rw [← q1, hc]
  obtain ⟨u1, u2, u3⟩ := hU
  by_cases c0 : I 25 2 = 1
  · have c0' : ¬ I 25 2 = 0 := by rw [c0]; decide
    have c0'' : ¬ I 55 48 = 0 := by rw [← u1]; exact c0'
    obtain ⟨v1, v2, v3, v4, v5, v6, v7, v8, g1, g2, g3, g4, g5, g6, g7, g8⟩ := u3 c0
    by_cases c1 : 0 ≤ b.toInt
    · obtain ⟨V, hV⟩ : ∃ V, V = Int32.ofNat (zlo (fun j => zoff (I 26) m (I 25 3).toInt b.toInt (zlseg a c j)) c 0) := ⟨_, rfl⟩
      refine ⟨Int32.ofInt 0, V, zw m t u r q ce sl I (z_up L 117 0 V.toInt64), zw m t u r q ce sl (z_up I 55 0 (Int32.ofInt 0)) (z_up L 117 0 V.toInt64), ?_, ?_, rfl, fun _ => rfl, zQ_ro _ _ _ _ _ _ _ _ _ _ _ _ _ _ (zFs_up0 I _)⟩
      · refine z_en X (d + 197) _ _ [(0, .ref 0), (1, .int a), (2, .int b), (3, .ref 117)] _ _ rfl rfl rfl ?_
        have e : z_pu (z_run X z_cf z_ff (d + 199)) 149 [.ref 0, .int a, .int b] (118, z_sd m, ce, sl, I, L, z_rr t u r q (z_gg m) (z_sf m)) = some (.inl (some (.int V)), (118, z_sd m, ce, sl, I, L, z_rr t u r q (z_gg m) (z_sf m))) := by
          refine z_en X (d + 196) _ _ [(0, .ref 0), (1, .int a), (2, .int b)] _ _ rfl rfl rfl ?_
          have e2 : z_pu (z_run X z_cf z_ff (d + 198)) 99 [.ref 25, .int a, .int b] (118, z_sd m, ce, sl, I, L, z_rr t u r q (z_gg m) (z_sf m)) = some (.inl (some (.int V)), (118, z_sd m, ce, sl, I, L, z_rr t u r q (z_gg m) (z_sf m))) := by
            refine z_en X (d + 195) _ _ [(0, .ref 25), (1, .int a), (2, .int b)] _ _ rfl rfl rfl ?_
            rw [zb_Run_lostAt_0, hV]
            exact zr_lostC X (d + 192) m ce sl I L t u r q a b (by omega) hc h5 hs' c1 v2 v3 g7 c 0 99999999 (by omega) (by omega)
          rw [zt_X_lost_0 X (d + 195), if_neg c0', if_pos (by rw [y_i_le, y_i0]; exact c1), e2, z_bi_v, zb_X_lost_25]
        rw [zb_L_lost_0, e, z_bi_v, zb_L_lost_8, z_gd_inc (by omega) (by omega) (by omega)]
        rfl
      · refine z_en X (d + 197) _ _ [(0, .ref 55), (1, .int a), (2, .int b)] _ _ rfl rfl rfl ?_
        rw [zt_M_lost_0 X (d + 196), if_neg c0'', if_neg (by rw [y_i_lt, y_i0]; omega), hV, g5, v1]
        exact zr_lostM X (d + 196) m ce sl (z_up I 55 0 (Int32.ofInt 0)) _ t u r q a b (by omega) hc2 h5 (by show (I 55 47).toInt = m; rw [v8, y_on (by omega)]) c1 (by show 1 ≤ (I 55 55).toInt; rw [← v1]; exact v2) (by show (I 55 55).toInt ≤ 60000; rw [← v1]; exact v3) (fun k hk => by have g8 := g7 k hk; rw [g5] at g8; exact g8) c 0 99999997 (by omega) (by omega)
    · refine ⟨Int32.ofInt 2, Int32.ofInt 0, zw m t u r q (ce + 1) (sl + 6) I L, zw m t u r q (ce + 1) (sl + 6) (z_up (z_up I 55 0 (Int32.ofInt 0)) 55 0 (Int32.ofInt 2)) L, ?_, ?_, rfl, fun hk => absurd hk (by decide), zQ_no _ _ _ _ _ _ _ _ _ _ _ _ _ _ (zFs_up00 I _ _)⟩
      · refine z_en X (d + 197) _ _ [(0, .ref 0), (1, .int a), (2, .int b), (3, .ref 117)] _ _ rfl rfl rfl ?_
        have e : z_pu (z_run X z_cf z_ff (d + 199)) 149 [.ref 0, .int a, .int b] (118, z_sd m, ce, sl, I, L, z_rr t u r q (z_gg m) (z_sf m)) = some (.inr 1, (118, z_sd m, ce + 1, sl + 6, I, L, z_rr t u r q (z_gg m) (z_sf m))) := by
          refine z_en X (d + 196) _ _ [(0, .ref 0), (1, .int a), (2, .int b)] _ _ rfl rfl rfl ?_
          rw [zt_X_lost_0 X (d + 195), if_neg c0', if_neg (by rw [y_i_le, y_i0]; exact c1)]
        rw [zb_L_lost_0, e, z_bi_e]
        exact z_x1 rfl rfl
      · refine z_en X (d + 197) _ _ [(0, .ref 55), (1, .int a), (2, .int b)] _ _ rfl rfl rfl ?_
        rw [zt_M_lost_0 X (d + 196), if_neg c0'', if_pos (by rw [y_i_lt, y_i0]; omega)]
  · have c0' : I 25 2 = 0 := u2.resolve_right c0
    have c0'' : I 55 48 = 0 := by rw [← u1]; exact c0'
    refine ⟨Int32.ofInt 1, Int32.ofInt 0, zw m t u r q (ce + 1) (sl + 6) I L, zw m t u r q (ce + 1) (sl + 6) (z_up (z_up I 55 0 (Int32.ofInt 0)) 55 0 (Int32.ofInt 1)) L, ?_, ?_, rfl, fun hk => absurd hk (by decide), zQ_no _ _ _ _ _ _ _ _ _ _ _ _ _ _ (zFs_up00 I _ _)⟩
    · refine z_en X (d + 197) _ _ [(0, .ref 0), (1, .int a), (2, .int b), (3, .ref 117)] _ _ rfl rfl rfl ?_
      have e : z_pu (z_run X z_cf z_ff (d + 199)) 149 [.ref 0, .int a, .int b] (118, z_sd m, ce, sl, I, L, z_rr t u r q (z_gg m) (z_sf m)) = some (.inr 0, (118, z_sd m, ce + 1, sl + 6, I, L, z_rr t u r q (z_gg m) (z_sf m))) := by
        refine z_en X (d + 196) _ _ [(0, .ref 0), (1, .int a), (2, .int b)] _ _ rfl rfl rfl ?_
        rw [zt_X_lost_0 X (d + 195), if_pos c0']
      rw [zb_L_lost_0, e, z_bi_e]
      exact z_x1 rfl rfl
    · refine z_en X (d + 197) _ _ [(0, .ref 55), (1, .int a), (2, .int b)] _ _ rfl rfl rfl ?_
      rw [zt_M_lost_0 X (d + 196), if_pos c0'']
theorem zr_len_loop (X : ZX) (call : ZC) (n0 ce sl : Nat) (I : Nat → Nat → Int32) (L : Nat → Nat → Int64) (t u r q g : Nat) (st : Nat → Option Nat) {m c : Nat} (hc : c ≤ 40) (hc' : (I 55 42).toInt = c) (h5 : m ≤ 5) (hs' : (I 55 47).toInt = m)
    (hg : ∀ k : Nat, k < 200 → I 80 k = Int32.ofInt (-1) ∨ (1 ≤ (I 80 k).toInt ∧ (I 80 k).toInt ≤ 60000)) (ht : ∀ k : Nat, k < c → 1 ≤ (I 78 k).toInt ∧ (I 78 k).toInt ≤ 60000) (n : Nat) : ∀ (i M : Nat) (v : Int32), i + n = c → n < M → v.toInt = zlen (I 80) (I 78) m i → 0 ≤ v.toInt → v.toInt ≤ 10000000 * i →
    ∃ V : Int32, V.toInt = zlen (I 80) (I 78) m c ∧ z_loop X z_cf z_ff (z_pu call) 220 M 4 [(0, .ref 55), (1, .int v), (2, .int (Int32.ofNat i))] [] (118, n0, ce, sl, I, L, z_rr t u r q g st) = some (.inl (some (.int V)), (118, n0, ce, sl, I, L, z_rr t u r q g st)) := by
  induction n with
  | zero =>
    intro i M v h1 h2 h3 _ _
    obtain ⟨M, rfl⟩ : ∃ N, M = N + 1 := ⟨M - 1, by omega⟩
    refine ⟨v, by rw [h3]; congr 1, ?_⟩
    rw [zb_M_lengths_4, if_pos (by rw [y_i_le, hc', y_on (by omega)]; omega)]
  | succ n ih =>
    intro i M v h1 h2 h3 h4 h6
    obtain ⟨M, rfl⟩ : ∃ N, M = N + 1 := ⟨M - 1, by omega⟩
    have hz : zlen (I 80) (I 78) m (i + 1) = zlen (I 80) (I 78) m i + zlt (I 80) (I 78) m i := rfl
    have fin : ∀ y : Int32, y.toInt = zlt (I 80) (I 78) m i → 0 ≤ y.toInt → y.toInt ≤ 10000000 → ∃ V : Int32, V.toInt = zlen (I 80) (I 78) m c ∧ z_loop X z_cf z_ff (z_pu call) 220 M 4 [(0, .ref 55), (1, .int (v + y)), (2, .int (Int32.ofNat i + Int32.ofInt 1))] [] (118, n0, ce, sl, I, L, z_rr t u r q g st) = some (.inl (some (.int V)), (118, n0, ce, sl, I, L, z_rr t u r q g st)) := by
      intro y y1 y2 y3
      have e : (v + y).toInt = v.toInt + y.toInt := y_ad (by omega) (by omega)
      rw [z_ofa (by omega)]
      exact ih (i + 1) M (v + y) (by omega) (by omega) (by rw [e, hz, h3, y1]) (by omega) (by omega)
    rw [zb_M_lengths_4, if_neg (by rw [y_i_le, hc', y_on (by omega)]; omega)]
    by_cases h0 : m = 0
    · rw [if_pos (by rw [y_i_eq, y_i0, hs']; omega), if_pos rfl, if_pos (by decide)]
      exact fin _ (by unfold zlt; rw [if_pos (Or.inl h0)]; rfl) (by decide) (by decide)
    · have hs1 : (I 55 47 - Int32.ofInt 1).toInt = m - 1 := by rw [y_sbl (by omega) (by omega) (by omega) (by omega), hs']
      have e1 : (Int32.ofInt 40 * (I 55 47 - Int32.ofInt 1)).toInt = 40 * (m - 1) := by rw [y_lmu (by omega) (by omega) (by rw [hs1]; omega) (by rw [hs1]; omega), hs1]
      have e2 : (Int32.ofInt 40 * (I 55 47 - Int32.ofInt 1) + Int32.ofNat i).toInt = 40 * (m - 1) + i := by rw [y_ad (by rw [e1, y_on (by omega)]; omega) (by rw [e1, y_on (by omega)]; omega), e1, y_on (by omega)]
      have e3 : (Int32.ofInt 40 * (I 55 47 - Int32.ofInt 1) + Int32.ofNat i).toNatClampNeg = 40 * (m - 1) + i := by rw [y_tn, e2]; omega
      rw [if_neg (by rw [y_i_eq, y_i0, hs']; omega), y_in_t (i := Int32.ofInt 40 * (I 55 47 - Int32.ofInt 1) + Int32.ofNat i) (by omega) (by omega), z_gd_t, e3]
      have hv := hg (40 * (m - 1) + i) (by omega)
      have ht2 := ht i (by omega)
      have hzt : ∀ o : Int32, I 80 (40 * (m - 1) + i) = o → zlt (I 80) (I 78) m i = if m = 0 ∨ o = Int32.ofInt (-1) then 0 else min 10000000 (1000 * (I 78 i).toInt / o.toInt) := by
        intro o ho
        unfold zlt
        rw [ho]
      have hzt := hzt _ rfl
      generalize I 80 (40 * (m - 1) + i) = o at *
      by_cases h7 : o = Int32.ofInt (-1)
      · rw [if_pos h7, if_pos (by decide)]
        exact fin _ (by rw [hzt, if_pos (Or.inr h7)]; rfl) (by decide) (by decide)
      · have hv2 := hv.resolve_left h7
        have e4 : (Int32.ofInt 1000 * I 78 i).toInt = 1000 * (I 78 i).toInt := y_lmu (by omega) (by omega) (by omega) (by omega)
        have e5 : (Int32.ofInt 1000 * I 78 i / o).toInt = 1000 * (I 78 i).toInt / o.toInt := by rw [y_dv (by omega) (by omega), e4]
        have e6 : 0 ≤ 1000 * (I 78 i).toInt / o.toInt := Int.ediv_nonneg (by omega) (by omega)
        rw [hzt, if_neg (fun hc => hc.elim h0 h7)] at fin
        rw [if_neg h7, z_onn (by omega), y_in_t (i := Int32.ofNat i) (n := 40) (by rw [y_on (by omega)]; omega) (by rw [y_on (by omega)]; omega), z_gd_t, if_neg (by rw [y_i_eq, y_i0]; omega)]
        by_cases h8 : Int32.ofInt 1000 * I 78 i / o ≤ Int32.ofInt 10000000
        · rw [if_pos h8]
          rw [y_i_le, e5, y_oi (by omega) (by omega)] at h8
          exact fin _ (by rw [e5]; omega) (by omega) (by omega)
        · rw [if_neg h8]
          rw [y_i_le, e5, y_oi (by omega) (by omega)] at h8
          exact fin _ (by rw [y_oi (by omega) (by omega)]; omega) (by decide) (by decide)
