/-! RULES, 9: the class's token -/
theorem y_lt0 (x : Int32) : (z_p_Reader_isLetter x = 0) ↔ ¬ zltr x.toInt = true := by
  unfold z_p_Reader_isLetter zltr
  rw [y_wi0, decide_eq_true_iff]
  exact Iff.rfl
theorem y_dg0 (x : Int32) : (z_p_Reader_isDigit x = 0) ↔ ¬ zdgt x.toInt = true := by
  unfold z_p_Reader_isDigit zdgt
  rw [y_wi0, decide_eq_true_iff]
  exact Iff.rfl
theorem y_sg0 (x : Int32) : (z_p_Reader_isSign x = 0) ↔ ¬ zsgb x.toInt = true := by
  have e40 : (Int32.ofInt 40).toInt = 40 := rfl
  have e43 : (Int32.ofInt 43).toInt = 43 := rfl
  have e45 : (Int32.ofInt 45).toInt = 45 := rfl
  have e47 : (Int32.ofInt 47).toInt = 47 := rfl
  have e59 : (Int32.ofInt 59).toInt = 59 := rfl
  have e61 : (Int32.ofInt 61).toInt = 61 := rfl
  unfold z_p_Reader_isSign zsgb
  rw [decide_eq_true_iff]
  by_cases c1 : 40 ≤ x.toInt ∧ x.toInt ≤ 43
  · rw [if_neg (by rw [y_wi0]; omega)]
    exact ⟨fun h => absurd h (by decide), fun h => absurd (by omega) h⟩
  · rw [if_pos (by rw [y_wi0]; omega)]
    by_cases c2 : x.toInt = 45
    · rw [if_pos (y_i_eq.mpr (by omega))]
      exact ⟨fun h => absurd h (by decide), fun h => absurd (by omega) h⟩
    · rw [if_neg (fun e => c2 (by rw [e]; rfl))]
      by_cases c3 : x.toInt = 47
      · rw [if_pos (y_i_eq.mpr (by omega))]
        exact ⟨fun h => absurd h (by decide), fun h => absurd (by omega) h⟩
      · rw [if_neg (fun e => c3 (by rw [e]; rfl))]
        by_cases c4 : 59 ≤ x.toInt ∧ x.toInt ≤ 61
        · rw [if_neg (by rw [y_wi0]; omega)]
          exact ⟨fun h => absurd h (by decide), fun h => absurd (by omega) h⟩
        · rw [if_pos (by rw [y_wi0]; omega)]
          exact ⟨fun _ => by omega, fun _ => rfl⟩
/-- the class stands at a token -/
def zCT (tk : zTk) (I : Nat → Nat → Int32) : Prop := (I 7 5).toInt = tk.1 ∧ (I 7 6).toInt = tk.2.1 ∧ (I 7 7).toInt = tk.2.2.1 ∧ (tk.1 = 2 → (I 7 8).toInt = tk.2.2.2.1 ∧ (I 7 9).toInt = tk.2.2.2.2)
theorem zr_readDigits (X : ZX) (d n0 ce sl : Nat) (I : Nat → Nat → Int32) (L : Nat → Nat → Int64) (t u r q g : Nat) (st : Nat → Option Nat) {F : Nat → Int} (hF : ∀ i, (I 6 i).toInt = F i) {N a : Nat} (hN : (I 7 1).toInt = N) (hN4 : N ≤ 400) (ha : a ≤ N) (x1 : Int32) (h1 : x1.toInt = a) : ∃ (J : Nat → Nat → Int32) (y : Int32), (∀ x, x ≠ 7 → J x = I x) ∧ (∀ j, j ≠ 8 → j ≠ 9 → J 7 j = I 7 j) ∧ y.toInt = zsc zdgt F N a ∧ (J 7 8).toInt = znm F a (min 5 (zsc zdgt F N a - a)) ∧ (J 7 9).toInt = ((zsc zdgt F N a - a : Nat) : Int) ∧ z_pu (z_run X z_cf z_ff (d + 3)) 61 [.ref 7, .int x1] (118, n0, ce, sl, I, L, z_rr t u r q g st) = some (.inl (some (.int y)), (118, n0, ce, sl, J, L, z_rr t u r q g st)) := by
  have lp : ∀ (i c : Nat) (x2 : Int32) (K : Nat → Nat → Int32), a + c + i = N → x2.toInt = ((a + c : Nat) : Int) → (∀ x, x ≠ 7 → K x = I x) → (∀ j, j ≠ 8 → j ≠ 9 → K 7 j = I 7 j) → (K 7 8).toInt = znm F a (min 5 c) → (K 7 9).toInt = c → (∀ j, j < c → zdgt (F (a + j)) = true) → ∃ (J : Nat → Nat → Int32) (y : Int32), (∀ x, x ≠ 7 → J x = I x) ∧ (∀ j, j ≠ 8 → j ≠ 9 → J 7 j = I 7 j) ∧ y.toInt = zsc zdgt F N (a + c) ∧ (J 7 8).toInt = znm F a (min 5 (zsc zdgt F N (a + c) - a)) ∧ (J 7 9).toInt = ((zsc zdgt F N (a + c) - a : Nat) : Int) ∧ ∀ M, z_loop X z_cf z_ff (z_pu (z_run X z_cf z_ff (d + 2))) 61 (M + i + 1) 12 [(0, .ref 7), (2, .int x2)] [] (118, n0, ce, sl, K, L, z_rr t u r q g st) = some (.inl (some (.int y)), (118, n0, ce, sl, J, L, z_rr t u r q g st)) := by
    intro i
    induction i with
    | zero =>
      intro c x2 K a0 a1 a2 a3 a4 a5 a6
      have e : zsc zdgt F N (a + c) = a + c := zsc_no (by omega)
      rw [e, show a + c - a = c by omega]
      refine ⟨K, x2, a2, a3, a1, a4, a5, fun M => ?_⟩
      rw [show M + 0 + 1 = M + 1 by omega, zb_Reader_readDigits_12, if_pos (by rw [y_i_le, a3 1 (by omega) (by omega)]; omega)]
    | succ i ih =>
      intro c x2 K a0 a1 a2 a3 a4 a5 a6
      have nN : ¬ K 7 1 ≤ x2 := by rw [y_i_le, a3 1 (by omega) (by omega)]; omega
      have hin : z_in x2 400 = true := y_in_t (by omega) (by omega)
      have hxn : x2.toNatClampNeg = a + c := by rw [y_tn, a1]; rfl
      have k6 : K 6 (a + c) = I 6 (a + c) := by rw [a2 6 (by omega)]
      have kF : (K 6 (a + c)).toInt = F (a + c) := by rw [k6, hF]
      by_cases cd : zdgt (F (a + c)) = true
      · have nD : ¬ z_p_Reader_isDigit (K 6 (a + c)) = 0 := fun h => (y_dg0 _).mp h (by rw [kF]; exact cd)
        have hb : 48 ≤ F (a + c) ∧ F (a + c) ≤ 57 := by
          unfold zdgt at cd
          simpa using cd
        have e : zsc zdgt F N (a + c) = zsc zdgt F N (a + (c + 1)) := by rw [zsc_go (by omega) cd]; rfl
        have x2s : (x2 + Int32.ofInt 1).toInt = ((a + (c + 1) : Nat) : Int) := by rw [y_adl (by omega) (by omega) (by omega) (by omega)]; omega
        have d1 : (K 7 9 + Int32.ofInt 1).toInt = ((c + 1 : Nat) : Int) := by rw [y_adl (by omega) (by omega) (by omega) (by omega)]; omega
        have ds : ∀ j, j < c + 1 → zdgt (F (a + j)) = true := fun j hj => by
          by_cases q : j = c
          · rw [q]; exact cd
          · exact a6 j (by omega)
        rw [e]
        by_cases c5 : 5 ≤ c
        · obtain ⟨J, y, b1, b2, b3, b4, b5, b6⟩ := ih (c + 1) (x2 + Int32.ofInt 1) (z_up K 7 9 (K 7 9 + Int32.ofInt 1)) (by omega) x2s (fun x hx => by rw [z_up_r _ _ _ _ _ hx, a2 x hx]) (fun j j1 j2 => by rw [z_up_j _ _ _ _ _ j2, a3 j j1 j2]) (by rw [z_up_j _ _ _ _ _ (by omega), a4, show min 5 c = min 5 (c + 1) by omega]) (by rw [z_up_s, d1]) ds
          refine ⟨J, y, b1, b2, b3, b4, b5, fun M => ?_⟩
          rw [show M + (i + 1) + 1 = (M + i + 1) + 1 by omega, zb_Reader_readDigits_12, if_neg nN, hin, z_gd_t, hxn, if_neg nD, if_pos (by rw [y_i_le, a5]; show (5 : Int) ≤ _; omega), b6]
        · have hz := znm_r (F := F) (a := a) c (by omega) (fun j hj => a6 j hj)
          have hp : (10 : Int) ^ c ≤ 10 ^ 5 := by
            have : (10 : Nat) ^ c ≤ 10 ^ 5 := Nat.pow_le_pow_right (by omega) (by omega)
            exact_mod_cast this
          have e5 : (10 : Int) ^ 5 = 100000 := by decide
          rw [show min 5 c = c by omega] at a4
          have e10 : (Int32.ofInt 10).toInt = 10 := rfl
          have v1 : (K 7 8 * Int32.ofInt 10).toInt = znm F a c * 10 := by rw [y_mu (by rw [e10, a4]; omega) (by rw [e10, a4]; omega), e10, a4]
          have v2 : (K 7 8 * Int32.ofInt 10 + K 6 (a + c)).toInt = znm F a c * 10 + F (a + c) := by rw [y_ad (by omega) (by omega), v1, kF]
          have v3 : (K 7 8 * Int32.ofInt 10 + K 6 (a + c) - Int32.ofInt 48).toInt = znm F a (c + 1) := by rw [y_sbl (by omega) (by omega) (by omega) (by omega), v2]; rfl
          obtain ⟨J, y, b1, b2, b3, b4, b5, b6⟩ := ih (c + 1) (x2 + Int32.ofInt 1) (z_up (z_up K 7 8 (K 7 8 * Int32.ofInt 10 + K 6 (a + c) - Int32.ofInt 48)) 7 9 (K 7 9 + Int32.ofInt 1)) (by omega) x2s (fun x hx => by rw [z_up_r _ _ _ _ _ hx, z_up_r _ _ _ _ _ hx, a2 x hx]) (fun j j1 j2 => by rw [z_up_j _ _ _ _ _ j2, z_up_j _ _ _ _ _ j1, a3 j j1 j2]) (by rw [z_up_j _ _ _ _ _ (by omega), z_up_s, v3, show min 5 (c + 1) = c + 1 by omega]) (by rw [z_up_s, d1]) ds
          refine ⟨J, y, b1, b2, b3, b4, b5, fun M => ?_⟩
          rw [show M + (i + 1) + 1 = (M + i + 1) + 1 by omega, zb_Reader_readDigits_12, if_neg nN, hin, z_gd_t, hxn, if_neg nD, if_neg (by rw [y_i_le, a5]; show ¬ (5 : Int) ≤ _; omega), z_gd_t, b6]
      · have e : zsc zdgt F N (a + c) = a + c := zsc_no (fun h => cd h.2)
        rw [e, show a + c - a = c by omega]
        refine ⟨K, x2, a2, a3, a1, a4, a5, fun M => ?_⟩
        rw [zb_Reader_readDigits_12, if_neg nN, hin, z_gd_t, hxn, if_pos ((y_dg0 _).mpr (by rw [kF]; exact cd))]
  obtain ⟨J, y, b1, b2, b3, b4, b5, b6⟩ := lp (N - a) 0 x1 (z_up (z_up I 7 8 (Int32.ofInt 0)) 7 9 (Int32.ofInt 0)) (by omega) h1 (fun x hx => by rw [z_up_r _ _ _ _ _ hx, z_up_r _ _ _ _ _ hx]) (fun j j1 j2 => by rw [z_up_j _ _ _ _ _ j2, z_up_j _ _ _ _ _ j1]) (by rw [z_up_j _ _ _ _ _ (by omega), z_up_s]; rfl) (by rw [z_up_s]; rfl) (fun j hj => by omega)
  refine ⟨J, y, b1, b2, b3, b4, b5, ?_⟩
  refine z_en X d _ _ [(0, .ref 7), (1, .int x1)] _ _ rfl rfl rfl ?_
  rw [show (100000000 : Nat) = (99999998 - (N - a) + (N - a) + 1) + 1 by omega, zb_Reader_readDigits_0, b6]
theorem zr_readToken (X : ZX) (d n0 ce sl : Nat) (I : Nat → Nat → Int32) (L : Nat → Nat → Int64) (t u r q g : Nat) (st : Nat → Option Nat) {F : Nat → Int} (hF : ∀ i, (I 6 i).toInt = F i) {N e : Nat} (hN : (I 7 1).toInt = N) (hN4 : N ≤ 400) (he : e ≤ N) (h7 : (I 7 7).toInt = e) : ∃ J : Nat → Nat → Int32, (∀ x, x ≠ 7 → J x = I x) ∧ (∀ j, (j < 5 ∨ 9 < j) → J 7 j = I 7 j) ∧ zCT (zlx F N e) J ∧ z_pu (z_run X z_cf z_ff (d + 6)) 56 [.ref 7] (118, n0, ce, sl, I, L, z_rr t u r q g st) = some (.inl none, (118, n0, ce, sl, J, L, z_rr t u r q g st)) := by
  -- letters
  have lw : ∀ (i c a : Nat) (x1 : Int32) (K : Nat → Nat → Int32), c + i = N → a ≤ c → x1.toInt = c → (∀ x, x ≠ 7 → K x = I x) → (K 7 1).toInt = N → (K 7 6).toInt = a → ∃ (J : Nat → Nat → Int32), (∀ x, x ≠ 7 → J x = I x) ∧ (∀ j, j ≠ 5 → j ≠ 7 → J 7 j = K 7 j) ∧ (J 7 5).toInt = zwd (zls F a (zsc zltr F N c - a)) ∧ (J 7 7).toInt = zsc zltr F N c ∧ ∀ M, z_loop X z_cf z_ff (z_pu (z_run X z_cf z_ff (d + 5))) 56 (M + i + 2) 74 [(0, .ref 7), (1, .int x1)] [] (118, n0, ce, sl, K, L, z_rr t u r q g st) = some (.inl none, (118, n0, ce, sl, J, L, z_rr t u r q g st)) := by
    intro i
    induction i with
    | zero =>
      intro c a x1 K b0 b1 b2 b3 b4 b5
      have e : zsc zltr F N c = c := zsc_no (by omega)
      rw [e]
      obtain ⟨y, y1, y2⟩ := zr_wordFrom X d n0 ce sl K L t u r q g st (F := F) (fun i => by rw [b3 6 (by omega)]; exact hF i) (a := a) (n := c - a) (by omega) (K 7 6) x1 b5 (by omega)
      refine ⟨z_up (z_up K 7 5 y) 7 7 x1, fun x hx => by rw [z_up_r _ _ _ _ _ hx, z_up_r _ _ _ _ _ hx, b3 x hx], fun j j1 j2 => by rw [z_up_j _ _ _ _ _ j2, z_up_j _ _ _ _ _ j1], by rw [z_up_j _ _ _ _ _ (by omega), z_up_s, y1], by rw [z_up_s, b2], fun M => ?_⟩
      rw [show M + 0 + 2 = (M + 1) + 1 by omega, zb_Reader_readToken_74, if_pos (by rw [y_i_le]; omega), y2, z_bi_v, zb_Reader_readToken_110]
    | succ i ih =>
      intro c a x1 K b0 b1 b2 b3 b4 b5
      have nN : ¬ K 7 1 ≤ x1 := by rw [y_i_le]; omega
      have hin : z_in x1 400 = true := y_in_t (by omega) (by omega)
      have hxn : x1.toNatClampNeg = c := by rw [y_tn, b2]; rfl
      have kF : (K 6 c).toInt = F c := by rw [b3 6 (by omega), hF]
      by_cases cd : zltr (F c) = true
      · rw [zsc_go (by omega) cd]
        obtain ⟨J, c1, c2, c3, c4, c5⟩ := ih (c + 1) a (x1 + Int32.ofInt 1) K (by omega) (by omega) (by rw [y_adl (by omega) (by omega) (by omega) (by omega)]; omega) b3 b4 b5
        refine ⟨J, c1, c2, c3, c4, fun M => ?_⟩
        rw [show M + (i + 1) + 2 = (M + i + 2) + 1 by omega, zb_Reader_readToken_74, if_neg nN, hin, z_gd_t, hxn, if_neg (fun h => (y_lt0 _).mp h (by rw [kF]; exact cd)), c5]
      · have e : zsc zltr F N c = c := zsc_no (fun h => cd h.2)
        rw [e]
        obtain ⟨y, y1, y2⟩ := zr_wordFrom X d n0 ce sl K L t u r q g st (F := F) (fun i => by rw [b3 6 (by omega)]; exact hF i) (a := a) (n := c - a) (by omega) (K 7 6) x1 b5 (by omega)
        refine ⟨z_up (z_up K 7 5 y) 7 7 x1, fun x hx => by rw [z_up_r _ _ _ _ _ hx, z_up_r _ _ _ _ _ hx, b3 x hx], fun j j1 j2 => by rw [z_up_j _ _ _ _ _ j2, z_up_j _ _ _ _ _ j1], by rw [z_up_j _ _ _ _ _ (by omega), z_up_s, y1], by rw [z_up_s, b2], fun M => ?_⟩
        rw [show M + (i + 1) + 2 = (M + i + 1 + 1) + 1 by omega, zb_Reader_readToken_74, if_neg nN, hin, z_gd_t, hxn, if_pos ((y_lt0 _).mpr (by rw [kF]; exact cd)), y2, z_bi_v, zb_Reader_readToken_110]
  have lp : ∀ (i c : Nat) (x1 : Int32), c + i = N → x1.toInt = c → ∃ J : Nat → Nat → Int32, (∀ x, x ≠ 7 → J x = I x) ∧ (∀ j, (j < 5 ∨ 9 < j) → J 7 j = I 7 j) ∧ zCT (ztk F N (zsc zbln F N c)) J ∧ ∀ M, z_loop X z_cf z_ff (z_pu (z_run X z_cf z_ff (d + 5))) 56 (M + 2 * N + i + 10) 5 [(0, .ref 7), (1, .int x1)] [] (118, n0, ce, sl, I, L, z_rr t u r q g st) = some (.inl none, (118, n0, ce, sl, J, L, z_rr t u r q g st)) := by
    intro i
    induction i with
    | zero =>
      intro c x1 b0 b1
      have e : zsc zbln F N c = c := zsc_no (by omega)
      have ek : ztk F N c = (0, c, c, 0, 0) := by
        unfold ztk
        rw [if_neg (by omega)]
      rw [e, ek]
      refine ⟨z_up (z_up (z_up I 7 6 x1) 7 5 (Int32.ofInt 0)) 7 7 x1, fun x hx => by rw [z_up_r _ _ _ _ _ hx, z_up_r _ _ _ _ _ hx, z_up_r _ _ _ _ _ hx], fun j hj => by rw [z_up_j _ _ _ _ _ (by omega), z_up_j _ _ _ _ _ (by omega), z_up_j _ _ _ _ _ (by omega)], ⟨?_, ?_, ?_, fun h => absurd (show (0 : Int) = 2 from h) (by decide)⟩, fun M => ?_⟩
      · rw [z_up_j _ _ _ _ _ (by omega), z_up_s]
        rfl
      · rw [z_up_j _ _ _ _ _ (by omega), z_up_j _ _ _ _ _ (by omega), z_up_s]
        exact b1
      · rw [z_up_s]
        exact b1
      · rw [show M + 2 * N + 0 + 10 = (M + 2 * N + 9) + 1 by omega, zb_Reader_readToken_5, if_pos (by rw [y_i_le]; omega), if_neg (by rw [y_i_lt]; omega)]
    | succ i ih =>
      intro c x1 b0 b1
      have nN : ¬ I 7 1 ≤ x1 := by rw [y_i_le]; omega
      have lN : x1 < I 7 1 := by rw [y_i_lt]; omega
      have hin : z_in x1 400 = true := y_in_t (by omega) (by omega)
      have hxn : x1.toNatClampNeg = c := by rw [y_tn, b1]; rfl
      have kF : (I 6 c).toInt = F c := hF c
      have e32 : (Int32.ofInt 32).toInt = 32 := rfl
      have e10 : (Int32.ofInt 10).toInt = 10 := rfl
      by_cases cb : zbln (F c) = true
      · rw [zsc_go (by omega) cb]
        obtain ⟨J, c1, c2, c3, c4⟩ := ih (c + 1) (x1 + Int32.ofInt 1) (by omega) (by rw [y_adl (by omega) (by omega) (by omega) (by omega)]; omega)
        refine ⟨J, c1, c2, c3, fun M => ?_⟩
        have hb : F c = 32 ∨ F c = 10 := by
          unfold zbln at cb
          simpa using cb
        rw [show M + 2 * N + (i + 1) + 10 = (M + 2 * N + i + 10) + 1 by omega, zb_Reader_readToken_5, if_neg nN, hin, z_gd_t, hxn]
        by_cases c32 : F c = 32
        · rw [if_pos (y_i_eq.mpr (by omega)), c4]
        · rw [if_neg (fun h => c32 (by rw [← kF, h]; rfl)), z_gd_t, if_pos (y_i_eq.mpr (by omega)), c4]
      · have hb : F c ≠ 32 ∧ F c ≠ 10 := by
          unfold zbln at cb
          have : ¬ (F c = 32 ∨ F c = 10) := by simpa using cb
          omega
        have e : zsc zbln F N c = c := zsc_no (fun h => cb h.2)
        have hc : c < N := by omega
        have n32 : ¬ I 6 c = Int32.ofInt 32 := fun h => hb.1 (by rw [← kF, h]; rfl)
        have n10 : ¬ I 6 c = Int32.ofInt 10 := fun h => hb.2 (by rw [← kF, h]; rfl)
        rw [e]
        by_cases c1 : zltr (F c) = true
        · have ek : ztk F N c = (zwd (zls F c (zsc zltr F N c - c)), c, zsc zltr F N c, 0, 0) := by
            unfold ztk
            rw [if_pos hc, if_pos c1]
          rw [ek]
          obtain ⟨J, d1, d2, d3, d4, d5⟩ := lw (N - c) c c x1 (z_up I 7 6 x1) (by omega) (Nat.le_refl _) b1 (fun x hx => z_up_r _ _ _ _ _ hx) (by rw [z_up_j _ _ _ _ _ (by omega)]; exact hN) (by rw [z_up_s]; exact b1)
          have wr := zwd_r (zls F c (zsc zltr F N c - c))
          refine ⟨J, d1, fun j hj => by rw [d2 j (by omega) (by omega), z_up_j _ _ _ _ _ (by omega)], ⟨d3, by rw [d2 6 (by omega) (by omega), z_up_s]; exact b1, d4, fun h => ?_⟩, fun M => ?_⟩
          · have h' : zwd (zls F c (zsc zltr F N c - c)) = 2 := h
            omega
          · rw [show M + 2 * N + (i + 1) + 10 = (M + 2 * N + i + 8 - (N - c) + (N - c) + 2) + 1 by omega, zb_Reader_readToken_5, if_neg nN, hin, z_gd_t, hxn, if_neg n32, z_gd_t, if_neg n10, if_pos lN, z_gd_t, if_neg (fun h => (y_lt0 _).mp h (by rw [kF]; exact c1)), d5]
        · by_cases c2 : zdgt (F c) = true
          · have ek : ztk F N c = (2, c, zsc zdgt F N c, znm F c (min 5 (zsc zdgt F N c - c)), zsc zdgt F N c - c) := by
              unfold ztk
              rw [if_pos hc, if_neg c1, if_pos c2]
            rw [ek]
            obtain ⟨J, y, d1, d2, d3, d4, d5, d6⟩ := zr_readDigits X (d + 2) n0 ce sl (z_up I 7 6 x1) L t u r q g st (F := F) (fun i => by rw [z_up_r _ _ _ _ _ (by omega)]; exact hF i) (N := N) (a := c) (by rw [z_up_j _ _ _ _ _ (by omega)]; exact hN) hN4 (by omega) x1 b1
            refine ⟨z_up (z_up J 7 5 (Int32.ofInt 2)) 7 7 y, fun x hx => by rw [z_up_r _ _ _ _ _ hx, z_up_r _ _ _ _ _ hx, d1 x hx, z_up_r _ _ _ _ _ hx], fun j hj => by rw [z_up_j _ _ _ _ _ (by omega), z_up_j _ _ _ _ _ (by omega), d2 j (by omega) (by omega), z_up_j _ _ _ _ _ (by omega)], ⟨?_, ?_, ?_, fun _ => ⟨?_, ?_⟩⟩, fun M => ?_⟩
            · rw [z_up_j _ _ _ _ _ (by omega), z_up_s]
              rfl
            · rw [z_up_j _ _ _ _ _ (by omega), z_up_j _ _ _ _ _ (by omega), d2 6 (by omega) (by omega), z_up_s]
              exact b1
            · rw [z_up_s]
              exact d3
            · rw [z_up_j _ _ _ _ _ (by omega), z_up_j _ _ _ _ _ (by omega)]
              exact d4
            · rw [z_up_j _ _ _ _ _ (by omega), z_up_j _ _ _ _ _ (by omega)]
              exact d5
            · rw [show M + 2 * N + (i + 1) + 10 = (M + 2 * N + i + 9) + 1 + 1 by omega, zb_Reader_readToken_5, if_neg nN, hin, z_gd_t, hxn, if_neg n32, z_gd_t, if_neg n10, if_pos lN, z_gd_t, if_pos ((y_lt0 _).mpr (by rw [kF]; exact c1)), z_gd_t, if_neg (fun h => (y_dg0 _).mp h (by rw [kF]; exact c2)), d6, z_bi_v, zb_Reader_readToken_133]
          · have x1s : (x1 + Int32.ofInt 1).toInt = ((c + 1 : Nat) : Int) := by rw [y_adl (by omega) (by omega) (by omega) (by omega)]; omega
            by_cases c3 : zsgb (F c) = true
            · have ek : ztk F N c = (F c, c, c + 1, 0, 0) := by
                unfold ztk
                rw [if_pos hc, if_neg c1, if_neg c2, if_pos c3]
              rw [ek]
              have hs := zsgb_is.mp c3
              refine ⟨z_up (z_up (z_up I 7 6 x1) 7 5 (I 6 c)) 7 7 (x1 + Int32.ofInt 1), fun x hx => by rw [z_up_r _ _ _ _ _ hx, z_up_r _ _ _ _ _ hx, z_up_r _ _ _ _ _ hx], fun j hj => by rw [z_up_j _ _ _ _ _ (by omega), z_up_j _ _ _ _ _ (by omega), z_up_j _ _ _ _ _ (by omega)], ⟨?_, ?_, ?_, fun h => ?_⟩, fun M => ?_⟩
              · rw [z_up_j _ _ _ _ _ (by omega), z_up_s]
                exact kF
              · rw [z_up_j _ _ _ _ _ (by omega), z_up_j _ _ _ _ _ (by omega), z_up_s]
                exact b1
              · rw [z_up_s]
                exact x1s
              · have h' : F c = 2 := h
                unfold zsgn at hs
                omega
              · have e6 : (z_up I 7 6 x1) 6 c = I 6 c := rfl
                rw [show M + 2 * N + (i + 1) + 10 = (M + 2 * N + i + 10) + 1 by omega, zb_Reader_readToken_5, if_neg nN, hin, z_gd_t, hxn, if_neg n32, z_gd_t, if_neg n10, if_pos lN, z_gd_t, if_pos ((y_lt0 _).mpr (by rw [kF]; exact c1)), z_gd_t, if_pos ((y_dg0 _).mpr (by rw [kF]; exact c2)), z_gd_t, if_neg (fun h => (y_sg0 _).mp h (by rw [kF]; exact c3)), z_gd_t]
            · have ek : ztk F N c = (1, c, c + 1, 0, 0) := by
                unfold ztk
                rw [if_pos hc, if_neg c1, if_neg c2, if_neg c3]
              rw [ek]
              refine ⟨z_up (z_up (z_up I 7 6 x1) 7 5 (Int32.ofInt 1)) 7 7 (x1 + Int32.ofInt 1), fun x hx => by rw [z_up_r _ _ _ _ _ hx, z_up_r _ _ _ _ _ hx, z_up_r _ _ _ _ _ hx], fun j hj => by rw [z_up_j _ _ _ _ _ (by omega), z_up_j _ _ _ _ _ (by omega), z_up_j _ _ _ _ _ (by omega)], ⟨?_, ?_, ?_, fun h => absurd (show (1 : Int) = 2 from h) (by decide)⟩, fun M => ?_⟩
              · rw [z_up_j _ _ _ _ _ (by omega), z_up_s]
                rfl
              · rw [z_up_j _ _ _ _ _ (by omega), z_up_j _ _ _ _ _ (by omega), z_up_s]
                exact b1
              · rw [z_up_s]
                exact x1s
              · rw [show M + 2 * N + (i + 1) + 10 = (M + 2 * N + i + 10) + 1 by omega, zb_Reader_readToken_5, if_neg nN, hin, z_gd_t, hxn, if_neg n32, z_gd_t, if_neg n10, if_pos lN, z_gd_t, if_pos ((y_lt0 _).mpr (by rw [kF]; exact c1)), z_gd_t, if_pos ((y_dg0 _).mpr (by rw [kF]; exact c2)), z_gd_t, if_pos ((y_sg0 _).mpr (by rw [kF]; exact c3))]
  obtain ⟨J, c1, c2, c3, c4⟩ := lp (N - e) e (I 7 7) (by omega) h7
  refine ⟨J, c1, c2, c3, ?_⟩
  refine z_en X (d + 3) _ _ [(0, .ref 7)] _ _ rfl rfl rfl ?_
  rw [show (100000000 : Nat) = (99999989 - 2 * N - (N - e) + 2 * N + (N - e) + 10) + 1 by omega, zb_Reader_readToken_0, c4]
