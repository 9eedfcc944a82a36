/-! RULES, 8: the class's words -/
theorem zls_len (F : Nat → Int) (a : Nat) : ∀ n, (zls F a n).length = n := by
  intro n
  induction n with
  | zero => rfl
  | succ n ih =>
    show (zls F a n ++ [F (a + n)]).length = n + 1
    rw [List.length_append, ih]
    rfl
theorem zls_get (F : Nat → Int) (a : Nat) : ∀ n j, j < n → (zls F a n).getD j 0 = F (a + j) := by
  intro n
  induction n with
  | zero => intro j h; omega
  | succ n ih =>
    intro j h
    show (zls F a n ++ [F (a + n)]).getD j 0 = F (a + j)
    rw [List.getD_eq_getElem?_getD]
    by_cases c : j < n
    · rw [List.getElem?_append_left (by rw [zls_len]; exact c), ← List.getD_eq_getElem?_getD]
      exact ih j c
    · have e : j = n := by omega
      subst e
      rw [List.getElem?_append_right (by rw [zls_len]; exact Nat.le_refl _), zls_len, Nat.sub_self]
      rfl
theorem zls_eq {F : Nat → Int} {a n : Nat} {ws : List Int} (h : ws.length = n) : (∀ j, j < n → ws.getD j 0 = F (a + j)) ↔ ws = zls F a n := by
  constructor
  · intro g
    refine List.ext_getElem (by rw [zls_len, h]) (fun j h1 h2 => ?_)
    have e1 := g j (by omega)
    have e2 := zls_get F a n j (by omega)
    rw [List.getD_eq_getElem?_getD, List.getElem?_eq_getElem h1] at e1
    rw [List.getD_eq_getElem?_getD, List.getElem?_eq_getElem h2] at e2
    have e1' : ws[j] = F (a + j) := e1
    have e2' : (zls F a n)[j] = F (a + j) := e2
    rw [e1', e2']
  · intro g j hj
    rw [g]
    exact zls_get F a n j hj
def zwbg (k : Nat) : Nat := [0, 4, 7, 11, 17, 23, 27, 32, 37, 42, 47, 51, 55, 58, 65, 71, 76, 82, 87, 92].getD k 92
def zww (k : Nat) : List Int := zwtab.getD k []
theorem zww_c : ∀ k, k < 19 → zwbg (k + 1) = zwbg k + (zww k).length + 1 ∧ zwbg (k + 1) ≤ 92 ∧ (∀ j, j < (zww k).length → (z_ch (zwbg k + j)).toInt = (zww k).getD j 0 ∧ ¬ z_ch (zwbg k + j) = Int32.ofInt 32) ∧ z_ch (zwbg k + (zww k).length) = Int32.ofInt 32 := by decide +kernel
theorem zww_d : ∀ k, k < 19 → zwtab.drop k = zww k :: zwtab.drop (k + 1) := by decide +kernel
theorem zr_isWordAt (X : ZX) (d n0 ce sl : Nat) (I : Nat → Nat → Int32) (L : Nat → Nat → Int64) (t u r q g : Nat) (st : Nat → Option Nat) {F : Nat → Int} (hF : ∀ i, (I 6 i).toInt = F i) {b a n : Nat} (hb : b + n ≤ 92) (ha : a + n ≤ 400) (x1 x2 x3 : Int32) (h1 : x1.toInt = b) (h2 : x2.toInt = a) (h3 : x3.toInt = ((a + n : Nat) : Int)) : ∃ y : Int32, zfl y (∀ j, j < n → (z_ch (b + j)).toInt = F (a + j)) ∧ z_pu (z_run X z_cf z_ff (d + 4)) 59 [.ref 7, .int x1, .int x2, .int x3] (118, n0, ce, sl, I, L, z_rr t u r q g st) = some (.inl (some (.int y)), (118, n0, ce, sl, I, L, z_rr t u r q g st)) := by
  have lp : ∀ i j (x4 : Int32), j + i = n → x4.toInt = ((a + j : Nat) : Int) → (∀ j', j' < j → (z_ch (b + j')).toInt = F (a + j')) → ∃ y : Int32, zfl y (∀ j, j < n → (z_ch (b + j)).toInt = F (a + j)) ∧ ∀ M, z_loop X z_cf z_ff (z_pu (z_run X z_cf z_ff (d + 3))) 59 (M + 2 * i + 1) 3 [(0, .ref 7), (1, .int x1), (2, .int x2), (3, .int x3), (4, .int x4)] [] (118, n0, ce, sl, I, L, z_rr t u r q g st) = some (.inl (some (.int y)), (118, n0, ce, sl, I, L, z_rr t u r q g st)) := by
    intro i
    induction i with
    | zero =>
      intro j x4 e1 e2 e3
      refine ⟨Int32.ofInt 1, Or.inl ⟨rfl, fun j' hj => e3 j' (by omega)⟩, fun M => ?_⟩
      rw [show M + 2 * 0 + 1 = M + 1 by omega, zb_Reader_isWordAt_3, if_pos (by rw [y_i_le]; omega), z_b1_1, z_gd_t]
    | succ i ih =>
      intro j x4 e1 e2 e3
      have n3 : ¬ x3 ≤ x4 := by rw [y_i_le]; omega
      have ei : (x1 + x4 - x2).toInt = ((b + j : Nat) : Int) := by
        have : (x1 + x4).toInt = b + (a + j) := by rw [y_ad (by omega) (by omega)]; omega
        rw [y_sb (by omega) (by omega)]
        omega
      have ein : (x1 + x4 - x2).toNatClampNeg = b + j := by rw [y_tn, ei]; rfl
      have hch : z_pu (z_run X z_cf z_ff (d + 3)) 901 [.ref 1002, .int (x1 + x4 - x2)] (118, n0, ce, sl, I, L, z_rr t u r q g st) = some (.inl (some (.int (z_ch (b + j)))), (118, n0, ce, sl, I, L, z_rr t u r q g st)) := by
        have hz : z_in (x1 + x4 - x2) z_txl = true := y_in_t (by omega) (by have : z_txl = 92 := rfl; omega)
        show z_gd (Nat.beq 901 901 && Nat.beq 1002 1002 && z_in (x1 + x4 - x2) z_txl) (some (.inl (some (.int (z_ch (x1 + x4 - x2).toNatClampNeg))), (118, n0, ce, sl, I, L, z_rr t u r q g st))) = _
        rw [hz, ein]
        rfl
      have h4n : x4.toNatClampNeg = a + j := by rw [y_tn, e2]; rfl
      have h4i : z_in x4 400 = true := y_in_t (by omega) (by omega)
      by_cases c : (z_ch (b + j)).toInt = F (a + j)
      · obtain ⟨y, y1, y2⟩ := ih (j + 1) (x4 + Int32.ofInt 1) (by omega) (by rw [y_adl (by omega) (by omega) (by omega) (by omega)]; omega) (fun j' hj => by
          by_cases e : j' = j
          · rw [e]; exact c
          · exact e3 j' (by omega))
        refine ⟨y, y1, fun M => ?_⟩
        rw [show M + 2 * (i + 1) + 1 = (M + 2 * i + 1) + 1 + 1 by omega, zb_Reader_isWordAt_3, if_neg n3, hch, z_bi_v, zb_Reader_isWordAt_20, h4i, z_gd_t, h4n, if_pos (y_i_eq.mpr (by rw [hF]; exact c)), y2]
      · refine ⟨Int32.ofInt 0, Or.inr ⟨rfl, fun h => c (h j (by omega))⟩, fun M => ?_⟩
        rw [show M + 2 * (i + 1) + 1 = (M + 2 * i + 1) + 1 + 1 by omega, zb_Reader_isWordAt_3, if_neg n3, hch, z_bi_v, zb_Reader_isWordAt_20, h4i, z_gd_t, h4n, if_neg (fun e => c (by rw [e, hF])), z_b1_0, z_gd_t]
  obtain ⟨y, y1, y2⟩ := lp n 0 x2 (by omega) (by omega) (fun j hj => by omega)
  refine ⟨y, y1, ?_⟩
  refine z_en X (d + 1) _ _ [(0, .ref 7), (1, .int x1), (2, .int x2), (3, .int x3)] _ _ rfl rfl rfl ?_
  rw [show (100000000 : Nat) = (99999998 - 2 * n + 2 * n + 1) + 1 by omega, zb_Reader_isWordAt_0, y2]
theorem zr_wordFrom (X : ZX) (d n0 ce sl : Nat) (I : Nat → Nat → Int32) (L : Nat → Nat → Int64) (t u r q g : Nat) (st : Nat → Option Nat) {F : Nat → Int} (hF : ∀ i, (I 6 i).toInt = F i) {a n : Nat} (ha : a + n ≤ 400) (x1 x2 : Int32) (h1 : x1.toInt = a) (h2 : x2.toInt = ((a + n : Nat) : Int)) : ∃ y : Int32, y.toInt = zwd (zls F a n) ∧ z_pu (z_run X z_cf z_ff (d + 5)) 58 [.ref 7, .int x1, .int x2] (118, n0, ce, sl, I, L, z_rr t u r q g st) = some (.inl (some (.int y)), (118, n0, ce, sl, I, L, z_rr t u r q g st)) := by
  have hlen : z_txl = 92 := rfl
  have h900 : z_pu (z_run X z_cf z_ff (d + 4)) 900 [.ref 1002] (118, n0, ce, sl, I, L, z_rr t u r q g st) = some (.inl (some (.int (Int32.ofNat 92))), (118, n0, ce, sl, I, L, z_rr t u r q g st)) := rfl
  have e92 : (Int32.ofNat 92).toInt = 92 := rfl
  have hch : ∀ (x5 : Int32) (i : Nat), x5.toInt = i → i < 92 → z_pu (z_run X z_cf z_ff (d + 4)) 901 [.ref 1002, .int x5] (118, n0, ce, sl, I, L, z_rr t u r q g st) = some (.inl (some (.int (z_ch i))), (118, n0, ce, sl, I, L, z_rr t u r q g st)) := by
    intro x5 i q1 q2
    have hz : z_in x5 z_txl = true := y_in_t (by omega) (by omega)
    have hn : x5.toNatClampNeg = i := by rw [y_tn, q1]; rfl
    show z_gd (Nat.beq 901 901 && Nat.beq 1002 1002 && z_in x5 z_txl) (some (.inl (some (.int (z_ch x5.toNatClampNeg))), (118, n0, ce, sl, I, L, z_rr t u r q g st))) = _
    rw [hz, hn]
    rfl
  have lp : ∀ (i k : Nat) (x3 x4 x5 : Int32), k + i = 19 → x3.toInt = 100 + k → x4.toInt = zwbg k → x5.toInt = zwbg k → ∃ y : Int32, y.toInt = zwfd (zwtab.drop k) (zls F a n) (100 + k) ∧ ∀ M, z_loop X z_cf z_ff (z_pu (z_run X z_cf z_ff (d + 4))) 58 (M + 300 * i + 3) 9 [(0, .ref 7), (1, .int x1), (2, .int x2), (3, .int x3), (4, .int x4), (5, .int x5)] [] (118, n0, ce, sl, I, L, z_rr t u r q g st) = some (.inl (some (.int y)), (118, n0, ce, sl, I, L, z_rr t u r q g st)) := by
    intro i
    induction i with
    | zero =>
      intro k x3 x4 x5 e0 e1 e2 e3
      have ek : k = 19 := by omega
      subst ek
      have e3' : x5.toInt = 92 := e3
      refine ⟨Int32.ofInt 119, rfl, fun M => ?_⟩
      rw [show M + 300 * 0 + 3 = (M + 1) + 1 + 1 by omega, zb_Reader_wordFrom_9, h900, z_bi_v, zb_Reader_wordFrom_16, if_pos (by rw [y_i_le]; omega)]
    | succ i ih =>
      intro k x3 x4 x5 e0 e1 e2 e3
      obtain ⟨w1, w2, w3, w4⟩ := zww_c k (by omega)
      have hd := zww_d k (by omega)
      have wl : (zww k).length ≤ 91 := by omega
      -- to the blank
      have wk : ∀ c j (x5 : Int32), j + c = (zww k).length → x5.toInt = ((zwbg k + j : Nat) : Int) → ∃ x5' : Int32, x5'.toInt = ((zwbg k + (zww k).length : Nat) : Int) ∧ ∀ M, z_loop X z_cf z_ff (z_pu (z_run X z_cf z_ff (d + 4))) 58 (M + 3 * c) 9 [(0, .ref 7), (1, .int x1), (2, .int x2), (3, .int x3), (4, .int x4), (5, .int x5)] [] (118, n0, ce, sl, I, L, z_rr t u r q g st) = z_loop X z_cf z_ff (z_pu (z_run X z_cf z_ff (d + 4))) 58 M 9 [(0, .ref 7), (1, .int x1), (2, .int x2), (3, .int x3), (4, .int x4), (5, .int x5')] [] (118, n0, ce, sl, I, L, z_rr t u r q g st) := by
        intro c
        induction c with
        | zero =>
          intro j x5 f1 f2
          exact ⟨x5, by rw [f2]; omega, fun M => rfl⟩
        | succ c ihc =>
          intro j x5 f1 f2
          obtain ⟨x5', g1, g2⟩ := ihc (j + 1) (x5 + Int32.ofInt 1) (by omega) (by rw [y_adl (by omega) (by omega) (by omega) (by omega)]; omega)
          refine ⟨x5', g1, fun M => ?_⟩
          rw [show M + 3 * (c + 1) = (M + 3 * c) + 1 + 1 + 1 by omega, zb_Reader_wordFrom_9, h900, z_bi_v, zb_Reader_wordFrom_16, if_neg (by rw [y_i_le]; omega), hch x5 _ f2 (by omega), z_bi_v, zb_Reader_wordFrom_26, if_neg (w3 j (by omega)).2, g2]
      obtain ⟨x5', g1, g2⟩ := wk (zww k).length 0 x5 (by omega) (by rw [e3]; rfl)
      have at32 : ∀ M, z_loop X z_cf z_ff (z_pu (z_run X z_cf z_ff (d + 4))) 58 (M + 3 + 3 * (zww k).length) 9 [(0, .ref 7), (1, .int x1), (2, .int x2), (3, .int x3), (4, .int x4), (5, .int x5)] [] (118, n0, ce, sl, I, L, z_rr t u r q g st) = z_loop X z_cf z_ff (z_pu (z_run X z_cf z_ff (d + 4))) 58 (M + 1) 26 [(0, .ref 7), (1, .int x1), (2, .int x2), (3, .int x3), (4, .int x4), (5, .int x5')] [.int (z_ch (zwbg k + (zww k).length))] (118, n0, ce, sl, I, L, z_rr t u r q g st) := by
        intro M
        rw [g2, show M + 3 = (M + 1) + 1 + 1 by omega, zb_Reader_wordFrom_9, h900, z_bi_v, zb_Reader_wordFrom_16, if_neg (by rw [y_i_le]; omega), hch x5' _ g1 (by omega), z_bi_v]
      have s5 : (x5' + Int32.ofInt 1).toInt = zwbg (k + 1) := by rw [y_adl (by omega) (by omega) (by omega) (by omega)]; omega
      have s3 : (x3 + Int32.ofInt 1).toInt = 100 + ((k + 1 : Nat) : Int) := by rw [y_adl (by omega) (by omega) (by omega) (by omega)]; omega
      obtain ⟨y, y1, y2⟩ := ih (k + 1) (x3 + Int32.ofInt 1) (x5' + Int32.ofInt 1) (x5' + Int32.ofInt 1) (by omega) s3 s5 s5
      have hw : zwfd (zwtab.drop k) (zls F a n) (100 + k) = if zww k = zls F a n then 100 + (k : Int) else zwfd (zwtab.drop (k + 1)) (zls F a n) (100 + ((k + 1 : Nat) : Int)) := by
        rw [hd, show (100 : Int) + ((k + 1 : Nat) : Int) = 100 + (k : Int) + 1 by omega]
        rfl
      have d1 : (x5' - x4).toInt = (zww k).length := by rw [y_sb (by omega) (by omega)]; omega
      have d2 : (x2 - x1).toInt = n := by rw [y_sb (by omega) (by omega)]; omega
      by_cases cl : (zww k).length = n
      · obtain ⟨v, v1, v2⟩ := zr_isWordAt X d n0 ce sl I L t u r q g st hF (b := zwbg k) (a := a) (n := n) (by omega) ha x4 x1 x2 e2 h1 h2
        have heq : (∀ j, j < n → (z_ch (zwbg k + j)).toInt = F (a + j)) ↔ zww k = zls F a n := by
          rw [← zls_eq cl]
          exact ⟨fun h j hj => by rw [← (w3 j (by omega)).1]; exact h j hj, fun h j hj => by rw [(w3 j (by omega)).1]; exact h j hj⟩
        rcases v1 with ⟨v1, v3⟩ | ⟨v1, v3⟩
        · refine ⟨x3, by rw [hw, if_pos (heq.mp v3), e1], fun M => ?_⟩
          rw [show M + 300 * (i + 1) + 3 = (M + 300 * i + 300 - 3 * (zww k).length) + 3 + 3 * (zww k).length by omega, at32, zb_Reader_wordFrom_26, if_pos w4, if_pos (by rw [y_i_eq]; omega), v2, z_bi_v, v1, show M + 300 * i + 300 - 3 * (zww k).length = (M + 300 * i + 299 - 3 * (zww k).length) + 1 by omega, zb_Reader_wordFrom_50, if_neg (by decide)]
        · refine ⟨y, by rw [hw, if_neg (fun h => v3 (heq.mpr h)), y1], fun M => ?_⟩
          rw [show M + 300 * (i + 1) + 3 = (M + 300 * i + 300 - 3 * (zww k).length) + 3 + 3 * (zww k).length by omega, at32, zb_Reader_wordFrom_26, if_pos w4, if_pos (by rw [y_i_eq]; omega), v2, z_bi_v, v1, show M + 300 * i + 300 - 3 * (zww k).length = (M + 296 - 3 * (zww k).length + 300 * i + 3) + 1 by omega, zb_Reader_wordFrom_50, if_pos (show (Int32.ofInt 0 : Int32) = 0 from rfl), y2]
      · refine ⟨y, by rw [hw, if_neg (fun h => cl (by rw [h, zls_len])), y1], fun M => ?_⟩
        rw [show M + 300 * (i + 1) + 3 = (M + 297 - 3 * (zww k).length + 300 * i + 3) + 3 + 3 * (zww k).length by omega, at32, zb_Reader_wordFrom_26, if_pos w4, if_neg (by rw [y_i_eq]; omega), y2]
  obtain ⟨y, y1, y2⟩ := lp 19 0 (Int32.ofInt 100) (Int32.ofInt 0) (Int32.ofInt 0) rfl rfl rfl rfl
  refine ⟨y, y1, ?_⟩
  refine z_en X (d + 2) _ _ [(0, .ref 7), (1, .int x1), (2, .int x2)] _ _ rfl rfl rfl ?_
  rw [show (100000000 : Nat) = (99994296 + 300 * 19 + 3) + 1 by omega, zb_Reader_wordFrom_0, y2]
