/-! RULES, 12: the class's machine goes the class's way -/
def zCB (F : Nat → Int) (N : Nat) (tk : zTk) (I : Nat → Nat → Int32) : Prop := zCT tk I ∧ zTO N tk ∧ (I 7 1).toInt = N ∧ (∀ i, (I 6 i).toInt = F i)
def zCS (D : Nat) (s : List Int) (I : Nat → Nat → Int32) : Prop := (I D 1).toInt = s.length ∧ ∀ j, j < s.length → (I (D + 1) j).toInt = s.getD j 0
def zFrm (D : Nat) (I J : Nat → Nat → Int32) : Prop := (∀ x, x ≠ 7 → x ≠ D → x ≠ D + 1 → J x = I x) ∧ (∀ j, (j < 5 ∨ 11 < j) → J 7 j = I 7 j) ∧ (∀ j, j ≠ 1 → J D j = I D j)
theorem zFrm_t {D : Nat} {I J K : Nat → Nat → Int32} (h1 : zFrm D I J) (h2 : zFrm D J K) : zFrm D I K := ⟨fun x a b c => (h2.1 x a b c).trans (h1.1 x a b c), fun j h => (h2.2.1 j h).trans (h1.2.1 j h), fun j h => (h2.2.2 j h).trans (h1.2.2 j h)⟩
theorem zFrm_r {D : Nat} (I : Nat → Nat → Int32) : zFrm D I I := ⟨fun _ _ _ _ => rfl, fun _ _ => rfl, fun _ _ => rfl⟩
theorem zFrm_7 {D : Nat} {I J : Nat → Nat → Int32} (hD : 7 < D) (h1 : ∀ x, x ≠ 7 → J x = I x) (h2 : ∀ j, (j < 5 ∨ 11 < j) → J 7 j = I 7 j) : zFrm D I J := ⟨fun x a _ _ => h1 x a, h2, fun j _ => by rw [h1 D (by omega)]⟩
theorem zFrm_f {D : Nat} (hD : 7 < D) (I : Nat → Nat → Int32) (a b : Int32) : zFrm D I (z_up (z_up I 7 10 a) 7 11 b) := zFrm_7 hD (fun x hx => by rw [z_up_r _ _ _ _ _ hx, z_up_r _ _ _ _ _ hx]) (fun j hj => by rw [z_up_j _ _ _ _ _ (by omega), z_up_j _ _ _ _ _ (by omega)])
theorem zFrm_p {D : Nat} (hD : 7 < D) (I : Nat → Nat → Int32) (k : Nat) (v w : Int32) : zFrm D I (z_up (z_up I (D + 1) k v) D 1 w) := ⟨fun x a b c => by rw [z_up_r _ _ _ _ _ b, z_up_r _ _ _ _ _ c], fun j h => by rw [z_up_r _ _ _ _ _ (by omega : 7 ≠ D), z_up_r _ _ _ _ _ (by omega : 7 ≠ D + 1)], fun j h => by rw [z_up_j _ _ _ _ _ h, z_up_r _ _ _ _ _ (by omega : D ≠ D + 1)]⟩
theorem zCS_r {D : Nat} {s : List Int} {I J : Nat → Nat → Int32} (h1 : J D = I D) (h2 : J (D + 1) = I (D + 1)) (h : zCS D s I) : zCS D s J := by
  unfold zCS at *
  rw [h1, h2]
  exact h
theorem zCB_r {F : Nat → Int} {N : Nat} {tk : zTk} {I J : Nat → Nat → Int32} (h1 : J 7 = I 7) (h2 : J 6 = I 6) (h : zCB F N tk I) : zCB F N tk J := by
  unfold zCB zCT at *
  rw [h1, h2]
  exact h
theorem zCS_p {D : Nat} {s : List Int} {I : Nat → Nat → Int32} (v : Int32) (h : zCS D s I) (hl : s.length < 400) : zCS D (s ++ [v.toInt]) (z_up (z_up I (D + 1) (I D 1).toNatClampNeg v) D 1 (I D 1 + Int32.ofInt 1)) := by
  obtain ⟨h1, h2⟩ := h
  have hn : (I D 1).toNatClampNeg = s.length := by rw [y_tn, h1]; rfl
  refine ⟨?_, fun j hj => ?_⟩
  · rw [z_up_s, y_adl (by omega) (by omega) (by omega) (by omega), h1, List.length_append]
    show _ = ((s.length + 1 : Nat) : Int)
    omega
  · rw [List.length_append] at hj
    have hj' : j < s.length + 1 := hj
    rw [z_up_r _ _ _ _ _ (by omega : D + 1 ≠ D), hn]
    by_cases e : j = s.length
    · rw [e, z_up_s, List.getD_eq_getElem?_getD, List.getElem?_append_right (Nat.le_refl _), Nat.sub_self]
      rfl
    · rw [z_up_j _ _ _ _ _ e, h2 j (by omega), List.getD_eq_getElem?_getD, List.getD_eq_getElem?_getD, List.getElem?_append_left (by omega)]
theorem zC_tok (X : ZX) (d m ce sl : Nat) (I : Nat → Nat → Int32) (L : Nat → Nat → Int64) (t D r q : Nat) {F : Nat → Int} {N : Nat} {tk : zTk} (hN4 : N ≤ 400) (h : zCB F N tk I) (hk : tk.1 ≠ 0) : ∃ J : Nat → Nat → Int32, (∀ x, x ≠ 7 → J x = I x) ∧ (∀ j, (j < 5 ∨ 9 < j) → J 7 j = I 7 j) ∧ zCB F N (zlx F N tk.2.2.1) J ∧ z_pu (z_run X z_cf z_ff (d + 6)) 56 [.ref 7] (118, z_sd m, ce, sl, I, L, z_rr t D r q (z_gg m) (z_sf m)) = some (.inl none, (118, z_sd m, ce, sl, J, L, z_rr t D r q (z_gg m) (z_sf m))) := by
  obtain ⟨a1, a2, a3, a4⟩ := h
  obtain ⟨n1, n2⟩ := zTO_nx (zlx_ok F N) a2 hk
  have hnx : tk.2.2.1 ≤ N := by
    obtain ⟨_, b, _⟩ := a2
    omega
  obtain ⟨J, j1, j2, j3, j4⟩ := zr_readToken X d (z_sd m) ce sl I L t D r q (z_gg m) (z_sf m) a4 a3 hN4 hnx a1.2.2.1
  exact ⟨J, j1, j2, ⟨j3, n1, by rw [j2 1 (by omega)]; exact a3, fun i => by rw [j1 6 (by omega)]; exact a4 i⟩, j4⟩
theorem zC_take1 (X : ZX) (d m ce sl : Nat) (I : Nat → Nat → Int32) (L : Nat → Nat → Int64) (t D r q : Nat) {F : Nat → Int} {N : Nat} {tk : zTk} (hN4 : N ≤ 400) (h : zCB F N tk I) (x1 : Int32) (hx : tk.1 = x1.toInt) (hk : tk.1 ≠ 0) : ∃ J : Nat → Nat → Int32, (∀ x, x ≠ 7 → J x = I x) ∧ (∀ j, (j < 5 ∨ 9 < j) → J 7 j = I 7 j) ∧ zCB F N (zlx F N tk.2.2.1) J ∧ z_pu (z_run X z_cf z_ff (d + 7)) 67 [.ref 7, .int x1] (118, z_sd m, ce, sl, I, L, z_rr t D r q (z_gg m) (z_sf m)) = some (.inl (some (.int (Int32.ofInt 1))), (118, z_sd m, ce, sl, J, L, z_rr t D r q (z_gg m) (z_sf m))) := by
  obtain ⟨J, j1, j2, j3, j4⟩ := zC_tok X d m ce sl I L t D r q hN4 h hk
  refine ⟨J, j1, j2, j3, ?_⟩
  refine z_en X (d + 4) _ _ [(0, .ref 7), (1, .int x1)] _ _ rfl rfl rfl ?_
  rw [show (100000000 : Nat) = 99999998 + 2 by omega, zt_Reader_take_0 X (d + 3), if_pos (y_i_eq.mpr (by rw [h.1.1, hx])), j4, z_b0_v, zb_Reader_take_18, z_b1_1, z_gd_t]
theorem zC_take0 (X : ZX) (d m ce sl : Nat) (I : Nat → Nat → Int32) (L : Nat → Nat → Int64) (t D r q : Nat) {F : Nat → Int} {N : Nat} {tk : zTk} (h : zCB F N tk I) (x1 : Int32) (hx : tk.1 ≠ x1.toInt) : z_pu (z_run X z_cf z_ff (d + 7)) 67 [.ref 7, .int x1] (118, z_sd m, ce, sl, I, L, z_rr t D r q (z_gg m) (z_sf m)) = some (.inl (some (.int (Int32.ofInt 0))), (118, z_sd m, ce, sl, (z_up (z_up I 7 10 (Int32.ofInt 1)) 7 11 (I 7 6)), L, z_rr t D r q (z_gg m) (z_sf m))) := by
  refine z_en X (d + 4) _ _ [(0, .ref 7), (1, .int x1)] _ _ rfl rfl rfl ?_
  rw [show (100000000 : Nat) = 99999998 + 2 by omega, zt_Reader_take_0 X (d + 3), if_neg (fun e => hx (by rw [← h.1.1, e]))]
theorem zbgk_r (k : Int) : zbgk k = 1 ∨ zbgk k = 2 := by
  unfold zbgk
  split
  · exact Or.inr rfl
  · exact Or.inl rfl
/-- a method of the class is a way of reading -/
def zCM (X : ZX) (k D : Nat) (F : Nat → Int) (N : Nat) (P : zTk → zFl ⊕ (zTk × List Int)) (y : Nat) (av : List Value) : Prop :=
  ∀ (d m ce sl : Nat) (I : Nat → Nat → Int32) (L : Nat → Nat → Int64) (t r q : Nat) (tk : zTk) (s0 : List Int), zCB F N tk I → zCS D s0 I → s0.length ≤ tk.2.1 →
    (∀ e, P tk = .inl e → ∃ J : Nat → Nat → Int32, zFrm D I J ∧ (J 7 10).toInt = e.1 ∧ (J 7 11).toInt = e.2 ∧ z_pu (z_run X z_cf z_ff (d + k)) y av (118, z_sd m, ce, sl, I, L, z_rr t D r q (z_gg m) (z_sf m)) = some (.inl (some (.int (Int32.ofInt 0))), (118, z_sd m, ce, sl, J, L, z_rr t D r q (z_gg m) (z_sf m)))) ∧
    (∀ tk' s, P tk = .inr (tk', s) → ∃ J : Nat → Nat → Int32, zFrm D I J ∧ J 7 10 = I 7 10 ∧ J 7 11 = I 7 11 ∧ zCB F N tk' J ∧ zCS D (s0 ++ s) J ∧ z_pu (z_run X z_cf z_ff (d + k)) y av (118, z_sd m, ce, sl, I, L, z_rr t D r q (z_gg m) (z_sf m)) = some (.inl (some (.int (Int32.ofInt 1))), (118, z_sd m, ce, sl, J, L, z_rr t D r q (z_gg m) (z_sf m))))
theorem y_word0 (x : Int32) : (z_p_Token_isWord x = 0) ↔ x.toInt < 100 := by
  have e1 : (Int32.ofInt 100).toInt = 100 := rfl
  unfold z_p_Token_isWord
  by_cases c : x < Int32.ofInt 100
  · rw [if_pos c]
    rw [y_i_lt] at c
    exact ⟨fun _ => by omega, fun _ => rfl⟩
  · rw [if_neg c]
    rw [y_i_lt] at c
    exact ⟨fun h => absurd h (by decide), fun h => by omega⟩
theorem y_val0 (x : Int32) : (z_p_Token_isValue x = 0) ↔ ¬ (100 ≤ x.toInt ∧ x.toInt ≤ 109) := by
  unfold z_p_Token_isValue
  rw [y_wi0]
  exact Iff.rfl
theorem y_lit {x : Int32} {v : Int} (h : x.toInt ≠ v) (h1 : -2147483648 ≤ v) (h2 : v ≤ 2147483647) : ¬ x = Int32.ofInt v := fun e => h (by rw [e, y_oi h1 h2])
theorem zC_one0 {X : ZX} {k D : Nat} {F : Nat → Int} {N : Nat} {P : zTk → zFl ⊕ (zTk × List Int)} {x2 : Int32} (h : zCM X (k + 2) D F N P 70 [.ref 7, .int (Int32.ofInt 1), .int x2]) : zCM X (k + 3) D F N P 71 [.ref 7, .int (Int32.ofInt 0), .int x2] := by
  intro d m ce sl I L t r q tk s0 hB hS hl
  obtain ⟨e1, e2⟩ := h d m ce sl I L t r q tk s0 hB hS hl
  have en : ∀ rr : ZR, (∀ M, z_loop X z_cf z_ff (z_pu (z_run X z_cf z_ff (d + (k + 2)))) 71 (M + 20) 0 [(0, .ref 7), (1, .int (Int32.ofInt 0)), (2, .int x2)] [] (118, z_sd m, ce, sl, I, L, z_rr t D r q (z_gg m) (z_sf m)) = rr) → z_pu (z_run X z_cf z_ff (d + (k + 3))) 71 [.ref 7, .int (Int32.ofInt 0), .int x2] (118, z_sd m, ce, sl, I, L, z_rr t D r q (z_gg m) (z_sf m)) = rr := fun rr h => z_en X (d + k) _ _ [(0, .ref 7), (1, .int (Int32.ofInt 0)), (2, .int x2)] _ _ rfl rfl rfl (h 99999980)
  refine ⟨fun e he => ?_, fun tk' s he => ?_⟩
  · obtain ⟨J, a1, a2, a3, a4⟩ := e1 e he
    exact ⟨J, a1, a2, a3, en _ (fun M => by rw [zb_Reader_readOneOf_0, if_pos rfl, a4, z_bi_v, zb_Reader_readOneOf_34, z_b1_0, z_gd_t])⟩
  · obtain ⟨J, a1, a2, a3, a4, a5, a6⟩ := e2 tk' s he
    exact ⟨J, a1, a2, a3, a4, a5, en _ (fun M => by rw [zb_Reader_readOneOf_0, if_pos rfl, a6, z_bi_v, zb_Reader_readOneOf_34, z_b1_1, z_gd_t])⟩
theorem zC_one1 {X : ZX} {k D : Nat} {F : Nat → Int} {N : Nat} {P : zTk → zFl ⊕ (zTk × List Int)} {x2 : Int32} (h : zCM X (k + 2) D F N P 72 [.ref 7, .int x2]) : zCM X (k + 3) D F N P 71 [.ref 7, .int (Int32.ofInt 1), .int x2] := by
  intro d m ce sl I L t r q tk s0 hB hS hl
  obtain ⟨e1, e2⟩ := h d m ce sl I L t r q tk s0 hB hS hl
  have en : ∀ rr : ZR, (∀ M, z_loop X z_cf z_ff (z_pu (z_run X z_cf z_ff (d + (k + 2)))) 71 (M + 20) 0 [(0, .ref 7), (1, .int (Int32.ofInt 1)), (2, .int x2)] [] (118, z_sd m, ce, sl, I, L, z_rr t D r q (z_gg m) (z_sf m)) = rr) → z_pu (z_run X z_cf z_ff (d + (k + 3))) 71 [.ref 7, .int (Int32.ofInt 1), .int x2] (118, z_sd m, ce, sl, I, L, z_rr t D r q (z_gg m) (z_sf m)) = rr := fun rr h => z_en X (d + k) _ _ [(0, .ref 7), (1, .int (Int32.ofInt 1)), (2, .int x2)] _ _ rfl rfl rfl (h 99999980)
  refine ⟨fun e he => ?_, fun tk' s he => ?_⟩
  · obtain ⟨J, a1, a2, a3, a4⟩ := e1 e he
    exact ⟨J, a1, a2, a3, en _ (fun M => by rw [zb_Reader_readOneOf_0, if_neg (by decide), if_pos rfl, a4, z_bi_v, zb_Reader_readOneOf_40, z_b1_0, z_gd_t])⟩
  · obtain ⟨J, a1, a2, a3, a4, a5, a6⟩ := e2 tk' s he
    exact ⟨J, a1, a2, a3, a4, a5, en _ (fun M => by rw [zb_Reader_readOneOf_0, if_neg (by decide), if_pos rfl, a6, z_bi_v, zb_Reader_readOneOf_40, z_b1_1, z_gd_t])⟩
theorem zC_one2 {X : ZX} {k D : Nat} {F : Nat → Int} {N : Nat} {P : zTk → zFl ⊕ (zTk × List Int)} {x2 : Int32} (h : zCM X (k + 2) D F N P 70 [.ref 7, .int (Int32.ofInt 3), .int x2]) : zCM X (k + 3) D F N P 71 [.ref 7, .int (Int32.ofInt 2), .int x2] := by
  intro d m ce sl I L t r q tk s0 hB hS hl
  obtain ⟨e1, e2⟩ := h d m ce sl I L t r q tk s0 hB hS hl
  have en : ∀ rr : ZR, (∀ M, z_loop X z_cf z_ff (z_pu (z_run X z_cf z_ff (d + (k + 2)))) 71 (M + 20) 0 [(0, .ref 7), (1, .int (Int32.ofInt 2)), (2, .int x2)] [] (118, z_sd m, ce, sl, I, L, z_rr t D r q (z_gg m) (z_sf m)) = rr) → z_pu (z_run X z_cf z_ff (d + (k + 3))) 71 [.ref 7, .int (Int32.ofInt 2), .int x2] (118, z_sd m, ce, sl, I, L, z_rr t D r q (z_gg m) (z_sf m)) = rr := fun rr h => z_en X (d + k) _ _ [(0, .ref 7), (1, .int (Int32.ofInt 2)), (2, .int x2)] _ _ rfl rfl rfl (h 99999980)
  refine ⟨fun e he => ?_, fun tk' s he => ?_⟩
  · obtain ⟨J, a1, a2, a3, a4⟩ := e1 e he
    exact ⟨J, a1, a2, a3, en _ (fun M => by rw [zb_Reader_readOneOf_0, if_neg (by decide), if_neg (by decide), if_pos rfl, a4, z_bi_v, zb_Reader_readOneOf_47, z_b1_0, z_gd_t])⟩
  · obtain ⟨J, a1, a2, a3, a4, a5, a6⟩ := e2 tk' s he
    exact ⟨J, a1, a2, a3, a4, a5, en _ (fun M => by rw [zb_Reader_readOneOf_0, if_neg (by decide), if_neg (by decide), if_pos rfl, a6, z_bi_v, zb_Reader_readOneOf_47, z_b1_1, z_gd_t])⟩
theorem zC_one3 {X : ZX} {k D : Nat} {F : Nat → Int} {N : Nat} {P : zTk → zFl ⊕ (zTk × List Int)} {x2 : Int32} (h : zCM X (k + 2) D F N P 75 [.ref 7, .int x2]) : zCM X (k + 3) D F N P 71 [.ref 7, .int (Int32.ofInt 3), .int x2] := by
  intro d m ce sl I L t r q tk s0 hB hS hl
  obtain ⟨e1, e2⟩ := h d m ce sl I L t r q tk s0 hB hS hl
  have en : ∀ rr : ZR, (∀ M, z_loop X z_cf z_ff (z_pu (z_run X z_cf z_ff (d + (k + 2)))) 71 (M + 20) 0 [(0, .ref 7), (1, .int (Int32.ofInt 3)), (2, .int x2)] [] (118, z_sd m, ce, sl, I, L, z_rr t D r q (z_gg m) (z_sf m)) = rr) → z_pu (z_run X z_cf z_ff (d + (k + 3))) 71 [.ref 7, .int (Int32.ofInt 3), .int x2] (118, z_sd m, ce, sl, I, L, z_rr t D r q (z_gg m) (z_sf m)) = rr := fun rr h => z_en X (d + k) _ _ [(0, .ref 7), (1, .int (Int32.ofInt 3)), (2, .int x2)] _ _ rfl rfl rfl (h 99999980)
  refine ⟨fun e he => ?_, fun tk' s he => ?_⟩
  · obtain ⟨J, a1, a2, a3, a4⟩ := e1 e he
    exact ⟨J, a1, a2, a3, en _ (fun M => by rw [zb_Reader_readOneOf_0, if_neg (by decide), if_neg (by decide), if_neg (by decide), a4, z_bi_v, zb_Reader_readOneOf_53, z_b1_0, z_gd_t])⟩
  · obtain ⟨J, a1, a2, a3, a4, a5, a6⟩ := e2 tk' s he
    exact ⟨J, a1, a2, a3, a4, a5, en _ (fun M => by rw [zb_Reader_readOneOf_0, if_neg (by decide), if_neg (by decide), if_neg (by decide), a6, z_bi_v, zb_Reader_readOneOf_53, z_b1_1, z_gd_t])⟩
/-- which signs a row of a kind has -/
def zkg (kd : Int32) (sg : Nat) : Prop := ∀ (I : Nat → Nat → Int32) (K : Int), (I 7 5).toInt = K → (z_v_Reader_isSignOf I kd = 0 ↔ ¬ zlev K = sg)
theorem zlev_1 {k : Int} : zlev k = 1 ↔ k = 112 := by
  constructor
  · intro h
    unfold zlev at h
    repeat' split at h
    all_goals omega
  · intro h
    rw [h]
    rfl
theorem zlev_2 {k : Int} : zlev k = 2 ↔ k = 111 := by
  constructor
  · intro h
    unfold zlev at h
    repeat' split at h
    all_goals omega
  · intro h
    rw [h]
    rfl
theorem zlev_4 {k : Int} : zlev k = 4 ↔ k = 60 ∨ k = 61 := by
  constructor
  · intro h
    unfold zlev at h
    repeat' split at h
    all_goals omega
  · intro h
    rcases h with h | h <;> rw [h] <;> rfl
theorem zlev_5 {k : Int} : zlev k = 5 ↔ k = 43 ∨ k = 45 := by
  constructor
  · intro h
    unfold zlev at h
    repeat' split at h
    all_goals omega
  · intro h
    rcases h with h | h <;> rw [h] <;> rfl
theorem zlev_6 {k : Int} : zlev k = 6 ↔ k = 42 ∨ k = 47 := by
  constructor
  · intro h
    unfold zlev at h
    repeat' split at h
    all_goals omega
  · intro h
    rcases h with h | h <;> rw [h] <;> rfl
theorem zkg_0 : zkg (Int32.ofInt 0) 1 := by
  intro I K h
  rw [zlev_1]
  unfold z_v_Reader_isSignOf
  rw [if_pos rfl]
  by_cases c : K = 112
  · rw [if_pos (y_i_eq.mpr (by rw [h, c]; rfl))]
    exact ⟨fun e => absurd e (by decide), fun e => absurd c e⟩
  · rw [if_neg (y_lit (by rw [h]; exact c) (by omega) (by omega))]
    exact ⟨fun _ => c, fun _ => rfl⟩
theorem zkg_1 : zkg (Int32.ofInt 1) 2 := by
  intro I K h
  rw [zlev_2]
  unfold z_v_Reader_isSignOf
  rw [if_neg (by decide), if_pos rfl]
  by_cases c : K = 111
  · rw [if_pos (y_i_eq.mpr (by rw [h, c]; rfl))]
    exact ⟨fun e => absurd e (by decide), fun e => absurd c e⟩
  · rw [if_neg (y_lit (by rw [h]; exact c) (by omega) (by omega))]
    exact ⟨fun _ => c, fun _ => rfl⟩
theorem zkg_2 : zkg (Int32.ofInt 2) 5 := by
  intro I K h
  rw [zlev_5]
  unfold z_v_Reader_isSignOf
  rw [if_neg (by decide), if_neg (by decide), if_pos rfl]
  by_cases c : K = 43
  · rw [if_pos (y_i_eq.mpr (by rw [h, c]; rfl))]
    exact ⟨fun e => absurd e (by decide), fun e => absurd (Or.inl c) e⟩
  · rw [if_neg (y_lit (by rw [h]; exact c) (by omega) (by omega))]
    by_cases c2 : K = 45
    · rw [if_pos (y_i_eq.mpr (by rw [h, c2]; rfl))]
      exact ⟨fun e => absurd e (by decide), fun e => absurd (Or.inr c2) e⟩
    · rw [if_neg (y_lit (by rw [h]; exact c2) (by omega) (by omega))]
      exact ⟨fun _ => by omega, fun _ => rfl⟩
theorem zkg_3 : zkg (Int32.ofInt 3) 6 := by
  intro I K h
  rw [zlev_6]
  unfold z_v_Reader_isSignOf
  rw [if_neg (by decide), if_neg (by decide), if_neg (by decide)]
  by_cases c : K = 42
  · rw [if_pos (y_i_eq.mpr (by rw [h, c]; rfl))]
    exact ⟨fun e => absurd e (by decide), fun e => absurd (Or.inl c) e⟩
  · rw [if_neg (y_lit (by rw [h]; exact c) (by omega) (by omega))]
    by_cases c2 : K = 47
    · rw [if_pos (y_i_eq.mpr (by rw [h, c2]; rfl))]
      exact ⟨fun e => absurd e (by decide), fun e => absurd (Or.inr c2) e⟩
    · rw [if_neg (y_lit (by rw [h]; exact c2) (by omega) (by omega))]
      exact ⟨fun _ => by omega, fun _ => rfl⟩
theorem zC_part_8 {X : ZX} {k : Nat} {F : Nat → Int} {N : Nat} (hN4 : N ≤ 400) {E : zTk → zFl ⊕ (zTk × List Int)} {x1 : Int32} (hE : zCM X (k + 7) 8 F N E 68 [.ref 7, .int (x1 + Int32.ofInt 1)]) : zCM X (k + 8) 8 F N (zpPart (zlx F N) E) 75 [.ref 7, .int x1] := by
  intro d m ce sl I L t r q tk s0 hB hS hl
  have k5 : (I 7 5).toInt = tk.1 := hB.1.1
  have k6 : (I 7 6).toInt = tk.2.1 := hB.1.2.1
  have hTO := hB.2.1
  have en : ∀ rr : ZR, (∀ M, z_loop X z_cf z_ff (z_pu (z_run X z_cf z_ff (d + k + 3 + 4))) 75 (M + 20) 0 [(0, .ref 7), (1, .int x1)] [] (118, z_sd m, ce, sl, I, L, z_rr t 8 r q (z_gg m) (z_sf m)) = rr) → z_pu (z_run X z_cf z_ff (d + (k + 8))) 75 [.ref 7, .int x1] (118, z_sd m, ce, sl, I, L, z_rr t 8 r q (z_gg m) (z_sf m)) = rr := fun rr h => z_en X (d + k + 5) _ _ [(0, .ref 7), (1, .int x1)] _ _ rfl rfl rfl (h 99999980)
  have bad : ∀ (v : Int) (rr : ZR), -2147483648 ≤ v → v ≤ 2147483647 → (∀ M, z_loop X z_cf z_ff (z_pu (z_run X z_cf z_ff (d + k + 3 + 4))) 75 (M + 20) 0 [(0, .ref 7), (1, .int x1)] [] (118, z_sd m, ce, sl, I, L, z_rr t 8 r q (z_gg m) (z_sf m)) = some (.inl (some (.int (Int32.ofInt 0))), (118, z_sd m, ce, sl, (z_up (z_up I 7 10 (Int32.ofInt v)) 7 11 (I 7 6)), L, z_rr t 8 r q (z_gg m) (z_sf m)))) → ∀ e : zFl, (v, tk.2.1) = e → ∃ J : Nat → Nat → Int32, zFrm 8 I J ∧ (J 7 10).toInt = e.1 ∧ (J 7 11).toInt = e.2 ∧ z_pu (z_run X z_cf z_ff (d + (k + 8))) 75 [.ref 7, .int x1] (118, z_sd m, ce, sl, I, L, z_rr t 8 r q (z_gg m) (z_sf m)) = some (.inl (some (.int (Int32.ofInt 0))), (118, z_sd m, ce, sl, J, L, z_rr t 8 r q (z_gg m) (z_sf m))) := by
    intro v rr v1 v2 h e he
    subst he
    exact ⟨z_up (z_up I 7 10 (Int32.ofInt v)) 7 11 (I 7 6), zFrm_f (by omega) I _ _, by rw [z_up_j _ _ _ _ _ (by omega), z_up_s]; exact y_oi v1 v2, by rw [z_up_s]; exact k6, en _ h⟩
  have good : ∀ (v : Int32) , tk.1 ≠ 0 → (∀ (J : Nat → Nat → Int32), z_pu (z_run X z_cf z_ff (d + k + 3 + 4)) 56 [.ref 7] (118, z_sd m, ce, sl, (z_up (z_up I 9 (I 8 1).toNatClampNeg v) 8 1 (I 8 1 + Int32.ofInt 1)), L, z_rr t 8 r q (z_gg m) (z_sf m)) = some (.inl none, (118, z_sd m, ce, sl, J, L, z_rr t 8 r q (z_gg m) (z_sf m))) → ∀ M, z_loop X z_cf z_ff (z_pu (z_run X z_cf z_ff (d + k + 3 + 4))) 75 (M + 20) 0 [(0, .ref 7), (1, .int x1)] [] (118, z_sd m, ce, sl, I, L, z_rr t 8 r q (z_gg m) (z_sf m)) = some (.inl (some (.int (Int32.ofInt 1))), (118, z_sd m, ce, sl, J, L, z_rr t 8 r q (z_gg m) (z_sf m)))) → ∀ tk' s, ((zlx F N tk.2.2.1, [v.toInt]) : zTk × List Int) = (tk', s) → ∃ J : Nat → Nat → Int32, zFrm 8 I J ∧ J 7 10 = I 7 10 ∧ J 7 11 = I 7 11 ∧ zCB F N tk' J ∧ zCS 8 (s0 ++ s) J ∧ z_pu (z_run X z_cf z_ff (d + (k + 8))) 75 [.ref 7, .int x1] (118, z_sd m, ce, sl, I, L, z_rr t 8 r q (z_gg m) (z_sf m)) = some (.inl (some (.int (Int32.ofInt 1))), (118, z_sd m, ce, sl, J, L, z_rr t 8 r q (z_gg m) (z_sf m))) := by
    intro v hk h tk' s he
    injection he with v1 v2
    subst v1
    subst v2
    obtain ⟨n1, n2⟩ := zTO_nx (zlx_ok F N) hTO hk
    have hnN := n1.1
    have p1 : (z_up (z_up I 9 (I 8 1).toNatClampNeg v) 8 1 (I 8 1 + Int32.ofInt 1)) 7 = I 7 := by rw [z_up_r _ _ _ _ _ (by omega), z_up_r _ _ _ _ _ (by omega)]
    have p2 : (z_up (z_up I 9 (I 8 1).toNatClampNeg v) 8 1 (I 8 1 + Int32.ofInt 1)) 6 = I 6 := by rw [z_up_r _ _ _ _ _ (by omega), z_up_r _ _ _ _ _ (by omega)]
    obtain ⟨J, a1, a2, a3, a4⟩ := zC_tok X (d + k + 1) m ce sl (z_up (z_up I 9 (I 8 1).toNatClampNeg v) 8 1 (I 8 1 + Int32.ofInt 1)) L t 8 r q hN4 (zCB_r p1 p2 hB) hk
    refine ⟨J, zFrm_t (zFrm_p (D := 8) (by omega) I (I 8 1).toNatClampNeg v (I 8 1 + Int32.ofInt 1)) (zFrm_7 (by omega) a1 (fun j hj => a2 j (by omega))), ?_, ?_, a3, zCS_r (a1 8 (by omega)) (a1 9 (by omega)) (zCS_p v hS (by omega)), en _ (h J a4)⟩
    · rw [a2 10 (by omega), p1]
    · rw [a2 11 (by omega), p1]
  have room : tk.1 ≠ 0 → ¬ Int32.ofInt 400 ≤ I 8 1 ∧ z_in (I 8 1) 400 = true := by
    intro hk
    obtain ⟨n1, n2⟩ := zTO_nx (zlx_ok F N) hTO hk
    have hnN := n1.1
    have h1 := hS.1
    refine ⟨by rw [y_i_le]; show ¬ (400 : Int) ≤ _; omega, y_in_t (by omega) (by omega)⟩
  by_cases c40 : tk.1 = 40
  · have i40 : I 7 5 = Int32.ofInt 40 := y_eqi (by rw [k5, c40])
    obtain ⟨J1, a1, a2, a3, a4⟩ := zC_tok X (d + k + 1) m ce sl I L t 8 r q hN4 hB (by omega)
    obtain ⟨n1, n2⟩ := zTO_nx (zlx_ok F N) hTO (by omega)
    have S1 : zCS 8 s0 J1 := zCS_r (a1 8 (by omega)) (a1 9 (by omega)) hS
    have F1 : zFrm 8 I J1 := zFrm_7 (by omega) a1 (fun j hj => a2 j (by omega))
    obtain ⟨e1, e2⟩ := hE d m ce sl J1 L t r q (zlx F N tk.2.2.1) s0 a3 S1 (by omega)
    rw [show d + (k + 7) = d + k + 3 + 4 by omega] at e1 e2
    have hP : zpPart (zlx F N) E tk = match E (zlx F N tk.2.2.1) with
      | .inl e => .inl e
      | .inr (tk', s) => if tk'.1 = 41 then .inr (zlx F N tk'.2.2.1, s) else .inl (1, tk'.2.1) := by
      unfold zpPart
      rw [if_pos c40]
      rfl
    cases hx : E (zlx F N tk.2.2.1) with
    | inl y0 =>
      rw [hx] at hP
      have hP' : zpPart (zlx F N) E tk = .inl y0 := hP
      rw [hP']
      refine ⟨fun e he => ?_, fun tk' s he => absurd he (by simp)⟩
      injection he with he
      subst he
      obtain ⟨J2, b1, b2, b3, b4⟩ := e1 y0 hx
      refine ⟨J2, zFrm_t F1 b1, b2, b3, en _ (fun M => ?_)⟩
      rw [zt_Reader_readPart_0_8, if_pos i40, a4, z_b0_v, zb_Reader_readPart_13, b4, z_bi_v, zb_Reader_readPart_20, if_pos (by decide), z_b1_0, z_gd_t]
    | inr y0 =>
      obtain ⟨tk2, s2⟩ := y0
      rw [hx] at hP
      have hP' : zpPart (zlx F N) E tk = if tk2.1 = 41 then .inr (zlx F N tk2.2.2.1, s2) else .inl (1, tk2.2.1) := hP
      rw [hP']
      obtain ⟨J2, b1, b2, b3, b4, b5, b6⟩ := e2 tk2 s2 hx
      by_cases c41 : tk2.1 = 41
      · rw [if_pos c41]
        obtain ⟨J3, t1, t2, t3, t4⟩ := zC_take1 X (d + k) m ce sl J2 L t 8 r q hN4 b4 (Int32.ofInt 41) c41 (by omega)
        refine ⟨fun e he => absurd he (by simp), fun tk' s he => ?_⟩
        injection he with he
        injection he with v1 v2
        subst v1
        subst v2
        refine ⟨J3, zFrm_t (zFrm_t F1 b1) (zFrm_7 (by omega) t1 (fun j hj => t2 j (by omega))), ?_, ?_, t3, zCS_r (t1 8 (by omega)) (t1 9 (by omega)) b5, en _ (fun M => ?_)⟩
        · rw [t2 10 (by omega), b2, a2 10 (by omega)]
        · rw [t2 11 (by omega), b3, a2 11 (by omega)]
        · rw [zt_Reader_readPart_0_8, if_pos i40, a4, z_b0_v, zb_Reader_readPart_13, b6, z_bi_v, zb_Reader_readPart_20, if_neg (by decide), t4, z_bi_v, zb_Reader_readPart_29, if_neg (by decide), z_b1_1, z_gd_t]
      · rw [if_neg c41]
        have t4 := zC_take0 X (d + k) m ce sl J2 L t 8 r q b4 (Int32.ofInt 41) c41
        refine ⟨fun e he => ?_, fun tk' s he => absurd he (by simp)⟩
        injection he with he
        subst he
        refine ⟨z_up (z_up J2 7 10 (Int32.ofInt 1)) 7 11 (J2 7 6), zFrm_t (zFrm_t F1 b1) (zFrm_f (by omega) J2 (Int32.ofInt 1) (J2 7 6)), ?_, ?_, en _ (fun M => ?_)⟩
        · rw [z_up_j _ _ _ _ _ (by omega), z_up_s]
          rfl
        · rw [z_up_s]
          exact b4.1.2.1
        · rw [zt_Reader_readPart_0_8, if_pos i40, a4, z_b0_v, zb_Reader_readPart_13, b6, z_bi_v, zb_Reader_readPart_20, if_neg (by decide), t4, z_bi_v, zb_Reader_readPart_29, if_pos (by decide), z_b1_0, z_gd_t]
  · have n40 : ¬ I 7 5 = Int32.ofInt 40 := y_lit (by rw [k5]; exact c40) (by omega) (by omega)
    have hP : zpPart (zlx F N) E tk = if 100 ≤ tk.1 then (if tk.1 ≤ 109 then .inr (zlx F N tk.2.2.1, [-tk.1]) else .inl (3, tk.2.1))
        else if tk.1 = 2 then (if tk.2.2.2.2 ≤ 5 then .inr (zlx F N tk.2.2.1, [tk.2.2.2.1]) else .inl (2, tk.2.1)) else .inl (1, tk.2.1) := by
      unfold zpPart
      rw [if_neg c40]
    rw [hP]
    by_cases c1 : 100 ≤ tk.1
    · have w1 : ¬ z_p_Token_isWord (I 7 5) = 0 := by rw [y_word0, k5]; omega
      obtain ⟨r1, r2⟩ := room (by omega)
      rw [if_pos c1]
      by_cases c2 : tk.1 ≤ 109
      · have w2 : ¬ z_p_Token_isValue (I 7 5) = 0 := by rw [y_val0, k5]; omega
        rw [if_pos c2]
        have hneg : (-(I 7 5)).toInt = -tk.1 := by rw [y_neg (by omega), k5]
        refine ⟨fun e he => absurd he (by simp), fun tk' s he => ?_⟩
        injection he with he
        refine good (-(I 7 5)) (by omega) (fun J hJ M => ?_) tk' s (by rw [hneg]; exact he)
        rw [zt_Reader_readPart_0_8, if_neg n40, if_neg w1, if_neg w2, if_neg r1, r2, z_gd_t, hJ, z_b0_v, zb_Reader_readPart_103, z_b1_1, z_gd_t]
      · have w2 : z_p_Token_isValue (I 7 5) = 0 := by rw [y_val0, k5]; omega
        rw [if_neg c2]
        refine ⟨fun e he => ?_, fun tk' s he => absurd he (by simp)⟩
        injection he with he
        refine bad 3 none (by omega) (by omega) (fun M => ?_) e he
        rw [zt_Reader_readPart_0_8, if_neg n40, if_neg w1, if_pos w2]
    · have w1 : z_p_Token_isWord (I 7 5) = 0 := by rw [y_word0, k5]; omega
      rw [if_neg c1]
      by_cases c2 : tk.1 = 2
      · have i2 : I 7 5 = Int32.ofInt 2 := y_eqi (by rw [k5, c2])
        obtain ⟨q1, q2⟩ := hB.1.2.2.2 c2
        obtain ⟨r1, r2⟩ := room (by omega)
        rw [if_pos c2]
        by_cases c3 : tk.2.2.2.2 ≤ 5
        · rw [if_pos c3]
          refine ⟨fun e he => absurd he (by simp), fun tk' s he => ?_⟩
          injection he with he
          refine good (I 7 8) (by omega) (fun J hJ M => ?_) tk' s (by rw [q1]; exact he)
          rw [zt_Reader_readPart_0_8, if_neg n40, if_pos w1, if_pos i2, if_pos (by rw [y_i_le, q2]; show _ ≤ (5 : Int); omega), if_neg r1, r2, z_gd_t, hJ, z_b0_v, zb_Reader_readPart_103, z_b1_1, z_gd_t]
        · rw [if_neg c3]
          refine ⟨fun e he => ?_, fun tk' s he => absurd he (by simp)⟩
          injection he with he
          refine bad 2 none (by omega) (by omega) (fun M => ?_) e he
          rw [zt_Reader_readPart_0_8, if_neg n40, if_pos w1, if_pos i2, if_neg (by rw [y_i_le, q2]; show ¬ _ ≤ (5 : Int); omega)]
      · rw [if_neg c2]
        refine ⟨fun e he => ?_, fun tk' s he => absurd he (by simp)⟩
        injection he with he
        refine bad 1 none (by omega) (by omega) (fun M => ?_) e he
        rw [zt_Reader_readPart_0_8, if_neg n40, if_pos w1, if_neg (y_lit (by rw [k5]; exact c2) (by omega) (by omega))]
theorem zC_row_8 {X : ZX} {k : Nat} {F : Nat → Int} {N : Nat} (hN4 : N ≤ 400) {one : zTk → zFl ⊕ (zTk × List Int)} {kd x2 : Int32} {sg : Nat} (hsg : zkg kd sg) (hs : sg ≠ 0) (hA : zAdv N one) (h1 : zCM X (k + 7) 8 F N one 71 [.ref 7, .int kd, .int x2]) : zCM X (k + 8) 8 F N (zpRow (zlx F N) sg one) 70 [.ref 7, .int kd, .int x2] := by
  intro d m ce sl I L t r q tk0 s0 hB0 hS0 hl0
  have lp : ∀ (f : Nat) (x3 : Int32) (tk : zTk) (s : List Int) (K : Nat → Nat → Int32), f ≤ 400 → x3.toInt = 400 - (f : Int) → zCB F N tk K → zCS 8 (s0 ++ s) K → (s0 ++ s).length ≤ tk.2.1 → zFrm 8 I K → K 7 10 = I 7 10 → K 7 11 = I 7 11 →
      (∀ e, zpLoop (zlx F N) sg one f tk s = .inl e → ∃ J : Nat → Nat → Int32, zFrm 8 I J ∧ (J 7 10).toInt = e.1 ∧ (J 7 11).toInt = e.2 ∧ ∀ M, z_loop X z_cf z_ff (z_pu (z_run X z_cf z_ff (d + k + 4 + 3))) 70 (M + 5 * f + 5) 13 [(0, .ref 7), (1, .int kd), (2, .int x2), (3, .int x3)] [] (118, z_sd m, ce, sl, K, L, z_rr t 8 r q (z_gg m) (z_sf m)) = some (.inl (some (.int (Int32.ofInt 0))), (118, z_sd m, ce, sl, J, L, z_rr t 8 r q (z_gg m) (z_sf m)))) ∧
      (∀ tk' s', zpLoop (zlx F N) sg one f tk s = .inr (tk', s') → ∃ J : Nat → Nat → Int32, zFrm 8 I J ∧ J 7 10 = I 7 10 ∧ J 7 11 = I 7 11 ∧ zCB F N tk' J ∧ zCS 8 (s0 ++ s') J ∧ ∀ M, z_loop X z_cf z_ff (z_pu (z_run X z_cf z_ff (d + k + 4 + 3))) 70 (M + 5 * f + 5) 13 [(0, .ref 7), (1, .int kd), (2, .int x2), (3, .int x3)] [] (118, z_sd m, ce, sl, K, L, z_rr t 8 r q (z_gg m) (z_sf m)) = some (.inl (some (.int (Int32.ofInt 1))), (118, z_sd m, ce, sl, J, L, z_rr t 8 r q (z_gg m) (z_sf m)))) := by
    intro f
    induction f with
    | zero =>
      intro x3 tk s K g1 g2 g3 g4 g5 g6 g7 g8
      have hL : zpLoop (zlx F N) sg one 0 tk s = .inr (tk, s) := rfl
      rw [hL]
      refine ⟨fun e he => absurd he (by simp), fun tk' s' he => ?_⟩
      injection he with he
      injection he with v1 v2
      subst v1
      subst v2
      refine ⟨K, g6, g7, g8, g3, g4, fun M => ?_⟩
      rw [show M + 5 * 0 + 5 = (M + 3) + 2 by omega, zt_Reader_readRow_13, if_pos (by rw [y_i_le, g2]; show (400 : Int) ≤ _; omega)]
    | succ f ih =>
      intro x3 tk s K g1 g2 g3 g4 g5 g6 g7 g8
      have n400 : ¬ Int32.ofInt 400 ≤ x3 := by rw [y_i_le, g2]; show ¬ (400 : Int) ≤ _; omega
      by_cases c : zlev tk.1 = sg
      · have hk0 := zlev_0 c hs
        have hsi : ¬ z_v_Reader_isSignOf K kd = 0 := fun h => (hsg K tk.1 g3.1.1).mp h c
        have hL : zpLoop (zlx F N) sg one (f + 1) tk s = match one (zlx F N tk.2.2.1) with
            | .inl e => .inl e
            | .inr (tk', s') => zpLoop (zlx F N) sg one f tk' (s ++ s' ++ [-tk.1]) := by
          show (if zlev tk.1 = sg then _ else _) = _
          rw [if_pos c]
          rfl
        obtain ⟨J1, a1, a2, a3, a4⟩ := zC_tok X (d + k + 1) m ce sl K L t 8 r q hN4 g3 hk0
        obtain ⟨n1, n2⟩ := zTO_nx (zlx_ok F N) g3.2.1 hk0
        have S1 : zCS 8 (s0 ++ s) J1 := zCS_r (a1 8 (by omega)) (a1 9 (by omega)) g4
        have F1 : zFrm 8 K J1 := zFrm_7 (by omega) a1 (fun j hj => a2 j (by omega))
        obtain ⟨e1, e2⟩ := h1 d m ce sl J1 L t r q (zlx F N tk.2.2.1) (s0 ++ s) a3 S1 (by omega)
        rw [show d + (k + 7) = d + k + 4 + 3 by omega] at e1 e2
        cases hx : one (zlx F N tk.2.2.1) with
        | inl y0 =>
          rw [hx] at hL
          have hL' : zpLoop (zlx F N) sg one (f + 1) tk s = .inl y0 := hL
          rw [hL']
          refine ⟨fun e he => ?_, fun tk' s he => absurd he (by simp)⟩
          injection he with he
          subst he
          obtain ⟨J2, b1, b2, b3, b4⟩ := e1 y0 hx
          refine ⟨J2, zFrm_t g6 (zFrm_t F1 b1), b2, b3, fun M => ?_⟩
          rw [show M + 5 * (f + 1) + 5 = (M + 5 * f + 5 + 2 + 1) + 2 by omega, zt_Reader_readRow_13, if_neg n400, if_neg hsi, a4, z_b0_v, zb_Reader_readRow_38, b4, z_bi_v, zt_Reader_readRow_44_8, if_pos (by decide)]
        | inr y0 =>
          obtain ⟨tk2, s2⟩ := y0
          rw [hx] at hL
          have hL' : zpLoop (zlx F N) sg one (f + 1) tk s = zpLoop (zlx F N) sg one f tk2 (s ++ s2 ++ [-tk.1]) := hL
          rw [hL']
          obtain ⟨J2, b1, b2, b3, b4, b5, b6⟩ := e2 tk2 s2 hx
          obtain ⟨A1, A2, A3⟩ := hA _ n1 _ _ hx
          have hlen : (s0 ++ s ++ s2).length = (s0 ++ s).length + s2.length := List.length_append
          have hneg : (-(K 7 5)).toInt = -tk.1 := by
            have hkk := (zlev_k c hs).1
            rw [y_neg (by rw [g3.1.1]; omega), g3.1.1]
          have hA1 := A1.1
          have b51 := b5.1
          have r1 : ¬ Int32.ofInt 400 ≤ J2 8 1 := by rw [y_i_le]; show ¬ (400 : Int) ≤ _; omega
          have r2 : z_in (J2 8 1) 400 = true := y_in_t (by omega) (by omega)
          have es : s0 ++ (s ++ s2 ++ [-tk.1]) = (s0 ++ s ++ s2) ++ [(-(K 7 5)).toInt] := by rw [hneg]; simp only [List.append_assoc]
          have p1 : (z_up (z_up J2 9 (J2 8 1).toNatClampNeg (-(K 7 5))) 8 1 (J2 8 1 + Int32.ofInt 1)) 7 = J2 7 := by rw [z_up_r _ _ _ _ _ (by omega), z_up_r _ _ _ _ _ (by omega)]
          have p2 : (z_up (z_up J2 9 (J2 8 1).toNatClampNeg (-(K 7 5))) 8 1 (J2 8 1 + Int32.ofInt 1)) 6 = J2 6 := by rw [z_up_r _ _ _ _ _ (by omega), z_up_r _ _ _ _ _ (by omega)]
          obtain ⟨m1, m2⟩ := ih (x3 + Int32.ofInt 1) tk2 (s ++ s2 ++ [-tk.1]) (z_up (z_up J2 9 (J2 8 1).toNatClampNeg (-(K 7 5))) 8 1 (J2 8 1 + Int32.ofInt 1)) (by omega) (by rw [y_adl (by omega) (by omega) (by omega) (by omega)]; omega) (zCB_r p1 p2 b4) (by rw [es]; exact zCS_p (-(K 7 5)) b5 (by omega)) (by rw [es, List.length_append]; show (s0 ++ s ++ s2).length + 1 ≤ _; omega) (zFrm_t g6 (zFrm_t F1 (zFrm_t b1 (zFrm_p (D := 8) (by omega) J2 (J2 8 1).toNatClampNeg (-(K 7 5)) (J2 8 1 + Int32.ofInt 1))))) (by rw [p1, b2, a2 10 (by omega), g7]) (by rw [p1, b3, a2 11 (by omega), g8])
          have st : ∀ M, z_loop X z_cf z_ff (z_pu (z_run X z_cf z_ff (d + k + 4 + 3))) 70 (M + 5 * (f + 1) + 5) 13 [(0, .ref 7), (1, .int kd), (2, .int x2), (3, .int x3)] [] (118, z_sd m, ce, sl, K, L, z_rr t 8 r q (z_gg m) (z_sf m)) = z_loop X z_cf z_ff (z_pu (z_run X z_cf z_ff (d + k + 4 + 3))) 70 (M + 5 * f + 5) 13 [(0, .ref 7), (1, .int kd), (2, .int x2), (3, .int (x3 + Int32.ofInt 1))] [] (118, z_sd m, ce, sl, (z_up (z_up J2 9 (J2 8 1).toNatClampNeg (-(K 7 5))) 8 1 (J2 8 1 + Int32.ofInt 1)), L, z_rr t 8 r q (z_gg m) (z_sf m)) := by
            intro M
            rw [show M + 5 * (f + 1) + 5 = (M + 5 * f + 5 + 2 + 1) + 2 by omega, zt_Reader_readRow_13, if_neg n400, if_neg hsi, a4, z_b0_v, zb_Reader_readRow_38, b6, z_bi_v, zt_Reader_readRow_44_8, if_neg (by decide), if_neg r1, r2, z_gd_t]
          refine ⟨fun e he => ?_, fun tk' s' he => ?_⟩
          · obtain ⟨J, q1, q2, q3, q4⟩ := m1 e he
            exact ⟨J, q1, q2, q3, fun M => by rw [st, q4]⟩
          · obtain ⟨J, q1, q2, q3, q4, q5, q6⟩ := m2 tk' s' he
            exact ⟨J, q1, q2, q3, q4, q5, fun M => by rw [st, q6]⟩
      · have hL : zpLoop (zlx F N) sg one (f + 1) tk s = .inr (tk, s) := by
          show (if zlev tk.1 = sg then _ else _) = _
          rw [if_neg c]
        rw [hL]
        refine ⟨fun e he => absurd he (by simp), fun tk' s' he => ?_⟩
        injection he with he
        injection he with v1 v2
        subst v1
        subst v2
        refine ⟨K, g6, g7, g8, g3, g4, fun M => ?_⟩
        rw [show M + 5 * (f + 1) + 5 = (M + 5 * f + 8) + 2 by omega, zt_Reader_readRow_13, if_neg n400, if_pos ((hsg K tk.1 g3.1.1).mpr c)]
  have en : ∀ rr : ZR, (∀ M, z_loop X z_cf z_ff (z_pu (z_run X z_cf z_ff (d + k + 4 + 3))) 70 (M + 5 * 400 + 5 + 2) 0 [(0, .ref 7), (1, .int kd), (2, .int x2)] [] (118, z_sd m, ce, sl, I, L, z_rr t 8 r q (z_gg m) (z_sf m)) = rr) → z_pu (z_run X z_cf z_ff (d + (k + 8))) 70 [.ref 7, .int kd, .int x2] (118, z_sd m, ce, sl, I, L, z_rr t 8 r q (z_gg m) (z_sf m)) = rr := fun rr h => z_en X (d + k + 5) _ _ [(0, .ref 7), (1, .int kd), (2, .int x2)] _ _ rfl rfl rfl (h 99997993)
  obtain ⟨e1, e2⟩ := h1 d m ce sl I L t r q tk0 s0 hB0 hS0 hl0
  rw [show d + (k + 7) = d + k + 4 + 3 by omega] at e1 e2
  have hR : zpRow (zlx F N) sg one tk0 = match one tk0 with
      | .inl e => .inl e
      | .inr (tk', s) => zpLoop (zlx F N) sg one 400 tk' s := rfl
  cases hx : one tk0 with
  | inl y0 =>
    rw [hx] at hR
    have hR' : zpRow (zlx F N) sg one tk0 = .inl y0 := hR
    rw [hR']
    refine ⟨fun e he => ?_, fun tk' s he => absurd he (by simp)⟩
    injection he with he
    subst he
    obtain ⟨J2, b1, b2, b3, b4⟩ := e1 y0 hx
    exact ⟨J2, b1, b2, b3, en _ (fun M => by rw [zb_Reader_readRow_0, b4, z_bi_v, zb_Reader_readRow_6, if_pos (by decide), z_b1_0, z_gd_t])⟩
  | inr y0 =>
    obtain ⟨tk2, s2⟩ := y0
    rw [hx] at hR
    have hR' : zpRow (zlx F N) sg one tk0 = zpLoop (zlx F N) sg one 400 tk2 s2 := hR
    rw [hR']
    obtain ⟨J2, b1, b2, b3, b4, b5, b6⟩ := e2 tk2 s2 hx
    obtain ⟨A1, A2, A3⟩ := hA _ hB0.2.1 _ _ hx
    obtain ⟨m1, m2⟩ := lp 400 (Int32.ofInt 0) tk2 s2 J2 (Nat.le_refl _) (by show (0 : Int) = _; omega) b4 b5 (by rw [List.length_append]; omega) b1 b2 b3
    have st : ∀ M, z_loop X z_cf z_ff (z_pu (z_run X z_cf z_ff (d + k + 4 + 3))) 70 (M + 5 * 400 + 5 + 2) 0 [(0, .ref 7), (1, .int kd), (2, .int x2)] [] (118, z_sd m, ce, sl, I, L, z_rr t 8 r q (z_gg m) (z_sf m)) = z_loop X z_cf z_ff (z_pu (z_run X z_cf z_ff (d + k + 4 + 3))) 70 (M + 5 * 400 + 5) 13 [(0, .ref 7), (1, .int kd), (2, .int x2), (3, .int (Int32.ofInt 0))] [] (118, z_sd m, ce, sl, J2, L, z_rr t 8 r q (z_gg m) (z_sf m)) := by
      intro M
      rw [show M + 5 * 400 + 5 + 2 = (M + 5 * 400 + 5) + 1 + 1 by omega, zb_Reader_readRow_0, b6, z_bi_v, zb_Reader_readRow_6, if_neg (by decide)]
    refine ⟨fun e he => ?_, fun tk' s' he => ?_⟩
    · obtain ⟨J, q1, q2, q3, q4⟩ := m1 e he
      exact ⟨J, q1, q2, q3, en _ (fun M => by rw [st, q4])⟩
    · obtain ⟨J, q1, q2, q3, q4, q5, q6⟩ := m2 tk' s' he
      exact ⟨J, q1, q2, q3, q4, q5, en _ (fun M => by rw [st, q6])⟩
theorem zC_test_8 {X : ZX} {k : Nat} {F : Nat → Int} {N : Nat} (hN4 : N ≤ 400) {one : zTk → zFl ⊕ (zTk × List Int)} {x1 : Int32} (hA : zAdv N one) (h1 : zCM X (k + 7) 8 F N one 70 [.ref 7, .int (Int32.ofInt 2), .int x1]) : zCM X (k + 8) 8 F N (zpTest (zlx F N) one) 73 [.ref 7, .int x1] := by
  intro d m ce sl I L t r q tk0 s0 hB0 hS0 hl0
  have en : ∀ rr : ZR, (∀ M, z_loop X z_cf z_ff (z_pu (z_run X z_cf z_ff (d + k + 4 + 3))) 73 (M + 20) 0 [(0, .ref 7), (1, .int x1)] [] (118, z_sd m, ce, sl, I, L, z_rr t 8 r q (z_gg m) (z_sf m)) = rr) → z_pu (z_run X z_cf z_ff (d + (k + 8))) 73 [.ref 7, .int x1] (118, z_sd m, ce, sl, I, L, z_rr t 8 r q (z_gg m) (z_sf m)) = rr := fun rr h => z_en X (d + k + 5) _ _ [(0, .ref 7), (1, .int x1)] _ _ rfl rfl rfl (h 99999980)
  obtain ⟨e1, e2⟩ := h1 d m ce sl I L t r q tk0 s0 hB0 hS0 hl0
  rw [show d + (k + 7) = d + k + 4 + 3 by omega] at e1 e2
  have hR : zpTest (zlx F N) one tk0 = match one tk0 with
      | .inl e => .inl e
      | .inr (tk', s) => if zlev tk'.1 = 4 then match one (zlx F N tk'.2.2.1) with
          | .inl e => .inl e
          | .inr (tk2, s2) => .inr (tk2, s ++ s2 ++ [-tk'.1])
        else .inr (tk', s) := rfl
  cases hx : one tk0 with
  | inl y0 =>
    rw [hx] at hR
    have hR' : zpTest (zlx F N) one tk0 = .inl y0 := hR
    rw [hR']
    refine ⟨fun e he => ?_, fun tk' s he => absurd he (by simp)⟩
    injection he with he
    subst he
    obtain ⟨J2, b1, b2, b3, b4⟩ := e1 y0 hx
    exact ⟨J2, b1, b2, b3, en _ (fun M => by rw [zb_Reader_readTest_0, b4, z_bi_v, zb_Reader_readTest_6, if_pos (by decide), z_b1_0, z_gd_t])⟩
  | inr y0 =>
    obtain ⟨tk1, s1⟩ := y0
    rw [hx] at hR
    have hR' : zpTest (zlx F N) one tk0 = if zlev tk1.1 = 4 then match one (zlx F N tk1.2.2.1) with
          | .inl e => .inl e
          | .inr (tk2, s2) => .inr (tk2, s1 ++ s2 ++ [-tk1.1])
        else .inr (tk1, s1) := hR
    obtain ⟨K, b1, b2, b3, b4, b5, b6⟩ := e2 tk1 s1 hx
    obtain ⟨A1, A2, A3⟩ := hA _ hB0.2.1 _ _ hx
    have k5 : (K 7 5).toInt = tk1.1 := b4.1.1
    by_cases c : zlev tk1.1 = 4
    · have hk0 := zlev_0 c (by omega)
      rw [if_pos c] at hR'
      obtain ⟨J1, a1, a2, a3, a4⟩ := zC_tok X (d + k + 1) m ce sl K L t 8 r q hN4 b4 hk0
      obtain ⟨n1, n2⟩ := zTO_nx (zlx_ok F N) b4.2.1 hk0
      have S1 : zCS 8 (s0 ++ s1) J1 := zCS_r (a1 8 (by omega)) (a1 9 (by omega)) b5
      have F1 : zFrm 8 K J1 := zFrm_7 (by omega) a1 (fun j hj => a2 j (by omega))
      have hlen1 : (s0 ++ s1).length = s0.length + s1.length := List.length_append
      obtain ⟨f1, f2⟩ := h1 d m ce sl J1 L t r q (zlx F N tk1.2.2.1) (s0 ++ s1) a3 S1 (by omega)
      rw [show d + (k + 7) = d + k + 4 + 3 by omega] at f1 f2
      have st : ∀ M, z_loop X z_cf z_ff (z_pu (z_run X z_cf z_ff (d + k + 4 + 3))) 73 (M + 20) 0 [(0, .ref 7), (1, .int x1)] [] (118, z_sd m, ce, sl, I, L, z_rr t 8 r q (z_gg m) (z_sf m)) = z_loop X z_cf z_ff (z_pu (z_run X z_cf z_ff (d + k + 4 + 3))) 73 (M + 18) 38 [(0, .ref 7), (1, .int x1), (2, .int (K 7 5))] [] (118, z_sd m, ce, sl, J1, L, z_rr t 8 r q (z_gg m) (z_sf m)) := by
        intro M
        rw [zb_Reader_readTest_0, b6, z_bi_v, zb_Reader_readTest_6, if_neg (by decide)]
        by_cases c60 : tk1.1 = 60
        · rw [if_pos (y_i_eq.mpr (by rw [k5, c60]; rfl)), a4, z_b0_v]
        · have c61 : tk1.1 = 61 := by
            have := zlev_4.mp c
            omega
          rw [if_neg (y_lit (by rw [k5]; exact c60) (by omega) (by omega)), if_pos (y_i_eq.mpr (by rw [k5, c61]; rfl)), a4, z_b0_v]
      cases hy : one (zlx F N tk1.2.2.1) with
      | inl y0 =>
        rw [hy] at hR'
        have hR2 : zpTest (zlx F N) one tk0 = .inl y0 := hR'
        rw [hR2]
        refine ⟨fun e he => ?_, fun tk' s he => absurd he (by simp)⟩
        injection he with he
        subst he
        obtain ⟨J2, g1, g2, g3, g4⟩ := f1 y0 hy
        refine ⟨J2, zFrm_t b1 (zFrm_t F1 g1), g2, g3, en _ (fun M => ?_)⟩
        rw [st, zb_Reader_readTest_38, g4, z_bi_v, zt_Reader_readTest_44_8, if_pos (by decide)]
      | inr y0 =>
        obtain ⟨tk2, s2⟩ := y0
        rw [hy] at hR'
        have hR2 : zpTest (zlx F N) one tk0 = .inr (tk2, s1 ++ s2 ++ [-tk1.1]) := hR'
        rw [hR2]
        refine ⟨fun e he => absurd he (by simp), fun tk' s he => ?_⟩
        injection he with he
        injection he with v1 v2
        subst v1
        subst v2
        obtain ⟨J2, g1, g2, g3, g4, g5, g6⟩ := f2 tk2 s2 hy
        obtain ⟨B1, B2, B3⟩ := hA _ n1 _ _ hy
        have hlen : (s0 ++ s1 ++ s2).length = (s0 ++ s1).length + s2.length := List.length_append
        have hneg : (-(K 7 5)).toInt = -tk1.1 := by
          have hkk := (zlev_k c (by omega)).1
          rw [y_neg (by rw [k5]; omega), k5]
        have hB1 := B1.1
        have g51 := g5.1
        have r1 : ¬ Int32.ofInt 400 ≤ J2 8 1 := by rw [y_i_le]; show ¬ (400 : Int) ≤ _; omega
        have r2 : z_in (J2 8 1) 400 = true := y_in_t (by omega) (by omega)
        have es : s0 ++ (s1 ++ s2 ++ [-tk1.1]) = (s0 ++ s1 ++ s2) ++ [(-(K 7 5)).toInt] := by rw [hneg]; simp only [List.append_assoc]
        have p1 : (z_up (z_up J2 9 (J2 8 1).toNatClampNeg (-(K 7 5))) 8 1 (J2 8 1 + Int32.ofInt 1)) 7 = J2 7 := by rw [z_up_r _ _ _ _ _ (by omega), z_up_r _ _ _ _ _ (by omega)]
        have p2 : (z_up (z_up J2 9 (J2 8 1).toNatClampNeg (-(K 7 5))) 8 1 (J2 8 1 + Int32.ofInt 1)) 6 = J2 6 := by rw [z_up_r _ _ _ _ _ (by omega), z_up_r _ _ _ _ _ (by omega)]
        refine ⟨(z_up (z_up J2 9 (J2 8 1).toNatClampNeg (-(K 7 5))) 8 1 (J2 8 1 + Int32.ofInt 1)), zFrm_t b1 (zFrm_t F1 (zFrm_t g1 (zFrm_p (D := 8) (by omega) J2 (J2 8 1).toNatClampNeg (-(K 7 5)) (J2 8 1 + Int32.ofInt 1)))), by rw [p1, g2, a2 10 (by omega), b2], by rw [p1, g3, a2 11 (by omega), b3], zCB_r p1 p2 g4, by rw [es]; exact zCS_p (-(K 7 5)) g5 (by omega), en _ (fun M => ?_)⟩
        rw [st, zb_Reader_readTest_38, g6, z_bi_v, zt_Reader_readTest_44_8, if_neg (by decide), if_neg r1, r2, z_gd_t]
    · rw [if_neg c] at hR'
      rw [hR']
      refine ⟨fun e he => absurd he (by simp), fun tk' s he => ?_⟩
      injection he with he
      injection he with v1 v2
      subst v1
      subst v2
      have c6 : ¬ (tk1.1 = 60 ∨ tk1.1 = 61) := fun h => c (zlev_4.mpr h)
      refine ⟨K, b1, b2, b3, b4, b5, en _ (fun M => ?_)⟩
      rw [zb_Reader_readTest_0, b6, z_bi_v, zb_Reader_readTest_6, if_neg (by decide), if_neg (y_lit (by rw [k5]; omega) (by omega) (by omega)), if_neg (y_lit (by rw [k5]; omega) (by omega) (by omega)), zb_Reader_readTest_58, z_b1_1, z_gd_t]
theorem zC_nots_8 {X : ZX} {k : Nat} {F : Nat → Int} {N : Nat} (hN4 : N ≤ 400) {one : zTk → zFl ⊕ (zTk × List Int)} {x1 : Int32} (hA : zAdv N one) (h1 : zCM X (k + 7) 8 F N one 73 [.ref 7, .int x1]) : zCM X (k + 8) 8 F N (zpNots (zlx F N) one 6) 72 [.ref 7, .int x1] := by
  intro d m ce sl I L t r q tk0 s0 hB0 hS0 hl0
  have en : ∀ rr : ZR, (∀ M, z_loop X z_cf z_ff (z_pu (z_run X z_cf z_ff (d + k + 4 + 3))) 72 (M + 60) 2 [(0, .ref 7), (1, .int x1), (2, .int (Int32.ofInt 0))] [] (118, z_sd m, ce, sl, I, L, z_rr t 8 r q (z_gg m) (z_sf m)) = rr) → z_pu (z_run X z_cf z_ff (d + (k + 8))) 72 [.ref 7, .int x1] (118, z_sd m, ce, sl, I, L, z_rr t 8 r q (z_gg m) (z_sf m)) = rr := fun rr h => z_en X (d + k + 5) _ _ [(0, .ref 7), (1, .int x1)] _ _ rfl rfl rfl ((zb_Reader_readNots_0 X _ 99999999 (z_sd m) ce sl I L t 8 r q (z_gg m) (z_sf m) x1).trans (h 99999939))
  -- the steps of so many
  have pu : ∀ (i : Nat) (n : Nat) (x2 x3 : Int32) (tk : zTk) (s : List Int) (K : Nat → Nat → Int32), x2.toInt = n → x3.toInt = (n : Int) - i → i ≤ n → n ≤ 6 → zCB F N tk K → zCS 8 (s0 ++ s) K → (s0 ++ s).length + i ≤ 400 → ∃ J : Nat → Nat → Int32, zFrm 8 K J ∧ J 7 10 = K 7 10 ∧ J 7 11 = K 7 11 ∧ zCB F N tk J ∧ zCS 8 (s0 ++ (s ++ List.replicate i (-110))) J ∧ ∀ M, z_loop X z_cf z_ff (z_pu (z_run X z_cf z_ff (d + k + 4 + 3))) 72 (M + 2 * i + 2) 51 [(0, .ref 7), (2, .int x2), (3, .int x3)] [] (118, z_sd m, ce, sl, K, L, z_rr t 8 r q (z_gg m) (z_sf m)) = some (.inl (some (.int (Int32.ofInt 1))), (118, z_sd m, ce, sl, J, L, z_rr t 8 r q (z_gg m) (z_sf m))) := by
    intro i
    induction i with
    | zero =>
      intro n x2 x3 tk s K g1 g2 g3 g4 g5 g6 g7
      refine ⟨K, zFrm_r K, rfl, rfl, g5, by rw [List.replicate_zero, List.append_nil]; exact g6, fun M => ?_⟩
      rw [show M + 2 * 0 + 2 = M + 2 by omega, zt_Reader_readNots_51_8, if_pos (by rw [y_i_le]; omega)]
    | succ i ih =>
      intro n x2 x3 tk s K g1 g2 g3 g4 g5 g6 g7
      have g61 := g6.1
      have r1 : ¬ Int32.ofInt 400 ≤ K 8 1 := by rw [y_i_le]; show ¬ (400 : Int) ≤ _; omega
      have r2 : z_in (K 8 1) 400 = true := y_in_t (by omega) (by omega)
      have p1 : (z_up (z_up K 9 (K 8 1).toNatClampNeg (Int32.ofInt (-110))) 8 1 (K 8 1 + Int32.ofInt 1)) 7 = K 7 := by rw [z_up_r _ _ _ _ _ (by omega), z_up_r _ _ _ _ _ (by omega)]
      have p2 : (z_up (z_up K 9 (K 8 1).toNatClampNeg (Int32.ofInt (-110))) 8 1 (K 8 1 + Int32.ofInt 1)) 6 = K 6 := by rw [z_up_r _ _ _ _ _ (by omega), z_up_r _ _ _ _ _ (by omega)]
      have es : s0 ++ (s ++ [-110]) = (s0 ++ s) ++ [(Int32.ofInt (-110)).toInt] := by
        rw [show (Int32.ofInt (-110)).toInt = -110 from rfl, List.append_assoc]
      have S1 : zCS 8 (s0 ++ (s ++ [-110])) (z_up (z_up K 9 (K 8 1).toNatClampNeg (Int32.ofInt (-110))) 8 1 (K 8 1 + Int32.ofInt 1)) := by rw [es]; exact zCS_p (Int32.ofInt (-110)) g6 (by omega)
      obtain ⟨J, j1, j2, j3, j4, j5, j6⟩ := ih n x2 (x3 + Int32.ofInt 1) tk (s ++ [-110]) (z_up (z_up K 9 (K 8 1).toNatClampNeg (Int32.ofInt (-110))) 8 1 (K 8 1 + Int32.ofInt 1)) g1 (by rw [y_adl (by omega) (by omega) (by omega) (by omega)]; omega) (by omega) g4 (zCB_r p1 p2 g5) S1 (by rw [es, List.length_append]; show (s0 ++ s).length + 1 + i ≤ 400; omega)
      refine ⟨J, zFrm_t (zFrm_p (D := 8) (by omega) K (K 8 1).toNatClampNeg (Int32.ofInt (-110)) (K 8 1 + Int32.ofInt 1)) j1, by rw [j2, p1], by rw [j3, p1], j4, ?_, fun M => ?_⟩
      · rw [List.replicate_succ]
        have : s ++ [-110] ++ List.replicate i (-110) = s ++ (-110) :: List.replicate i (-110) := by rw [List.append_assoc]; rfl
        rw [← this]
        exact j5
      · rw [show M + 2 * (i + 1) + 2 = (M + 2 * i + 2) + 2 by omega, zt_Reader_readNots_51_8, if_neg (by rw [y_i_le]; omega), if_neg r1, r2, z_gd_t, j6]
  have lp : ∀ (rr n : Nat) (x2 : Int32) (tk : zTk) (K : Nat → Nat → Int32), n + rr = 6 → x2.toInt = n → zCB F N tk K → zCS 8 s0 K → s0.length + n ≤ tk.2.1 → zFrm 8 I K → K 7 10 = I 7 10 → K 7 11 = I 7 11 →
      (∀ e, zpNots (zlx F N) one rr tk = .inl e → ∃ J : Nat → Nat → Int32, zFrm 8 I J ∧ (J 7 10).toInt = e.1 ∧ (J 7 11).toInt = e.2 ∧ ∀ M, z_loop X z_cf z_ff (z_pu (z_run X z_cf z_ff (d + k + 4 + 3))) 72 (M + 2 * rr + 30) 2 [(0, .ref 7), (1, .int x1), (2, .int x2)] [] (118, z_sd m, ce, sl, K, L, z_rr t 8 r q (z_gg m) (z_sf m)) = some (.inl (some (.int (Int32.ofInt 0))), (118, z_sd m, ce, sl, J, L, z_rr t 8 r q (z_gg m) (z_sf m)))) ∧
      (∀ tk' s', zpNots (zlx F N) one rr tk = .inr (tk', s') → ∃ J : Nat → Nat → Int32, zFrm 8 I J ∧ J 7 10 = I 7 10 ∧ J 7 11 = I 7 11 ∧ zCB F N tk' J ∧ zCS 8 (s0 ++ (s' ++ List.replicate n (-110))) J ∧ ∀ M, z_loop X z_cf z_ff (z_pu (z_run X z_cf z_ff (d + k + 4 + 3))) 72 (M + 2 * rr + 30) 2 [(0, .ref 7), (1, .int x1), (2, .int x2)] [] (118, z_sd m, ce, sl, K, L, z_rr t 8 r q (z_gg m) (z_sf m)) = some (.inl (some (.int (Int32.ofInt 1))), (118, z_sd m, ce, sl, J, L, z_rr t 8 r q (z_gg m) (z_sf m)))) := by
    intro rr
    have stop : ∀ (rr n : Nat) (x2 : Int32) (tk : zTk) (K : Nat → Nat → Int32), n + rr = 6 → x2.toInt = n → zCB F N tk K → zCS 8 s0 K → s0.length + n ≤ tk.2.1 → zFrm 8 I K → K 7 10 = I 7 10 → K 7 11 = I 7 11 → tk.1 ≠ 110 →
        (∀ e, one tk = .inl e → ∃ J : Nat → Nat → Int32, zFrm 8 I J ∧ (J 7 10).toInt = e.1 ∧ (J 7 11).toInt = e.2 ∧ ∀ M, z_loop X z_cf z_ff (z_pu (z_run X z_cf z_ff (d + k + 4 + 3))) 72 (M + 2 * rr + 30) 2 [(0, .ref 7), (1, .int x1), (2, .int x2)] [] (118, z_sd m, ce, sl, K, L, z_rr t 8 r q (z_gg m) (z_sf m)) = some (.inl (some (.int (Int32.ofInt 0))), (118, z_sd m, ce, sl, J, L, z_rr t 8 r q (z_gg m) (z_sf m)))) ∧
        (∀ tk' s', one tk = .inr (tk', s') → ∃ J : Nat → Nat → Int32, zFrm 8 I J ∧ J 7 10 = I 7 10 ∧ J 7 11 = I 7 11 ∧ zCB F N tk' J ∧ zCS 8 (s0 ++ (s' ++ List.replicate n (-110))) J ∧ ∀ M, z_loop X z_cf z_ff (z_pu (z_run X z_cf z_ff (d + k + 4 + 3))) 72 (M + 2 * rr + 30) 2 [(0, .ref 7), (1, .int x1), (2, .int x2)] [] (118, z_sd m, ce, sl, K, L, z_rr t 8 r q (z_gg m) (z_sf m)) = some (.inl (some (.int (Int32.ofInt 1))), (118, z_sd m, ce, sl, J, L, z_rr t 8 r q (z_gg m) (z_sf m)))) := by
      intro rr n x2 tk K g0 g1 g2 g3 g4 g5 g6 g7 c
      have n6 : ¬ Int32.ofInt 6 < x2 := by rw [y_i_lt, g1]; show ¬ (6 : Int) < _; omega
      have nn : ¬ K 7 5 = Int32.ofInt 110 := y_lit (by rw [g2.1.1]; exact c) (by omega) (by omega)
      obtain ⟨e1, e2⟩ := h1 d m ce sl K L t r q tk s0 g2 g3 (by omega)
      rw [show d + (k + 7) = d + k + 4 + 3 by omega] at e1 e2
      refine ⟨fun e he => ?_, fun tk' s' he => ?_⟩
      · obtain ⟨J2, b1, b2, b3, b4⟩ := e1 e he
        refine ⟨J2, zFrm_t g5 b1, b2, b3, fun M => ?_⟩
        rw [show M + 2 * rr + 30 = (M + 2 * rr + 28) + 2 by omega, zt_Reader_readNots_2, if_neg n6, if_neg nn, b4, z_bi_v, zb_Reader_readNots_44, if_pos (by decide), z_b1_0, z_gd_t]
      · obtain ⟨J2, b1, b2, b3, b4, b5, b6⟩ := e2 tk' s' he
        obtain ⟨A1, A2, A3⟩ := hA _ g2.2.1 _ _ he
        have hA1 := A1.1
        have hlen : (s0 ++ s').length = s0.length + s'.length := List.length_append
        obtain ⟨J, j1, j2, j3, j4, j5, j6⟩ := pu n n x2 (Int32.ofInt 0) tk' s' J2 g1 (by show (0 : Int) = _; omega) (Nat.le_refl _) (by omega) b4 b5 (by omega)
        refine ⟨J, zFrm_t g5 (zFrm_t b1 j1), by rw [j2, b2, g6], by rw [j3, b3, g7], j4, j5, fun M => ?_⟩
        rw [show M + 2 * rr + 30 = (M + 2 * rr + 26 - 2 * n + 2 * n + 2) + 2 by omega, zt_Reader_readNots_2, if_neg n6, if_neg nn, b6, z_bi_v, zb_Reader_readNots_44, if_neg (by decide), j6]
    induction rr with
    | zero =>
      intro n x2 tk K g0 g1 g2 g3 g4 g5 g6 g7
      by_cases c : tk.1 = 110
      · have hL : zpNots (zlx F N) one 0 tk = .inl (2, tk.2.1) := by
          show (if tk.1 = 110 then _ else _) = _
          rw [if_pos c]
        rw [hL]
        refine ⟨fun e he => ?_, fun tk' s he => absurd he (by simp)⟩
        injection he with he
        subst he
        refine ⟨z_up (z_up K 7 10 (Int32.ofInt 2)) 7 11 (K 7 6), zFrm_t g5 (zFrm_f (by omega) K (Int32.ofInt 2) (K 7 6)), by rw [z_up_j _ _ _ _ _ (by omega), z_up_s]; rfl, by rw [z_up_s]; exact g2.1.2.1, fun M => ?_⟩
        rw [show M + 2 * 0 + 30 = (M + 28) + 2 by omega, zt_Reader_readNots_2, if_neg (by rw [y_i_lt, g1]; show ¬ (6 : Int) < _; omega), if_pos (y_i_eq.mpr (by rw [g2.1.1, c]; rfl)), if_pos (y_i_eq.mpr (by rw [g1]; show _ = (6 : Int); omega))]
      · have hL : zpNots (zlx F N) one 0 tk = one tk := by
          show (if tk.1 = 110 then _ else _) = _
          rw [if_neg c]
        rw [hL]
        exact stop 0 n x2 tk K g0 g1 g2 g3 g4 g5 g6 g7 c
    | succ rr ih =>
      intro n x2 tk K g0 g1 g2 g3 g4 g5 g6 g7
      by_cases c : tk.1 = 110
      · have hL : zpNots (zlx F N) one (rr + 1) tk = match zpNots (zlx F N) one rr (zlx F N tk.2.2.1) with
            | .inl e => .inl e
            | .inr (tk', s) => .inr (tk', s ++ [-110]) := by
          show (if tk.1 = 110 then _ else _) = _
          rw [if_pos c]
          rfl
        obtain ⟨J1, a1, a2, a3, a4⟩ := zC_tok X (d + k + 1) m ce sl K L t 8 r q hN4 g2 (by omega)
        obtain ⟨n1, n2⟩ := zTO_nx (zlx_ok F N) g2.2.1 (by omega)
        obtain ⟨m1, m2⟩ := ih (n + 1) (x2 + Int32.ofInt 1) (zlx F N tk.2.2.1) J1 (by omega) (by rw [y_adl (by omega) (by omega) (by omega) (by omega)]; omega) a3 (zCS_r (a1 8 (by omega)) (a1 9 (by omega)) g3) (by omega) (zFrm_t g5 (zFrm_7 (by omega) a1 (fun j hj => a2 j (by omega)))) (by rw [a2 10 (by omega), g6]) (by rw [a2 11 (by omega), g7])
        have st : ∀ M, z_loop X z_cf z_ff (z_pu (z_run X z_cf z_ff (d + k + 4 + 3))) 72 (M + 2 * (rr + 1) + 30) 2 [(0, .ref 7), (1, .int x1), (2, .int x2)] [] (118, z_sd m, ce, sl, K, L, z_rr t 8 r q (z_gg m) (z_sf m)) = z_loop X z_cf z_ff (z_pu (z_run X z_cf z_ff (d + k + 4 + 3))) 72 (M + 2 * rr + 30) 2 [(0, .ref 7), (1, .int x1), (2, .int (x2 + Int32.ofInt 1))] [] (118, z_sd m, ce, sl, J1, L, z_rr t 8 r q (z_gg m) (z_sf m)) := by
          intro M
          rw [show M + 2 * (rr + 1) + 30 = (M + 2 * rr + 30) + 2 by omega, zt_Reader_readNots_2, if_neg (by rw [y_i_lt, g1]; show ¬ (6 : Int) < _; omega), if_pos (y_i_eq.mpr (by rw [g2.1.1, c]; rfl)), if_neg (y_lit (by rw [g1]; omega) (by omega) (by omega)), a4, z_b0_v, zb_Reader_readNots_36]
        cases hx : zpNots (zlx F N) one rr (zlx F N tk.2.2.1) with
        | inl y0 =>
          rw [hx] at hL
          have hL' : zpNots (zlx F N) one (rr + 1) tk = .inl y0 := hL
          rw [hL']
          refine ⟨fun e he => ?_, fun tk' s he => absurd he (by simp)⟩
          injection he with he
          subst he
          obtain ⟨J, q1, q2, q3, q4⟩ := m1 y0 hx
          exact ⟨J, q1, q2, q3, fun M => by rw [st, q4]⟩
        | inr y0 =>
          obtain ⟨tk2, s2⟩ := y0
          rw [hx] at hL
          have hL' : zpNots (zlx F N) one (rr + 1) tk = .inr (tk2, s2 ++ [-110]) := hL
          rw [hL']
          refine ⟨fun e he => absurd he (by simp), fun tk' s' he => ?_⟩
          injection he with he
          injection he with v1 v2
          subst v1
          subst v2
          obtain ⟨J, q1, q2, q3, q4, q5, q6⟩ := m2 tk2 s2 hx
          refine ⟨J, q1, q2, q3, q4, ?_, fun M => by rw [st, q6]⟩
          have e : s2 ++ [-110] ++ List.replicate n (-110) = s2 ++ List.replicate (n + 1) (-110) := by
            rw [List.append_assoc, List.replicate_succ]
            rfl
          rw [e]
          exact q5
      · have hL : zpNots (zlx F N) one (rr + 1) tk = one tk := by
          show (if tk.1 = 110 then _ else _) = _
          rw [if_neg c]
        rw [hL]
        exact stop (rr + 1) n x2 tk K g0 g1 g2 g3 g4 g5 g6 g7 c
  obtain ⟨m1, m2⟩ := lp 6 0 (Int32.ofInt 0) tk0 I rfl rfl hB0 hS0 (by omega) (zFrm_r I) rfl rfl
  refine ⟨fun e he => ?_, fun tk' s' he => ?_⟩
  · obtain ⟨J, q1, q2, q3, q4⟩ := m1 e he
    exact ⟨J, q1, q2, q3, en _ (fun M => by rw [show M + 60 = (M + 18) + 2 * 6 + 30 by omega, q4])⟩
  · obtain ⟨J, q1, q2, q3, q4, q5, q6⟩ := m2 tk' s' he
    refine ⟨J, q1, q2, q3, q4, ?_, en _ (fun M => by rw [show M + 60 = (M + 18) + 2 * 6 + 30 by omega, q6])⟩
    rw [List.replicate_zero, List.append_nil] at q5
    exact q5
theorem zC_expr_8 {X : ZX} {F : Nat → Int} {N : Nat} (hN4 : N ≤ 400) : ∀ (rr : Nat) (x1 : Int32), rr ≤ 6 → x1.toInt = 6 - (rr : Int) → zCM X (12 * rr + 8) 8 F N (zpExpr (zlx F N) rr) 68 [.ref 7, .int x1] := by
  intro rr
  induction rr with
  | zero =>
    intro x1 h6 hx d m ce sl I L t r q tk s0 hB hS hl
    have k5 : (I 7 5).toInt = tk.1 := hB.1.1
    have n5 : ¬ x1 ≤ Int32.ofInt 5 := by rw [y_i_le, hx]; show ¬ _ ≤ (5 : Int); omega
    have hP : zpExpr (zlx F N) 0 tk = .inl (zbgk tk.1, tk.2.1) := rfl
    rw [hP]
    refine ⟨fun e he => ?_, fun tk' s he => absurd he (by simp)⟩
    injection he with he
    subst he
    have hz : (Int32.ofInt (zbgk tk.1)).toInt = zbgk tk.1 := by
      rcases zbgk_r tk.1 with h | h <;> rw [h] <;> rfl
    refine ⟨z_up (z_up I 7 10 (Int32.ofInt (zbgk tk.1))) 7 11 (I 7 6), zFrm_f (by omega) I _ _, by rw [z_up_j _ _ _ _ _ (by omega), z_up_s]; exact hz, by rw [z_up_s]; exact hB.1.2.1, ?_⟩
    rw [show d + (12 * 0 + 8) = d + 5 + 3 by omega]
    refine z_en X (d + 5) _ _ [(0, .ref 7), (1, .int x1)] _ _ rfl rfl rfl ?_
    rw [show (100000000 : Nat) = 99999998 + 2 by omega, zt_Reader_readExpression_0 X (d + 4), if_neg n5]
    unfold zbgk
    by_cases c2 : tk.1 = 2
    · rw [if_pos (y_i_eq.mpr (by rw [k5, c2]; rfl)), if_pos (Or.inl c2)]
    · rw [if_neg (y_lit (by rw [k5]; exact c2) (by omega) (by omega))]
      by_cases c40 : tk.1 = 40
      · rw [if_pos (y_i_eq.mpr (by rw [k5, c40]; rfl)), if_pos (Or.inr (Or.inl c40))]
      · rw [if_neg (y_lit (by rw [k5]; exact c40) (by omega) (by omega))]
        by_cases cw : tk.1 < 100
        · rw [if_pos ((y_word0 _).mpr (by rw [k5]; exact cw)), if_neg (by omega)]
        · rw [if_neg (fun h => cw (by rw [← k5]; exact (y_word0 _).mp h)), if_pos (by omega)]
  | succ rr ih =>
    intro x1 h6 hx
    have hl := zlx_ok F N
    have aE := zAdv_expr hl rr
    have a0 := zAdv_part hl aE
    have a6 := zAdv_row hl (sg := 6) (by omega) a0
    have a5 := zAdv_row hl (sg := 5) (by omega) a6
    have a4 := zAdv_test hl a5
    have a3 := zAdv_nots hl a4 6
    have a2 := zAdv_row hl (sg := 2) (by omega) a3
    have hE := ih (x1 + Int32.ofInt 1) (by omega) (by rw [y_adl (by omega) (by omega) (by omega) (by omega)]; omega)
    have c0 : zCM X (12 * rr + 9) 8 F N (zpPart (zlx F N) (zpExpr (zlx F N) rr)) 75 [.ref 7, .int x1] := zC_part_8 (k := 12 * rr + 1) hN4 hE
    have c0' : zCM X (12 * rr + 10) 8 F N (zpPart (zlx F N) (zpExpr (zlx F N) rr)) 71 [.ref 7, .int (Int32.ofInt 3), .int x1] := zC_one3 (k := 12 * rr + 7) c0
    have c6 := zC_row_8 (k := 12 * rr + 3) hN4 zkg_3 (by omega) a0 c0'
    have c6' := zC_one2 (k := 12 * rr + 9) c6
    have c5 := zC_row_8 (k := 12 * rr + 5) hN4 zkg_2 (by omega) a6 c6'
    have c4 := zC_test_8 (k := 12 * rr + 6) hN4 a5 c5
    have c3 := zC_nots_8 (k := 12 * rr + 7) hN4 a4 c4
    have c3' := zC_one1 (k := 12 * rr + 13) c3
    have c2 := zC_row_8 (k := 12 * rr + 9) hN4 zkg_1 (by omega) a3 c3'
    have c2' := zC_one0 (k := 12 * rr + 15) c2
    have c1 := zC_row_8 (k := 12 * rr + 11) hN4 zkg_0 (by omega) a2 c2'
    intro d m ce sl I L t r q tk s0 hB hS hl0
    have i5 : x1 ≤ Int32.ofInt 5 := by rw [y_i_le, hx]; show _ ≤ (5 : Int); omega
    have hP : zpExpr (zlx F N) (rr + 1) tk = zpRow (zlx F N) 1 (zpRow (zlx F N) 2 (zpAnds (zlx F N) (zpExpr (zlx F N) rr))) tk := rfl
    rw [hP]
    obtain ⟨e1, e2⟩ := c1 d m ce sl I L t r q tk s0 hB hS hl0
    rw [show d + (12 * rr + 11 + 8) = d + (12 * rr + 11) + 5 + 3 by omega] at e1 e2
    have en : ∀ v : ZR, (∀ M, z_loop X z_cf z_ff (z_pu (z_run X z_cf z_ff (d + (12 * rr + 11) + 5 + 3))) 68 (M + 20) 0 [(0, .ref 7), (1, .int x1)] [] (118, z_sd m, ce, sl, I, L, z_rr t 8 r q (z_gg m) (z_sf m)) = v) → z_pu (z_run X z_cf z_ff (d + (12 * (rr + 1) + 8))) 68 [.ref 7, .int x1] (118, z_sd m, ce, sl, I, L, z_rr t 8 r q (z_gg m) (z_sf m)) = v := by
      intro v h
      rw [show d + (12 * (rr + 1) + 8) = d + (12 * rr + 11) + 6 + 3 by omega]
      exact z_en X (d + (12 * rr + 11) + 6) _ _ [(0, .ref 7), (1, .int x1)] _ _ rfl rfl rfl (h 99999980)
    refine ⟨fun e he => ?_, fun tk' s he => ?_⟩
    · obtain ⟨J, q1, q2, q3, q4⟩ := e1 e he
      exact ⟨J, q1, q2, q3, en _ (fun M => by rw [zt_Reader_readExpression_0, if_pos i5, q4, z_bi_v, zb_Reader_readExpression_58, z_b1_0, z_gd_t])⟩
    · obtain ⟨J, q1, q2, q3, q4, q5, q6⟩ := e2 tk' s he
      exact ⟨J, q1, q2, q3, q4, q5, en _ (fun M => by rw [zt_Reader_readExpression_0, if_pos i5, q6, z_bi_v, zb_Reader_readExpression_58, z_b1_1, z_gd_t])⟩
theorem zC_part_15 {X : ZX} {k : Nat} {F : Nat → Int} {N : Nat} (hN4 : N ≤ 400) {E : zTk → zFl ⊕ (zTk × List Int)} {x1 : Int32} (hE : zCM X (k + 7) 15 F N E 68 [.ref 7, .int (x1 + Int32.ofInt 1)]) : zCM X (k + 8) 15 F N (zpPart (zlx F N) E) 75 [.ref 7, .int x1] := by
  intro d m ce sl I L t r q tk s0 hB hS hl
  have k5 : (I 7 5).toInt = tk.1 := hB.1.1
  have k6 : (I 7 6).toInt = tk.2.1 := hB.1.2.1
  have hTO := hB.2.1
  have en : ∀ rr : ZR, (∀ M, z_loop X z_cf z_ff (z_pu (z_run X z_cf z_ff (d + k + 3 + 4))) 75 (M + 20) 0 [(0, .ref 7), (1, .int x1)] [] (118, z_sd m, ce, sl, I, L, z_rr t 15 r q (z_gg m) (z_sf m)) = rr) → z_pu (z_run X z_cf z_ff (d + (k + 8))) 75 [.ref 7, .int x1] (118, z_sd m, ce, sl, I, L, z_rr t 15 r q (z_gg m) (z_sf m)) = rr := fun rr h => z_en X (d + k + 5) _ _ [(0, .ref 7), (1, .int x1)] _ _ rfl rfl rfl (h 99999980)
  have bad : ∀ (v : Int) (rr : ZR), -2147483648 ≤ v → v ≤ 2147483647 → (∀ M, z_loop X z_cf z_ff (z_pu (z_run X z_cf z_ff (d + k + 3 + 4))) 75 (M + 20) 0 [(0, .ref 7), (1, .int x1)] [] (118, z_sd m, ce, sl, I, L, z_rr t 15 r q (z_gg m) (z_sf m)) = some (.inl (some (.int (Int32.ofInt 0))), (118, z_sd m, ce, sl, (z_up (z_up I 7 10 (Int32.ofInt v)) 7 11 (I 7 6)), L, z_rr t 15 r q (z_gg m) (z_sf m)))) → ∀ e : zFl, (v, tk.2.1) = e → ∃ J : Nat → Nat → Int32, zFrm 15 I J ∧ (J 7 10).toInt = e.1 ∧ (J 7 11).toInt = e.2 ∧ z_pu (z_run X z_cf z_ff (d + (k + 8))) 75 [.ref 7, .int x1] (118, z_sd m, ce, sl, I, L, z_rr t 15 r q (z_gg m) (z_sf m)) = some (.inl (some (.int (Int32.ofInt 0))), (118, z_sd m, ce, sl, J, L, z_rr t 15 r q (z_gg m) (z_sf m))) := by
    intro v rr v1 v2 h e he
    subst he
    exact ⟨z_up (z_up I 7 10 (Int32.ofInt v)) 7 11 (I 7 6), zFrm_f (by omega) I _ _, by rw [z_up_j _ _ _ _ _ (by omega), z_up_s]; exact y_oi v1 v2, by rw [z_up_s]; exact k6, en _ h⟩
  have good : ∀ (v : Int32) , tk.1 ≠ 0 → (∀ (J : Nat → Nat → Int32), z_pu (z_run X z_cf z_ff (d + k + 3 + 4)) 56 [.ref 7] (118, z_sd m, ce, sl, (z_up (z_up I 16 (I 15 1).toNatClampNeg v) 15 1 (I 15 1 + Int32.ofInt 1)), L, z_rr t 15 r q (z_gg m) (z_sf m)) = some (.inl none, (118, z_sd m, ce, sl, J, L, z_rr t 15 r q (z_gg m) (z_sf m))) → ∀ M, z_loop X z_cf z_ff (z_pu (z_run X z_cf z_ff (d + k + 3 + 4))) 75 (M + 20) 0 [(0, .ref 7), (1, .int x1)] [] (118, z_sd m, ce, sl, I, L, z_rr t 15 r q (z_gg m) (z_sf m)) = some (.inl (some (.int (Int32.ofInt 1))), (118, z_sd m, ce, sl, J, L, z_rr t 15 r q (z_gg m) (z_sf m)))) → ∀ tk' s, ((zlx F N tk.2.2.1, [v.toInt]) : zTk × List Int) = (tk', s) → ∃ J : Nat → Nat → Int32, zFrm 15 I J ∧ J 7 10 = I 7 10 ∧ J 7 11 = I 7 11 ∧ zCB F N tk' J ∧ zCS 15 (s0 ++ s) J ∧ z_pu (z_run X z_cf z_ff (d + (k + 8))) 75 [.ref 7, .int x1] (118, z_sd m, ce, sl, I, L, z_rr t 15 r q (z_gg m) (z_sf m)) = some (.inl (some (.int (Int32.ofInt 1))), (118, z_sd m, ce, sl, J, L, z_rr t 15 r q (z_gg m) (z_sf m))) := by
    intro v hk h tk' s he
    injection he with v1 v2
    subst v1
    subst v2
    obtain ⟨n1, n2⟩ := zTO_nx (zlx_ok F N) hTO hk
    have hnN := n1.1
    have p1 : (z_up (z_up I 16 (I 15 1).toNatClampNeg v) 15 1 (I 15 1 + Int32.ofInt 1)) 7 = I 7 := by rw [z_up_r _ _ _ _ _ (by omega), z_up_r _ _ _ _ _ (by omega)]
    have p2 : (z_up (z_up I 16 (I 15 1).toNatClampNeg v) 15 1 (I 15 1 + Int32.ofInt 1)) 6 = I 6 := by rw [z_up_r _ _ _ _ _ (by omega), z_up_r _ _ _ _ _ (by omega)]
    obtain ⟨J, a1, a2, a3, a4⟩ := zC_tok X (d + k + 1) m ce sl (z_up (z_up I 16 (I 15 1).toNatClampNeg v) 15 1 (I 15 1 + Int32.ofInt 1)) L t 15 r q hN4 (zCB_r p1 p2 hB) hk
    refine ⟨J, zFrm_t (zFrm_p (D := 15) (by omega) I (I 15 1).toNatClampNeg v (I 15 1 + Int32.ofInt 1)) (zFrm_7 (by omega) a1 (fun j hj => a2 j (by omega))), ?_, ?_, a3, zCS_r (a1 15 (by omega)) (a1 16 (by omega)) (zCS_p v hS (by omega)), en _ (h J a4)⟩
    · rw [a2 10 (by omega), p1]
    · rw [a2 11 (by omega), p1]
  have room : tk.1 ≠ 0 → ¬ Int32.ofInt 400 ≤ I 15 1 ∧ z_in (I 15 1) 400 = true := by
    intro hk
    obtain ⟨n1, n2⟩ := zTO_nx (zlx_ok F N) hTO hk
    have hnN := n1.1
    have h1 := hS.1
    refine ⟨by rw [y_i_le]; show ¬ (400 : Int) ≤ _; omega, y_in_t (by omega) (by omega)⟩
  by_cases c40 : tk.1 = 40
  · have i40 : I 7 5 = Int32.ofInt 40 := y_eqi (by rw [k5, c40])
    obtain ⟨J1, a1, a2, a3, a4⟩ := zC_tok X (d + k + 1) m ce sl I L t 15 r q hN4 hB (by omega)
    obtain ⟨n1, n2⟩ := zTO_nx (zlx_ok F N) hTO (by omega)
    have S1 : zCS 15 s0 J1 := zCS_r (a1 15 (by omega)) (a1 16 (by omega)) hS
    have F1 : zFrm 15 I J1 := zFrm_7 (by omega) a1 (fun j hj => a2 j (by omega))
    obtain ⟨e1, e2⟩ := hE d m ce sl J1 L t r q (zlx F N tk.2.2.1) s0 a3 S1 (by omega)
    rw [show d + (k + 7) = d + k + 3 + 4 by omega] at e1 e2
    have hP : zpPart (zlx F N) E tk = match E (zlx F N tk.2.2.1) with
      | .inl e => .inl e
      | .inr (tk', s) => if tk'.1 = 41 then .inr (zlx F N tk'.2.2.1, s) else .inl (1, tk'.2.1) := by
      unfold zpPart
      rw [if_pos c40]
      rfl
    cases hx : E (zlx F N tk.2.2.1) with
    | inl y0 =>
      rw [hx] at hP
      have hP' : zpPart (zlx F N) E tk = .inl y0 := hP
      rw [hP']
      refine ⟨fun e he => ?_, fun tk' s he => absurd he (by simp)⟩
      injection he with he
      subst he
      obtain ⟨J2, b1, b2, b3, b4⟩ := e1 y0 hx
      refine ⟨J2, zFrm_t F1 b1, b2, b3, en _ (fun M => ?_)⟩
      rw [zt_Reader_readPart_0_15, if_pos i40, a4, z_b0_v, zb_Reader_readPart_13, b4, z_bi_v, zb_Reader_readPart_20, if_pos (by decide), z_b1_0, z_gd_t]
    | inr y0 =>
      obtain ⟨tk2, s2⟩ := y0
      rw [hx] at hP
      have hP' : zpPart (zlx F N) E tk = if tk2.1 = 41 then .inr (zlx F N tk2.2.2.1, s2) else .inl (1, tk2.2.1) := hP
      rw [hP']
      obtain ⟨J2, b1, b2, b3, b4, b5, b6⟩ := e2 tk2 s2 hx
      by_cases c41 : tk2.1 = 41
      · rw [if_pos c41]
        obtain ⟨J3, t1, t2, t3, t4⟩ := zC_take1 X (d + k) m ce sl J2 L t 15 r q hN4 b4 (Int32.ofInt 41) c41 (by omega)
        refine ⟨fun e he => absurd he (by simp), fun tk' s he => ?_⟩
        injection he with he
        injection he with v1 v2
        subst v1
        subst v2
        refine ⟨J3, zFrm_t (zFrm_t F1 b1) (zFrm_7 (by omega) t1 (fun j hj => t2 j (by omega))), ?_, ?_, t3, zCS_r (t1 15 (by omega)) (t1 16 (by omega)) b5, en _ (fun M => ?_)⟩
        · rw [t2 10 (by omega), b2, a2 10 (by omega)]
        · rw [t2 11 (by omega), b3, a2 11 (by omega)]
        · rw [zt_Reader_readPart_0_15, if_pos i40, a4, z_b0_v, zb_Reader_readPart_13, b6, z_bi_v, zb_Reader_readPart_20, if_neg (by decide), t4, z_bi_v, zb_Reader_readPart_29, if_neg (by decide), z_b1_1, z_gd_t]
      · rw [if_neg c41]
        have t4 := zC_take0 X (d + k) m ce sl J2 L t 15 r q b4 (Int32.ofInt 41) c41
        refine ⟨fun e he => ?_, fun tk' s he => absurd he (by simp)⟩
        injection he with he
        subst he
        refine ⟨z_up (z_up J2 7 10 (Int32.ofInt 1)) 7 11 (J2 7 6), zFrm_t (zFrm_t F1 b1) (zFrm_f (by omega) J2 (Int32.ofInt 1) (J2 7 6)), ?_, ?_, en _ (fun M => ?_)⟩
        · rw [z_up_j _ _ _ _ _ (by omega), z_up_s]
          rfl
        · rw [z_up_s]
          exact b4.1.2.1
        · rw [zt_Reader_readPart_0_15, if_pos i40, a4, z_b0_v, zb_Reader_readPart_13, b6, z_bi_v, zb_Reader_readPart_20, if_neg (by decide), t4, z_bi_v, zb_Reader_readPart_29, if_pos (by decide), z_b1_0, z_gd_t]
  · have n40 : ¬ I 7 5 = Int32.ofInt 40 := y_lit (by rw [k5]; exact c40) (by omega) (by omega)
    have hP : zpPart (zlx F N) E tk = if 100 ≤ tk.1 then (if tk.1 ≤ 109 then .inr (zlx F N tk.2.2.1, [-tk.1]) else .inl (3, tk.2.1))
        else if tk.1 = 2 then (if tk.2.2.2.2 ≤ 5 then .inr (zlx F N tk.2.2.1, [tk.2.2.2.1]) else .inl (2, tk.2.1)) else .inl (1, tk.2.1) := by
      unfold zpPart
      rw [if_neg c40]
    rw [hP]
    by_cases c1 : 100 ≤ tk.1
    · have w1 : ¬ z_p_Token_isWord (I 7 5) = 0 := by rw [y_word0, k5]; omega
      obtain ⟨r1, r2⟩ := room (by omega)
      rw [if_pos c1]
      by_cases c2 : tk.1 ≤ 109
      · have w2 : ¬ z_p_Token_isValue (I 7 5) = 0 := by rw [y_val0, k5]; omega
        rw [if_pos c2]
        have hneg : (-(I 7 5)).toInt = -tk.1 := by rw [y_neg (by omega), k5]
        refine ⟨fun e he => absurd he (by simp), fun tk' s he => ?_⟩
        injection he with he
        refine good (-(I 7 5)) (by omega) (fun J hJ M => ?_) tk' s (by rw [hneg]; exact he)
        rw [zt_Reader_readPart_0_15, if_neg n40, if_neg w1, if_neg w2, if_neg r1, r2, z_gd_t, hJ, z_b0_v, zb_Reader_readPart_103, z_b1_1, z_gd_t]
      · have w2 : z_p_Token_isValue (I 7 5) = 0 := by rw [y_val0, k5]; omega
        rw [if_neg c2]
        refine ⟨fun e he => ?_, fun tk' s he => absurd he (by simp)⟩
        injection he with he
        refine bad 3 none (by omega) (by omega) (fun M => ?_) e he
        rw [zt_Reader_readPart_0_15, if_neg n40, if_neg w1, if_pos w2]
    · have w1 : z_p_Token_isWord (I 7 5) = 0 := by rw [y_word0, k5]; omega
      rw [if_neg c1]
      by_cases c2 : tk.1 = 2
      · have i2 : I 7 5 = Int32.ofInt 2 := y_eqi (by rw [k5, c2])
        obtain ⟨q1, q2⟩ := hB.1.2.2.2 c2
        obtain ⟨r1, r2⟩ := room (by omega)
        rw [if_pos c2]
        by_cases c3 : tk.2.2.2.2 ≤ 5
        · rw [if_pos c3]
          refine ⟨fun e he => absurd he (by simp), fun tk' s he => ?_⟩
          injection he with he
          refine good (I 7 8) (by omega) (fun J hJ M => ?_) tk' s (by rw [q1]; exact he)
          rw [zt_Reader_readPart_0_15, if_neg n40, if_pos w1, if_pos i2, if_pos (by rw [y_i_le, q2]; show _ ≤ (5 : Int); omega), if_neg r1, r2, z_gd_t, hJ, z_b0_v, zb_Reader_readPart_103, z_b1_1, z_gd_t]
        · rw [if_neg c3]
          refine ⟨fun e he => ?_, fun tk' s he => absurd he (by simp)⟩
          injection he with he
          refine bad 2 none (by omega) (by omega) (fun M => ?_) e he
          rw [zt_Reader_readPart_0_15, if_neg n40, if_pos w1, if_pos i2, if_neg (by rw [y_i_le, q2]; show ¬ _ ≤ (5 : Int); omega)]
      · rw [if_neg c2]
        refine ⟨fun e he => ?_, fun tk' s he => absurd he (by simp)⟩
        injection he with he
        refine bad 1 none (by omega) (by omega) (fun M => ?_) e he
        rw [zt_Reader_readPart_0_15, if_neg n40, if_pos w1, if_neg (y_lit (by rw [k5]; exact c2) (by omega) (by omega))]
theorem zC_row_15 {X : ZX} {k : Nat} {F : Nat → Int} {N : Nat} (hN4 : N ≤ 400) {one : zTk → zFl ⊕ (zTk × List Int)} {kd x2 : Int32} {sg : Nat} (hsg : zkg kd sg) (hs : sg ≠ 0) (hA : zAdv N one) (h1 : zCM X (k + 7) 15 F N one 71 [.ref 7, .int kd, .int x2]) : zCM X (k + 8) 15 F N (zpRow (zlx F N) sg one) 70 [.ref 7, .int kd, .int x2] := by
  intro d m ce sl I L t r q tk0 s0 hB0 hS0 hl0
  have lp : ∀ (f : Nat) (x3 : Int32) (tk : zTk) (s : List Int) (K : Nat → Nat → Int32), f ≤ 400 → x3.toInt = 400 - (f : Int) → zCB F N tk K → zCS 15 (s0 ++ s) K → (s0 ++ s).length ≤ tk.2.1 → zFrm 15 I K → K 7 10 = I 7 10 → K 7 11 = I 7 11 →
      (∀ e, zpLoop (zlx F N) sg one f tk s = .inl e → ∃ J : Nat → Nat → Int32, zFrm 15 I J ∧ (J 7 10).toInt = e.1 ∧ (J 7 11).toInt = e.2 ∧ ∀ M, z_loop X z_cf z_ff (z_pu (z_run X z_cf z_ff (d + k + 4 + 3))) 70 (M + 5 * f + 5) 13 [(0, .ref 7), (1, .int kd), (2, .int x2), (3, .int x3)] [] (118, z_sd m, ce, sl, K, L, z_rr t 15 r q (z_gg m) (z_sf m)) = some (.inl (some (.int (Int32.ofInt 0))), (118, z_sd m, ce, sl, J, L, z_rr t 15 r q (z_gg m) (z_sf m)))) ∧
      (∀ tk' s', zpLoop (zlx F N) sg one f tk s = .inr (tk', s') → ∃ J : Nat → Nat → Int32, zFrm 15 I J ∧ J 7 10 = I 7 10 ∧ J 7 11 = I 7 11 ∧ zCB F N tk' J ∧ zCS 15 (s0 ++ s') J ∧ ∀ M, z_loop X z_cf z_ff (z_pu (z_run X z_cf z_ff (d + k + 4 + 3))) 70 (M + 5 * f + 5) 13 [(0, .ref 7), (1, .int kd), (2, .int x2), (3, .int x3)] [] (118, z_sd m, ce, sl, K, L, z_rr t 15 r q (z_gg m) (z_sf m)) = some (.inl (some (.int (Int32.ofInt 1))), (118, z_sd m, ce, sl, J, L, z_rr t 15 r q (z_gg m) (z_sf m)))) := by
    intro f
    induction f with
    | zero =>
      intro x3 tk s K g1 g2 g3 g4 g5 g6 g7 g8
      have hL : zpLoop (zlx F N) sg one 0 tk s = .inr (tk, s) := rfl
      rw [hL]
      refine ⟨fun e he => absurd he (by simp), fun tk' s' he => ?_⟩
      injection he with he
      injection he with v1 v2
      subst v1
      subst v2
      refine ⟨K, g6, g7, g8, g3, g4, fun M => ?_⟩
      rw [show M + 5 * 0 + 5 = (M + 3) + 2 by omega, zt_Reader_readRow_13, if_pos (by rw [y_i_le, g2]; show (400 : Int) ≤ _; omega)]
    | succ f ih =>
      intro x3 tk s K g1 g2 g3 g4 g5 g6 g7 g8
      have n400 : ¬ Int32.ofInt 400 ≤ x3 := by rw [y_i_le, g2]; show ¬ (400 : Int) ≤ _; omega
      by_cases c : zlev tk.1 = sg
      · have hk0 := zlev_0 c hs
        have hsi : ¬ z_v_Reader_isSignOf K kd = 0 := fun h => (hsg K tk.1 g3.1.1).mp h c
        have hL : zpLoop (zlx F N) sg one (f + 1) tk s = match one (zlx F N tk.2.2.1) with
            | .inl e => .inl e
            | .inr (tk', s') => zpLoop (zlx F N) sg one f tk' (s ++ s' ++ [-tk.1]) := by
          show (if zlev tk.1 = sg then _ else _) = _
          rw [if_pos c]
          rfl
        obtain ⟨J1, a1, a2, a3, a4⟩ := zC_tok X (d + k + 1) m ce sl K L t 15 r q hN4 g3 hk0
        obtain ⟨n1, n2⟩ := zTO_nx (zlx_ok F N) g3.2.1 hk0
        have S1 : zCS 15 (s0 ++ s) J1 := zCS_r (a1 15 (by omega)) (a1 16 (by omega)) g4
        have F1 : zFrm 15 K J1 := zFrm_7 (by omega) a1 (fun j hj => a2 j (by omega))
        obtain ⟨e1, e2⟩ := h1 d m ce sl J1 L t r q (zlx F N tk.2.2.1) (s0 ++ s) a3 S1 (by omega)
        rw [show d + (k + 7) = d + k + 4 + 3 by omega] at e1 e2
        cases hx : one (zlx F N tk.2.2.1) with
        | inl y0 =>
          rw [hx] at hL
          have hL' : zpLoop (zlx F N) sg one (f + 1) tk s = .inl y0 := hL
          rw [hL']
          refine ⟨fun e he => ?_, fun tk' s he => absurd he (by simp)⟩
          injection he with he
          subst he
          obtain ⟨J2, b1, b2, b3, b4⟩ := e1 y0 hx
          refine ⟨J2, zFrm_t g6 (zFrm_t F1 b1), b2, b3, fun M => ?_⟩
          rw [show M + 5 * (f + 1) + 5 = (M + 5 * f + 5 + 2 + 1) + 2 by omega, zt_Reader_readRow_13, if_neg n400, if_neg hsi, a4, z_b0_v, zb_Reader_readRow_38, b4, z_bi_v, zt_Reader_readRow_44_15, if_pos (by decide)]
        | inr y0 =>
          obtain ⟨tk2, s2⟩ := y0
          rw [hx] at hL
          have hL' : zpLoop (zlx F N) sg one (f + 1) tk s = zpLoop (zlx F N) sg one f tk2 (s ++ s2 ++ [-tk.1]) := hL
          rw [hL']
          obtain ⟨J2, b1, b2, b3, b4, b5, b6⟩ := e2 tk2 s2 hx
          obtain ⟨A1, A2, A3⟩ := hA _ n1 _ _ hx
          have hlen : (s0 ++ s ++ s2).length = (s0 ++ s).length + s2.length := List.length_append
          have hneg : (-(K 7 5)).toInt = -tk.1 := by
            have hkk := (zlev_k c hs).1
            rw [y_neg (by rw [g3.1.1]; omega), g3.1.1]
          have hA1 := A1.1
          have b51 := b5.1
          have r1 : ¬ Int32.ofInt 400 ≤ J2 15 1 := by rw [y_i_le]; show ¬ (400 : Int) ≤ _; omega
          have r2 : z_in (J2 15 1) 400 = true := y_in_t (by omega) (by omega)
          have es : s0 ++ (s ++ s2 ++ [-tk.1]) = (s0 ++ s ++ s2) ++ [(-(K 7 5)).toInt] := by rw [hneg]; simp only [List.append_assoc]
          have p1 : (z_up (z_up J2 16 (J2 15 1).toNatClampNeg (-(K 7 5))) 15 1 (J2 15 1 + Int32.ofInt 1)) 7 = J2 7 := by rw [z_up_r _ _ _ _ _ (by omega), z_up_r _ _ _ _ _ (by omega)]
          have p2 : (z_up (z_up J2 16 (J2 15 1).toNatClampNeg (-(K 7 5))) 15 1 (J2 15 1 + Int32.ofInt 1)) 6 = J2 6 := by rw [z_up_r _ _ _ _ _ (by omega), z_up_r _ _ _ _ _ (by omega)]
          obtain ⟨m1, m2⟩ := ih (x3 + Int32.ofInt 1) tk2 (s ++ s2 ++ [-tk.1]) (z_up (z_up J2 16 (J2 15 1).toNatClampNeg (-(K 7 5))) 15 1 (J2 15 1 + Int32.ofInt 1)) (by omega) (by rw [y_adl (by omega) (by omega) (by omega) (by omega)]; omega) (zCB_r p1 p2 b4) (by rw [es]; exact zCS_p (-(K 7 5)) b5 (by omega)) (by rw [es, List.length_append]; show (s0 ++ s ++ s2).length + 1 ≤ _; omega) (zFrm_t g6 (zFrm_t F1 (zFrm_t b1 (zFrm_p (D := 15) (by omega) J2 (J2 15 1).toNatClampNeg (-(K 7 5)) (J2 15 1 + Int32.ofInt 1))))) (by rw [p1, b2, a2 10 (by omega), g7]) (by rw [p1, b3, a2 11 (by omega), g8])
          have st : ∀ M, z_loop X z_cf z_ff (z_pu (z_run X z_cf z_ff (d + k + 4 + 3))) 70 (M + 5 * (f + 1) + 5) 13 [(0, .ref 7), (1, .int kd), (2, .int x2), (3, .int x3)] [] (118, z_sd m, ce, sl, K, L, z_rr t 15 r q (z_gg m) (z_sf m)) = z_loop X z_cf z_ff (z_pu (z_run X z_cf z_ff (d + k + 4 + 3))) 70 (M + 5 * f + 5) 13 [(0, .ref 7), (1, .int kd), (2, .int x2), (3, .int (x3 + Int32.ofInt 1))] [] (118, z_sd m, ce, sl, (z_up (z_up J2 16 (J2 15 1).toNatClampNeg (-(K 7 5))) 15 1 (J2 15 1 + Int32.ofInt 1)), L, z_rr t 15 r q (z_gg m) (z_sf m)) := by
            intro M
            rw [show M + 5 * (f + 1) + 5 = (M + 5 * f + 5 + 2 + 1) + 2 by omega, zt_Reader_readRow_13, if_neg n400, if_neg hsi, a4, z_b0_v, zb_Reader_readRow_38, b6, z_bi_v, zt_Reader_readRow_44_15, if_neg (by decide), if_neg r1, r2, z_gd_t]
          refine ⟨fun e he => ?_, fun tk' s' he => ?_⟩
          · obtain ⟨J, q1, q2, q3, q4⟩ := m1 e he
            exact ⟨J, q1, q2, q3, fun M => by rw [st, q4]⟩
          · obtain ⟨J, q1, q2, q3, q4, q5, q6⟩ := m2 tk' s' he
            exact ⟨J, q1, q2, q3, q4, q5, fun M => by rw [st, q6]⟩
      · have hL : zpLoop (zlx F N) sg one (f + 1) tk s = .inr (tk, s) := by
          show (if zlev tk.1 = sg then _ else _) = _
          rw [if_neg c]
        rw [hL]
        refine ⟨fun e he => absurd he (by simp), fun tk' s' he => ?_⟩
        injection he with he
        injection he with v1 v2
        subst v1
        subst v2
        refine ⟨K, g6, g7, g8, g3, g4, fun M => ?_⟩
        rw [show M + 5 * (f + 1) + 5 = (M + 5 * f + 8) + 2 by omega, zt_Reader_readRow_13, if_neg n400, if_pos ((hsg K tk.1 g3.1.1).mpr c)]
  have en : ∀ rr : ZR, (∀ M, z_loop X z_cf z_ff (z_pu (z_run X z_cf z_ff (d + k + 4 + 3))) 70 (M + 5 * 400 + 5 + 2) 0 [(0, .ref 7), (1, .int kd), (2, .int x2)] [] (118, z_sd m, ce, sl, I, L, z_rr t 15 r q (z_gg m) (z_sf m)) = rr) → z_pu (z_run X z_cf z_ff (d + (k + 8))) 70 [.ref 7, .int kd, .int x2] (118, z_sd m, ce, sl, I, L, z_rr t 15 r q (z_gg m) (z_sf m)) = rr := fun rr h => z_en X (d + k + 5) _ _ [(0, .ref 7), (1, .int kd), (2, .int x2)] _ _ rfl rfl rfl (h 99997993)
  obtain ⟨e1, e2⟩ := h1 d m ce sl I L t r q tk0 s0 hB0 hS0 hl0
  rw [show d + (k + 7) = d + k + 4 + 3 by omega] at e1 e2
  have hR : zpRow (zlx F N) sg one tk0 = match one tk0 with
      | .inl e => .inl e
      | .inr (tk', s) => zpLoop (zlx F N) sg one 400 tk' s := rfl
  cases hx : one tk0 with
  | inl y0 =>
    rw [hx] at hR
    have hR' : zpRow (zlx F N) sg one tk0 = .inl y0 := hR
    rw [hR']
    refine ⟨fun e he => ?_, fun tk' s he => absurd he (by simp)⟩
    injection he with he
    subst he
    obtain ⟨J2, b1, b2, b3, b4⟩ := e1 y0 hx
    exact ⟨J2, b1, b2, b3, en _ (fun M => by rw [zb_Reader_readRow_0, b4, z_bi_v, zb_Reader_readRow_6, if_pos (by decide), z_b1_0, z_gd_t])⟩
  | inr y0 =>
    obtain ⟨tk2, s2⟩ := y0
    rw [hx] at hR
    have hR' : zpRow (zlx F N) sg one tk0 = zpLoop (zlx F N) sg one 400 tk2 s2 := hR
    rw [hR']
    obtain ⟨J2, b1, b2, b3, b4, b5, b6⟩ := e2 tk2 s2 hx
    obtain ⟨A1, A2, A3⟩ := hA _ hB0.2.1 _ _ hx
    obtain ⟨m1, m2⟩ := lp 400 (Int32.ofInt 0) tk2 s2 J2 (Nat.le_refl _) (by show (0 : Int) = _; omega) b4 b5 (by rw [List.length_append]; omega) b1 b2 b3
    have st : ∀ M, z_loop X z_cf z_ff (z_pu (z_run X z_cf z_ff (d + k + 4 + 3))) 70 (M + 5 * 400 + 5 + 2) 0 [(0, .ref 7), (1, .int kd), (2, .int x2)] [] (118, z_sd m, ce, sl, I, L, z_rr t 15 r q (z_gg m) (z_sf m)) = z_loop X z_cf z_ff (z_pu (z_run X z_cf z_ff (d + k + 4 + 3))) 70 (M + 5 * 400 + 5) 13 [(0, .ref 7), (1, .int kd), (2, .int x2), (3, .int (Int32.ofInt 0))] [] (118, z_sd m, ce, sl, J2, L, z_rr t 15 r q (z_gg m) (z_sf m)) := by
      intro M
      rw [show M + 5 * 400 + 5 + 2 = (M + 5 * 400 + 5) + 1 + 1 by omega, zb_Reader_readRow_0, b6, z_bi_v, zb_Reader_readRow_6, if_neg (by decide)]
    refine ⟨fun e he => ?_, fun tk' s' he => ?_⟩
    · obtain ⟨J, q1, q2, q3, q4⟩ := m1 e he
      exact ⟨J, q1, q2, q3, en _ (fun M => by rw [st, q4])⟩
    · obtain ⟨J, q1, q2, q3, q4, q5, q6⟩ := m2 tk' s' he
      exact ⟨J, q1, q2, q3, q4, q5, en _ (fun M => by rw [st, q6])⟩
theorem zC_test_15 {X : ZX} {k : Nat} {F : Nat → Int} {N : Nat} (hN4 : N ≤ 400) {one : zTk → zFl ⊕ (zTk × List Int)} {x1 : Int32} (hA : zAdv N one) (h1 : zCM X (k + 7) 15 F N one 70 [.ref 7, .int (Int32.ofInt 2), .int x1]) : zCM X (k + 8) 15 F N (zpTest (zlx F N) one) 73 [.ref 7, .int x1] := by
  intro d m ce sl I L t r q tk0 s0 hB0 hS0 hl0
  have en : ∀ rr : ZR, (∀ M, z_loop X z_cf z_ff (z_pu (z_run X z_cf z_ff (d + k + 4 + 3))) 73 (M + 20) 0 [(0, .ref 7), (1, .int x1)] [] (118, z_sd m, ce, sl, I, L, z_rr t 15 r q (z_gg m) (z_sf m)) = rr) → z_pu (z_run X z_cf z_ff (d + (k + 8))) 73 [.ref 7, .int x1] (118, z_sd m, ce, sl, I, L, z_rr t 15 r q (z_gg m) (z_sf m)) = rr := fun rr h => z_en X (d + k + 5) _ _ [(0, .ref 7), (1, .int x1)] _ _ rfl rfl rfl (h 99999980)
  obtain ⟨e1, e2⟩ := h1 d m ce sl I L t r q tk0 s0 hB0 hS0 hl0
  rw [show d + (k + 7) = d + k + 4 + 3 by omega] at e1 e2
  have hR : zpTest (zlx F N) one tk0 = match one tk0 with
      | .inl e => .inl e
      | .inr (tk', s) => if zlev tk'.1 = 4 then match one (zlx F N tk'.2.2.1) with
          | .inl e => .inl e
          | .inr (tk2, s2) => .inr (tk2, s ++ s2 ++ [-tk'.1])
        else .inr (tk', s) := rfl
  cases hx : one tk0 with
  | inl y0 =>
    rw [hx] at hR
    have hR' : zpTest (zlx F N) one tk0 = .inl y0 := hR
    rw [hR']
    refine ⟨fun e he => ?_, fun tk' s he => absurd he (by simp)⟩
    injection he with he
    subst he
    obtain ⟨J2, b1, b2, b3, b4⟩ := e1 y0 hx
    exact ⟨J2, b1, b2, b3, en _ (fun M => by rw [zb_Reader_readTest_0, b4, z_bi_v, zb_Reader_readTest_6, if_pos (by decide), z_b1_0, z_gd_t])⟩
  | inr y0 =>
    obtain ⟨tk1, s1⟩ := y0
    rw [hx] at hR
    have hR' : zpTest (zlx F N) one tk0 = if zlev tk1.1 = 4 then match one (zlx F N tk1.2.2.1) with
          | .inl e => .inl e
          | .inr (tk2, s2) => .inr (tk2, s1 ++ s2 ++ [-tk1.1])
        else .inr (tk1, s1) := hR
    obtain ⟨K, b1, b2, b3, b4, b5, b6⟩ := e2 tk1 s1 hx
    obtain ⟨A1, A2, A3⟩ := hA _ hB0.2.1 _ _ hx
    have k5 : (K 7 5).toInt = tk1.1 := b4.1.1
    by_cases c : zlev tk1.1 = 4
    · have hk0 := zlev_0 c (by omega)
      rw [if_pos c] at hR'
      obtain ⟨J1, a1, a2, a3, a4⟩ := zC_tok X (d + k + 1) m ce sl K L t 15 r q hN4 b4 hk0
      obtain ⟨n1, n2⟩ := zTO_nx (zlx_ok F N) b4.2.1 hk0
      have S1 : zCS 15 (s0 ++ s1) J1 := zCS_r (a1 15 (by omega)) (a1 16 (by omega)) b5
      have F1 : zFrm 15 K J1 := zFrm_7 (by omega) a1 (fun j hj => a2 j (by omega))
      have hlen1 : (s0 ++ s1).length = s0.length + s1.length := List.length_append
      obtain ⟨f1, f2⟩ := h1 d m ce sl J1 L t r q (zlx F N tk1.2.2.1) (s0 ++ s1) a3 S1 (by omega)
      rw [show d + (k + 7) = d + k + 4 + 3 by omega] at f1 f2
      have st : ∀ M, z_loop X z_cf z_ff (z_pu (z_run X z_cf z_ff (d + k + 4 + 3))) 73 (M + 20) 0 [(0, .ref 7), (1, .int x1)] [] (118, z_sd m, ce, sl, I, L, z_rr t 15 r q (z_gg m) (z_sf m)) = z_loop X z_cf z_ff (z_pu (z_run X z_cf z_ff (d + k + 4 + 3))) 73 (M + 18) 38 [(0, .ref 7), (1, .int x1), (2, .int (K 7 5))] [] (118, z_sd m, ce, sl, J1, L, z_rr t 15 r q (z_gg m) (z_sf m)) := by
        intro M
        rw [zb_Reader_readTest_0, b6, z_bi_v, zb_Reader_readTest_6, if_neg (by decide)]
        by_cases c60 : tk1.1 = 60
        · rw [if_pos (y_i_eq.mpr (by rw [k5, c60]; rfl)), a4, z_b0_v]
        · have c61 : tk1.1 = 61 := by
            have := zlev_4.mp c
            omega
          rw [if_neg (y_lit (by rw [k5]; exact c60) (by omega) (by omega)), if_pos (y_i_eq.mpr (by rw [k5, c61]; rfl)), a4, z_b0_v]
      cases hy : one (zlx F N tk1.2.2.1) with
      | inl y0 =>
        rw [hy] at hR'
        have hR2 : zpTest (zlx F N) one tk0 = .inl y0 := hR'
        rw [hR2]
        refine ⟨fun e he => ?_, fun tk' s he => absurd he (by simp)⟩
        injection he with he
        subst he
        obtain ⟨J2, g1, g2, g3, g4⟩ := f1 y0 hy
        refine ⟨J2, zFrm_t b1 (zFrm_t F1 g1), g2, g3, en _ (fun M => ?_)⟩
        rw [st, zb_Reader_readTest_38, g4, z_bi_v, zt_Reader_readTest_44_15, if_pos (by decide)]
      | inr y0 =>
        obtain ⟨tk2, s2⟩ := y0
        rw [hy] at hR'
        have hR2 : zpTest (zlx F N) one tk0 = .inr (tk2, s1 ++ s2 ++ [-tk1.1]) := hR'
        rw [hR2]
        refine ⟨fun e he => absurd he (by simp), fun tk' s he => ?_⟩
        injection he with he
        injection he with v1 v2
        subst v1
        subst v2
        obtain ⟨J2, g1, g2, g3, g4, g5, g6⟩ := f2 tk2 s2 hy
        obtain ⟨B1, B2, B3⟩ := hA _ n1 _ _ hy
        have hlen : (s0 ++ s1 ++ s2).length = (s0 ++ s1).length + s2.length := List.length_append
        have hneg : (-(K 7 5)).toInt = -tk1.1 := by
          have hkk := (zlev_k c (by omega)).1
          rw [y_neg (by rw [k5]; omega), k5]
        have hB1 := B1.1
        have g51 := g5.1
        have r1 : ¬ Int32.ofInt 400 ≤ J2 15 1 := by rw [y_i_le]; show ¬ (400 : Int) ≤ _; omega
        have r2 : z_in (J2 15 1) 400 = true := y_in_t (by omega) (by omega)
        have es : s0 ++ (s1 ++ s2 ++ [-tk1.1]) = (s0 ++ s1 ++ s2) ++ [(-(K 7 5)).toInt] := by rw [hneg]; simp only [List.append_assoc]
        have p1 : (z_up (z_up J2 16 (J2 15 1).toNatClampNeg (-(K 7 5))) 15 1 (J2 15 1 + Int32.ofInt 1)) 7 = J2 7 := by rw [z_up_r _ _ _ _ _ (by omega), z_up_r _ _ _ _ _ (by omega)]
        have p2 : (z_up (z_up J2 16 (J2 15 1).toNatClampNeg (-(K 7 5))) 15 1 (J2 15 1 + Int32.ofInt 1)) 6 = J2 6 := by rw [z_up_r _ _ _ _ _ (by omega), z_up_r _ _ _ _ _ (by omega)]
        refine ⟨(z_up (z_up J2 16 (J2 15 1).toNatClampNeg (-(K 7 5))) 15 1 (J2 15 1 + Int32.ofInt 1)), zFrm_t b1 (zFrm_t F1 (zFrm_t g1 (zFrm_p (D := 15) (by omega) J2 (J2 15 1).toNatClampNeg (-(K 7 5)) (J2 15 1 + Int32.ofInt 1)))), by rw [p1, g2, a2 10 (by omega), b2], by rw [p1, g3, a2 11 (by omega), b3], zCB_r p1 p2 g4, by rw [es]; exact zCS_p (-(K 7 5)) g5 (by omega), en _ (fun M => ?_)⟩
        rw [st, zb_Reader_readTest_38, g6, z_bi_v, zt_Reader_readTest_44_15, if_neg (by decide), if_neg r1, r2, z_gd_t]
    · rw [if_neg c] at hR'
      rw [hR']
      refine ⟨fun e he => absurd he (by simp), fun tk' s he => ?_⟩
      injection he with he
      injection he with v1 v2
      subst v1
      subst v2
      have c6 : ¬ (tk1.1 = 60 ∨ tk1.1 = 61) := fun h => c (zlev_4.mpr h)
      refine ⟨K, b1, b2, b3, b4, b5, en _ (fun M => ?_)⟩
      rw [zb_Reader_readTest_0, b6, z_bi_v, zb_Reader_readTest_6, if_neg (by decide), if_neg (y_lit (by rw [k5]; omega) (by omega) (by omega)), if_neg (y_lit (by rw [k5]; omega) (by omega) (by omega)), zb_Reader_readTest_58, z_b1_1, z_gd_t]
theorem zC_nots_15 {X : ZX} {k : Nat} {F : Nat → Int} {N : Nat} (hN4 : N ≤ 400) {one : zTk → zFl ⊕ (zTk × List Int)} {x1 : Int32} (hA : zAdv N one) (h1 : zCM X (k + 7) 15 F N one 73 [.ref 7, .int x1]) : zCM X (k + 8) 15 F N (zpNots (zlx F N) one 6) 72 [.ref 7, .int x1] := by
  intro d m ce sl I L t r q tk0 s0 hB0 hS0 hl0
  have en : ∀ rr : ZR, (∀ M, z_loop X z_cf z_ff (z_pu (z_run X z_cf z_ff (d + k + 4 + 3))) 72 (M + 60) 2 [(0, .ref 7), (1, .int x1), (2, .int (Int32.ofInt 0))] [] (118, z_sd m, ce, sl, I, L, z_rr t 15 r q (z_gg m) (z_sf m)) = rr) → z_pu (z_run X z_cf z_ff (d + (k + 8))) 72 [.ref 7, .int x1] (118, z_sd m, ce, sl, I, L, z_rr t 15 r q (z_gg m) (z_sf m)) = rr := fun rr h => z_en X (d + k + 5) _ _ [(0, .ref 7), (1, .int x1)] _ _ rfl rfl rfl ((zb_Reader_readNots_0 X _ 99999999 (z_sd m) ce sl I L t 15 r q (z_gg m) (z_sf m) x1).trans (h 99999939))
  -- the steps of so many
  have pu : ∀ (i : Nat) (n : Nat) (x2 x3 : Int32) (tk : zTk) (s : List Int) (K : Nat → Nat → Int32), x2.toInt = n → x3.toInt = (n : Int) - i → i ≤ n → n ≤ 6 → zCB F N tk K → zCS 15 (s0 ++ s) K → (s0 ++ s).length + i ≤ 400 → ∃ J : Nat → Nat → Int32, zFrm 15 K J ∧ J 7 10 = K 7 10 ∧ J 7 11 = K 7 11 ∧ zCB F N tk J ∧ zCS 15 (s0 ++ (s ++ List.replicate i (-110))) J ∧ ∀ M, z_loop X z_cf z_ff (z_pu (z_run X z_cf z_ff (d + k + 4 + 3))) 72 (M + 2 * i + 2) 51 [(0, .ref 7), (2, .int x2), (3, .int x3)] [] (118, z_sd m, ce, sl, K, L, z_rr t 15 r q (z_gg m) (z_sf m)) = some (.inl (some (.int (Int32.ofInt 1))), (118, z_sd m, ce, sl, J, L, z_rr t 15 r q (z_gg m) (z_sf m))) := by
    intro i
    induction i with
    | zero =>
      intro n x2 x3 tk s K g1 g2 g3 g4 g5 g6 g7
      refine ⟨K, zFrm_r K, rfl, rfl, g5, by rw [List.replicate_zero, List.append_nil]; exact g6, fun M => ?_⟩
      rw [show M + 2 * 0 + 2 = M + 2 by omega, zt_Reader_readNots_51_15, if_pos (by rw [y_i_le]; omega)]
    | succ i ih =>
      intro n x2 x3 tk s K g1 g2 g3 g4 g5 g6 g7
      have g61 := g6.1
      have r1 : ¬ Int32.ofInt 400 ≤ K 15 1 := by rw [y_i_le]; show ¬ (400 : Int) ≤ _; omega
      have r2 : z_in (K 15 1) 400 = true := y_in_t (by omega) (by omega)
      have p1 : (z_up (z_up K 16 (K 15 1).toNatClampNeg (Int32.ofInt (-110))) 15 1 (K 15 1 + Int32.ofInt 1)) 7 = K 7 := by rw [z_up_r _ _ _ _ _ (by omega), z_up_r _ _ _ _ _ (by omega)]
      have p2 : (z_up (z_up K 16 (K 15 1).toNatClampNeg (Int32.ofInt (-110))) 15 1 (K 15 1 + Int32.ofInt 1)) 6 = K 6 := by rw [z_up_r _ _ _ _ _ (by omega), z_up_r _ _ _ _ _ (by omega)]
      have es : s0 ++ (s ++ [-110]) = (s0 ++ s) ++ [(Int32.ofInt (-110)).toInt] := by
        rw [show (Int32.ofInt (-110)).toInt = -110 from rfl, List.append_assoc]
      have S1 : zCS 15 (s0 ++ (s ++ [-110])) (z_up (z_up K 16 (K 15 1).toNatClampNeg (Int32.ofInt (-110))) 15 1 (K 15 1 + Int32.ofInt 1)) := by rw [es]; exact zCS_p (Int32.ofInt (-110)) g6 (by omega)
      obtain ⟨J, j1, j2, j3, j4, j5, j6⟩ := ih n x2 (x3 + Int32.ofInt 1) tk (s ++ [-110]) (z_up (z_up K 16 (K 15 1).toNatClampNeg (Int32.ofInt (-110))) 15 1 (K 15 1 + Int32.ofInt 1)) g1 (by rw [y_adl (by omega) (by omega) (by omega) (by omega)]; omega) (by omega) g4 (zCB_r p1 p2 g5) S1 (by rw [es, List.length_append]; show (s0 ++ s).length + 1 + i ≤ 400; omega)
      refine ⟨J, zFrm_t (zFrm_p (D := 15) (by omega) K (K 15 1).toNatClampNeg (Int32.ofInt (-110)) (K 15 1 + Int32.ofInt 1)) j1, by rw [j2, p1], by rw [j3, p1], j4, ?_, fun M => ?_⟩
      · rw [List.replicate_succ]
        have : s ++ [-110] ++ List.replicate i (-110) = s ++ (-110) :: List.replicate i (-110) := by rw [List.append_assoc]; rfl
        rw [← this]
        exact j5
      · rw [show M + 2 * (i + 1) + 2 = (M + 2 * i + 2) + 2 by omega, zt_Reader_readNots_51_15, if_neg (by rw [y_i_le]; omega), if_neg r1, r2, z_gd_t, j6]
  have lp : ∀ (rr n : Nat) (x2 : Int32) (tk : zTk) (K : Nat → Nat → Int32), n + rr = 6 → x2.toInt = n → zCB F N tk K → zCS 15 s0 K → s0.length + n ≤ tk.2.1 → zFrm 15 I K → K 7 10 = I 7 10 → K 7 11 = I 7 11 →
      (∀ e, zpNots (zlx F N) one rr tk = .inl e → ∃ J : Nat → Nat → Int32, zFrm 15 I J ∧ (J 7 10).toInt = e.1 ∧ (J 7 11).toInt = e.2 ∧ ∀ M, z_loop X z_cf z_ff (z_pu (z_run X z_cf z_ff (d + k + 4 + 3))) 72 (M + 2 * rr + 30) 2 [(0, .ref 7), (1, .int x1), (2, .int x2)] [] (118, z_sd m, ce, sl, K, L, z_rr t 15 r q (z_gg m) (z_sf m)) = some (.inl (some (.int (Int32.ofInt 0))), (118, z_sd m, ce, sl, J, L, z_rr t 15 r q (z_gg m) (z_sf m)))) ∧
      (∀ tk' s', zpNots (zlx F N) one rr tk = .inr (tk', s') → ∃ J : Nat → Nat → Int32, zFrm 15 I J ∧ J 7 10 = I 7 10 ∧ J 7 11 = I 7 11 ∧ zCB F N tk' J ∧ zCS 15 (s0 ++ (s' ++ List.replicate n (-110))) J ∧ ∀ M, z_loop X z_cf z_ff (z_pu (z_run X z_cf z_ff (d + k + 4 + 3))) 72 (M + 2 * rr + 30) 2 [(0, .ref 7), (1, .int x1), (2, .int x2)] [] (118, z_sd m, ce, sl, K, L, z_rr t 15 r q (z_gg m) (z_sf m)) = some (.inl (some (.int (Int32.ofInt 1))), (118, z_sd m, ce, sl, J, L, z_rr t 15 r q (z_gg m) (z_sf m)))) := by
    intro rr
    have stop : ∀ (rr n : Nat) (x2 : Int32) (tk : zTk) (K : Nat → Nat → Int32), n + rr = 6 → x2.toInt = n → zCB F N tk K → zCS 15 s0 K → s0.length + n ≤ tk.2.1 → zFrm 15 I K → K 7 10 = I 7 10 → K 7 11 = I 7 11 → tk.1 ≠ 110 →
        (∀ e, one tk = .inl e → ∃ J : Nat → Nat → Int32, zFrm 15 I J ∧ (J 7 10).toInt = e.1 ∧ (J 7 11).toInt = e.2 ∧ ∀ M, z_loop X z_cf z_ff (z_pu (z_run X z_cf z_ff (d + k + 4 + 3))) 72 (M + 2 * rr + 30) 2 [(0, .ref 7), (1, .int x1), (2, .int x2)] [] (118, z_sd m, ce, sl, K, L, z_rr t 15 r q (z_gg m) (z_sf m)) = some (.inl (some (.int (Int32.ofInt 0))), (118, z_sd m, ce, sl, J, L, z_rr t 15 r q (z_gg m) (z_sf m)))) ∧
        (∀ tk' s', one tk = .inr (tk', s') → ∃ J : Nat → Nat → Int32, zFrm 15 I J ∧ J 7 10 = I 7 10 ∧ J 7 11 = I 7 11 ∧ zCB F N tk' J ∧ zCS 15 (s0 ++ (s' ++ List.replicate n (-110))) J ∧ ∀ M, z_loop X z_cf z_ff (z_pu (z_run X z_cf z_ff (d + k + 4 + 3))) 72 (M + 2 * rr + 30) 2 [(0, .ref 7), (1, .int x1), (2, .int x2)] [] (118, z_sd m, ce, sl, K, L, z_rr t 15 r q (z_gg m) (z_sf m)) = some (.inl (some (.int (Int32.ofInt 1))), (118, z_sd m, ce, sl, J, L, z_rr t 15 r q (z_gg m) (z_sf m)))) := by
      intro rr n x2 tk K g0 g1 g2 g3 g4 g5 g6 g7 c
      have n6 : ¬ Int32.ofInt 6 < x2 := by rw [y_i_lt, g1]; show ¬ (6 : Int) < _; omega
      have nn : ¬ K 7 5 = Int32.ofInt 110 := y_lit (by rw [g2.1.1]; exact c) (by omega) (by omega)
      obtain ⟨e1, e2⟩ := h1 d m ce sl K L t r q tk s0 g2 g3 (by omega)
      rw [show d + (k + 7) = d + k + 4 + 3 by omega] at e1 e2
      refine ⟨fun e he => ?_, fun tk' s' he => ?_⟩
      · obtain ⟨J2, b1, b2, b3, b4⟩ := e1 e he
        refine ⟨J2, zFrm_t g5 b1, b2, b3, fun M => ?_⟩
        rw [show M + 2 * rr + 30 = (M + 2 * rr + 28) + 2 by omega, zt_Reader_readNots_2, if_neg n6, if_neg nn, b4, z_bi_v, zb_Reader_readNots_44, if_pos (by decide), z_b1_0, z_gd_t]
      · obtain ⟨J2, b1, b2, b3, b4, b5, b6⟩ := e2 tk' s' he
        obtain ⟨A1, A2, A3⟩ := hA _ g2.2.1 _ _ he
        have hA1 := A1.1
        have hlen : (s0 ++ s').length = s0.length + s'.length := List.length_append
        obtain ⟨J, j1, j2, j3, j4, j5, j6⟩ := pu n n x2 (Int32.ofInt 0) tk' s' J2 g1 (by show (0 : Int) = _; omega) (Nat.le_refl _) (by omega) b4 b5 (by omega)
        refine ⟨J, zFrm_t g5 (zFrm_t b1 j1), by rw [j2, b2, g6], by rw [j3, b3, g7], j4, j5, fun M => ?_⟩
        rw [show M + 2 * rr + 30 = (M + 2 * rr + 26 - 2 * n + 2 * n + 2) + 2 by omega, zt_Reader_readNots_2, if_neg n6, if_neg nn, b6, z_bi_v, zb_Reader_readNots_44, if_neg (by decide), j6]
    induction rr with
    | zero =>
      intro n x2 tk K g0 g1 g2 g3 g4 g5 g6 g7
      by_cases c : tk.1 = 110
      · have hL : zpNots (zlx F N) one 0 tk = .inl (2, tk.2.1) := by
          show (if tk.1 = 110 then _ else _) = _
          rw [if_pos c]
        rw [hL]
        refine ⟨fun e he => ?_, fun tk' s he => absurd he (by simp)⟩
        injection he with he
        subst he
        refine ⟨z_up (z_up K 7 10 (Int32.ofInt 2)) 7 11 (K 7 6), zFrm_t g5 (zFrm_f (by omega) K (Int32.ofInt 2) (K 7 6)), by rw [z_up_j _ _ _ _ _ (by omega), z_up_s]; rfl, by rw [z_up_s]; exact g2.1.2.1, fun M => ?_⟩
        rw [show M + 2 * 0 + 30 = (M + 28) + 2 by omega, zt_Reader_readNots_2, if_neg (by rw [y_i_lt, g1]; show ¬ (6 : Int) < _; omega), if_pos (y_i_eq.mpr (by rw [g2.1.1, c]; rfl)), if_pos (y_i_eq.mpr (by rw [g1]; show _ = (6 : Int); omega))]
      · have hL : zpNots (zlx F N) one 0 tk = one tk := by
          show (if tk.1 = 110 then _ else _) = _
          rw [if_neg c]
        rw [hL]
        exact stop 0 n x2 tk K g0 g1 g2 g3 g4 g5 g6 g7 c
    | succ rr ih =>
      intro n x2 tk K g0 g1 g2 g3 g4 g5 g6 g7
      by_cases c : tk.1 = 110
      · have hL : zpNots (zlx F N) one (rr + 1) tk = match zpNots (zlx F N) one rr (zlx F N tk.2.2.1) with
            | .inl e => .inl e
            | .inr (tk', s) => .inr (tk', s ++ [-110]) := by
          show (if tk.1 = 110 then _ else _) = _
          rw [if_pos c]
          rfl
        obtain ⟨J1, a1, a2, a3, a4⟩ := zC_tok X (d + k + 1) m ce sl K L t 15 r q hN4 g2 (by omega)
        obtain ⟨n1, n2⟩ := zTO_nx (zlx_ok F N) g2.2.1 (by omega)
        obtain ⟨m1, m2⟩ := ih (n + 1) (x2 + Int32.ofInt 1) (zlx F N tk.2.2.1) J1 (by omega) (by rw [y_adl (by omega) (by omega) (by omega) (by omega)]; omega) a3 (zCS_r (a1 15 (by omega)) (a1 16 (by omega)) g3) (by omega) (zFrm_t g5 (zFrm_7 (by omega) a1 (fun j hj => a2 j (by omega)))) (by rw [a2 10 (by omega), g6]) (by rw [a2 11 (by omega), g7])
        have st : ∀ M, z_loop X z_cf z_ff (z_pu (z_run X z_cf z_ff (d + k + 4 + 3))) 72 (M + 2 * (rr + 1) + 30) 2 [(0, .ref 7), (1, .int x1), (2, .int x2)] [] (118, z_sd m, ce, sl, K, L, z_rr t 15 r q (z_gg m) (z_sf m)) = z_loop X z_cf z_ff (z_pu (z_run X z_cf z_ff (d + k + 4 + 3))) 72 (M + 2 * rr + 30) 2 [(0, .ref 7), (1, .int x1), (2, .int (x2 + Int32.ofInt 1))] [] (118, z_sd m, ce, sl, J1, L, z_rr t 15 r q (z_gg m) (z_sf m)) := by
          intro M
          rw [show M + 2 * (rr + 1) + 30 = (M + 2 * rr + 30) + 2 by omega, zt_Reader_readNots_2, if_neg (by rw [y_i_lt, g1]; show ¬ (6 : Int) < _; omega), if_pos (y_i_eq.mpr (by rw [g2.1.1, c]; rfl)), if_neg (y_lit (by rw [g1]; omega) (by omega) (by omega)), a4, z_b0_v, zb_Reader_readNots_36]
        cases hx : zpNots (zlx F N) one rr (zlx F N tk.2.2.1) with
        | inl y0 =>
          rw [hx] at hL
          have hL' : zpNots (zlx F N) one (rr + 1) tk = .inl y0 := hL
          rw [hL']
          refine ⟨fun e he => ?_, fun tk' s he => absurd he (by simp)⟩
          injection he with he
          subst he
          obtain ⟨J, q1, q2, q3, q4⟩ := m1 y0 hx
          exact ⟨J, q1, q2, q3, fun M => by rw [st, q4]⟩
        | inr y0 =>
          obtain ⟨tk2, s2⟩ := y0
          rw [hx] at hL
          have hL' : zpNots (zlx F N) one (rr + 1) tk = .inr (tk2, s2 ++ [-110]) := hL
          rw [hL']
          refine ⟨fun e he => absurd he (by simp), fun tk' s' he => ?_⟩
          injection he with he
          injection he with v1 v2
          subst v1
          subst v2
          obtain ⟨J, q1, q2, q3, q4, q5, q6⟩ := m2 tk2 s2 hx
          refine ⟨J, q1, q2, q3, q4, ?_, fun M => by rw [st, q6]⟩
          have e : s2 ++ [-110] ++ List.replicate n (-110) = s2 ++ List.replicate (n + 1) (-110) := by
            rw [List.append_assoc, List.replicate_succ]
            rfl
          rw [e]
          exact q5
      · have hL : zpNots (zlx F N) one (rr + 1) tk = one tk := by
          show (if tk.1 = 110 then _ else _) = _
          rw [if_neg c]
        rw [hL]
        exact stop (rr + 1) n x2 tk K g0 g1 g2 g3 g4 g5 g6 g7 c
  obtain ⟨m1, m2⟩ := lp 6 0 (Int32.ofInt 0) tk0 I rfl rfl hB0 hS0 (by omega) (zFrm_r I) rfl rfl
  refine ⟨fun e he => ?_, fun tk' s' he => ?_⟩
  · obtain ⟨J, q1, q2, q3, q4⟩ := m1 e he
    exact ⟨J, q1, q2, q3, en _ (fun M => by rw [show M + 60 = (M + 18) + 2 * 6 + 30 by omega, q4])⟩
  · obtain ⟨J, q1, q2, q3, q4, q5, q6⟩ := m2 tk' s' he
    refine ⟨J, q1, q2, q3, q4, ?_, en _ (fun M => by rw [show M + 60 = (M + 18) + 2 * 6 + 30 by omega, q6])⟩
    rw [List.replicate_zero, List.append_nil] at q5
    exact q5
theorem zC_expr_15 {X : ZX} {F : Nat → Int} {N : Nat} (hN4 : N ≤ 400) : ∀ (rr : Nat) (x1 : Int32), rr ≤ 6 → x1.toInt = 6 - (rr : Int) → zCM X (12 * rr + 8) 15 F N (zpExpr (zlx F N) rr) 68 [.ref 7, .int x1] := by
  intro rr
  induction rr with
  | zero =>
    intro x1 h6 hx d m ce sl I L t r q tk s0 hB hS hl
    have k5 : (I 7 5).toInt = tk.1 := hB.1.1
    have n5 : ¬ x1 ≤ Int32.ofInt 5 := by rw [y_i_le, hx]; show ¬ _ ≤ (5 : Int); omega
    have hP : zpExpr (zlx F N) 0 tk = .inl (zbgk tk.1, tk.2.1) := rfl
    rw [hP]
    refine ⟨fun e he => ?_, fun tk' s he => absurd he (by simp)⟩
    injection he with he
    subst he
    have hz : (Int32.ofInt (zbgk tk.1)).toInt = zbgk tk.1 := by
      rcases zbgk_r tk.1 with h | h <;> rw [h] <;> rfl
    refine ⟨z_up (z_up I 7 10 (Int32.ofInt (zbgk tk.1))) 7 11 (I 7 6), zFrm_f (by omega) I _ _, by rw [z_up_j _ _ _ _ _ (by omega), z_up_s]; exact hz, by rw [z_up_s]; exact hB.1.2.1, ?_⟩
    rw [show d + (12 * 0 + 8) = d + 5 + 3 by omega]
    refine z_en X (d + 5) _ _ [(0, .ref 7), (1, .int x1)] _ _ rfl rfl rfl ?_
    rw [show (100000000 : Nat) = 99999998 + 2 by omega, zt_Reader_readExpression_0 X (d + 4), if_neg n5]
    unfold zbgk
    by_cases c2 : tk.1 = 2
    · rw [if_pos (y_i_eq.mpr (by rw [k5, c2]; rfl)), if_pos (Or.inl c2)]
    · rw [if_neg (y_lit (by rw [k5]; exact c2) (by omega) (by omega))]
      by_cases c40 : tk.1 = 40
      · rw [if_pos (y_i_eq.mpr (by rw [k5, c40]; rfl)), if_pos (Or.inr (Or.inl c40))]
      · rw [if_neg (y_lit (by rw [k5]; exact c40) (by omega) (by omega))]
        by_cases cw : tk.1 < 100
        · rw [if_pos ((y_word0 _).mpr (by rw [k5]; exact cw)), if_neg (by omega)]
        · rw [if_neg (fun h => cw (by rw [← k5]; exact (y_word0 _).mp h)), if_pos (by omega)]
  | succ rr ih =>
    intro x1 h6 hx
    have hl := zlx_ok F N
    have aE := zAdv_expr hl rr
    have a0 := zAdv_part hl aE
    have a6 := zAdv_row hl (sg := 6) (by omega) a0
    have a5 := zAdv_row hl (sg := 5) (by omega) a6
    have a4 := zAdv_test hl a5
    have a3 := zAdv_nots hl a4 6
    have a2 := zAdv_row hl (sg := 2) (by omega) a3
    have hE := ih (x1 + Int32.ofInt 1) (by omega) (by rw [y_adl (by omega) (by omega) (by omega) (by omega)]; omega)
    have c0 : zCM X (12 * rr + 9) 15 F N (zpPart (zlx F N) (zpExpr (zlx F N) rr)) 75 [.ref 7, .int x1] := zC_part_15 (k := 12 * rr + 1) hN4 hE
    have c0' : zCM X (12 * rr + 10) 15 F N (zpPart (zlx F N) (zpExpr (zlx F N) rr)) 71 [.ref 7, .int (Int32.ofInt 3), .int x1] := zC_one3 (k := 12 * rr + 7) c0
    have c6 := zC_row_15 (k := 12 * rr + 3) hN4 zkg_3 (by omega) a0 c0'
    have c6' := zC_one2 (k := 12 * rr + 9) c6
    have c5 := zC_row_15 (k := 12 * rr + 5) hN4 zkg_2 (by omega) a6 c6'
    have c4 := zC_test_15 (k := 12 * rr + 6) hN4 a5 c5
    have c3 := zC_nots_15 (k := 12 * rr + 7) hN4 a4 c4
    have c3' := zC_one1 (k := 12 * rr + 13) c3
    have c2 := zC_row_15 (k := 12 * rr + 9) hN4 zkg_1 (by omega) a3 c3'
    have c2' := zC_one0 (k := 12 * rr + 15) c2
    have c1 := zC_row_15 (k := 12 * rr + 11) hN4 zkg_0 (by omega) a2 c2'
    intro d m ce sl I L t r q tk s0 hB hS hl0
    have i5 : x1 ≤ Int32.ofInt 5 := by rw [y_i_le, hx]; show _ ≤ (5 : Int); omega
    have hP : zpExpr (zlx F N) (rr + 1) tk = zpRow (zlx F N) 1 (zpRow (zlx F N) 2 (zpAnds (zlx F N) (zpExpr (zlx F N) rr))) tk := rfl
    rw [hP]
    obtain ⟨e1, e2⟩ := c1 d m ce sl I L t r q tk s0 hB hS hl0
    rw [show d + (12 * rr + 11 + 8) = d + (12 * rr + 11) + 5 + 3 by omega] at e1 e2
    have en : ∀ v : ZR, (∀ M, z_loop X z_cf z_ff (z_pu (z_run X z_cf z_ff (d + (12 * rr + 11) + 5 + 3))) 68 (M + 20) 0 [(0, .ref 7), (1, .int x1)] [] (118, z_sd m, ce, sl, I, L, z_rr t 15 r q (z_gg m) (z_sf m)) = v) → z_pu (z_run X z_cf z_ff (d + (12 * (rr + 1) + 8))) 68 [.ref 7, .int x1] (118, z_sd m, ce, sl, I, L, z_rr t 15 r q (z_gg m) (z_sf m)) = v := by
      intro v h
      rw [show d + (12 * (rr + 1) + 8) = d + (12 * rr + 11) + 6 + 3 by omega]
      exact z_en X (d + (12 * rr + 11) + 6) _ _ [(0, .ref 7), (1, .int x1)] _ _ rfl rfl rfl (h 99999980)
    refine ⟨fun e he => ?_, fun tk' s he => ?_⟩
    · obtain ⟨J, q1, q2, q3, q4⟩ := e1 e he
      exact ⟨J, q1, q2, q3, en _ (fun M => by rw [zt_Reader_readExpression_0, if_pos i5, q4, z_bi_v, zb_Reader_readExpression_58, z_b1_0, z_gd_t])⟩
    · obtain ⟨J, q1, q2, q3, q4, q5, q6⟩ := e2 tk' s he
      exact ⟨J, q1, q2, q3, q4, q5, en _ (fun M => by rw [zt_Reader_readExpression_0, if_pos i5, q6, z_bi_v, zb_Reader_readExpression_58, z_b1_1, z_gd_t])⟩
