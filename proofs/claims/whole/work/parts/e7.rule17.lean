/-! RULES, 20: the model's machine: numbers and clauses for stands -/
theorem zcd_u {F G : Nat → Int32} (l : List Int) : ∀ k, zcd F k l → (∀ j, k ≤ j → j ≤ k + zcn l → G j = F j) → zcd G k l := by
  induction l with
  | nil =>
    intro k h hG
    show G k = Int32.ofInt 0
    rw [hG k (Nat.le_refl _) (by omega)]
    exact h
  | cons v l ih =>
    intro k h hG
    have hn : zcn (v :: l) = zc1 v + zcn l := rfl
    rw [hn] at hG
    unfold zcd at h ⊢
    unfold zc1 at hG
    by_cases c : 0 ≤ v
    · rw [if_pos c] at h hG ⊢
      exact ⟨by rw [hG k (by omega) (by omega)]; exact h.1, by rw [hG (k + 1) (by omega) (by omega)]; exact h.2.1, ih _ h.2.2 (fun j j1 j2 => hG j (by omega) (by omega))⟩
    · rw [if_neg c] at h hG ⊢
      by_cases c2 : -109 ≤ v ∧ v ≤ -100
      · rw [if_pos c2] at h hG ⊢
        exact ⟨by rw [hG k (by omega) (by omega)]; exact h.1, by rw [hG (k + 1) (by omega) (by omega)]; exact h.2.1, ih _ h.2.2 (fun j j1 j2 => hG j (by omega) (by omega))⟩
      · rw [if_neg c2] at h hG ⊢
        exact ⟨by rw [hG k (by omega) (by omega)]; exact h.1, ih _ h.2 (fun j j1 j2 => hG j (by omega) (by omega))⟩
/-- clauses in the model's bank, their code below a place -/
def zPM (b top : Nat) (I : Nat → Nat → Int32) : Nat → List zcl → Prop
  | _, [] => True
  | k, x :: l => ((I 72 k).toInt = x.1 ∧ (∃ p : Nat, I 73 k = Int32.ofNat p ∧ 1000 * b ≤ p ∧ p + zcn x.2.1 < top ∧ p + 2 * x.2.1.length ≤ 1000 * b + 800 ∧ zcd (I 75) p x.2.1) ∧ (x.2.2 = [] → I 74 k = Int32.ofInt (-1)) ∧ (x.2.2 ≠ [] → ∃ p : Nat, I 74 k = Int32.ofNat p ∧ 1000 * b ≤ p ∧ p + zcn x.2.2 < top ∧ p + 2 * x.2.2.length ≤ 1000 * b + 800 ∧ zcd (I 75) p x.2.2)) ∧ zPM b top I (k + 1) l
theorem zPM_u {b top top' : Nat} {I J : Nat → Nat → Int32} (ht : top ≤ top') (h1 : ∀ j, 1000 * b ≤ j → j < top → J 75 j = I 75 j) (l : List zcl) : ∀ k, (∀ x, 72 ≤ x → x ≤ 74 → ∀ j, k ≤ j → j < k + l.length → J x j = I x j) → zPM b top I k l → zPM b top' J k l := by
  induction l with
  | nil => intro _ _ _; trivial
  | cons x l ih =>
    intro k h2 h
    have hl : (x :: l).length = l.length + 1 := rfl
    rw [hl] at h2
    obtain ⟨⟨a1, ⟨p, a2, a3, a4, a5, a6⟩, a7, a8⟩, a9⟩ := h
    refine ⟨⟨by rw [h2 72 (by omega) (by omega) k (by omega) (by omega)]; exact a1, ⟨p, by rw [h2 73 (by omega) (by omega) k (by omega) (by omega)]; exact a2, a3, by omega, a5, zcd_u _ _ a6 (fun j j1 j2 => h1 j (by omega) (by omega))⟩, fun e => by rw [h2 74 (by omega) (by omega) k (by omega) (by omega)]; exact a7 e, fun e => ?_⟩, ih (k + 1) (fun x x1 x2 j j1 j2 => h2 x x1 x2 j (by omega) (by omega)) a9⟩
    obtain ⟨p2, b2, b3, b4, b5, b6⟩ := a8 e
    exact ⟨p2, by rw [h2 74 (by omega) (by omega) k (by omega) (by omega)]; exact b2, b3, by omega, b5, zcd_u _ _ b6 (fun j j1 j2 => h1 j (by omega) (by omega))⟩
theorem zPM_a {b top : Nat} {I : Nat → Nat → Int32} (x : zcl) (l : List zcl) : ∀ k, zPM b top I k l → zPM b top I (k + l.length) [x] → zPM b top I k (l ++ [x]) := by
  induction l with
  | nil => intro k _ h; exact h
  | cons y l ih =>
    intro k h hx
    have hl : (y :: l).length = l.length + 1 := rfl
    rw [hl] at hx
    exact ⟨h.1, ih (k + 1) h.2 (by rw [show k + 1 + l.length = k + (l.length + 1) by omega]; exact hx)⟩
/-- what reading rules into a bank leaves -/
def zMS (b : Nat) (I J : Nat → Nat → Int32) (L LJ : Nat → Nat → Int64) : Prop := (∀ x, x ≠ 55 → (x < 70 ∨ 77 < x) → J x = I x) ∧ (∀ j, (j < 18 ∨ j = 20 ∨ j = 28 ∨ j = 29 ∨ 33 < j) → J 55 j = I 55 j) ∧ (∀ x, x ≠ 55 → LJ x = L x) ∧ (∀ j, j ≠ 27 → LJ 55 j = L 55 j) ∧ (∀ j, (j < 4 * b ∨ 4 * b + 4 ≤ j) → J 70 j = I 70 j) ∧ (∀ j, j ≠ b → J 71 j = I 71 j) ∧ (∀ x, 72 ≤ x → x ≤ 74 → ∀ j, (j < 12 * b ∨ 12 * b + 12 ≤ j) → J x j = I x j) ∧ (∀ j, (j < 1000 * b ∨ 1000 * b + 810 ≤ j) → J 75 j = I 75 j)
theorem zMS_r (b : Nat) (I : Nat → Nat → Int32) (L : Nat → Nat → Int64) : zMS b I I L L := ⟨fun _ _ _ => rfl, fun _ _ => rfl, fun _ _ => rfl, fun _ _ => rfl, fun _ _ => rfl, fun _ _ => rfl, fun _ _ _ _ _ => rfl, fun _ _ => rfl⟩
theorem zMS_t {b : Nat} {I J K : Nat → Nat → Int32} {L LJ LK : Nat → Nat → Int64} (h1 : zMS b I J L LJ) (h2 : zMS b J K LJ LK) : zMS b I K L LK := by
  obtain ⟨a1, a2, a3, a4, a5, a6, a7, a8⟩ := h1
  obtain ⟨b1, b2, b3, b4, b5, b6, b7, b8⟩ := h2
  exact ⟨fun x x1 x2 => (b1 x x1 x2).trans (a1 x x1 x2), fun j h => (b2 j h).trans (a2 j h), fun x h => (b3 x h).trans (a3 x h), fun j h => (b4 j h).trans (a4 j h), fun j h => (b5 j h).trans (a5 j h), fun j h => (b6 j h).trans (a6 j h), fun x x1 x2 j h => (b7 x x1 x2 j h).trans (a7 x x1 x2 j h), fun j h => (b8 j h).trans (a8 j h)⟩
def zM5 (I J : Nat → Nat → Int32) (L LJ : Nat → Nat → Int64) : Prop := (∀ x, x ≠ 55 → J x = I x) ∧ (∀ j, (j < 18 ∨ j = 20 ∨ 26 < j) → J 55 j = I 55 j) ∧ (∀ x, x ≠ 55 → LJ x = L x) ∧ (∀ j, j ≠ 27 → LJ 55 j = L 55 j)
theorem zM5_t {I J K : Nat → Nat → Int32} {L LJ LK : Nat → Nat → Int64} (h1 : zM5 I J L LJ) (h2 : zM5 J K LJ LK) : zM5 I K L LK := ⟨fun x h => (h2.1 x h).trans (h1.1 x h), fun j h => (h2.2.1 j h).trans (h1.2.1 j h), fun x h => (h2.2.2.1 x h).trans (h1.2.2.1 x h), fun j h => (h2.2.2.2 j h).trans (h1.2.2.2 j h)⟩
theorem zMS_5 {b : Nat} {I J : Nat → Nat → Int32} {L LJ : Nat → Nat → Int64} (h : zM5 I J L LJ) : zMS b I J L LJ := ⟨fun x x1 _ => h.1 x x1, fun j hj => h.2.1 j (by omega), h.2.2.1, h.2.2.2, fun j _ => by rw [h.1 70 (by omega)], fun j _ => by rw [h.1 71 (by omega)], fun x x1 x2 j _ => by rw [h.1 x (by omega)], fun j _ => by rw [h.1 75 (by omega)]⟩
theorem zMS_F {a b : Nat} {I J : Nat → Nat → Int32} {L LJ : Nat → Nat → Int64} (h : zMF a (1000 * b + 810) I J L LJ) (ha : 1000 * b ≤ a) : zMS b I J L LJ := by
  obtain ⟨h1, h2, h3, h4, h5⟩ := h
  exact ⟨fun x x1 x2 => h1 x x1 (by omega) (by omega) (by omega), fun j hj => h2 j (by omega), h3, h4, fun j _ => by rw [h1 70 (by omega) (by omega) (by omega) (by omega)], fun j _ => by rw [h1 71 (by omega) (by omega) (by omega) (by omega)], fun x x1 x2 j _ => by rw [h1 x (by omega) (by omega) (by omega) (by omega)], fun j hj => h5 j (by omega)⟩
theorem zMS_7 {b : Nat} (I : Nat → Nat → Int32) (L : Nat → Nat → Int64) (v : Int32) : zMS b I (z_up I 71 b v) L L := ⟨fun x x1 x2 => z_up_r _ _ _ _ _ (by omega), fun j _ => by rw [z_up_r _ _ _ _ _ (by omega)], fun _ _ => rfl, fun _ _ => rfl, fun j _ => by rw [z_up_r _ _ _ _ _ (by omega)], fun j hj => z_up_j _ _ _ _ _ hj, fun x x1 x2 j _ => by rw [z_up_r _ _ _ _ _ (by omega)], fun j _ => by rw [z_up_r _ _ _ _ _ (by omega)]⟩
theorem zMS_k {b k x0 : Nat} (I : Nat → Nat → Int32) (L : Nat → Nat → Int64) (v : Int32) (h1 : 72 ≤ x0) (h2 : x0 ≤ 74) (h3 : 12 * b ≤ k) (h4 : k < 12 * b + 12) : zMS b I (z_up I x0 k v) L L := by
  refine ⟨fun x x1 x2 => z_up_r _ _ _ _ _ (by omega), fun j _ => by rw [z_up_r _ _ _ _ _ (by omega)], fun _ _ => rfl, fun _ _ => rfl, fun j _ => by rw [z_up_r _ _ _ _ _ (by omega)], fun j _ => by rw [z_up_r _ _ _ _ _ (by omega)], fun x x1 x2 j hj => ?_, fun j _ => by rw [z_up_r _ _ _ _ _ (by omega)]⟩
  by_cases e : x = x0
  · rw [e, z_up_j _ _ _ _ _ (by omega)]
  · rw [z_up_r _ _ _ _ _ e]
theorem zMS_f {b f : Nat} (I : Nat → Nat → Int32) (L : Nat → Nat → Int64) (v : Int32) (h1 : 18 ≤ f) (h2 : f ≤ 33) (h3 : f ≠ 20) (h4 : f ≠ 28) (h5 : f ≠ 29) : zMS b I (z_up I 55 f v) L L := ⟨fun x x1 x2 => z_up_r _ _ _ _ _ x1, fun j _ => z_up_j _ _ _ _ _ (by omega), fun _ _ => rfl, fun _ _ => rfl, fun j _ => by rw [z_up_r _ _ _ _ _ (by omega)], fun j _ => by rw [z_up_r _ _ _ _ _ (by omega)], fun x x1 x2 j _ => by rw [z_up_r _ _ _ _ _ (by omega)], fun j _ => by rw [z_up_r _ _ _ _ _ (by omega)]⟩
theorem zMS_q {b f : Nat} (I : Nat → Nat → Int32) (L : Nat → Nat → Int64) (v : Int32) (h1 : 4 * b ≤ f) (h2 : f < 4 * b + 4) : zMS b I (z_up I 70 f v) L L := ⟨fun x x1 x2 => z_up_r _ _ _ _ _ (by omega), fun j _ => by rw [z_up_r _ _ _ _ _ (by omega)], fun _ _ => rfl, fun _ _ => rfl, fun j _ => z_up_j _ _ _ _ _ (by omega), fun j _ => by rw [z_up_r _ _ _ _ _ (by omega)], fun x x1 x2 j _ => by rw [z_up_r _ _ _ _ _ (by omega)], fun j _ => by rw [z_up_r _ _ _ _ _ (by omega)]⟩
theorem zM5_w (I : Nat → Nat → Int32) (L : Nat → Nat → Int64) (a b : Int32) : zM5 I (z_up (z_up I 55 18 a) 55 19 b) L L := ⟨fun x hx => by rw [z_up_r _ _ _ _ _ hx, z_up_r _ _ _ _ _ hx], fun j hj => by rw [z_up_j _ _ _ _ _ (by omega), z_up_j _ _ _ _ _ (by omega)], fun _ _ => rfl, fun _ _ => rfl⟩
theorem y_k0 {k : Int} (h1 : 1 ≤ k) (h2 : k ≤ 4) : ¬ Int32.ofInt k = 0 := by
  intro h
  have e := y_oi (v := k) (by omega) (by omega)
  rw [h, y_i0] at e
  omega
/-- a number -/
theorem zM_num (X : ZX) (d m ce sl : Nat) (I : Nat → Nat → Int32) (L : Nat → Nat → Int64) (t u r q : Nat) {F : Nat → Int} {N : Nat} (hN4 : N ≤ 400) {tk : zTk} (h1 : zMB F N tk I L) (h2 : I 55 18 = 0) (x1 x2 : Int32) {most kind : Int} (hx1 : x1.toInt = most) (hx2 : x2 = Int32.ofInt kind) (hk1 : 1 ≤ kind) (hk2 : kind ≤ 4) :
    (∀ e, zpNum (zlx F N) most kind tk = .inl e → ∃ (J : Nat → Nat → Int32) (LJ : Nat → Nat → Int64) (v : Int32), zM5 I J L LJ ∧ J 55 18 = Int32.ofInt e.1 ∧ (J 55 19).toInt = e.2 ∧ 1 ≤ e.1 ∧ e.1 ≤ 4 ∧ z_pu (z_run X z_cf z_ff (d + 5)) 195 [.ref 55, .int x1, .int x2] (118, z_sd m, ce, sl, I, L, z_rr t u r q (z_gg m) (z_sf m)) = some (.inl (some (.int v)), (118, z_sd m, ce, sl, J, LJ, z_rr t u r q (z_gg m) (z_sf m)))) ∧
    (∀ tt v, zpNum (zlx F N) most kind tk = .inr (tt, v) → ∃ (J : Nat → Nat → Int32) (LJ : Nat → Nat → Int64) (y : Int32), zM5 I J L LJ ∧ zMB F N tt J LJ ∧ J 55 18 = 0 ∧ y.toInt = v ∧ tk.2.1 + 1 ≤ tt.2.1 ∧ z_pu (z_run X z_cf z_ff (d + 5)) 195 [.ref 55, .int x1, .int x2] (118, z_sd m, ce, sl, I, L, z_rr t u r q (z_gg m) (z_sf m)) = some (.inl (some (.int y)), (118, z_sd m, ce, sl, J, LJ, z_rr t u r q (z_gg m) (z_sf m)))) := by
  obtain ⟨t1, t2, t3, t4, t5, t6, t7⟩ := h1.1
  have hO := h1.2.1
  have en : ∀ rr : ZR, (∀ M, z_loop X z_cf z_ff (z_pu (z_run X z_cf z_ff (d + 4))) 195 (M + 20) 0 [(0, .ref 55), (1, .int x1), (2, .int x2)] [] (118, z_sd m, ce, sl, I, L, z_rr t u r q (z_gg m) (z_sf m)) = rr) → z_pu (z_run X z_cf z_ff (d + 5)) 195 [.ref 55, .int x1, .int x2] (118, z_sd m, ce, sl, I, L, z_rr t u r q (z_gg m) (z_sf m)) = rr := fun rr h => z_en X (d + 2) _ _ [(0, .ref 55), (1, .int x1), (2, .int x2)] _ _ rfl rfl rfl (h 99999980)
  have isg := zM_isg X (d + 1) m ce sl I L t u r q h2
  -- behind a fault
  have flt : ∀ (k : Int), 1 ≤ k → k ≤ 4 → ∀ M, z_loop X z_cf z_ff (z_pu (z_run X z_cf z_ff (d + 4))) 195 (M + 3) 54 [(0, .ref 55)] [] (118, z_sd m, ce, sl, (z_up (z_up I 55 18 (Int32.ofInt k)) 55 19 (I 55 23)), L, z_rr t u r q (z_gg m) (z_sf m)) = some (.inl (some (.int (I 55 25))), (118, z_sd m, ce, sl, (z_up (z_up I 55 18 (Int32.ofInt k)) 55 19 (I 55 23)), L, z_rr t u r q (z_gg m) (z_sf m))) := by
    intro k k1 k2 M
    have hb : ¬ (z_up (z_up I 55 18 (Int32.ofInt k)) 55 19 (I 55 23)) 55 18 = 0 := by
      rw [z_up_j _ _ _ _ _ (by omega), z_up_s]
      exact y_k0 k1 k2
    have e25 : (z_up (z_up I 55 18 (Int32.ofInt k)) 55 19 (I 55 23)) 55 25 = I 55 25 := by rw [z_up_j _ _ _ _ _ (by omega), z_up_j _ _ _ _ _ (by omega)]
    rw [show M + 3 = M + 1 + 1 + 1 by omega, zb_M_number_54, zM_isb X (d + 1) m ce sl _ L t u r q hb, z_bi_v, e25, zb_M_number_63, if_pos (by decide), zb_M_number_70]
  have bad : ∀ (k : Int), 1 ≤ k → k ≤ 4 → (∀ M, z_loop X z_cf z_ff (z_pu (z_run X z_cf z_ff (d + 4))) 195 (M + 20) 0 [(0, .ref 55), (1, .int x1), (2, .int x2)] [] (118, z_sd m, ce, sl, I, L, z_rr t u r q (z_gg m) (z_sf m)) = some (.inl (some (.int (I 55 25))), (118, z_sd m, ce, sl, (z_up (z_up I 55 18 (Int32.ofInt k)) 55 19 (I 55 23)), L, z_rr t u r q (z_gg m) (z_sf m)))) → ∀ e : zFl, (k, tk.2.1) = e → ∃ (J : Nat → Nat → Int32) (LJ : Nat → Nat → Int64) (v : Int32), zM5 I J L LJ ∧ J 55 18 = Int32.ofInt e.1 ∧ (J 55 19).toInt = e.2 ∧ 1 ≤ e.1 ∧ e.1 ≤ 4 ∧ z_pu (z_run X z_cf z_ff (d + 5)) 195 [.ref 55, .int x1, .int x2] (118, z_sd m, ce, sl, I, L, z_rr t u r q (z_gg m) (z_sf m)) = some (.inl (some (.int v)), (118, z_sd m, ce, sl, J, LJ, z_rr t u r q (z_gg m) (z_sf m))) := by
    intro k k1 k2 h e he
    subst he
    exact ⟨_, L, I 55 25, zM5_w I L (Int32.ofInt k) (I 55 23), by rw [z_up_j _ _ _ _ _ (by omega), z_up_s], by rw [z_up_s]; exact t1, k1, k2, en _ h⟩
  by_cases c2 : tk.1 = 2
  · have s22 : I 55 22 = Int32.ofInt 2 := y_eqi (by rw [t3, zso_2.mpr c2])
    have s25 := t5 c2
    obtain ⟨o1, o2, o3⟩ := hO.2.2.2 c2
    by_cases c5 : tk.2.2.2.2 ≤ 5
    · have i5 : I 55 24 ≤ Int32.ofInt 5 := by rw [y_i_le, t4]; show _ ≤ (5 : Int); omega
      by_cases cm : tk.2.2.2.1 ≤ most
      · rw [zpNum_4 c2 c5 cm]
        refine ⟨fun e he => absurd he (by simp), fun tt v he => ?_⟩
        injection he with he
        injection he with u1 u2
        subst u1
        subst u2
        obtain ⟨J, LJ, i1, i2, i3, i4, i5', i6, i7⟩ := zM_tok X d m ce sl I L t u r q hN4 h1 (by omega)
        refine ⟨J, LJ, I 55 25, ⟨i1, fun j hj => i2 j (by omega), i3, i4⟩, i5', by rw [i2 18 (by omega)]; exact h2, s25, i6, en _ (fun M => ?_)⟩
        rw [show M + 20 = M + 15 + 1 + 1 + 1 + 1 + 1 by omega, zb_M_number_0, isg, z_bi_v, zb_M_number_4, if_neg (by decide), if_pos s22, if_pos i5, if_pos (by rw [y_i_le, s25, hx1]; exact cm), zb_M_number_54, isg, z_bi_v, zb_M_number_63, if_neg (by decide), i7, z_b0_v, zb_M_number_70]
      · rw [zpNum_3 c2 c5 cm]
        refine ⟨fun e he => ?_, fun tt v he => absurd he (by simp)⟩
        injection he with he
        refine bad kind hk1 hk2 (fun M => ?_) e he
        rw [show M + 20 = (M + 15 + 3) + 1 + 1 by omega, zb_M_number_0, isg, z_bi_v, zb_M_number_4, if_neg (by decide), if_pos s22, if_pos i5, if_neg (by rw [y_i_le, s25, hx1]; exact cm), zk_M_wrong_0 X (d + 1), if_pos h2, z_b0_v, hx2, flt kind hk1 hk2]
    · rw [zpNum_2 c2 c5]
      refine ⟨fun e he => ?_, fun tt v he => absurd he (by simp)⟩
      injection he with he
      refine bad 2 (by omega) (by omega) (fun M => ?_) e he
      rw [show M + 20 = (M + 14 + 3) + 1 + 1 + 1 by omega, zb_M_number_0, isg, z_bi_v, zb_M_number_4, if_neg (by decide), if_pos s22, if_neg (by rw [y_i_le, t4]; show ¬ _ ≤ (5 : Int); omega), zk_M_wrong_0 X (d + 1), if_pos h2, z_b0_v, zb_M_number_38, flt 2 (by omega) (by omega)]
  · rw [zpNum_1 c2]
    refine ⟨fun e he => ?_, fun tt v he => absurd he (by simp)⟩
    injection he with he
    refine bad 1 (by omega) (by omega) (fun M => ?_) e he
    rw [show M + 20 = (M + 14 + 3) + 1 + 1 + 1 by omega, zb_M_number_0, isg, z_bi_v, zb_M_number_4, if_neg (by decide), if_neg (y_lit (by rw [t3]; exact fun h => c2 (zso_2.mp h)) (by omega) (by omega)), zk_M_wrong_0 X (d + 1), if_pos h2, z_b0_v, zb_M_number_22, flt 1 (by omega) (by omega)]
/-- behind 'stand' -/
theorem zM_std (X : ZX) (d m ce sl : Nat) (I : Nat → Nat → Int32) (L : Nat → Nat → Int64) (t u r q : Nat) {F : Nat → Int} {N : Nat} (hN4 : N ≤ 400) {b top nst : Nat} (hb : b < 2) (x1 : Int32) (hx : x1.toInt = b) {tk : zTk} {P : List zcl} (h1 : zMB F N tk I L) (h2 : I 55 18 = 0) (h3 : (I 55 30).toInt = top) (h4 : 1000 * b ≤ top) (h5 : top ≤ 1000 * b + 2 * tk.2.1) (h6 : (I 71 b).toInt = P.length) (h7 : P.length < 12) (h8 : zPM b top I (12 * b) P) (h9 : (I 55 1).toInt = nst) :
    (∀ e, zpStd (zlx F N) nst tk = .inl e → ∃ (J : Nat → Nat → Int32) (LJ : Nat → Nat → Int64), zMS b I J L LJ ∧ J 55 18 = Int32.ofInt e.1 ∧ (J 55 19).toInt = e.2 ∧ 1 ≤ e.1 ∧ e.1 ≤ 4 ∧ z_pu (z_run X z_cf z_ff (d + 8)) 194 [.ref 55, .int x1] (118, z_sd m, ce, sl, I, L, z_rr t u r q (z_gg m) (z_sf m)) = some (.inl none, (118, z_sd m, ce, sl, J, LJ, z_rr t u r q (z_gg m) (z_sf m)))) ∧
    (∀ tt cc, zpStd (zlx F N) nst tk = .inr (tt, cc) → ∃ (J : Nat → Nat → Int32) (LJ : Nat → Nat → Int64) (top' : Nat), zMS b I J L LJ ∧ zMB F N tt J LJ ∧ J 55 18 = 0 ∧ (J 55 30).toInt = top' ∧ 1000 * b ≤ top' ∧ top' ≤ 1000 * b + 2 * tt.2.1 + 1 ∧ (J 71 b).toInt = ((P.length + 1 : Nat) : Int) ∧ zPM b top' J (12 * b) (P ++ [cc]) ∧ J 70 = I 70 ∧ J 55 33 = I 55 33 ∧ z_pu (z_run X z_cf z_ff (d + 8)) 194 [.ref 55, .int x1] (118, z_sd m, ce, sl, I, L, z_rr t u r q (z_gg m) (z_sf m)) = some (.inl none, (118, z_sd m, ce, sl, J, LJ, z_rr t u r q (z_gg m) (z_sf m)))) := by
  have en : ∀ rr : ZR, (∀ M, z_loop X z_cf z_ff (z_pu (z_run X z_cf z_ff (d + 7))) 194 (M + 30) 0 [(0, .ref 55), (1, .int x1)] [] (118, z_sd m, ce, sl, I, L, z_rr t u r q (z_gg m) (z_sf m)) = rr) → z_pu (z_run X z_cf z_ff (d + 8)) 194 [.ref 55, .int x1] (118, z_sd m, ce, sl, I, L, z_rr t u r q (z_gg m) (z_sf m)) = rr := fun rr h => z_en X (d + 5) _ _ [(0, .ref 55), (1, .int x1)] _ _ rfl rfl rfl (h 99999970)
  have hy1 := y_hi (I 55 1)
  have hk1 : (I 55 1 - Int32.ofInt 1).toInt = (nst : Int) - 1 := by rw [y_sbl (by omega) (by omega) (by omega) (by omega)]; omega
  obtain ⟨n1, n2⟩ := zM_num X (d + 2) m ce sl I L t u r q hN4 h1 h2 (I 55 1 - Int32.ofInt 1) (Int32.ofInt 4) hk1 rfl (by omega) (by omega)
  cases hn : zpNum (zlx F N) ((nst : Int) - 1) 4 tk with
  | inl y0 =>
    have hE : zpStd (zlx F N) nst tk = .inl y0 := by
      unfold zpStd
      rw [hn]
    rw [hE]
    refine ⟨fun e he => ?_, fun tt cc he => absurd he (by simp)⟩
    injection he with he
    subst he
    obtain ⟨J, LJ, v, a1, a2, a3, a4, a5, a6⟩ := n1 y0 hn
    have hbad : ¬ J 55 18 = 0 := by rw [a2]; exact y_k0 a4 a5
    refine ⟨J, LJ, zMS_5 a1, a2, a3, a4, a5, en _ (fun M => ?_)⟩
    rw [show M + 30 = M + 25 + 1 + 1 + 1 + 1 + 1 by omega, zb_M_ofStand_0, a6, z_bi_v, zb_M_ofStand_11, zM_isb X (d + 4) m ce sl J LJ t u r q hbad, z_bi_v, zb_M_ofStand_16, if_pos (by decide), zb_M_ofStand_33, zM_isb X (d + 4) m ce sl J LJ t u r q hbad, z_bi_v, zb_M_ofStand_37, if_pos (by decide)]
  | inr y0 =>
    obtain ⟨t1, v⟩ := y0
    have hE0 : zpStd (zlx F N) nst tk = if t1.1 = 100 then match zpExpr (zlx F N) 6 (zlx F N t1.2.2.1) with
          | .inl e => .inl e
          | .inr (t2, s) => if t2.1 = 113 then match zpExpr (zlx F N) 6 (zlx F N t2.2.2.1) with
              | .inl e => .inl e
              | .inr (t3, s2) => .inr (t3, (v, s, s2))
            else .inr (t2, (v, s, []))
        else .inl (1, t1.2.1) := by
      unfold zpStd
      rw [hn]
      rfl
    obtain ⟨J1, L1, y, a1, a2, a3, a4, a5, a6⟩ := n2 t1 v hn
    obtain ⟨g, g1, g2⟩ := zr_known X (d + 3) m ce sl J1 L1 t u r q a2.1 a2.2.1
    by_cases c100 : t1.1 = 100
    · rw [if_pos c100] at hE0
      have hg : g = Int32.ofInt 9 := y_eqi (by rw [g1]; exact zkw_9.mpr c100)
      obtain ⟨J2, L2, b1, b2, b3, b4, b5, b6, b7⟩ := zM_tok X (d + 3) m ce sl J1 L1 t u r q hN4 a2 (by omega)
      generalize zlx F N t1.2.2.1 = t2 at *
      have hx1n : x1.toNatClampNeg = b := by rw [y_tn, hx]; rfl
      have in2 : z_in x1 2 = true := y_in_t (by omega) (by omega)
      have j71 : J2 71 = I 71 := by rw [b1 71 (by omega), a1.1 71 (by omega)]
      have e12 : (Int32.ofInt 12 * x1).toInt = 12 * (b : Int) := by rw [y_lmu (by omega) (by omega) (by omega) (by omega), hx]
      have ek : (Int32.ofInt 12 * x1 + J2 71 b).toInt = ((12 * b + P.length : Nat) : Int) := by
        rw [y_ad (by rw [j71]; omega) (by rw [j71]; omega), e12, j71, h6]
        omega
      have nk : (Int32.ofInt 12 * x1 + J2 71 b).toNatClampNeg = 12 * b + P.length := by rw [y_tn, ek]; rfl
      have ik : z_in (Int32.ofInt 12 * x1 + J2 71 b) 24 = true := y_in_t (by omega) (by omega)
      have S2 : zMS b I J2 L L2 := zMS_5 (zM5_t a1 ⟨b1, fun j hj => b2 j (by omega), b3, b4⟩)
      have SK : zMS b J2 (z_up (z_up J2 71 b (J2 71 b + Int32.ofInt 1)) 72 (12 * b + P.length) y) L2 L2 := zMS_t (zMS_7 J2 L2 _) (zMS_k _ L2 y (by omega) (by omega) (by omega) (by omega))
      have kr : ∀ x, x ≠ 71 → x ≠ 72 → (z_up (z_up J2 71 b (J2 71 b + Int32.ofInt 1)) 72 (12 * b + P.length) y) x = J2 x := fun x h1 h2 => by rw [z_up_r _ _ _ _ _ h2, z_up_r _ _ _ _ _ h1]
      have k71 : ((z_up (z_up J2 71 b (J2 71 b + Int32.ofInt 1)) 72 (12 * b + P.length) y) 71 b).toInt = ((P.length + 1 : Nat) : Int) := by
        rw [z_up_r _ _ _ _ _ (by omega), z_up_s, j71, y_adl (by omega) (by omega) (by omega) (by omega), h6]
        omega
      have k72 : (z_up (z_up J2 71 b (J2 71 b + Int32.ofInt 1)) 72 (12 * b + P.length) y) 72 (12 * b + P.length) = y := by rw [z_up_s]
      have k72' : ∀ j, j ≠ 12 * b + P.length → (z_up (z_up J2 71 b (J2 71 b + Int32.ofInt 1)) 72 (12 * b + P.length) y) 72 j = I 72 j := fun j hj => by rw [z_up_j _ _ _ _ _ hj, z_up_r _ _ _ _ _ (by omega), b1 72 (by omega), a1.1 72 (by omega)]
      have k55 : ∀ j, (j < 18 ∨ j = 20 ∨ 26 < j) → (z_up (z_up J2 71 b (J2 71 b + Int32.ofInt 1)) 72 (12 * b + P.length) y) 55 j = I 55 j := fun j hj => by rw [kr 55 (by omega) (by omega), b2 j (by omega), a1.2.1 j hj]
      have kI : ∀ x, x ≠ 55 → x ≠ 71 → x ≠ 72 → (z_up (z_up J2 71 b (J2 71 b + Int32.ofInt 1)) 72 (12 * b + P.length) y) x = I x := fun x h1 h2 h3 => by rw [kr x h2 h3, b1 x h1, a1.1 x h1]
      have kB : zMB F N t2 (z_up (z_up J2 71 b (J2 71 b + Int32.ofInt 1)) 72 (12 * b + P.length) y) L2 := zMB_c b5 (fun j _ _ => by rw [kr 55 (by omega) (by omega)]) (kr 69 (by omega) (by omega))
      have k18 : (z_up (z_up J2 71 b (J2 71 b + Int32.ofInt 1)) 72 (12 * b + P.length) y) 55 18 = 0 := by rw [kr 55 (by omega) (by omega), b2 18 (by omega)]; exact a3
      have k30 : ((z_up (z_up J2 71 b (J2 71 b + Int32.ofInt 1)) 72 (12 * b + P.length) y) 55 30).toInt = top := by rw [k55 30 (by omega)]; exact h3
      have st : ∀ M, z_loop X z_cf z_ff (z_pu (z_run X z_cf z_ff (d + 7))) 194 (M + 30) 0 [(0, .ref 55), (1, .int x1)] [] (118, z_sd m, ce, sl, I, L, z_rr t u r q (z_gg m) (z_sf m)) = z_bi (z_x [] 80) (z_pu (z_run X z_cf z_ff (d + 7)) 196 [.ref 55] (118, z_sd m, ce, sl, (z_up (z_up J2 71 b (J2 71 b + Int32.ofInt 1)) 72 (12 * b + P.length) y), L2, z_rr t u r q (z_gg m) (z_sf m))) (fun v w => z_loop X z_cf z_ff (z_pu (z_run X z_cf z_ff (d + 7))) 194 (M + 23) 83 [(0, .ref 55), (3, .int (Int32.ofInt 12 * x1 + J2 71 b))] [.int v, .int (Int32.ofInt 12 * x1 + J2 71 b), .ref 73] w) := by
        intro M
        rw [show M + 30 = M + 23 + 1 + 1 + 1 + 1 + 1 + 1 + 1 by omega, zb_M_ofStand_0, a6, z_bi_v, zb_M_ofStand_11, zM_isg X (d + 4) m ce sl J1 L1 t u r q a3, z_bi_v, zb_M_ofStand_16, if_neg (by decide), g2, z_bi_v, zb_M_ofStand_23, if_pos hg, zb_M_ofStand_33, zM_isg X (d + 4) m ce sl J1 L1 t u r q a3, z_bi_v, zb_M_ofStand_37, if_neg (by decide), b7, z_b0_v, zb_M_ofStand_45, in2, hx1n, ik, nk, z_gd_t, z_gd_t, z_gd_t, z_gd_t]
      obtain ⟨e1, e2⟩ := zM_expr X d m ce sl (z_up (z_up J2 71 b (J2 71 b + Int32.ofInt 1)) 72 (12 * b + P.length) y) L2 t u r q hN4 (B := 1000 * b) (by omega) kB k18 k30 (by omega)
      generalize hKK : (z_up (z_up J2 71 b (J2 71 b + Int32.ofInt 1)) 72 (12 * b + P.length) y) = K at *
      have kf : K 55 30 = Int32.ofNat top := y_nat k30
      cases hx' : zpExpr (zlx F N) 6 t2 with
      | inl y0 =>
        rw [hx'] at hE0
        have hE1 : zpStd (zlx F N) nst tk = .inl y0 := hE0
        rw [hE1]
        refine ⟨fun e he => ?_, fun tt cc he => absurd he (by simp)⟩
        injection he with he
        subst he
        obtain ⟨J3, L3, d1, d2, d3, d4⟩ := e1 y0 hx'
        have hke := zFk_expr (zlx F N) 6 t2 y0 hx'
        have hbad : ¬ (z_up (z_up J3 73 (12 * b + P.length) (K 55 30)) 74 (12 * b + P.length) (Int32.ofInt (-1))) 55 18 = 0 := by
          rw [z_up_r _ _ _ _ _ (by omega), z_up_r _ _ _ _ _ (by omega), d2]
          exact y_k0 hke.1 hke.2
        refine ⟨(z_up (z_up J3 73 (12 * b + P.length) (K 55 30)) 74 (12 * b + P.length) (Int32.ofInt (-1))), L3, zMS_t S2 (zMS_t SK (zMS_t (zMS_F d1 h4) (zMS_t (zMS_k J3 L3 _ (by omega) (by omega) (by omega) (by omega)) (zMS_k _ L3 _ (by omega) (by omega) (by omega) (by omega))))), by rw [z_up_r _ _ _ _ _ (by omega), z_up_r _ _ _ _ _ (by omega)]; exact d2, by rw [z_up_r _ _ _ _ _ (by omega), z_up_r _ _ _ _ _ (by omega)]; exact d3, hke.1, hke.2, en _ (fun M => ?_)⟩
        rw [st, d4, z_bi_v, show M + 23 = M + 21 + 1 + 1 by omega, zb_M_ofStand_83, ik, nk, z_gd_t, z_gd_t, zM_isb X (d + 4) m ce sl _ L3 t u r q hbad, z_bi_v, zb_M_ofStand_95, if_pos (by decide)]
      | inr y0 =>
        obtain ⟨t3, s⟩ := y0
        rw [hx'] at hE0
        have hE1 : zpStd (zlx F N) nst tk = if t3.1 = 113 then match zpExpr (zlx F N) 6 (zlx F N t3.2.2.1) with
              | .inl e => .inl e
              | .inr (t4, s2) => .inr (t4, (v, s, s2))
            else .inr (t3, (v, s, [])) := hE0
        obtain ⟨J3, L3, d1, d2, d3, d4, d5, d6, d7⟩ := e2 t3 s hx'
        obtain ⟨A1, A2, A3⟩ := zAdv_expr (zlx_ok F N) 6 t2 b5.2.1 t3 s hx'
        have hA1 := A1.1
        -- the state with the clause's rows
        have qr : ∀ x, x ≠ 73 → x ≠ 74 → (z_up (z_up J3 73 (12 * b + P.length) (K 55 30)) 74 (12 * b + P.length) (Int32.ofInt (-1))) x = J3 x := fun x h1 h2 => by rw [z_up_r _ _ _ _ _ h2, z_up_r _ _ _ _ _ h1]
        have q73 : (z_up (z_up J3 73 (12 * b + P.length) (K 55 30)) 74 (12 * b + P.length) (Int32.ofInt (-1))) 73 (12 * b + P.length) = Int32.ofNat top := by rw [z_up_r _ _ _ _ _ (by omega), z_up_s, kf]
        have q74 : (z_up (z_up J3 73 (12 * b + P.length) (K 55 30)) 74 (12 * b + P.length) (Int32.ofInt (-1))) 74 (12 * b + P.length) = Int32.ofInt (-1) := by rw [z_up_s]
        have qj : ∀ x, 73 ≤ x → x ≤ 74 → ∀ j, j ≠ 12 * b + P.length → (z_up (z_up J3 73 (12 * b + P.length) (K 55 30)) 74 (12 * b + P.length) (Int32.ofInt (-1))) x j = I x j := by
          intro x x1 x2 j hj
          have hc : x = 73 ∨ x = 74 := by omega
          rcases hc with e | e <;> subst e
          · rw [z_up_r _ _ _ _ _ (by omega), z_up_j _ _ _ _ _ hj, d1.1 73 (by omega) (by omega) (by omega) (by omega), kI 73 (by omega) (by omega) (by omega)]
          · rw [z_up_j _ _ _ _ _ hj, z_up_r _ _ _ _ _ (by omega), d1.1 74 (by omega) (by omega) (by omega) (by omega), kI 74 (by omega) (by omega) (by omega)]
        have SQ : zMS b I (z_up (z_up J3 73 (12 * b + P.length) (K 55 30)) 74 (12 * b + P.length) (Int32.ofInt (-1))) L L3 := zMS_t S2 (zMS_t SK (zMS_t (zMS_F d1 h4) (zMS_t (zMS_k J3 L3 _ (by omega) (by omega) (by omega) (by omega)) (zMS_k _ L3 _ (by omega) (by omega) (by omega) (by omega)))))
        have q18 : (z_up (z_up J3 73 (12 * b + P.length) (K 55 30)) 74 (12 * b + P.length) (Int32.ofInt (-1))) 55 18 = 0 := by rw [qr 55 (by omega) (by omega)]; exact d3
        have qB : zMB F N t3 (z_up (z_up J3 73 (12 * b + P.length) (K 55 30)) 74 (12 * b + P.length) (Int32.ofInt (-1))) L3 := zMB_c d2 (fun j _ _ => by rw [qr 55 (by omega) (by omega)]) (qr 69 (by omega) (by omega))
        have st2 : ∀ M, z_loop X z_cf z_ff (z_pu (z_run X z_cf z_ff (d + 7))) 194 (M + 30) 0 [(0, .ref 55), (1, .int x1)] [] (118, z_sd m, ce, sl, I, L, z_rr t u r q (z_gg m) (z_sf m)) = z_bi (z_x [] 99) (z_pu (z_run X z_cf z_ff (d + 7)) 190 [.ref 55] (118, z_sd m, ce, sl, (z_up (z_up J3 73 (12 * b + P.length) (K 55 30)) 74 (12 * b + P.length) (Int32.ofInt (-1))), L3, z_rr t u r q (z_gg m) (z_sf m))) (fun v w => z_loop X z_cf z_ff (z_pu (z_run X z_cf z_ff (d + 7))) 194 (M + 21) 102 [(0, .ref 55), (3, .int (Int32.ofInt 12 * x1 + J2 71 b))] [.int v] w) := by
          intro M
          rw [st, d7, z_bi_v, show M + 23 = M + 21 + 1 + 1 by omega, zb_M_ofStand_83, ik, nk, z_gd_t, z_gd_t, zM_isg X (d + 4) m ce sl _ L3 t u r q q18, z_bi_v, zb_M_ofStand_95, if_neg (by decide)]
        have q55 : ∀ j, (z_up (z_up J3 73 (12 * b + P.length) (K 55 30)) 74 (12 * b + P.length) (Int32.ofInt (-1))) 55 j = J3 55 j := fun j => by rw [qr 55 (by omega) (by omega)]
        generalize hQQ : (z_up (z_up J3 73 (12 * b + P.length) (K 55 30)) 74 (12 * b + P.length) (Int32.ofInt (-1))) = Q at *
        have q71 : (Q 71 b).toInt = ((P.length + 1 : Nat) : Int) := by rw [qr 71 (by omega) (by omega), d1.1 71 (by omega) (by omega) (by omega) (by omega)]; exact k71
        have q72 : Q 72 = K 72 := by rw [qr 72 (by omega) (by omega), d1.1 72 (by omega) (by omega) (by omega) (by omega)]
        have q75 : ∀ j, 1000 * b ≤ j → j < top → Q 75 j = I 75 j := fun j j1 j2 => by rw [qr 75 (by omega) (by omega), d1.2.2.2.2 j (by omega), kI 75 (by omega) (by omega) (by omega)]
        have q70 : Q 70 = I 70 := by rw [qr 70 (by omega) (by omega), d1.1 70 (by omega) (by omega) (by omega) (by omega), kI 70 (by omega) (by omega) (by omega)]
        have q33 : Q 55 33 = I 55 33 := by rw [q55, d1.2.1 33 (by omega), k55 33 (by omega)]
        have q30 : (Q 55 30).toInt = ((top + zcn s + 1 : Nat) : Int) := by rw [q55]; exact d5
        have qcd : zcd (Q 75) top s := by rw [qr 75 (by omega) (by omega)]; exact d4
        -- rows of the clauses, in a later world
        have rows : ∀ (Z : Nat → Nat → Int32) (s2 : List Int) (top' : Nat), top + zcn s + 1 ≤ top' → Z 72 = Q 72 → Z 73 = Q 73 → (∀ j, j ≠ 12 * b + P.length → Z 74 j = Q 74 j) → (∀ j, 1000 * b ≤ j → j < top + zcn s + 1 → Z 75 j = Q 75 j) → (s2 = [] → Z 74 (12 * b + P.length) = Int32.ofInt (-1)) → (s2 ≠ [] → ∃ p : Nat, Z 74 (12 * b + P.length) = Int32.ofNat p ∧ 1000 * b ≤ p ∧ p + zcn s2 < top' ∧ p + 2 * s2.length ≤ 1000 * b + 800 ∧ zcd (Z 75) p s2) → zPM b top' Z (12 * b) (P ++ [(v, s, s2)]) := by
          intro Z s2 top' w1 w2 w3 w4 w5 w6 w7
          refine zPM_a _ _ _ (zPM_u (by omega) (fun j j1 j2 => by rw [w5 j j1 (by omega), q75 j j1 j2]) P (12 * b) (fun x x1 x2 j j1 j2 => ?_) h8) ⟨⟨by rw [w2, q72, k72]; exact a4, ⟨top, by rw [w3]; exact q73, h4, by show top + zcn s < top'; omega, by show top + 2 * s.length ≤ 1000 * b + 800; omega, show zcd (Z 75) top s from zcd_u s top qcd (fun j j1 j2 => w5 j (by omega) (by omega))⟩, w6, w7⟩, trivial⟩
          have hc : x = 72 ∨ x = 73 ∨ x = 74 := by omega
          rcases hc with e | e | e <;> subst e
          · rw [w2, q72, k72' j (by omega)]
          · rw [w3, qj 73 (by omega) (by omega) j (by omega)]
          · rw [w4 j (by omega), qj 74 (by omega) (by omega) j (by omega)]
        obtain ⟨g', g1', g2'⟩ := zr_known X (d + 3) m ce sl Q L3 t u r q qB.1 qB.2.1
        by_cases c113 : t3.1 = 113
        · rw [if_pos c113] at hE1
          have hg' : g' = Int32.ofInt 5 := y_eqi (by rw [g1']; exact zkw_5.mpr c113)
          obtain ⟨J4, L4, l1, l2, l3, l4, l5, l6, l7⟩ := zM_tok X (d + 3) m ce sl Q L3 t u r q hN4 qB (by omega)
          generalize zlx F N t3.2.2.1 = t4 at *
          have j18 : J4 55 18 = 0 := by rw [l2 18 (by omega)]; exact q18
          have j30 : (J4 55 30).toInt = ((top + zcn s + 1 : Nat) : Int) := by rw [l2 30 (by omega)]; exact q30
          obtain ⟨p1, p2⟩ := zM_expr X d m ce sl J4 L4 t u r q hN4 (B := 1000 * b) (by omega) l5 j18 j30 (by omega)
          have S4 : zMS b I J4 L L4 := zMS_t SQ (zMS_5 ⟨l1, fun j hj => l2 j (by omega), l3, l4⟩)
          have st3 : ∀ M, z_loop X z_cf z_ff (z_pu (z_run X z_cf z_ff (d + 7))) 194 (M + 30) 0 [(0, .ref 55), (1, .int x1)] [] (118, z_sd m, ce, sl, I, L, z_rr t u r q (z_gg m) (z_sf m)) = z_bi (z_x [] 117) (z_pu (z_run X z_cf z_ff (d + 7)) 196 [.ref 55] (118, z_sd m, ce, sl, J4, L4, z_rr t u r q (z_gg m) (z_sf m))) (fun v w => z_loop X z_cf z_ff (z_pu (z_run X z_cf z_ff (d + 7))) 194 (M + 19) 120 [] [.int v, .int (Int32.ofInt 12 * x1 + J2 71 b), .ref 74] w) := by
            intro M
            rw [st2, g2', z_bi_v, show M + 21 = M + 19 + 1 + 1 by omega, zb_M_ofStand_102, if_pos hg', l7, z_b0_v, zb_M_ofStand_111]
          cases hy : zpExpr (zlx F N) 6 t4 with
          | inl y0 =>
            rw [hy] at hE1
            have hE2 : zpStd (zlx F N) nst tk = .inl y0 := hE1
            rw [hE2]
            refine ⟨fun e he => ?_, fun tt cc he => absurd he (by simp)⟩
            injection he with he
            subst he
            obtain ⟨J5, L5, m1, m2, m3, m4⟩ := p1 y0 hy
            have hke := zFk_expr (zlx F N) 6 t4 y0 hy
            refine ⟨z_up J5 74 (12 * b + P.length) (J4 55 30), L5, zMS_t S4 (zMS_t (zMS_F m1 (by omega)) (zMS_k J5 L5 _ (by omega) (by omega) (by omega) (by omega))), by rw [z_up_r _ _ _ _ _ (by omega)]; exact m2, by rw [z_up_r _ _ _ _ _ (by omega)]; exact m3, hke.1, hke.2, en _ (fun M => ?_)⟩
            rw [st3, m4, z_bi_v, show M + 19 = M + 18 + 1 by omega, zb_M_ofStand_120, ik, nk, z_gd_t]
          | inr y0 =>
            obtain ⟨t5, s2⟩ := y0
            rw [hy] at hE1
            have hE2 : zpStd (zlx F N) nst tk = .inr (t5, (v, s, s2)) := hE1
            rw [hE2]
            refine ⟨fun e he => absurd he (by simp), fun tt cc he => ?_⟩
            injection he with he
            injection he with u1 u2
            subst u1
            subst u2
            obtain ⟨J5, L5, m1, m2, m3, m4, m5, m6, m7⟩ := p2 t5 s2 hy
            obtain ⟨B1, B2, B3⟩ := zAdv_expr (zlx_ok F N) 6 t4 l5.2.1 t5 s2 hy
            have hB1 := B1.1
            have hne := (zwf_expr hN4 (zlx_ok F N) l5.2.1 hy).2.2
            have z74 : (z_up J5 74 (12 * b + P.length) (J4 55 30)) 74 (12 * b + P.length) = Int32.ofNat (top + zcn s + 1) := by
              rw [z_up_s]
              exact y_nat j30
            have zr : ∀ x, x ≠ 74 → (z_up J5 74 (12 * b + P.length) (J4 55 30)) x = J5 x := fun x hx => z_up_r _ _ _ _ _ hx
            refine ⟨z_up J5 74 (12 * b + P.length) (J4 55 30), L5, top + zcn s + 1 + zcn s2 + 1, zMS_t S4 (zMS_t (zMS_F m1 (by omega)) (zMS_k J5 L5 _ (by omega) (by omega) (by omega) (by omega))), zMB_c m2 (fun j _ _ => by rw [zr 55 (by omega)]) (zr 69 (by omega)), by rw [zr 55 (by omega)]; exact m3, by rw [zr 55 (by omega)]; exact m5, by omega, by omega, ?_, ?_, ?_, ?_, en _ (fun M => ?_)⟩
            · rw [zr 71 (by omega), m1.1 71 (by omega) (by omega) (by omega) (by omega), l1 71 (by omega)]
              exact q71
            · refine rows _ s2 _ (by omega) ?_ ?_ (fun j hj => ?_) (fun j j1 j2 => ?_) (fun e => absurd e hne) (fun _ => ⟨top + zcn s + 1, z74, by omega, by omega, by omega, ?_⟩)
              · rw [zr 72 (by omega), m1.1 72 (by omega) (by omega) (by omega) (by omega), l1 72 (by omega)]
              · rw [zr 73 (by omega), m1.1 73 (by omega) (by omega) (by omega) (by omega), l1 73 (by omega)]
              · rw [z_up_j _ _ _ _ _ hj, m1.1 74 (by omega) (by omega) (by omega) (by omega), l1 74 (by omega)]
              · rw [zr 75 (by omega), m1.2.2.2.2 j (by omega), l1 75 (by omega)]
              · rw [zr 75 (by omega)]
                exact m4
            · rw [zr 70 (by omega), m1.1 70 (by omega) (by omega) (by omega) (by omega), l1 70 (by omega)]
              exact q70
            · rw [zr 55 (by omega), m1.2.1 33 (by omega), l2 33 (by omega)]
              exact q33
            · rw [st3, m7, z_bi_v, show M + 19 = M + 18 + 1 by omega, zb_M_ofStand_120, ik, nk, z_gd_t]
        · rw [if_neg c113] at hE1
          rw [hE1]
          refine ⟨fun e he => absurd he (by simp), fun tt cc he => ?_⟩
          injection he with he
          injection he with u1 u2
          subst u1
          subst u2
          refine ⟨Q, L3, top + zcn s + 1, SQ, qB, q18, q30, by omega, by omega, q71, rows Q [] _ (Nat.le_refl _) rfl rfl (fun _ _ => rfl) (fun _ _ _ => rfl) (fun _ => q74) (fun e => absurd rfl e), q70, q33, en _ (fun M => ?_)⟩
          rw [st2, g2', z_bi_v, show M + 21 = M + 20 + 1 by omega, zb_M_ofStand_102, if_neg (y_lit (by rw [g1']; exact fun h => c113 (zkw_5.mp h)) (by omega) (by omega))]
    · rw [if_neg c100] at hE0
      rw [hE0]
      refine ⟨fun e he => ?_, fun tt cc he => absurd he (by simp)⟩
      injection he with he
      subst he
      have hg : ¬ g = Int32.ofInt 9 := y_lit (by rw [g1]; exact fun h => c100 (zkw_9.mp h)) (by omega) (by omega)
      have hbad : ¬ (z_up (z_up J1 55 18 (Int32.ofInt 1)) 55 19 (J1 55 23)) 55 18 = 0 := by
        rw [z_up_j _ _ _ _ _ (by omega), z_up_s]
        decide
      refine ⟨_, L1, zMS_5 (zM5_t a1 (zM5_w J1 L1 (Int32.ofInt 1) (J1 55 23))), by rw [z_up_j _ _ _ _ _ (by omega), z_up_s], by rw [z_up_s]; exact a2.1.1, by show (1 : Int) ≤ 1; omega, by show (1 : Int) ≤ 4; omega, en _ (fun M => ?_)⟩
      rw [show M + 30 = M + 24 + 1 + 1 + 1 + 1 + 1 + 1 by omega, zb_M_ofStand_0, a6, z_bi_v, zb_M_ofStand_11, zM_isg X (d + 4) m ce sl J1 L1 t u r q a3, z_bi_v, zb_M_ofStand_16, if_neg (by decide), g2, z_bi_v, zb_M_ofStand_23, if_neg hg, zk_M_wrong_0 X (d + 4), if_pos a3, z_b0_v, zb_M_ofStand_33, zM_isb X (d + 4) m ce sl _ L1 t u r q hbad, z_bi_v, zb_M_ofStand_37, if_pos (by decide)]
