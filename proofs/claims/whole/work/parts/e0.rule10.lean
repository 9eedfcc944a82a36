/-! RULES, 13: the model's machine: what it keeps while it reads -/
def zopw (v : Int) : Int := if v = 0 then 12 else if v = -110 then 3 else zopc v
def zwvw (v : Int) : Prop := v = 0 ∨ v = -110 ∨ zisb v
def zWt (F : Nat → Int32) : List Int → Prop
  | [] => True
  | v :: r => F r.length = Int32.ofInt (zopw v) ∧ zWt F r
def zTst (F : Nat → Int32) : List Bool → Prop
  | [] => True
  | b :: r => F (r.length + 1) = (if b = true then Int32.ofInt 1 else Int32.ofInt 0) ∧ zTst F r
/-- steps as the model's code, without an end -/
def zcp (F : Nat → Int32) : Nat → List Int → Prop
  | _, [] => True
  | k, v :: l => if 0 ≤ v then F k = Int32.ofInt 1 ∧ F (k + 1) = Int32.ofInt v ∧ zcp F (k + 2) l else if -109 ≤ v ∧ v ≤ -100 then F k = Int32.ofInt 2 ∧ F (k + 1) = Int32.ofInt (-v - 100) ∧ zcp F (k + 2) l else F k = Int32.ofInt (if v = -110 then 3 else zopc v) ∧ zcp F (k + 1) l
def zc1 (v : Int) : Nat := if 0 ≤ v then 2 else if -109 ≤ v ∧ v ≤ -100 then 2 else 1
def zcn : List Int → Nat
  | [] => 0
  | v :: l => zc1 v + zcn l
theorem zcn_a (l r : List Int) : zcn (l ++ r) = zcn l + zcn r := by
  induction l with
  | nil => show zcn r = 0 + zcn r; omega
  | cons v l ih =>
    show zc1 v + zcn (l ++ r) = zc1 v + zcn l + zcn r
    rw [ih]
    omega
theorem zcn_2 (l : List Int) : l.length ≤ zcn l ∧ zcn l ≤ 2 * l.length := by
  induction l with
  | nil => exact ⟨Nat.le_refl _, Nat.le_refl _⟩
  | cons v l ih =>
    have h1 : 1 ≤ zc1 v ∧ zc1 v ≤ 2 := by
      unfold zc1
      split
      · omega
      · split <;> omega
    show l.length + 1 ≤ zc1 v + zcn l ∧ zc1 v + zcn l ≤ 2 * (l.length + 1)
    omega
theorem zcp_u {F G : Nat → Int32} (l : List Int) : ∀ k, zcp F k l → (∀ j, k ≤ j → j < k + zcn l → G j = F j) → zcp G k l := by
  induction l with
  | nil => intro _ _ _; trivial
  | cons v l ih =>
    intro k h hG
    have hn : zcn (v :: l) = zc1 v + zcn l := rfl
    rw [hn] at hG
    unfold zcp at h ⊢
    unfold zc1 at hG
    by_cases c : 0 ≤ v
    · rw [if_pos c] at h hG ⊢
      exact ⟨by rw [hG k (by omega) (by omega)]; exact h.1, by rw [hG (k + 1) (by omega) (by omega)]; exact h.2.1, ih _ h.2.2 (fun j j1 j2 => hG j (by omega) (by omega))⟩
    · rw [if_neg c] at h hG ⊢
      by_cases c2 : -109 ≤ v ∧ v ≤ -100
      · rw [if_pos c2] at h hG ⊢
        exact ⟨by rw [hG k (by omega) (by omega)]; exact h.1, by rw [hG (k + 1) (by omega) (by omega)]; exact h.2.1, ih _ h.2.2 (fun j j1 j2 => hG j (by omega) (by omega))⟩
      · rw [if_neg c2] at h hG ⊢
        exact ⟨by rw [hG k (by omega) (by omega)]; exact h.1, ih _ h.2 (fun j j1 j2 => hG j (by omega) (by omega))⟩
theorem zcp_a {F : Nat → Int32} (l r : List Int) : ∀ k, zcp F k l → zcp F (k + zcn l) r → zcp F k (l ++ r) := by
  induction l with
  | nil => intro k _ h; exact h
  | cons v l ih =>
    intro k h hr
    have hn : zcn (v :: l) = zc1 v + zcn l := rfl
    rw [hn] at hr
    show zcp F k (v :: (l ++ r))
    unfold zcp at h ⊢
    unfold zc1 at hr
    by_cases c : 0 ≤ v
    · rw [if_pos c] at h hr ⊢
      exact ⟨h.1, h.2.1, ih _ h.2.2 (by rw [show k + 2 + zcn l = k + (2 + zcn l) by omega]; exact hr)⟩
    · rw [if_neg c] at h hr ⊢
      by_cases c2 : -109 ≤ v ∧ v ≤ -100
      · rw [if_pos c2] at h hr ⊢
        exact ⟨h.1, h.2.1, ih _ h.2.2 (by rw [show k + 2 + zcn l = k + (2 + zcn l) by omega]; exact hr)⟩
      · rw [if_neg c2] at h hr ⊢
        exact ⟨h.1, ih _ h.2 (by rw [show k + 1 + zcn l = k + (1 + zcn l) by omega]; exact hr)⟩
theorem zcd_p {F : Nat → Int32} (l : List Int) : ∀ k, zcp F k l → F (k + zcn l) = Int32.ofInt 0 → zcd F k l := by
  induction l with
  | nil => intro k _ h; exact h
  | cons v l ih =>
    intro k h he
    have hn : zcn (v :: l) = zc1 v + zcn l := rfl
    rw [hn] at he
    unfold zcp at h
    unfold zcd
    unfold zc1 at he
    by_cases c : 0 ≤ v
    · rw [if_pos c] at h he ⊢
      exact ⟨h.1, h.2.1, ih _ h.2.2 (by rw [show k + 2 + zcn l = k + (2 + zcn l) by omega]; exact he)⟩
    · rw [if_neg c] at h he ⊢
      by_cases c2 : -109 ≤ v ∧ v ≤ -100
      · rw [if_pos c2] at h he ⊢
        exact ⟨h.1, h.2.1, ih _ h.2.2 (by rw [show k + 2 + zcn l = k + (2 + zcn l) by omega]; exact he)⟩
      · rw [if_neg c2] at h he ⊢
        exact ⟨h.1, ih _ h.2 (by rw [show k + 1 + zcn l = k + (1 + zcn l) by omega]; exact he)⟩
theorem zWt_u {F G : Nat → Int32} (w : List Int) (h : zWt F w) (hG : ∀ j, j < w.length → G j = F j) : zWt G w := by
  induction w with
  | nil => trivial
  | cons v w ih =>
    obtain ⟨h1, h2⟩ := h
    exact ⟨by rw [hG w.length (by show w.length < w.length + 1; omega)]; exact h1, ih h2 (fun j hj => hG j (by show j < w.length + 1; omega))⟩
theorem zTst_u {F G : Nat → Int32} (w : List Bool) (h : zTst F w) (hG : ∀ j, j ≤ w.length → G j = F j) : zTst G w := by
  induction w with
  | nil => trivial
  | cons v w ih =>
    obtain ⟨h1, h2⟩ := h
    exact ⟨by rw [hG (w.length + 1) (by show w.length + 1 ≤ w.length + 1; omega)]; exact h1, ih h2 (fun j hj => hG j (by show j ≤ w.length + 1; omega))⟩
theorem zstr_of {v : Int} (h : zwvw v) (h0 : v ≠ 0) : (z_p_M_strength (Int32.ofInt (zopw v))).toInt = zstr v ∧ ¬ Int32.ofInt (zopw v) = Int32.ofInt 12 ∧ zc1 v = 1 ∧ v < 0 ∧ ¬ (-109 ≤ v ∧ v ≤ -100) ∧ zopw v = (if v = -110 then 3 else zopc v) := by
  rcases h with h | h | h
  · exact absurd h h0
  · subst h
    decide +kernel
  · rcases h with h | h | h | h | h | h | h | h <;> subst h <;> decide +kernel
def zMW (w : List Int) (I : Nat → Nat → Int32) : Prop := (I 55 31).toInt = w.length ∧ zWt (I 76) w ∧ (∀ v, v ∈ w → zwvw v)
def zMK (a : Nat) (c : List Int) (I : Nat → Nat → Int32) : Prop := (I 55 30).toInt = ((a + zcn c : Nat) : Int) ∧ zcp (I 75) a c
def zMD (ts : List Bool) (I : Nat → Nat → Int32) : Prop := (I 55 32).toInt = ts.length ∧ zTst (I 77) ts
def zMB (F : Nat → Int) (N : Nat) (tk : zTk) (I : Nat → Nat → Int32) (L : Nat → Nat → Int64) : Prop := zMT tk I L ∧ zTO N tk ∧ (I 55 20).toInt = N ∧ (∀ i, (I 69 i).toInt = F i) ∧ I 55 19 = Int32.ofInt (-1)
theorem zMW_c {w : List Int} {I J : Nat → Nat → Int32} (h : zMW w I) (h1 : J 55 31 = I 55 31) (h2 : J 76 = I 76) : zMW w J := by
  unfold zMW at *
  rw [h1, h2]
  exact h
theorem zMK_c {a : Nat} {c : List Int} {I J : Nat → Nat → Int32} (h : zMK a c I) (h1 : J 55 30 = I 55 30) (h2 : J 75 = I 75) : zMK a c J := by
  unfold zMK at *
  rw [h1, h2]
  exact h
theorem zMD_c {ts : List Bool} {I J : Nat → Nat → Int32} (h : zMD ts I) (h1 : J 55 32 = I 55 32) (h2 : J 77 = I 77) : zMD ts J := by
  unfold zMD at *
  rw [h1, h2]
  exact h
theorem zMB_c {F : Nat → Int} {N : Nat} {tk : zTk} {I J : Nat → Nat → Int32} {L : Nat → Nat → Int64} (h : zMB F N tk I L) (h1 : ∀ j, 19 ≤ j → j ≤ 26 → J 55 j = I 55 j) (h2 : J 69 = I 69) : zMB F N tk J L := by
  unfold zMB zMT at *
  rw [h1 19 (by omega) (by omega), h1 20 (by omega) (by omega), h1 21 (by omega) (by omega), h1 22 (by omega) (by omega), h1 23 (by omega) (by omega), h1 24 (by omega) (by omega), h1 25 (by omega) (by omega), h1 26 (by omega) (by omega), h2]
  exact h
/-- what else stays -/
def zMF (a b : Nat) (I J : Nat → Nat → Int32) (L LJ : Nat → Nat → Int64) : Prop := (∀ x, x ≠ 55 → x ≠ 75 → x ≠ 76 → x ≠ 77 → J x = I x) ∧ (∀ j, (j < 18 ∨ j = 20 ∨ (26 < j ∧ j < 30) ∨ 32 < j) → J 55 j = I 55 j) ∧ (∀ x, x ≠ 55 → LJ x = L x) ∧ (∀ j, j ≠ 27 → LJ 55 j = L 55 j) ∧ (∀ j, (j < a ∨ b ≤ j) → J 75 j = I 75 j)
theorem zMF_r (a b : Nat) (I : Nat → Nat → Int32) (L : Nat → Nat → Int64) : zMF a b I I L L := ⟨fun _ _ _ _ _ => rfl, fun _ _ => rfl, fun _ _ => rfl, fun _ _ => rfl, fun _ _ => rfl⟩
theorem zMF_t {a b : Nat} {I J K : Nat → Nat → Int32} {L LJ LK : Nat → Nat → Int64} (h1 : zMF a b I J L LJ) (h2 : zMF a b J K LJ LK) : zMF a b I K L LK := by
  obtain ⟨a1, a2, a3, a4, a5⟩ := h1
  obtain ⟨b1, b2, b3, b4, b5⟩ := h2
  exact ⟨fun x x1 x2 x3 x4 => (b1 x x1 x2 x3 x4).trans (a1 x x1 x2 x3 x4), fun j h => (b2 j h).trans (a2 j h), fun x h => (b3 x h).trans (a3 x h), fun j h => (b4 j h).trans (a4 j h), fun j h => (b5 j h).trans (a5 j h)⟩
theorem zMF_55 {a b : Nat} {I J : Nat → Nat → Int32} {L LJ : Nat → Nat → Int64} (h1 : ∀ x, x ≠ 55 → J x = I x) (h2 : ∀ j, (j < 18 ∨ j = 20 ∨ (26 < j ∧ j < 30) ∨ 32 < j) → J 55 j = I 55 j) (h3 : ∀ x, x ≠ 55 → LJ x = L x) (h4 : ∀ j, j ≠ 27 → LJ 55 j = L 55 j) : zMF a b I J L LJ := ⟨fun x x1 _ _ _ => h1 x x1, h2, h3, h4, fun j _ => by rw [h1 75 (by omega)]⟩
def zz : List Int → Nat
  | [] => 0
  | v :: w => (if v = 0 then 1 else 0) + zz w
/-- the model's state in an expression without a fault -/
def zMG (F : Nat → Int) (N a B : Nat) (tk : zTk) (w : List Int) (ts : List Bool) (c : List Int) (I : Nat → Nat → Int32) (L : Nat → Nat → Int64) : Prop := zMB F N tk I L ∧ I 55 18 = 0 ∧ zMW w I ∧ zMD ts I ∧ zMK a c I ∧ w.length ≤ tk.2.1 ∧ a + zcn c + w.length ≤ B + 2 * tk.2.1 ∧ zz w + 1 = ts.length ∧ ts.length ≤ 6
/-- .. with one -/
def zME (a B : Nat) (e : zFl) (J : Nat → Nat → Int32) : Prop := J 55 18 = Int32.ofInt e.1 ∧ (J 55 19).toInt = e.2 ∧ ∃ (w : List Int) (p : Nat), zMW w J ∧ w.length ≤ 400 ∧ (J 55 30).toInt = p ∧ a ≤ p ∧ p + w.length ≤ B + 804
theorem zM_tok (X : ZX) (d m ce sl : Nat) (I : Nat → Nat → Int32) (L : Nat → Nat → Int64) (t u r q : Nat) {F : Nat → Int} {N : Nat} {tk : zTk} (hN4 : N ≤ 400) (h : zMB F N tk I L) (hk : tk.1 ≠ 0) : ∃ (J : Nat → Nat → Int32) (LJ : Nat → Nat → Int64), (∀ x, x ≠ 55 → J x = I x) ∧ (∀ j, (j < 21 ∨ 26 < j) → J 55 j = I 55 j) ∧ (∀ x, x ≠ 55 → LJ x = L x) ∧ (∀ j, j ≠ 27 → LJ 55 j = L 55 j) ∧ zMB F N (zlx F N tk.2.2.1) J LJ ∧ tk.2.1 + 1 ≤ (zlx F N tk.2.2.1).2.1 ∧ z_pu (z_run X z_cf z_ff (d + 4)) 184 [.ref 55] (118, z_sd m, ce, sl, I, L, z_rr t u r q (z_gg m) (z_sf m)) = some (.inl none, (118, z_sd m, ce, sl, J, LJ, z_rr t u r q (z_gg m) (z_sf m))) := by
  obtain ⟨a1, a2, a3, a4, a5⟩ := h
  obtain ⟨n1, n2⟩ := zTO_nx (zlx_ok F N) a2 hk
  have hnx : tk.2.2.1 ≤ N := by
    obtain ⟨_, b, _⟩ := a2
    omega
  obtain ⟨J, LJ, j1, j2, j3, j4, j5, j6⟩ := zr_goes X d m ce sl I L t u r q a4 a3 hN4 hnx a1.2.1
  exact ⟨J, LJ, j1, j2, j3, j4, ⟨j5, n1, by rw [j2 20 (by omega)]; exact a3, fun i => by rw [j1 69 (by omega)]; exact a4 i, by rw [j2 19 (by omega)]; exact a5⟩, n2, j6⟩
theorem zM_good (I : Nat → Nat → Int32) (h : I 55 18 = 0) : z_v_M_isGood I = Int32.ofInt 1 := by
  unfold z_v_M_isGood
  rw [if_pos h]
theorem zM_bad (I : Nat → Nat → Int32) (h : ¬ I 55 18 = 0) : z_v_M_isGood I = Int32.ofInt 0 := by
  unfold z_v_M_isGood
  rw [if_neg h]
theorem zM_sign {N : Nat} {tk : zTk} {I : Nat → Nat → Int32} {L : Nat → Nat → Int64} (hT : zMT tk I L) (hO : zTO N tk) {v : Int} (hv : zsgn v) : (z_v_M_isSign I (Int32.ofInt v) = 0) ↔ ¬ tk.1 = v := by
  obtain ⟨h1, h2, h3, h4, h5, h6, h7⟩ := hT
  obtain ⟨o1, o2, o3, o4⟩ := hO
  have e3 : (Int32.ofInt 3).toInt = 3 := rfl
  unfold z_v_M_isSign
  by_cases c : zsgn tk.1
  · have hs : (I 55 22).toInt = 3 := by
      rw [h3]
      unfold zsgn at c
      unfold zso
      rw [if_neg (by omega), if_neg (by omega), if_neg (by omega), if_neg (by omega)]
    rw [if_pos (y_i_eq.mpr (by omega))]
    have hv2 : (Int32.ofInt v).toInt = v := by
      unfold zsgn at hv
      exact y_oi (by omega) (by omega)
    by_cases c2 : tk.1 = v
    · rw [if_pos (y_i_eq.mpr (by rw [h6 c, hv2, c2]))]
      exact ⟨fun h => absurd h (by decide), fun h => absurd c2 h⟩
    · rw [if_neg (fun h => c2 (by rw [← h6 c, h, hv2]))]
      exact ⟨fun _ => c2, fun _ => rfl⟩
  · have hs : (I 55 22).toInt ≠ 3 := by
      rw [h3]
      unfold zkd at o3
      unfold zso
      rcases o3 with h | h | h | h | h
      · rw [if_pos h]; omega
      · rw [if_neg (by omega), if_pos h]; omega
      · rw [if_neg (by omega), if_neg (by omega), if_pos h]; omega
      · exact absurd h c
      · rw [if_neg (by omega), if_neg (by omega), if_neg (by omega), if_pos h.1]; omega
    rw [if_neg (fun h => hs (by rw [h]; rfl))]
    exact ⟨fun _ h => c (by rw [h]; exact hv), fun _ => rfl⟩
/-- signs that wait are put into the code -/
theorem zM_drops_l (X : ZX) (d m ce sl : Nat) (L : Nat → Nat → Int64) (t u r q : Nat) (x1 : Int32) (s : Nat) (hx : x1.toInt = s) (a : Nat) : ∀ (w c : List Int) (I : Nat → Nat → Int32), zMW w I → zMK a c I → w.length ≤ 400 → a + zcn c + w.length ≤ 1999 → ∃ J : Nat → Nat → Int32, (∀ x, x ≠ 55 → x ≠ 75 → J x = I x) ∧ (∀ j, j ≠ 30 → j ≠ 31 → J 55 j = I 55 j) ∧ zMW (zdrop s w c).1 J ∧ zMK a (zdrop s w c).2 J ∧ zcn (zdrop s w c).2 + (zdrop s w c).1.length = zcn c + w.length ∧ (∀ j, (j < a ∨ a + zcn c + w.length ≤ j) → J 75 j = I 75 j) ∧ ∀ M, z_loop X z_cf z_ff (z_pu (z_run X z_cf z_ff (d + 3))) 203 (M + 2 * w.length + 2) 0 [(0, .ref 55), (1, .int x1)] [] (118, z_sd m, ce, sl, I, L, z_rr t u r q (z_gg m) (z_sf m)) = some (.inl none, (118, z_sd m, ce, sl, J, L, z_rr t u r q (z_gg m) (z_sf m))) := by
  intro w
  induction w with
  | nil =>
    intro c I h1 h2 h3 h4
    refine ⟨I, fun _ _ _ => rfl, fun _ _ _ => rfl, h1, h2, rfl, fun _ _ => rfl, fun M => ?_⟩
    have h31 := h1.1
    rw [show M + 2 * ([] : List Int).length + 2 = M + 2 from rfl, zt_M_drops_0, if_pos (by rw [y_i_le, h31]; exact Int.le_refl _)]
  | cons v w ih =>
    intro c I h1 h2 h3 h4
    obtain ⟨w1, w2, w3⟩ := h1
    obtain ⟨w21, w22⟩ := w2
    obtain ⟨k1, k2⟩ := h2
    have hlen : (v :: w).length = w.length + 1 := rfl
    rw [hlen] at h3 h4 w1
    have hv := w3 v List.mem_cons_self
    have n0 : ¬ I 55 31 ≤ 0 := by rw [y_i_le, w1, y_i0]; omega
    have e1 : (I 55 31 - Int32.ofInt 1).toInt = w.length := by rw [y_sbl (by omega) (by omega) (by omega) (by omega)]; omega
    have e2 : (I 55 31 - Int32.ofInt 1).toNatClampNeg = w.length := by rw [y_tn, e1]; rfl
    have e3 : z_in (I 55 31 - Int32.ofInt 1) 420 = true := y_in_t (by omega) (by omega)
    by_cases c1 : v ≠ 0 ∧ s ≤ zstr v
    · have hd : zdrop s (v :: w) c = zdrop s w (c ++ [v]) := by
        show (if v ≠ 0 ∧ s ≤ zstr v then _ else _) = _
        rw [if_pos c1]
      obtain ⟨s1, s2, s3, s4, s5, s6⟩ := zstr_of hv c1.1
      have s7 : zcn [v] = 1 := by
        show zc1 v + 0 = 1
        omega
      have n30 : (I 55 30).toNatClampNeg = a + zcn c := by rw [y_tn, k1]; rfl
      have i30 : z_in (I 55 30) 2000 = true := y_in_t (by omega) (by omega)
      rw [hd]
      obtain ⟨J, j1, j2, j3, j4, j5, j6, j7⟩ := ih (c ++ [v]) (z_up (z_up (z_up I 55 31 (I 55 31 - Int32.ofInt 1)) 75 (I 55 30).toNatClampNeg (I 76 w.length)) 55 30 (I 55 30 + Int32.ofInt 1)) ⟨by rw [z_up_j _ _ _ _ _ (by omega), z_up_r _ _ _ _ _ (by omega), z_up_s]; exact e1, by rw [z_up_r _ _ _ _ _ (by omega), z_up_r _ _ _ _ _ (by omega), z_up_r _ _ _ _ _ (by omega)]; exact w22, fun x hx => w3 x (List.mem_cons_of_mem _ hx)⟩ ⟨by rw [z_up_s, y_adl (by omega) (by omega) (by omega) (by omega), k1, zcn_a, s7]; omega, by
          rw [z_up_r _ _ _ _ _ (by omega : 75 ≠ 55), n30]
          refine zcp_a _ _ _ (zcp_u _ _ k2 (fun j q1 q2 => ?_)) ?_
          · rw [z_up_j _ _ _ _ _ (by omega), z_up_r _ _ _ _ _ (by omega)]
          · unfold zcp
            rw [if_neg (by omega), if_neg s5]
            refine ⟨?_, trivial⟩
            rw [z_up_s, w21, s6]⟩ (by omega) (by rw [zcn_a, s7]; omega)
      refine ⟨J, fun x x1 x2 => by rw [j1 x x1 x2, z_up_r _ _ _ _ _ x1, z_up_r _ _ _ _ _ x2, z_up_r _ _ _ _ _ x1], fun j q1 q2 => by rw [j2 j q1 q2, z_up_j _ _ _ _ _ q1, z_up_r _ _ _ _ _ (by omega), z_up_j _ _ _ _ _ q2], j3, j4, by rw [j5, zcn_a, s7, hlen]; omega, fun j hj => ?_, fun M => ?_⟩
      · rw [j6 j (by rw [zcn_a, s7]; rw [hlen] at hj; omega), z_up_r _ _ _ _ _ (by omega), n30, z_up_j _ _ _ _ _ (by rw [hlen] at hj; omega), z_up_r _ _ _ _ _ (by omega)]
      · rw [hlen, show M + 2 * (w.length + 1) + 2 = (M + 2 * w.length + 2) + 2 by omega, zt_M_drops_0, if_neg n0, e3, z_gd_t, e2, w21, if_neg s2, z_gd_t, if_neg (by rw [y_i_lt, s1, hx]; omega), z_gd_t, i30, z_gd_t, ← w21, j7]
    · have hd : zdrop s (v :: w) c = (v :: w, c) := by
        show (if v ≠ 0 ∧ s ≤ zstr v then _ else _) = _
        rw [if_neg c1]
      rw [hd]
      refine ⟨I, fun _ _ _ => rfl, fun _ _ _ => rfl, ⟨w1, ⟨w21, w22⟩, w3⟩, ⟨k1, k2⟩, rfl, fun _ _ => rfl, fun M => ?_⟩
      rw [hlen, show M + 2 * (w.length + 1) + 2 = (M + 2 * w.length + 2) + 2 by omega, zt_M_drops_0, if_neg n0, e3, z_gd_t, e2, w21]
      by_cases c0 : v = 0
      · rw [if_pos (by rw [c0]; rfl)]
      · obtain ⟨s1, s2, s3, s4, s5, s6⟩ := zstr_of hv c0
        rw [if_neg s2, z_gd_t, if_pos (by
          rw [y_i_lt, s1, hx]
          have : ¬ s ≤ zstr v := fun h => c1 ⟨c0, h⟩
          omega)]
theorem zM_drops (X : ZX) (d m ce sl : Nat) (I : Nat → Nat → Int32) (L : Nat → Nat → Int64) (t u r q : Nat) (x1 : Int32) (s : Nat) (hx : x1.toInt = s) {a : Nat} {w c : List Int} (h1 : zMW w I) (h2 : zMK a c I) (h3 : w.length ≤ 400) (h4 : a + zcn c + w.length ≤ 1999) : ∃ J : Nat → Nat → Int32, (∀ x, x ≠ 55 → x ≠ 75 → J x = I x) ∧ (∀ j, j ≠ 30 → j ≠ 31 → J 55 j = I 55 j) ∧ zMW (zdrop s w c).1 J ∧ zMK a (zdrop s w c).2 J ∧ zcn (zdrop s w c).2 + (zdrop s w c).1.length = zcn c + w.length ∧ (∀ j, (j < a ∨ a + zcn c + w.length ≤ j) → J 75 j = I 75 j) ∧ z_pu (z_run X z_cf z_ff (d + 4)) 203 [.ref 55, .int x1] (118, z_sd m, ce, sl, I, L, z_rr t u r q (z_gg m) (z_sf m)) = some (.inl none, (118, z_sd m, ce, sl, J, L, z_rr t u r q (z_gg m) (z_sf m))) := by
  obtain ⟨J, j1, j2, j3, j4, j5, j6, j7⟩ := zM_drops_l X d m ce sl L t u r q x1 s hx a w c I h1 h2 h3 h4
  refine ⟨J, j1, j2, j3, j4, j5, j6, ?_⟩
  refine z_en X (d + 1) _ _ [(0, .ref 55), (1, .int x1)] _ _ rfl rfl rfl ?_
  rw [show (100000000 : Nat) = (99999998 - 2 * w.length) + 2 * w.length + 2 by omega, j7]
/-- a sign begins to wait -/
theorem zM_waits {v : Int} {w : List Int} {I : Nat → Nat → Int32} (h : zMW w I) (hv : zwvw v) (hl : w.length ≤ 400) (x1 : Int32) (hx : x1 = Int32.ofInt (zopw v)) : zMW (v :: w) (z_up (z_up I 76 (I 55 31).toNatClampNeg x1) 55 31 (I 55 31 + Int32.ofInt 1)) ∧ z_in (I 55 31) 420 = true := by
  obtain ⟨w1, w2, w3⟩ := h
  have n31 : (I 55 31).toNatClampNeg = w.length := by rw [y_tn, w1]; rfl
  refine ⟨⟨?_, ⟨?_, ?_⟩, fun x hx' => ?_⟩, y_in_t (by omega) (by omega)⟩
  · rw [z_up_s, y_adl (by omega) (by omega) (by omega) (by omega), w1]
    show _ = ((w.length + 1 : Nat) : Int)
    omega
  · rw [z_up_r _ _ _ _ _ (by omega), n31, z_up_s, hx]
  · rw [z_up_r _ _ _ _ _ (by omega), n31]
    exact zWt_u w w2 (fun j hj => z_up_j _ _ _ _ _ (by omega))
  · rcases List.mem_cons.mp hx' with e | e
    · rw [e]; exact hv
    · exact w3 x e
theorem zkw_v {k : Int} (h1 : 100 ≤ k) (h2 : k ≤ 109) : zkw k = k - 91 := by
  have : k = 100 ∨ k = 101 ∨ k = 102 ∨ k = 103 ∨ k = 104 ∨ k = 105 ∨ k = 106 ∨ k = 107 ∨ k = 108 ∨ k = 109 := by omega
  rcases this with e | e | e | e | e | e | e | e | e | e <;> rw [e] <;> decide
theorem zkw_n {k : Int} (h1 : 109 < k) (h2 : k ≤ 119) : zkw k < 9 ∧ -1 ≤ zkw k := by
  have : k = 110 ∨ k = 111 ∨ k = 112 ∨ k = 113 ∨ k = 114 ∨ k = 115 ∨ k = 116 ∨ k = 117 ∨ k = 118 ∨ k = 119 := by omega
  rcases this with e | e | e | e | e | e | e | e | e | e <;> rw [e] <;> decide
/-- a number or a word -/
theorem zM_part (X : ZX) (d m ce sl : Nat) (I : Nat → Nat → Int32) (L : Nat → Nat → Int64) (t u r q : Nat) {F : Nat → Int} {N a B : Nat} (hN4 : N ≤ 400) (hB : B ≤ 1000) {tk : zTk} {w : List Int} {ts : List Bool} {c : List Int} (h : zMG F N a B tk w ts c I L) :
    (∀ e, zqPart (zlx F N) tk w ts c = .inl e → ∃ (J : Nat → Nat → Int32) (LJ : Nat → Nat → Int64), zMF a (B + 810) I J L LJ ∧ zME a B e J ∧ z_pu (z_run X z_cf z_ff (d + 5)) 201 [.ref 55] (118, z_sd m, ce, sl, I, L, z_rr t u r q (z_gg m) (z_sf m)) = some (.inl none, (118, z_sd m, ce, sl, J, LJ, z_rr t u r q (z_gg m) (z_sf m)))) ∧
    (∀ s', zqPart (zlx F N) tk w ts c = .inr s' → ∃ (J : Nat → Nat → Int32) (LJ : Nat → Nat → Int64), zMF a (B + 810) I J L LJ ∧ zMG F N a B s'.1 s'.2.1 s'.2.2.1 s'.2.2.2 J LJ ∧ tk.2.1 + 1 ≤ s'.1.2.1 ∧ z_pu (z_run X z_cf z_ff (d + 5)) 201 [.ref 55] (118, z_sd m, ce, sl, I, L, z_rr t u r q (z_gg m) (z_sf m)) = some (.inl none, (118, z_sd m, ce, sl, J, LJ, z_rr t u r q (z_gg m) (z_sf m)))) := by
  obtain ⟨g1, g2, g3, g4, g5, g6, g7, g8, g9⟩ := h
  have hT := g1.1
  have hO := g1.2.1
  obtain ⟨t1, t2, t3, t4, t5, t6, t7⟩ := hT
  have hp : tk.2.1 ≤ N := hO.1
  obtain ⟨k1, k2⟩ := g5
  have n30 : (I 55 30).toNatClampNeg = a + zcn c := by rw [y_tn, k1]; rfl
  have i30 : z_in (I 55 30) 2000 = true := y_in_t (by omega) (by omega)
  have e31 : (I 55 30 + Int32.ofInt 1).toInt = ((a + zcn c + 1 : Nat) : Int) := by rw [y_adl (by omega) (by omega) (by omega) (by omega), k1]; omega
  have n31 : (I 55 30 + Int32.ofInt 1).toNatClampNeg = a + zcn c + 1 := by rw [y_tn, e31]; rfl
  have i31 : z_in (I 55 30 + Int32.ofInt 1) 2000 = true := y_in_t (by omega) (by omega)
  have e32 : (I 55 30 + Int32.ofInt 1 + Int32.ofInt 1).toInt = ((a + zcn c + 2 : Nat) : Int) := by rw [y_adl (by omega) (by omega) (by omega) (by omega), e31]; omega
  have en : ∀ rr : ZR, (∀ M, z_loop X z_cf z_ff (z_pu (z_run X z_cf z_ff (d + 4))) 201 (M + 20) 0 [(0, .ref 55)] [] (118, z_sd m, ce, sl, I, L, z_rr t u r q (z_gg m) (z_sf m)) = rr) → z_pu (z_run X z_cf z_ff (d + 5)) 201 [.ref 55] (118, z_sd m, ce, sl, I, L, z_rr t u r q (z_gg m) (z_sf m)) = rr := fun rr h => z_en X (d + 2) _ _ [(0, .ref 55)] _ _ rfl rfl rfl (h 99999980)
  -- two cells are put
  have two : ∀ (K : Nat → Nat → Int32) (v1 v2 : Int32), (∀ x, x ≠ 55 → K x = I x) → (∀ j, j ≠ 18 → j ≠ 19 → K 55 j = I 55 j) → ∃ J : Nat → Nat → Int32, J = z_up (z_up (z_up (z_up K 75 (a + zcn c) v1) 55 30 (I 55 30 + Int32.ofInt 1)) 75 (a + zcn c + 1) v2) 55 30 (I 55 30 + Int32.ofInt 1 + Int32.ofInt 1) ∧ (∀ x, x ≠ 55 → x ≠ 75 → J x = I x) ∧ (∀ j, j ≠ 18 → j ≠ 19 → j ≠ 30 → J 55 j = I 55 j) ∧ J 55 18 = K 55 18 ∧ J 55 19 = K 55 19 ∧ (J 55 30).toInt = ((a + zcn c + 2 : Nat) : Int) ∧ J 75 (a + zcn c) = v1 ∧ J 75 (a + zcn c + 1) = v2 ∧ (∀ j, j ≠ a + zcn c → j ≠ a + zcn c + 1 → J 75 j = I 75 j) ∧ z_pu (z_run X z_cf z_ff (d + 4)) 202 [.ref 55, .int v1] (118, z_sd m, ce, sl, K, L, z_rr t u r q (z_gg m) (z_sf m)) = some (.inl none, (118, z_sd m, ce, sl, (z_up (z_up K 75 (a + zcn c) v1) 55 30 (I 55 30 + Int32.ofInt 1)), L, z_rr t u r q (z_gg m) (z_sf m))) ∧ z_pu (z_run X z_cf z_ff (d + 4)) 202 [.ref 55, .int v2] (118, z_sd m, ce, sl, (z_up (z_up K 75 (a + zcn c) v1) 55 30 (I 55 30 + Int32.ofInt 1)), L, z_rr t u r q (z_gg m) (z_sf m)) = some (.inl none, (118, z_sd m, ce, sl, J, L, z_rr t u r q (z_gg m) (z_sf m))) := by
    intro K v1 v2 h1 h2
    have q30 : K 55 30 = I 55 30 := h2 30 (by omega) (by omega)
    refine ⟨_, rfl, fun x x1 x2 => by rw [z_up_r _ _ _ _ _ x1, z_up_r _ _ _ _ _ x2, z_up_r _ _ _ _ _ x1, z_up_r _ _ _ _ _ x2, h1 x x1], fun j x1 x2 x3 => by rw [z_up_j _ _ _ _ _ x3, z_up_r _ _ _ _ _ (by omega), z_up_j _ _ _ _ _ x3, z_up_r _ _ _ _ _ (by omega), h2 j x1 x2], by rw [z_up_j _ _ _ _ _ (by omega), z_up_r _ _ _ _ _ (by omega), z_up_j _ _ _ _ _ (by omega), z_up_r _ _ _ _ _ (by omega)], by rw [z_up_j _ _ _ _ _ (by omega), z_up_r _ _ _ _ _ (by omega), z_up_j _ _ _ _ _ (by omega), z_up_r _ _ _ _ _ (by omega)], by rw [z_up_s]; exact e32, by rw [z_up_r _ _ _ _ _ (by omega), z_up_j _ _ _ _ _ (by omega), z_up_r _ _ _ _ _ (by omega), z_up_s], by rw [z_up_r _ _ _ _ _ (by omega), z_up_s], fun j x1 x2 => by rw [z_up_r _ _ _ _ _ (by omega), z_up_j _ _ _ _ _ x2, z_up_r _ _ _ _ _ (by omega), z_up_j _ _ _ _ _ x1, h1 75 (by omega)], ?_, ?_⟩
    · rw [zk_M_puts_0, q30, i30, z_gd_t, n30]
    · rw [zk_M_puts_0, z_up_s, i31, z_gd_t, n31]
  have wr : ∀ x1 : Int32, z_pu (z_run X z_cf z_ff (d + 4)) 193 [.ref 55, .int x1] (118, z_sd m, ce, sl, I, L, z_rr t u r q (z_gg m) (z_sf m)) = some (.inl none, (118, z_sd m, ce, sl, (z_up (z_up I 55 18 x1) 55 19 (I 55 23)), L, z_rr t u r q (z_gg m) (z_sf m))) := fun x1 => by rw [zk_M_wrong_0, if_pos g2]
  have wf : ∀ (x1 : Int32), (∀ x, x ≠ 55 → (z_up (z_up I 55 18 x1) 55 19 (I 55 23)) x = I x) ∧ (∀ j, j ≠ 18 → j ≠ 19 → (z_up (z_up I 55 18 x1) 55 19 (I 55 23)) 55 j = I 55 j) ∧ (z_up (z_up I 55 18 x1) 55 19 (I 55 23)) 55 18 = x1 ∧ (z_up (z_up I 55 18 x1) 55 19 (I 55 23)) 55 19 = I 55 23 := fun x1 => ⟨fun x hx => by rw [z_up_r _ _ _ _ _ hx, z_up_r _ _ _ _ _ hx], fun j h1 h2 => by rw [z_up_j _ _ _ _ _ h2, z_up_j _ _ _ _ _ h1], by rw [z_up_j _ _ _ _ _ (by omega), z_up_s], by rw [z_up_s]⟩
  -- a fault behind two cells
  have f2 : ∀ (v : Int) (v1 v2 : Int32), ¬ Int32.ofInt v = 0 → (∀ J : Nat → Nat → Int32, J 55 18 = Int32.ofInt v → z_pu (z_run X z_cf z_ff (d + 4)) 202 [.ref 55, .int v1] (118, z_sd m, ce, sl, (z_up (z_up I 55 18 (Int32.ofInt v)) 55 19 (I 55 23)), L, z_rr t u r q (z_gg m) (z_sf m)) = some (.inl none, (118, z_sd m, ce, sl, (z_up (z_up (z_up (z_up I 55 18 (Int32.ofInt v)) 55 19 (I 55 23)) 75 (a + zcn c) v1) 55 30 (I 55 30 + Int32.ofInt 1)), L, z_rr t u r q (z_gg m) (z_sf m))) → z_pu (z_run X z_cf z_ff (d + 4)) 202 [.ref 55, .int v2] (118, z_sd m, ce, sl, (z_up (z_up (z_up (z_up I 55 18 (Int32.ofInt v)) 55 19 (I 55 23)) 75 (a + zcn c) v1) 55 30 (I 55 30 + Int32.ofInt 1)), L, z_rr t u r q (z_gg m) (z_sf m)) = some (.inl none, (118, z_sd m, ce, sl, J, L, z_rr t u r q (z_gg m) (z_sf m))) → ∀ M, z_loop X z_cf z_ff (z_pu (z_run X z_cf z_ff (d + 4))) 201 (M + 20) 0 [(0, .ref 55)] [] (118, z_sd m, ce, sl, I, L, z_rr t u r q (z_gg m) (z_sf m)) = some (.inl none, (118, z_sd m, ce, sl, J, L, z_rr t u r q (z_gg m) (z_sf m)))) → ∀ e, (v, tk.2.1) = e → ∃ (J : Nat → Nat → Int32) (LJ : Nat → Nat → Int64), zMF a (B + 810) I J L LJ ∧ zME a B e J ∧ z_pu (z_run X z_cf z_ff (d + 5)) 201 [.ref 55] (118, z_sd m, ce, sl, I, L, z_rr t u r q (z_gg m) (z_sf m)) = some (.inl none, (118, z_sd m, ce, sl, J, LJ, z_rr t u r q (z_gg m) (z_sf m))) := by
    intro v v1 v2 hv h e he
    subst he
    obtain ⟨J, j0, j1, j2, j3, j4, j5, j6, j7, j8, j9, j10⟩ := two (z_up (z_up I 55 18 (Int32.ofInt v)) 55 19 (I 55 23)) v1 v2 (wf _).1 (wf _).2.1
    have j3' : J 55 18 = Int32.ofInt v := by rw [j3, (wf _).2.2.1]
    refine ⟨J, L, ⟨fun x x1 x2 _ _ => j1 x x1 x2, fun j hj => j2 j (by omega) (by omega) (by omega), fun _ _ => rfl, fun _ _ => rfl, fun j hj => j8 j (by omega) (by omega)⟩, ⟨j3', by rw [j4, (wf _).2.2.2]; exact t1, w, a + zcn c + 2, zMW_c g3 (j2 31 (by omega) (by omega) (by omega)) (j1 76 (by omega) (by omega)), by omega, j5, by omega, by omega⟩, en _ (h J j3' j9 j10)⟩
  -- two cells and the next token
  have good : ∀ (v : Int) (v1 v2 : Int32), tk.1 ≠ 0 → zcp (fun j => if j = a + zcn c then v1 else v2) (a + zcn c) [v] → zc1 v = 2 → (∀ (J K : Nat → Nat → Int32) (LJ : Nat → Nat → Int64), K 55 18 = 0 → z_pu (z_run X z_cf z_ff (d + 4)) 202 [.ref 55, .int v1] (118, z_sd m, ce, sl, I, L, z_rr t u r q (z_gg m) (z_sf m)) = some (.inl none, (118, z_sd m, ce, sl, (z_up (z_up I 75 (a + zcn c) v1) 55 30 (I 55 30 + Int32.ofInt 1)), L, z_rr t u r q (z_gg m) (z_sf m))) → z_pu (z_run X z_cf z_ff (d + 4)) 202 [.ref 55, .int v2] (118, z_sd m, ce, sl, (z_up (z_up I 75 (a + zcn c) v1) 55 30 (I 55 30 + Int32.ofInt 1)), L, z_rr t u r q (z_gg m) (z_sf m)) = some (.inl none, (118, z_sd m, ce, sl, K, L, z_rr t u r q (z_gg m) (z_sf m))) → z_pu (z_run X z_cf z_ff (d + 4)) 184 [.ref 55] (118, z_sd m, ce, sl, K, L, z_rr t u r q (z_gg m) (z_sf m)) = some (.inl none, (118, z_sd m, ce, sl, J, LJ, z_rr t u r q (z_gg m) (z_sf m))) → ∀ M, z_loop X z_cf z_ff (z_pu (z_run X z_cf z_ff (d + 4))) 201 (M + 20) 0 [(0, .ref 55)] [] (118, z_sd m, ce, sl, I, L, z_rr t u r q (z_gg m) (z_sf m)) = some (.inl none, (118, z_sd m, ce, sl, J, LJ, z_rr t u r q (z_gg m) (z_sf m)))) → ∀ s' : zqS, (zlx F N tk.2.2.1, w, ts, c ++ [v]) = s' → ∃ (J : Nat → Nat → Int32) (LJ : Nat → Nat → Int64), zMF a (B + 810) I J L LJ ∧ zMG F N a B s'.1 s'.2.1 s'.2.2.1 s'.2.2.2 J LJ ∧ tk.2.1 + 1 ≤ s'.1.2.1 ∧ z_pu (z_run X z_cf z_ff (d + 5)) 201 [.ref 55] (118, z_sd m, ce, sl, I, L, z_rr t u r q (z_gg m) (z_sf m)) = some (.inl none, (118, z_sd m, ce, sl, J, LJ, z_rr t u r q (z_gg m) (z_sf m))) := by
    intro v v1 v2 hk hc hz h s' hs
    subst hs
    obtain ⟨K, j0, j1, j2, j3, j4, j5, j6, j7, j8, j9, j10⟩ := two I v1 v2 (fun _ _ => rfl) (fun _ _ _ => rfl)
    have B1 : zMB F N tk K L := zMB_c g1 (fun j h1 h2 => if e : j = 19 then (by rw [e]; exact j4) else j2 j (by omega) e (by omega)) (j1 69 (by omega) (by omega))
    obtain ⟨J, LJ, i1, i2, i3, i4, i5, i6, i7⟩ := zM_tok X d m ce sl K L t u r q hN4 B1 hk
    have s7 : zcn (c ++ [v]) = zcn c + 2 := by
      rw [zcn_a]
      show zcn c + (zc1 v + 0) = _
      omega
    refine ⟨J, LJ, zMF_t (J := K) (LJ := L) ⟨fun x x1 x2 _ _ => j1 x x1 x2, fun j hj => j2 j (by omega) (by omega) (by omega), fun _ _ => rfl, fun _ _ => rfl, fun j hj => j8 j (by omega) (by omega)⟩ (zMF_55 i1 (fun j hj => i2 j (by omega)) i3 i4), ⟨i5, by rw [i2 18 (by omega), j3]; exact g2, zMW_c g3 (by rw [i2 31 (by omega), j2 31 (by omega) (by omega) (by omega)]) (by rw [i1 76 (by omega), j1 76 (by omega) (by omega)]), zMD_c g4 (by rw [i2 32 (by omega), j2 32 (by omega) (by omega) (by omega)]) (by rw [i1 77 (by omega), j1 77 (by omega) (by omega)]), ⟨?_, ?_⟩, ?_, ?_, g8, g9⟩, i6, en _ (h J K LJ (by rw [j3]; exact g2) j9 j10 i7)⟩
    · show (J 55 30).toInt = ((a + zcn (c ++ [v]) : Nat) : Int)
      rw [i2 30 (by omega), j5, s7]
      omega
    · show zcp (J 75) a (c ++ [v])
      rw [i1 75 (by omega)]
      refine zcp_a _ _ _ (zcp_u _ _ k2 (fun j q1 q2 => j8 j (by omega) (by omega))) (zcp_u _ _ hc (fun j q1 q2 => ?_))
      have q2' : j < a + zcn c + (zc1 v + 0) := q2
      by_cases e : j = a + zcn c
      · rw [if_pos e, e, j6]
      · rw [if_neg e, show j = a + zcn c + 1 by omega, j7]
    · show w.length ≤ (zlx F N tk.2.2.1).2.1
      omega
    · show a + zcn (c ++ [v]) + w.length ≤ B + 2 * (zlx F N tk.2.2.1).2.1
      rw [s7]
      omega
  have isg : z_pu (z_run X z_cf z_ff (d + 4)) 188 [.ref 55] (118, z_sd m, ce, sl, I, L, z_rr t u r q (z_gg m) (z_sf m)) = some (.inl (some (.int (Int32.ofInt 1))), (118, z_sd m, ce, sl, I, L, z_rr t u r q (z_gg m) (z_sf m))) := by rw [zk_M_isGood_0, zM_good I g2]
  have isb : ∀ (J : Nat → Nat → Int32), ¬ J 55 18 = 0 → z_pu (z_run X z_cf z_ff (d + 4)) 188 [.ref 55] (118, z_sd m, ce, sl, J, L, z_rr t u r q (z_gg m) (z_sf m)) = some (.inl (some (.int (Int32.ofInt 0))), (118, z_sd m, ce, sl, J, L, z_rr t u r q (z_gg m) (z_sf m))) := fun J h => by rw [zk_M_isGood_0, zM_bad J h]
  have isk : ∀ (J : Nat → Nat → Int32), J 55 18 = 0 → z_pu (z_run X z_cf z_ff (d + 4)) 188 [.ref 55] (118, z_sd m, ce, sl, J, L, z_rr t u r q (z_gg m) (z_sf m)) = some (.inl (some (.int (Int32.ofInt 1))), (118, z_sd m, ce, sl, J, L, z_rr t u r q (z_gg m) (z_sf m))) := fun J h => by rw [zk_M_isGood_0, zM_good J h]
  have hQ : zqPart (zlx F N) tk w ts c = if 100 ≤ tk.1 then (if tk.1 ≤ 109 then .inr (zlx F N tk.2.2.1, w, ts, c ++ [-tk.1]) else .inl (3, tk.2.1))
      else if tk.1 = 2 then (if tk.2.2.2.2 ≤ 5 then .inr (zlx F N tk.2.2.1, w, ts, c ++ [tk.2.2.2.1]) else .inl (2, tk.2.1)) else .inl (1, tk.2.1) := rfl
  rw [hQ]
  have ok := hO.2.2.1
  unfold zkd at ok
  by_cases c1 : 100 ≤ tk.1
  · rw [if_pos c1]
    have c119 : tk.1 ≤ 119 := by
      unfold zsgn at ok
      omega
    have s22 : (I 55 22).toInt = 1 := by
      rw [t3]
      unfold zso
      rw [if_neg (by omega), if_neg (by omega), if_neg (by omega), if_pos c1]
    obtain ⟨y, y1, y2⟩ := zr_known X d m ce sl I L t u r q g1.1 hO
    by_cases c2 : tk.1 ≤ 109
    · rw [if_pos c2]
      rw [zkw_v c1 c2] at y1
      refine ⟨fun e he => absurd he (by simp), fun s' hs => ?_⟩
      injection hs with hs
      have hy9 : y - Int32.ofInt 9 = Int32.ofInt (- -tk.1 - 100) := y_eqi (by rw [y_sbl (by omega) (by omega) (by omega) (by omega), y1]; omega)
      refine good (-tk.1) (Int32.ofInt 2) (y - Int32.ofInt 9) (by omega) ?_ ?_ (fun J K LJ hK q1 q2 q3 M => ?_) s' hs
      · unfold zcp
        rw [if_neg (by omega), if_pos (by omega)]
        exact ⟨if_pos rfl, (if_neg (by omega)).trans hy9, trivial⟩
      · unfold zc1
        rw [if_neg (by omega), if_pos (by omega)]
      · rw [zb_M_part_0, isg, z_bi_v, zb_M_part_4, if_neg (by decide), if_neg (fun h => by rw [h] at s22; exact absurd s22 (by decide)), if_pos (y_i_eq.mpr (by rw [s22]; rfl)), y2, z_bi_v, zb_M_part_57, if_pos (by rw [y_i_le, y1]; show (9 : Int) ≤ _; omega), zb_M_part_69, q1, z_b0_v, zb_M_part_74, q2, z_b0_v, zb_M_part_82, zb_M_part_90, isk K hK, z_bi_v, zb_M_part_94, if_neg (by decide), q3, z_b0_v, zb_M_part_101]
    · rw [if_neg c2]
      obtain ⟨z1, z2⟩ := zkw_n (k := tk.1) (by omega) c119
      refine ⟨fun e he => ?_, fun s' hs => absurd hs (by simp)⟩
      injection he with he
      refine f2 3 (Int32.ofInt 2) (y - Int32.ofInt 9) (by decide) (fun J hJ q1 q2 M => ?_) e he
      have hJ0 : ¬ J 55 18 = 0 := by rw [hJ]; decide
      rw [zb_M_part_0, isg, z_bi_v, zb_M_part_4, if_neg (by decide), if_neg (fun h => by rw [h] at s22; exact absurd s22 (by decide)), if_pos (y_i_eq.mpr (by rw [s22]; rfl)), y2, z_bi_v, zb_M_part_57, if_neg (by rw [y_i_le, y1]; show ¬ (9 : Int) ≤ _; omega), wr, z_b0_v, zb_M_part_69, q1, z_b0_v, zb_M_part_74, q2, z_b0_v, zb_M_part_82, zb_M_part_90, isb J hJ0, z_bi_v, zb_M_part_94, if_pos (by decide), zb_M_part_101]
  · rw [if_neg c1]
    by_cases c2 : tk.1 = 2
    · rw [if_pos c2]
      have s22 : I 55 22 = Int32.ofInt 2 := y_eqi (by
        rw [t3]
        unfold zso
        rw [if_neg (by omega), if_neg (by omega), if_pos c2])
      obtain ⟨d1, d2, d3⟩ := hO.2.2.2 c2
      have s25 := t5 c2
      by_cases c3 : tk.2.2.2.2 ≤ 5
      · rw [if_pos c3]
        refine ⟨fun e he => absurd he (by simp), fun s' hs => ?_⟩
        injection hs with hs
        refine good tk.2.2.2.1 (Int32.ofInt 1) (I 55 25) (by omega) ?_ ?_ (fun J K LJ hK q1 q2 q3 M => ?_) s' hs
        · unfold zcp
          rw [if_pos d2]
          exact ⟨if_pos rfl, (if_neg (by omega)).trans (y_eqi s25), trivial⟩
        · unfold zc1
          rw [if_pos d2]
        · have e25 : (z_up (z_up I 75 (a + zcn c) (Int32.ofInt 1)) 55 30 (I 55 30 + Int32.ofInt 1)) 55 25 = I 55 25 := by rw [z_up_j _ _ _ _ _ (by omega), z_up_r _ _ _ _ _ (by omega)]
          rw [zb_M_part_0, isg, z_bi_v, zb_M_part_4, if_neg (by decide), if_pos s22, if_pos (by rw [y_i_le, t4]; show _ ≤ (5 : Int); omega), zb_M_part_29, q1, z_b0_v, zb_M_part_34, e25, q2, z_b0_v, zb_M_part_42, zb_M_part_90, isk K hK, z_bi_v, zb_M_part_94, if_neg (by decide), q3, z_b0_v, zb_M_part_101]
      · rw [if_neg c3]
        refine ⟨fun e he => ?_, fun s' hs => absurd hs (by simp)⟩
        injection he with he
        refine f2 2 (Int32.ofInt 1) (I 55 25) (by decide) (fun J hJ q1 q2 M => ?_) e he
        have hJ0 : ¬ J 55 18 = 0 := by rw [hJ]; decide
        have e25 : (z_up (z_up (z_up (z_up I 55 18 (Int32.ofInt 2)) 55 19 (I 55 23)) 75 (a + zcn c) (Int32.ofInt 1)) 55 30 (I 55 30 + Int32.ofInt 1)) 55 25 = I 55 25 := by rw [z_up_j _ _ _ _ _ (by omega), z_up_r _ _ _ _ _ (by omega), z_up_j _ _ _ _ _ (by omega), z_up_j _ _ _ _ _ (by omega)]
        rw [zb_M_part_0, isg, z_bi_v, zb_M_part_4, if_neg (by decide), if_pos s22, if_neg (by rw [y_i_le, t4]; show ¬ _ ≤ (5 : Int); omega), wr, z_b0_v, zb_M_part_29, q1, z_b0_v, zb_M_part_34, e25, q2, z_b0_v, zb_M_part_42, zb_M_part_90, isb J hJ0, z_bi_v, zb_M_part_94, if_pos (by decide), zb_M_part_101]
    · rw [if_neg c2]
      refine ⟨fun e he => ?_, fun s' hs => absurd hs (by simp)⟩
      injection he with he
      subst he
      have s22 : (I 55 22).toInt ≠ 1 ∧ (I 55 22).toInt ≠ 2 := by
        rw [t3]
        exact ⟨fun h => c1 (zso_1.mp h), fun h => c2 (zso_2.mp h)⟩
      have hb : ¬ (z_up (z_up I 55 18 (Int32.ofInt 1)) 55 19 (I 55 23)) 55 18 = 0 := by rw [(wf _).2.2.1]; decide
      refine ⟨z_up (z_up I 55 18 (Int32.ofInt 1)) 55 19 (I 55 23), L, zMF_55 (wf _).1 (fun j hj => (wf _).2.1 j (by omega) (by omega)) (fun _ _ => rfl) (fun _ _ => rfl), ⟨(wf _).2.2.1, by rw [(wf _).2.2.2]; exact t1, w, a + zcn c, zMW_c g3 ((wf _).2.1 31 (by omega) (by omega)) ((wf _).1 76 (by omega)), by omega, by rw [(wf _).2.1 30 (by omega) (by omega)]; exact k1, by omega, by omega⟩, en _ (fun M => ?_)⟩
      rw [zb_M_part_0, isg, z_bi_v, zb_M_part_4, if_neg (by decide), if_neg (y_lit s22.2 (by omega) (by omega)), if_neg (y_lit s22.1 (by omega) (by omega)), wr, z_b0_v, zb_M_part_90, isb _ hb, z_bi_v, zb_M_part_94, if_pos (by decide), zb_M_part_101]
theorem zM_part0 (X : ZX) (d m ce sl : Nat) (I : Nat → Nat → Int32) (L : Nat → Nat → Int64) (t u r q : Nat) (h : ¬ I 55 18 = 0) : z_pu (z_run X z_cf z_ff (d + 5)) 201 [.ref 55] (118, z_sd m, ce, sl, I, L, z_rr t u r q (z_gg m) (z_sf m)) = some (.inl none, (118, z_sd m, ce, sl, I, L, z_rr t u r q (z_gg m) (z_sf m))) := by
  refine z_en X (d + 2) _ _ [(0, .ref 55)] _ _ rfl rfl rfl ?_
  rw [show (100000000 : Nat) = 99999998 + 1 + 1 by omega, zb_M_part_0, zk_M_isGood_0, zM_bad I h, z_bi_v, zb_M_part_4, if_pos (by decide)]
