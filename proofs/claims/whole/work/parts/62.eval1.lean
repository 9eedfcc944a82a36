/-! RULES, 1: what steps are worth -/
def zbin (v : Int) (a b : Int32) : Int32 :=
  if v = -42 then a * b else if v = -43 then a + b else if v = -45 then a - b else if v = -47 then (if b = 0 then Int32.ofInt 0 else a / b)
  else if v = -60 then (if b ≤ a then Int32.ofInt 0 else Int32.ofInt 1) else if v = -61 then (if a = b then Int32.ofInt 1 else Int32.ofInt 0)
  else if v = -111 then (if a = 0 then Int32.ofInt 0 else if b = 0 then Int32.ofInt 0 else Int32.ofInt 1) else (if a = 0 then (if b = 0 then Int32.ofInt 0 else Int32.ofInt 1) else Int32.ofInt 1)
def zisb (v : Int) : Prop := v = -42 ∨ v = -43 ∨ v = -45 ∨ v = -47 ∨ v = -60 ∨ v = -61 ∨ v = -111 ∨ v = -112
theorem zisb_n {v : Int} (h : zisb v) : v < 0 ∧ ¬ (-109 ≤ v ∧ v ≤ -100) ∧ v ≠ -110 ∧ -112 ≤ v := by
  unfold zisb at h
  omega
/-- the model's number for a sign -/
def zopc (v : Int) : Int := if v = -111 then 4 else if v = -112 then 5 else if v = -60 then 6 else if v = -61 then 7 else if v = -43 then 8 else if v = -45 then 9 else if v = -42 then 10 else 11
theorem zr_joined (X : ZX) (d m ce sl : Nat) (I : Nat → Nat → Int32) (L : Nat → Nat → Int64) (t u r q : Nat) (x0 a b : Int32) {v : Int} (hv : zisb v) (hx : x0.toInt = -v) : z_pu (z_run X z_cf z_ff (d + 3)) 97 [.int x0, .int a, .int b] (118, z_sd m, ce, sl, I, L, z_rr t u r q (z_gg m) (z_sf m)) = some (.inl (some (.int (zbin v a b))), (118, z_sd m, ce, sl, I, L, z_rr t u r q (z_gg m) (z_sf m))) := by
  rw [zk_Rules_joined_0 X d]
  have hx0 : x0 = Int32.ofInt (-v) := y_i_eq.mpr (by rw [hx, y_oi (by have := zisb_n hv; omega) (by have := zisb_n hv; omega)])
  rw [hx0]
  unfold zbin
  rcases hv with h | h | h | h | h | h | h | h <;> subst h <;> simp (config := {decide := true}) only [if_true, if_false]
  · split
    · rfl
    · rfl
  · split <;> rfl
  · split <;> rfl
  · split
    · rfl
    · split <;> rfl
  · split
    · split <;> rfl
    · rfl
theorem zr_works (X : ZX) (d m ce sl : Nat) (I : Nat → Nat → Int32) (L : Nat → Nat → Int64) (t u r q : Nat) (x0 a b : Int32) {v : Int} (hv : zisb v) (hx : x0.toInt = zopc v) : z_pu (z_run X z_cf z_ff (d + 3)) 218 [.int x0, .int a, .int b] (118, z_sd m, ce, sl, I, L, z_rr t u r q (z_gg m) (z_sf m)) = some (.inl (some (.int (zbin v a b))), (118, z_sd m, ce, sl, I, L, z_rr t u r q (z_gg m) (z_sf m))) := by
  rw [zk_M_works_0 X d]
  have hx2 : ∀ k : Int, -2147483648 ≤ k → k ≤ 2147483647 → (x0 = Int32.ofInt k) = (k = zopc v) := by
    intro k k1 k2
    rw [eq_iff_iff, y_i_eq, y_oi k1 k2, hx]
    omega
  simp (disch := omega) only [hx2]
  unfold zbin zopc
  rcases hv with h | h | h | h | h | h | h | h <;> subst h <;> simp (config := {decide := true}) only [if_true, if_false]
  · split
    · rfl
    · rfl
  · split <;> rfl
  · split <;> rfl
  · split
    · rfl
    · split <;> rfl
  · split
    · split <;> rfl
    · rfl
def zev1 (vals : Nat → Int32) (v : Int) (st : List Int32) : List Int32 :=
  if 0 ≤ v then Int32.ofInt v :: st
  else if -109 ≤ v ∧ v ≤ -100 then vals (-v - 100).toNat :: st
  else match st with
    | [] => []
    | a :: r => if v = -110 then (if a = 0 then Int32.ofInt 1 else Int32.ofInt 0) :: r else match r with
      | [] => []
      | c :: r => zbin v c a :: r
def zevs (vals : Nat → Int32) : List Int → List Int32 → List Int32
  | [], st => st
  | v :: l, st => zevs vals l (zev1 vals v st)
def zwf : List Int → Nat → Prop
  | [], n => n = 1
  | v :: l, n => if 0 ≤ v then v ≤ 99999 ∧ zwf l (n + 1) else if -109 ≤ v ∧ v ≤ -100 then zwf l (n + 1) else if v = -110 then 1 ≤ n ∧ zwf l n else zisb v ∧ 2 ≤ n ∧ zwf l (n - 1)
/-- a stack in a row, the top last -/
def zstk (F : Nat → Int32) : List Int32 → Prop
  | [] => True
  | a :: l => F l.length = a ∧ zstk F l
def zrow (F : Nat → Int32) : Nat → List Int → Prop
  | _, [] => True
  | i, v :: l => (F i).toInt = v ∧ zrow F (i + 1) l
/-- the model's code of steps, with its end -/
def zcd (F : Nat → Int32) : Nat → List Int → Prop
  | k, [] => F k = Int32.ofInt 0
  | k, v :: l => if 0 ≤ v then F k = Int32.ofInt 1 ∧ F (k + 1) = Int32.ofInt v ∧ zcd F (k + 2) l else if -109 ≤ v ∧ v ≤ -100 then F k = Int32.ofInt 2 ∧ F (k + 1) = Int32.ofInt (-v - 100) ∧ zcd F (k + 2) l else F k = Int32.ofInt (if v = -110 then 3 else zopc v) ∧ zcd F (k + 1) l
theorem zstk_up {F G : Nat → Int32} (l : List Int32) (h : zstk F l) (hG : ∀ j, j < l.length → G j = F j) : zstk G l := by
  induction l with
  | nil => trivial
  | cons a l ih =>
    obtain ⟨h1, h2⟩ := h
    refine ⟨by rw [hG l.length (by simp), h1], ih h2 (fun j hj => hG j (by simp; omega))⟩
theorem zrow_c {F G : Nat → Int32} (h : F = G) (i : Nat) (l : List Int) (hl : zrow F i l) : zrow G i l := by
  rw [← h]
  exact hl
theorem y_neg {x : Int32} (h : -2147483647 ≤ x.toInt) : (-x).toInt = -x.toInt := by
  have := y_hi x
  rw [Int32.toInt_neg, y_bm _ (by omega) (by omega)]
theorem zr_valueOf8_loop (X : ZX) (d m ce sl : Nat) (L : Nat → Nat → Int64) (t u r q : Nat) (to : Int32) (l : List Int) : ∀ (I : Nat → Nat → Int32) (st : List Int32) (i M : Nat), zrow (I 9) i l → zwf l st.length → zstk (I 10) st → to.toInt = i + l.length → i + l.length ≤ 400 → st.length + l.length ≤ 400 →
    ∃ J : Nat → Nat → Int32, z_loop X z_cf z_ff (z_pu (z_run X z_cf z_ff (d + 3))) 96 (M + 2 * l.length + 1) 6 [(0, .ref 8), (2, .int to), (3, .ref 29), (4, .int (Int32.ofNat st.length)), (5, .int (Int32.ofNat i))] [] (118, z_sd m, ce, sl, I, L, z_rr t u r q (z_gg m) (z_sf m)) = some (.inl (some (.int ((zevs (I 29) l st).headD 0))), (118, z_sd m, ce, sl, J, L, z_rr t u r q (z_gg m) (z_sf m))) ∧ (∀ a, a ≠ 10 → J a = I a) := by
  induction l with
  | nil =>
    intro I st i M h1 h2 h3 h4 h5 h6
    have hn : st.length = 1 := h2
    match st, hn, h3 with
    | [a], _, h3 =>
      refine ⟨I, ?_, fun _ _ => rfl⟩
      have h4' : to.toInt = i := by simpa using h4
      have e0 : I 10 0 = a := h3.1
      rw [show M + 2 * ([] : List Int).length + 1 = M + 1 from rfl, show ([a] : List Int32).length = 1 from rfl, zb_Rules_valueOf_8_29_6, if_pos (by rw [y_i_le, h4', y_on (by simp at h5; omega)]; omega), if_neg (show ¬ Int32.ofNat 1 ≤ 0 by decide)]
      show z_gd (z_in (Int32.ofNat 1 - Int32.ofInt 1) 400) (some (.inl (some (.int (I 10 ((Int32.ofNat 1 - Int32.ofInt 1).toNatClampNeg)))), _)) = _
      rw [show Int32.ofNat 1 - Int32.ofInt 1 = Int32.ofNat 0 by decide, z_in_n (by omega) (by omega), z_gd_t, z_onn (by omega), e0]
      rfl
  | cons v l ih =>
    intro I st i M h1 h2 h3 h4 h5 h6
    obtain ⟨h1, h1'⟩ := h1
    simp only [List.length_cons] at h4 h5 h6
    have hi : (Int32.ofNat i).toNatClampNeg = i := z_onn (by omega)
    have hni : ¬ to ≤ Int32.ofNat i := by rw [y_i_le, h4, y_on (by omega)]; omega
    have hin : z_in (Int32.ofNat i) 400 = true := z_in_n (by omega) (by omega)
    have e400 : (Int32.ofInt 400).toInt = 400 := rfl
    unfold zwf at h2
    rw [show M + 2 * (v :: l).length + 1 = M + 2 * l.length + 2 + 1 by simp; omega]
    by_cases c0 : 0 ≤ v
    · rw [if_pos c0] at h2
      have hv : I 9 i = Int32.ofInt v := by rw [← h1, y_ofi]
      obtain ⟨J, g1, g2⟩ := ih (z_up I 10 st.length (Int32.ofInt v)) (Int32.ofInt v :: st) (i + 1) (M + 1) (zrow_c (z_up_r I 10 _ 9 _ (by omega)).symm _ _ h1') h2.2 ⟨z_up_s _ _ _ _, zstk_up st h3 (fun j hj => z_up_j _ _ _ _ _ (by omega))⟩ (by omega) (by omega) (by simp; omega)
      refine ⟨J, ?_, fun a ha => by rw [g2 a ha, z_up_r _ _ _ _ _ ha]⟩
      rw [zb_Rules_valueOf_8_29_6, if_neg hni, hin, z_gd_t, hi, hv, if_pos (by rw [y_i_le, y_i0, y_oi (by omega) (by omega)]; exact c0), if_pos (by rw [y_i_lt, y_on (by omega), e400]; omega), if_neg (by rw [y_i_lt, y_i0, y_oi (by omega) (by omega)]; omega), z_in_n (by omega) (by omega), z_gd_t, z_onn (by omega), z_ofa (by omega), z_ofa (by omega)]
      have e : zevs (I 29) (v :: l) st = zevs (z_up I 10 st.length (Int32.ofInt v) 29) l (Int32.ofInt v :: st) := by
        rw [z_up_r _ _ _ _ _ (by omega)]
        show zevs (I 29) l (zev1 (I 29) v st) = _
        unfold zev1
        rw [if_pos c0]
      rw [e, ← g1, show M + 2 * l.length + 2 = M + 1 + 2 * l.length + 1 by omega]
      rfl
    · rw [if_neg c0] at h2
      have hb : ¬ 0 ≤ I 9 i := by rw [y_i_le, y_i0, h1]; exact c0
      by_cases c1 : -109 ≤ v ∧ v ≤ -100
      · rw [if_pos c1] at h2
        have en : (-(I 9 i)).toInt = -v := by rw [y_neg (by omega), h1]
        have ek : (-(I 9 i) - Int32.ofInt 100).toInt = -v - 100 := by rw [y_sbl (by omega) (by omega) (by omega) (by omega), en]
        have ekN : (-(I 9 i) - Int32.ofInt 100).toNatClampNeg = (-v - 100).toNat := by rw [y_tn, ek]
        obtain ⟨J, g1, g2⟩ := ih (z_up I 10 st.length (I 29 (-v - 100).toNat)) (I 29 (-v - 100).toNat :: st) (i + 1) (M + 1) (zrow_c (z_up_r I 10 _ 9 _ (by omega)).symm _ _ h1') h2 ⟨z_up_s _ _ _ _, zstk_up st h3 (fun j hj => z_up_j _ _ _ _ _ (by omega))⟩ (by omega) (by omega) (by simp; omega)
        refine ⟨J, ?_, fun a ha => by rw [g2 a ha, z_up_r _ _ _ _ _ ha]⟩
        rw [zb_Rules_valueOf_8_29_6, if_neg hni, hin, z_gd_t, hi, if_neg hb, if_neg (by show ¬ z_p_X_within (-(I 9 i)) (Int32.ofInt 100) (Int32.ofInt 109) = 0; rw [y_wi0, en, y_oi (by omega) (by omega), y_oi (by omega) (by omega)]; omega), if_pos (by rw [y_i_lt, y_on (by omega), e400]; omega), if_pos (by rw [y_i_lt, y_i0, h1]; omega), y_in_t (i := -(I 9 i) - Int32.ofInt 100) (by omega) (by omega), z_gd_t, z_in_n (by omega) (by omega), z_gd_t, ekN, z_onn (by omega), z_ofa (by omega), z_ofa (by omega)]
        have e : zevs (I 29) (v :: l) st = zevs (z_up I 10 st.length (I 29 (-v - 100).toNat) 29) l (I 29 (-v - 100).toNat :: st) := by
          rw [z_up_r _ _ _ _ _ (by omega)]
          show zevs (I 29) l (zev1 (I 29) v st) = _
          unfold zev1
          rw [if_neg c0, if_pos c1]
        rw [e, ← g1, show M + 2 * l.length + 2 = M + 1 + 2 * l.length + 1 by omega]
        rfl
      · rw [if_neg c1] at h2
        have hnv : z_p_Token_isValue (-(I 9 i)) = 0 := by
          show z_p_X_within (-(I 9 i)) (Int32.ofInt 100) (Int32.ofInt 109) = 0
          have hlow : -2147483647 ≤ (I 9 i).toInt := by
            rw [h1]
            by_cases c2 : v = -110
            · omega
            · rw [if_neg c2] at h2
              have := zisb_n h2.1
              omega
          rw [y_wi0, y_neg hlow, h1, y_oi (by omega) (by omega), y_oi (by omega) (by omega)]
          omega
        by_cases c2 : v = -110
        · rw [if_pos c2] at h2
          match st, h2, h3, h6 with
          | a :: st, h2, h3, h6 =>
            obtain ⟨h3, h3'⟩ := h3
            have hlen : (a :: st).length = st.length + 1 := rfl
            have hs1 : Int32.ofNat (st.length + 1) - Int32.ofInt 1 = Int32.ofNat st.length := by rw [z_ofs (by omega) (by omega), Nat.add_sub_cancel]
            obtain ⟨w, hw⟩ : ∃ w, w = if a = 0 then Int32.ofInt 1 else Int32.ofInt 0 := ⟨_, rfl⟩
            obtain ⟨J, g1, g2⟩ := ih (z_up I 10 st.length w) (w :: st) (i + 1) (M + 1) (zrow_c (z_up_r I 10 _ 9 _ (by omega)).symm _ _ h1') h2.2 ⟨z_up_s _ _ _ _, zstk_up st h3' (fun j hj => z_up_j _ _ _ _ _ (by omega))⟩ (by omega) (by omega) (by simp at h6 ⊢; omega)
            refine ⟨J, ?_, fun a ha => by rw [g2 a ha, z_up_r _ _ _ _ _ ha]⟩
            have e : zevs (I 29) (v :: l) (a :: st) = zevs (z_up I 10 st.length w 29) l (w :: st) := by
              rw [z_up_r _ _ _ _ _ (by omega)]
              show zevs (I 29) l (zev1 (I 29) v (a :: st)) = _
              unfold zev1
              rw [if_neg c0, if_neg c1]
              show zevs (I 29) l (if v = -110 then _ else _) = _
              rw [if_pos c2, hw]
            rw [hlen, zb_Rules_valueOf_8_29_6, if_neg hni, hin, z_gd_t, hi, if_neg hb, if_pos hnv, if_pos (y_i_eq.mpr (by rw [h1, c2]; rfl)), if_pos (by rw [y_i_le, y_on (by simp at h6; omega), y_oi1]; omega), hs1, z_in_n (by simp at h6; omega) (by omega), z_gd_t, z_onn (by simp at h6; omega), h3, z_ofa (by omega), e, ← g1, show M + 2 * l.length + 2 = M + 1 + 2 * l.length + 1 by omega]
            by_cases ca : a = 0
            · have hw1 : w = Int32.ofInt 1 := by rw [hw, if_pos ca]
              rw [if_pos ca, z_gd_t, hw1]
              rfl
            · have hw1 : w = Int32.ofInt 0 := by rw [hw, if_neg ca]
              rw [if_neg ca, z_gd_t, hw1]
              rfl
        · rw [if_neg c2] at h2
          obtain ⟨hbv, h2a, h2b⟩ := h2
          match st, h2a, h2b, h3, h6 with
          | b :: a :: st, h2a, h2b, h3, h6 =>
            obtain ⟨h3, h3', h3''⟩ := h3
            have hlen : (b :: a :: st).length = st.length + 2 := rfl
            simp only [List.length_cons] at h6 h3
            have hs2 : Int32.ofNat (st.length + 2) + Int32.ofInt (-1) = Int32.ofNat (st.length + 1) := by rw [y_i_eq, y_adl (by omega) (by omega) (by rw [y_on (by omega)]; omega) (by rw [y_on (by omega)]; omega), y_on (by omega), y_on (by omega)]; omega
            have hs1 : Int32.ofNat (st.length + 1) - Int32.ofInt 1 = Int32.ofNat st.length := by rw [z_ofs (by omega) (by omega), Nat.add_sub_cancel]
            obtain ⟨J, g1, g2⟩ := ih (z_up I 10 st.length (zbin v a b)) (zbin v a b :: st) (i + 1) M (zrow_c (z_up_r I 10 _ 9 _ (by omega)).symm _ _ h1') h2b ⟨z_up_s _ _ _ _, zstk_up st h3'' (fun j hj => z_up_j _ _ _ _ _ (by omega))⟩ (by omega) (by omega) (by simp; omega)
            refine ⟨J, ?_, fun a ha => by rw [g2 a ha, z_up_r _ _ _ _ _ ha]⟩
            have e : zevs (I 29) (v :: l) (b :: a :: st) = zevs (z_up I 10 st.length (zbin v a b) 29) l (zbin v a b :: st) := by
              rw [z_up_r _ _ _ _ _ (by omega)]
              show zevs (I 29) l (zev1 (I 29) v (b :: a :: st)) = _
              unfold zev1
              rw [if_neg c0, if_neg c1]
              show zevs (I 29) l (if v = -110 then _ else _) = _
              rw [if_neg c2]
            have en : (-(I 9 i)).toInt = -v := by rw [y_neg (by rw [h1]; have := zisb_n hbv; omega), h1]
            rw [hlen, zb_Rules_valueOf_8_29_6, if_neg hni, hin, z_gd_t, hi, if_neg hb, if_pos hnv, if_neg (fun hc => c2 (by rw [← h1, hc]; rfl)), if_pos (by rw [y_i_le, y_on (by omega), y_oi (by omega) (by omega)]; omega), hs2, hs1, z_in_n (by omega) (by omega), z_gd_t, z_in_n (by omega) (by omega), z_gd_t, z_onn (by omega), z_onn (by omega), h3, h3', zr_joined X d m ce sl I L t u r q (-(I 9 i)) a b hbv en, z_bi_v, show M + 2 * l.length + 2 = M + 2 * l.length + 1 + 1 by omega, zb_Rules_valueOf_8_29_161, z_in_n (by omega) (by omega), z_gd_t, z_onn (by omega), z_ofa (by omega), e, ← g1]
            rfl
theorem zr_valueOf15_loop (X : ZX) (d m ce sl : Nat) (L : Nat → Nat → Int64) (t u r q : Nat) (to : Int32) (l : List Int) : ∀ (I : Nat → Nat → Int32) (st : List Int32) (i M : Nat), zrow (I 16) i l → zwf l st.length → zstk (I 17) st → to.toInt = i + l.length → i + l.length ≤ 400 → st.length + l.length ≤ 400 →
    ∃ J : Nat → Nat → Int32, z_loop X z_cf z_ff (z_pu (z_run X z_cf z_ff (d + 3))) 96 (M + 2 * l.length + 1) 6 [(0, .ref 15), (2, .int to), (3, .ref 29), (4, .int (Int32.ofNat st.length)), (5, .int (Int32.ofNat i))] [] (118, z_sd m, ce, sl, I, L, z_rr t u r q (z_gg m) (z_sf m)) = some (.inl (some (.int ((zevs (I 29) l st).headD 0))), (118, z_sd m, ce, sl, J, L, z_rr t u r q (z_gg m) (z_sf m))) ∧ (∀ a, a ≠ 17 → J a = I a) := by
  induction l with
  | nil =>
    intro I st i M h1 h2 h3 h4 h5 h6
    have hn : st.length = 1 := h2
    match st, hn, h3 with
    | [a], _, h3 =>
      refine ⟨I, ?_, fun _ _ => rfl⟩
      have h4' : to.toInt = i := by simpa using h4
      have e0 : I 17 0 = a := h3.1
      rw [show M + 2 * ([] : List Int).length + 1 = M + 1 from rfl, show ([a] : List Int32).length = 1 from rfl, zb_Rules_valueOf_15_29_6, if_pos (by rw [y_i_le, h4', y_on (by simp at h5; omega)]; omega), if_neg (show ¬ Int32.ofNat 1 ≤ 0 by decide)]
      show z_gd (z_in (Int32.ofNat 1 - Int32.ofInt 1) 400) (some (.inl (some (.int (I 17 ((Int32.ofNat 1 - Int32.ofInt 1).toNatClampNeg)))), _)) = _
      rw [show Int32.ofNat 1 - Int32.ofInt 1 = Int32.ofNat 0 by decide, z_in_n (by omega) (by omega), z_gd_t, z_onn (by omega), e0]
      rfl
  | cons v l ih =>
    intro I st i M h1 h2 h3 h4 h5 h6
    obtain ⟨h1, h1'⟩ := h1
    simp only [List.length_cons] at h4 h5 h6
    have hi : (Int32.ofNat i).toNatClampNeg = i := z_onn (by omega)
    have hni : ¬ to ≤ Int32.ofNat i := by rw [y_i_le, h4, y_on (by omega)]; omega
    have hin : z_in (Int32.ofNat i) 400 = true := z_in_n (by omega) (by omega)
    have e400 : (Int32.ofInt 400).toInt = 400 := rfl
    unfold zwf at h2
    rw [show M + 2 * (v :: l).length + 1 = M + 2 * l.length + 2 + 1 by simp; omega]
    by_cases c0 : 0 ≤ v
    · rw [if_pos c0] at h2
      have hv : I 16 i = Int32.ofInt v := by rw [← h1, y_ofi]
      obtain ⟨J, g1, g2⟩ := ih (z_up I 17 st.length (Int32.ofInt v)) (Int32.ofInt v :: st) (i + 1) (M + 1) (zrow_c (z_up_r I 17 _ 16 _ (by omega)).symm _ _ h1') h2.2 ⟨z_up_s _ _ _ _, zstk_up st h3 (fun j hj => z_up_j _ _ _ _ _ (by omega))⟩ (by omega) (by omega) (by simp; omega)
      refine ⟨J, ?_, fun a ha => by rw [g2 a ha, z_up_r _ _ _ _ _ ha]⟩
      rw [zb_Rules_valueOf_15_29_6, if_neg hni, hin, z_gd_t, hi, hv, if_pos (by rw [y_i_le, y_i0, y_oi (by omega) (by omega)]; exact c0), if_pos (by rw [y_i_lt, y_on (by omega), e400]; omega), if_neg (by rw [y_i_lt, y_i0, y_oi (by omega) (by omega)]; omega), z_in_n (by omega) (by omega), z_gd_t, z_onn (by omega), z_ofa (by omega), z_ofa (by omega)]
      have e : zevs (I 29) (v :: l) st = zevs (z_up I 17 st.length (Int32.ofInt v) 29) l (Int32.ofInt v :: st) := by
        rw [z_up_r _ _ _ _ _ (by omega)]
        show zevs (I 29) l (zev1 (I 29) v st) = _
        unfold zev1
        rw [if_pos c0]
      rw [e, ← g1, show M + 2 * l.length + 2 = M + 1 + 2 * l.length + 1 by omega]
      rfl
    · rw [if_neg c0] at h2
      have hb : ¬ 0 ≤ I 16 i := by rw [y_i_le, y_i0, h1]; exact c0
      by_cases c1 : -109 ≤ v ∧ v ≤ -100
      · rw [if_pos c1] at h2
        have en : (-(I 16 i)).toInt = -v := by rw [y_neg (by omega), h1]
        have ek : (-(I 16 i) - Int32.ofInt 100).toInt = -v - 100 := by rw [y_sbl (by omega) (by omega) (by omega) (by omega), en]
        have ekN : (-(I 16 i) - Int32.ofInt 100).toNatClampNeg = (-v - 100).toNat := by rw [y_tn, ek]
        obtain ⟨J, g1, g2⟩ := ih (z_up I 17 st.length (I 29 (-v - 100).toNat)) (I 29 (-v - 100).toNat :: st) (i + 1) (M + 1) (zrow_c (z_up_r I 17 _ 16 _ (by omega)).symm _ _ h1') h2 ⟨z_up_s _ _ _ _, zstk_up st h3 (fun j hj => z_up_j _ _ _ _ _ (by omega))⟩ (by omega) (by omega) (by simp; omega)
        refine ⟨J, ?_, fun a ha => by rw [g2 a ha, z_up_r _ _ _ _ _ ha]⟩
        rw [zb_Rules_valueOf_15_29_6, if_neg hni, hin, z_gd_t, hi, if_neg hb, if_neg (by show ¬ z_p_X_within (-(I 16 i)) (Int32.ofInt 100) (Int32.ofInt 109) = 0; rw [y_wi0, en, y_oi (by omega) (by omega), y_oi (by omega) (by omega)]; omega), if_pos (by rw [y_i_lt, y_on (by omega), e400]; omega), if_pos (by rw [y_i_lt, y_i0, h1]; omega), y_in_t (i := -(I 16 i) - Int32.ofInt 100) (by omega) (by omega), z_gd_t, z_in_n (by omega) (by omega), z_gd_t, ekN, z_onn (by omega), z_ofa (by omega), z_ofa (by omega)]
        have e : zevs (I 29) (v :: l) st = zevs (z_up I 17 st.length (I 29 (-v - 100).toNat) 29) l (I 29 (-v - 100).toNat :: st) := by
          rw [z_up_r _ _ _ _ _ (by omega)]
          show zevs (I 29) l (zev1 (I 29) v st) = _
          unfold zev1
          rw [if_neg c0, if_pos c1]
        rw [e, ← g1, show M + 2 * l.length + 2 = M + 1 + 2 * l.length + 1 by omega]
        rfl
      · rw [if_neg c1] at h2
        have hnv : z_p_Token_isValue (-(I 16 i)) = 0 := by
          show z_p_X_within (-(I 16 i)) (Int32.ofInt 100) (Int32.ofInt 109) = 0
          have hlow : -2147483647 ≤ (I 16 i).toInt := by
            rw [h1]
            by_cases c2 : v = -110
            · omega
            · rw [if_neg c2] at h2
              have := zisb_n h2.1
              omega
          rw [y_wi0, y_neg hlow, h1, y_oi (by omega) (by omega), y_oi (by omega) (by omega)]
          omega
        by_cases c2 : v = -110
        · rw [if_pos c2] at h2
          match st, h2, h3, h6 with
          | a :: st, h2, h3, h6 =>
            obtain ⟨h3, h3'⟩ := h3
            have hlen : (a :: st).length = st.length + 1 := rfl
            have hs1 : Int32.ofNat (st.length + 1) - Int32.ofInt 1 = Int32.ofNat st.length := by rw [z_ofs (by omega) (by omega), Nat.add_sub_cancel]
            obtain ⟨w, hw⟩ : ∃ w, w = if a = 0 then Int32.ofInt 1 else Int32.ofInt 0 := ⟨_, rfl⟩
            obtain ⟨J, g1, g2⟩ := ih (z_up I 17 st.length w) (w :: st) (i + 1) (M + 1) (zrow_c (z_up_r I 17 _ 16 _ (by omega)).symm _ _ h1') h2.2 ⟨z_up_s _ _ _ _, zstk_up st h3' (fun j hj => z_up_j _ _ _ _ _ (by omega))⟩ (by omega) (by omega) (by simp at h6 ⊢; omega)
            refine ⟨J, ?_, fun a ha => by rw [g2 a ha, z_up_r _ _ _ _ _ ha]⟩
            have e : zevs (I 29) (v :: l) (a :: st) = zevs (z_up I 17 st.length w 29) l (w :: st) := by
              rw [z_up_r _ _ _ _ _ (by omega)]
              show zevs (I 29) l (zev1 (I 29) v (a :: st)) = _
              unfold zev1
              rw [if_neg c0, if_neg c1]
              show zevs (I 29) l (if v = -110 then _ else _) = _
              rw [if_pos c2, hw]
            rw [hlen, zb_Rules_valueOf_15_29_6, if_neg hni, hin, z_gd_t, hi, if_neg hb, if_pos hnv, if_pos (y_i_eq.mpr (by rw [h1, c2]; rfl)), if_pos (by rw [y_i_le, y_on (by simp at h6; omega), y_oi1]; omega), hs1, z_in_n (by simp at h6; omega) (by omega), z_gd_t, z_onn (by simp at h6; omega), h3, z_ofa (by omega), e, ← g1, show M + 2 * l.length + 2 = M + 1 + 2 * l.length + 1 by omega]
            by_cases ca : a = 0
            · have hw1 : w = Int32.ofInt 1 := by rw [hw, if_pos ca]
              rw [if_pos ca, z_gd_t, hw1]
              rfl
            · have hw1 : w = Int32.ofInt 0 := by rw [hw, if_neg ca]
              rw [if_neg ca, z_gd_t, hw1]
              rfl
        · rw [if_neg c2] at h2
          obtain ⟨hbv, h2a, h2b⟩ := h2
          match st, h2a, h2b, h3, h6 with
          | b :: a :: st, h2a, h2b, h3, h6 =>
            obtain ⟨h3, h3', h3''⟩ := h3
            have hlen : (b :: a :: st).length = st.length + 2 := rfl
            simp only [List.length_cons] at h6 h3
            have hs2 : Int32.ofNat (st.length + 2) + Int32.ofInt (-1) = Int32.ofNat (st.length + 1) := by rw [y_i_eq, y_adl (by omega) (by omega) (by rw [y_on (by omega)]; omega) (by rw [y_on (by omega)]; omega), y_on (by omega), y_on (by omega)]; omega
            have hs1 : Int32.ofNat (st.length + 1) - Int32.ofInt 1 = Int32.ofNat st.length := by rw [z_ofs (by omega) (by omega), Nat.add_sub_cancel]
            obtain ⟨J, g1, g2⟩ := ih (z_up I 17 st.length (zbin v a b)) (zbin v a b :: st) (i + 1) M (zrow_c (z_up_r I 17 _ 16 _ (by omega)).symm _ _ h1') h2b ⟨z_up_s _ _ _ _, zstk_up st h3'' (fun j hj => z_up_j _ _ _ _ _ (by omega))⟩ (by omega) (by omega) (by simp; omega)
            refine ⟨J, ?_, fun a ha => by rw [g2 a ha, z_up_r _ _ _ _ _ ha]⟩
            have e : zevs (I 29) (v :: l) (b :: a :: st) = zevs (z_up I 17 st.length (zbin v a b) 29) l (zbin v a b :: st) := by
              rw [z_up_r _ _ _ _ _ (by omega)]
              show zevs (I 29) l (zev1 (I 29) v (b :: a :: st)) = _
              unfold zev1
              rw [if_neg c0, if_neg c1]
              show zevs (I 29) l (if v = -110 then _ else _) = _
              rw [if_neg c2]
            have en : (-(I 16 i)).toInt = -v := by rw [y_neg (by rw [h1]; have := zisb_n hbv; omega), h1]
            rw [hlen, zb_Rules_valueOf_15_29_6, if_neg hni, hin, z_gd_t, hi, if_neg hb, if_pos hnv, if_neg (fun hc => c2 (by rw [← h1, hc]; rfl)), if_pos (by rw [y_i_le, y_on (by omega), y_oi (by omega) (by omega)]; omega), hs2, hs1, z_in_n (by omega) (by omega), z_gd_t, z_in_n (by omega) (by omega), z_gd_t, z_onn (by omega), z_onn (by omega), h3, h3', zr_joined X d m ce sl I L t u r q (-(I 16 i)) a b hbv en, z_bi_v, show M + 2 * l.length + 2 = M + 2 * l.length + 1 + 1 by omega, zb_Rules_valueOf_15_29_161, z_in_n (by omega) (by omega), z_gd_t, z_onn (by omega), z_ofa (by omega), e, ← g1]
            rfl
