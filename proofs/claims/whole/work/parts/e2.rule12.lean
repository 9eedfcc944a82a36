/-! RULES, 15: the model's machine: expressions -/
/-- what faults there are -/
def zFk (X : zTk → zFl ⊕ (zTk × List Int)) : Prop := ∀ tk e, X tk = .inl e → 1 ≤ e.1 ∧ e.1 ≤ 4
theorem zFk_part {lx : Nat → zTk} {E : zTk → zFl ⊕ (zTk × List Int)} (hE : zFk E) : zFk (zpPart lx E) := by
  intro tk e h
  unfold zpPart at h
  by_cases c : tk.1 = 40
  · rw [if_pos c] at h
    cases hx : E (lx tk.2.2.1) with
    | inl y =>
      rw [hx] at h
      have h' : (.inl y : zFl ⊕ (zTk × List Int)) = .inl e := h
      injection h' with h'
      rw [← h']
      exact hE _ _ hx
    | inr y =>
      obtain ⟨tk2, s2⟩ := y
      rw [hx] at h
      have h' : (if tk2.1 = 41 then (.inr (lx tk2.2.2.1, s2) : zFl ⊕ (zTk × List Int)) else .inl (1, tk2.2.1)) = .inl e := h
      by_cases c2 : tk2.1 = 41
      · rw [if_pos c2] at h'
        exact absurd h' (by simp)
      · rw [if_neg c2] at h'
        injection h' with h'
        rw [← h']
        exact ⟨Int.le_refl _, by show (1 : Int) ≤ 4; omega⟩
  · rw [if_neg c] at h
    by_cases c1 : 100 ≤ tk.1
    · rw [if_pos c1] at h
      by_cases c2 : tk.1 ≤ 109
      · rw [if_pos c2] at h
        exact absurd h (by simp)
      · rw [if_neg c2] at h
        injection h with h
        rw [← h]
        exact ⟨by show (1 : Int) ≤ 3; omega, by show (3 : Int) ≤ 4; omega⟩
    · rw [if_neg c1] at h
      by_cases c2 : tk.1 = 2
      · rw [if_pos c2] at h
        by_cases c3 : tk.2.2.2.2 ≤ 5
        · rw [if_pos c3] at h
          exact absurd h (by simp)
        · rw [if_neg c3] at h
          injection h with h
          rw [← h]
          exact ⟨by show (1 : Int) ≤ 2; omega, by show (2 : Int) ≤ 4; omega⟩
      · rw [if_neg c2] at h
        injection h with h
        rw [← h]
        exact ⟨Int.le_refl _, by show (1 : Int) ≤ 4; omega⟩
theorem zFk_loop {lx : Nat → zTk} {sg : Nat} {one : zTk → zFl ⊕ (zTk × List Int)} (h1 : zFk one) : ∀ f tk s e, zpLoop lx sg one f tk s = .inl e → 1 ≤ e.1 ∧ e.1 ≤ 4 := by
  intro f
  induction f with
  | zero =>
    intro tk s e h
    unfold zpLoop at h
    exact absurd h (by simp)
  | succ f ih =>
    intro tk s e h
    unfold zpLoop at h
    by_cases c : zlev tk.1 = sg
    · rw [if_pos c] at h
      cases hx : one (lx tk.2.2.1) with
      | inl y =>
        rw [hx] at h
        have h' : (.inl y : zFl ⊕ (zTk × List Int)) = .inl e := h
        injection h' with h'
        rw [← h']
        exact h1 _ _ hx
      | inr y =>
        obtain ⟨tk2, s2⟩ := y
        rw [hx] at h
        exact ih tk2 (s ++ s2 ++ [-tk.1]) e h
    · rw [if_neg c] at h
      exact absurd h (by simp)
theorem zFk_row {lx : Nat → zTk} {sg : Nat} {one : zTk → zFl ⊕ (zTk × List Int)} (h1 : zFk one) : zFk (zpRow lx sg one) := by
  intro tk e h
  unfold zpRow at h
  cases hx : one tk with
  | inl y =>
    rw [hx] at h
    have h' : (.inl y : zFl ⊕ (zTk × List Int)) = .inl e := h
    injection h' with h'
    rw [← h']
    exact h1 _ _ hx
  | inr y =>
    obtain ⟨tk2, s2⟩ := y
    rw [hx] at h
    exact zFk_loop h1 400 tk2 s2 e h
theorem zFk_test {lx : Nat → zTk} {one : zTk → zFl ⊕ (zTk × List Int)} (h1 : zFk one) : zFk (zpTest lx one) := by
  intro tk e h
  unfold zpTest at h
  cases hx : one tk with
  | inl y =>
    rw [hx] at h
    have h' : (.inl y : zFl ⊕ (zTk × List Int)) = .inl e := h
    injection h' with h'
    rw [← h']
    exact h1 _ _ hx
  | inr y =>
    obtain ⟨tk2, s2⟩ := y
    rw [hx] at h
    have h' : (if zlev tk2.1 = 4 then match one (lx tk2.2.2.1) with
      | .inl e => (.inl e : zFl ⊕ (zTk × List Int))
      | .inr (tk3, s3) => .inr (tk3, s2 ++ s3 ++ [-tk2.1])
    else .inr (tk2, s2)) = .inl e := h
    by_cases c : zlev tk2.1 = 4
    · rw [if_pos c] at h'
      cases hy : one (lx tk2.2.2.1) with
      | inl y =>
        rw [hy] at h'
        have h2 : (.inl y : zFl ⊕ (zTk × List Int)) = .inl e := h'
        injection h2 with h2
        rw [← h2]
        exact h1 _ _ hy
      | inr y =>
        rw [hy] at h'
        exact absurd h' (by simp)
    · rw [if_neg c] at h'
      exact absurd h' (by simp)
theorem zFk_nots {lx : Nat → zTk} {one : zTk → zFl ⊕ (zTk × List Int)} (h1 : zFk one) : ∀ r, zFk (zpNots lx one r) := by
  intro r
  induction r with
  | zero =>
    intro tk e h
    unfold zpNots at h
    by_cases c : tk.1 = 110
    · rw [if_pos c] at h
      injection h with h
      rw [← h]
      exact ⟨by show (1 : Int) ≤ 2; omega, by show (2 : Int) ≤ 4; omega⟩
    · rw [if_neg c] at h
      exact h1 _ _ h
  | succ r ih =>
    intro tk e h
    unfold zpNots at h
    by_cases c : tk.1 = 110
    · rw [if_pos c] at h
      cases hy : zpNots lx one r (lx tk.2.2.1) with
      | inl y =>
        rw [hy] at h
        have h2 : (.inl y : zFl ⊕ (zTk × List Int)) = .inl e := h
        injection h2 with h2
        rw [← h2]
        exact ih _ _ hy
      | inr y =>
        rw [hy] at h
        exact absurd h (by simp)
    · rw [if_neg c] at h
      exact h1 _ _ h
theorem zFk_expr (lx : Nat → zTk) : ∀ r, zFk (zpExpr lx r) := by
  intro r
  induction r with
  | zero =>
    intro tk e h
    unfold zpExpr at h
    injection h with h
    rw [← h]
    show 1 ≤ zbgk tk.1 ∧ zbgk tk.1 ≤ 4
    rcases zbgk_r tk.1 with h | h <;> rw [h] <;> omega
  | succ r ih =>
    intro tk e h
    unfold zpExpr at h
    exact zFk_row (zFk_row (zFk_nots (zFk_test (zFk_row (zFk_row (zFk_part ih)))) 6)) tk e h
theorem zFk_qpart {lx : Nat → zTk} {tk : zTk} {w : List Int} {ts : List Bool} {c : List Int} {e : zFl} (h : zqPart lx tk w ts c = .inl e) : 1 ≤ e.1 ∧ e.1 ≤ 4 := by
  unfold zqPart at h
  by_cases c1 : 100 ≤ tk.1
  · rw [if_pos c1] at h
    by_cases c2 : tk.1 ≤ 109
    · rw [if_pos c2] at h
      exact absurd h (by simp)
    · rw [if_neg c2] at h
      injection h with h
      rw [← h]
      exact ⟨by show (1 : Int) ≤ 3; omega, by show (3 : Int) ≤ 4; omega⟩
  · rw [if_neg c1] at h
    by_cases c2 : tk.1 = 2
    · rw [if_pos c2] at h
      by_cases c3 : tk.2.2.2.2 ≤ 5
      · rw [if_pos c3] at h
        exact absurd h (by simp)
      · rw [if_neg c3] at h
        injection h with h
        rw [← h]
        exact ⟨by show (1 : Int) ≤ 2; omega, by show (2 : Int) ≤ 4; omega⟩
    · rw [if_neg c2] at h
      injection h with h
      rw [← h]
      exact ⟨Int.le_refl _, by show (1 : Int) ≤ 4; omega⟩
theorem zFk_qnots {lx : Nat → zTk} : ∀ k tk w e, zqNots lx k tk w = .inl e → 1 ≤ e.1 ∧ e.1 ≤ 4 := by
  intro k
  induction k with
  | zero =>
    intro tk w e h
    unfold zqNots at h
    by_cases c : tk.1 = 110
    · rw [if_pos c] at h
      injection h with h
      rw [← h]
      exact ⟨by show (1 : Int) ≤ 2; omega, by show (2 : Int) ≤ 4; omega⟩
    · rw [if_neg c] at h
      exact absurd h (by simp)
  | succ k ih =>
    intro tk w e h
    unfold zqNots at h
    by_cases c : tk.1 = 110
    · rw [if_pos c] at h
      exact ih _ _ _ h
    · rw [if_neg c] at h
      exact absurd h (by simp)
theorem zFk_qnt {lx : Nat → zTk} {nt : Bool} {tk : zTk} {w : List Int} {e : zFl} (h : zqNt lx nt tk w = .inl e) : 1 ≤ e.1 ∧ e.1 ≤ 4 := by
  unfold zqNt at h
  cases nt with
  | true => exact zFk_qnots 6 tk w e h
  | false => exact absurd h (by simp)
theorem zFk_qop {lx : Nat → zTk} : ∀ r nt tk w ts c e, zqOp lx r nt tk w ts c = .inl e → 1 ≤ e.1 ∧ e.1 ≤ 4 := by
  intro r
  induction r with
  | zero =>
    intro nt tk w ts c e h
    rw [zqOp_0] at h
    cases hx : zqNt lx nt tk w with
    | inl y =>
      rw [hx] at h
      have h2 : (.inl y : zFl ⊕ zqS) = .inl e := h
      injection h2 with h2
      rw [← h2]
      exact zFk_qnt hx
    | inr y =>
      obtain ⟨tk1, w1⟩ := y
      rw [hx] at h
      have h2 : (if tk1.1 = 40 then (.inl (zbgk (lx tk1.2.2.1).1, (lx tk1.2.2.1).2.1) : zFl ⊕ zqS) else zqPart lx tk1 w1 ts c) = .inl e := h
      by_cases c40 : tk1.1 = 40
      · rw [if_pos c40] at h2
        injection h2 with h2
        rw [← h2]
        show 1 ≤ zbgk _ ∧ zbgk _ ≤ 4
        rcases zbgk_r (lx tk1.2.2.1).1 with h | h <;> rw [h] <;> omega
      · rw [if_neg c40] at h2
        exact zFk_qpart h2
  | succ r ih =>
    intro nt tk w ts c e h
    rw [zqOp_s] at h
    cases hx : zqNt lx nt tk w with
    | inl y =>
      rw [hx] at h
      have h2 : (.inl y : zFl ⊕ zqS) = .inl e := h
      injection h2 with h2
      rw [← h2]
      exact zFk_qnt hx
    | inr y =>
      obtain ⟨tk1, w1⟩ := y
      rw [hx] at h
      have h2 : (if tk1.1 = 40 then zqOp lx r true (lx tk1.2.2.1) (0 :: w1) (false :: ts) c else zqPart lx tk1 w1 ts c) = .inl e := h
      by_cases c40 : tk1.1 = 40
      · rw [if_pos c40] at h2
        exact ih _ _ _ _ _ _ h2
      · rw [if_neg c40] at h2
        exact zFk_qpart h2
theorem zdrop_z (s : Nat) (w : List Int) : ∀ c, (zdrop s w c).1.length ≤ w.length ∧ zz (zdrop s w c).1 = zz w ∧ ((zdrop 0 w c).1 = [] ∨ ∃ r, (zdrop 0 w c).1 = 0 :: r) := by
  induction w with
  | nil => intro c; exact ⟨Nat.le_refl _, rfl, Or.inl rfl⟩
  | cons v w ih =>
    intro c
    have d1 : zdrop s (v :: w) c = if v ≠ 0 ∧ s ≤ zstr v then zdrop s w (c ++ [v]) else (v :: w, c) := rfl
    have d2 : zdrop 0 (v :: w) c = if v ≠ 0 ∧ 0 ≤ zstr v then zdrop 0 w (c ++ [v]) else (v :: w, c) := rfl
    obtain ⟨i1, i2, i3⟩ := ih (c ++ [v])
    refine ⟨?_, ?_, ?_⟩
    · rw [d1]
      split
      · show _ ≤ w.length + 1
        omega
      · exact Nat.le_refl _
    · rw [d1]
      split
      · rename_i h
        rw [i2]
        show zz w = (if v = 0 then 1 else 0) + zz w
        rw [if_neg h.1]
        omega
      · rfl
    · rw [d2]
      by_cases c0 : v = 0
      · rw [if_neg (fun h => h.1 c0)]
        exact Or.inr ⟨w, by rw [c0]⟩
      · rw [if_pos ⟨c0, Nat.zero_le _⟩]
        exact i3
theorem zwvw_s {k : Int} {s : Nat} (h : zlev k = s) (h0 : s ≠ 0) : zwvw (-k) ∧ -k ≠ 0 := by
  have := (zlev_k h h0).1
  unfold zwvw zisb
  omega
theorem zM_tst {ts : List Bool} {I : Nat → Nat → Int32} (h : zMD ts I) (h0 : ts ≠ []) : (I 77 (I 55 32).toNatClampNeg = 0) ↔ ts.headD false = false := by
  obtain ⟨h1, h2⟩ := h
  cases ts with
  | nil => exact absurd rfl h0
  | cons b r =>
    have e : (I 55 32).toNatClampNeg = r.length + 1 := by rw [y_tn, h1]; rfl
    rw [e, h2.1]
    cases b with
    | true => exact ⟨fun h => absurd h (by decide), fun h => absurd (show true = false from h) (by decide)⟩
    | false => exact ⟨fun _ => rfl, fun _ => rfl⟩
/-- signs are dropped, one waits -/
theorem zM_dw (X : ZX) (d m ce sl : Nat) (I : Nat → Nat → Int32) (L : Nat → Nat → Int64) (t u r q : Nat) {F : Nat → Int} {N a B : Nat} (hN4 : N ≤ 400) (hB : B ≤ 1000) {tk : zTk} {w : List Int} {ts : List Bool} {c : List Int} (h : zMG F N a B tk w ts c I L) {s : Nat} (hs : zlev tk.1 = s) (h0 : s ≠ 0) (x1 x2 : Int32) (hx1 : x1.toInt = s) (hx2 : x2 = Int32.ofInt (zopw (-tk.1))) : ∃ K1 K2 : Nat → Nat → Int32, (∀ j, j ≠ 30 → j ≠ 31 → K1 55 j = I 55 j) ∧ (∀ x, x ≠ 55 → x ≠ 75 → x ≠ 76 → K2 x = I x) ∧ (∀ j, j ≠ 30 → j ≠ 31 → K2 55 j = I 55 j) ∧ zMW (-tk.1 :: (zdrop s w c).1) K2 ∧ zMK a (zdrop s w c).2 K2 ∧ zcn (zdrop s w c).2 + (zdrop s w c).1.length = zcn c + w.length ∧ (∀ j, (j < a ∨ B + 810 ≤ j) → K2 75 j = I 75 j) ∧ z_pu (z_run X z_cf z_ff (d + 6)) 203 [.ref 55, .int x1] (118, z_sd m, ce, sl, I, L, z_rr t u r q (z_gg m) (z_sf m)) = some (.inl none, (118, z_sd m, ce, sl, K1, L, z_rr t u r q (z_gg m) (z_sf m))) ∧ z_pu (z_run X z_cf z_ff (d + 6)) 200 [.ref 55, .int x2] (118, z_sd m, ce, sl, K1, L, z_rr t u r q (z_gg m) (z_sf m)) = some (.inl none, (118, z_sd m, ce, sl, K2, L, z_rr t u r q (z_gg m) (z_sf m))) := by
  obtain ⟨g1, g2, g3, g4, g5, g6, g7, g8, g9⟩ := h
  have hp := g1.2.1.1
  obtain ⟨K1, a1, a2, a3, a4, a5, a6, a7⟩ := zM_drops X (d + 2) m ce sl I L t u r q x1 s hx1 g3 g5 (by omega) (by omega)
  have hl := (zdrop_z s w c).1
  obtain ⟨K2, b1, b2, b3, b4⟩ := zM_wait X (d + 3) m ce sl K1 L t u r q a3 (zwvw_s hs h0).1 (by omega) x2 hx2
  refine ⟨K1, K2, a2, fun x h1 h2 h3 => by rw [b1 x h1 h3, a1 x h1 h2], fun j h1 h2 => by rw [b2 j h2, a2 j h1 h2], b3, zMK_c a4 (b2 30 (by omega)) (b1 75 (by omega) (by omega)), a5, fun j hj => by rw [b1 75 (by omega) (by omega), a6 j (by omega)], a7, b4⟩
/-- .. and the next token is read -/
theorem zM_fin (X : ZX) (d m ce sl : Nat) (I : Nat → Nat → Int32) (L : Nat → Nat → Int64) (t u r q : Nat) {F : Nat → Int} {N a B : Nat} (hN4 : N ≤ 400) {tk : zTk} {w : List Int} {ts : List Bool} {c : List Int} (h : zMG F N a B tk w ts c I L) {s : Nat} (hs : zlev tk.1 = s) (h0 : s ≠ 0) {K3 : Nat → Nat → Int32} {ts' : List Bool} (h1 : ∀ x, x ≠ 55 → x ≠ 75 → x ≠ 76 → x ≠ 77 → K3 x = I x) (h2 : ∀ j, j ≠ 30 → j ≠ 31 → K3 55 j = I 55 j) (h3 : zMW (-tk.1 :: (zdrop s w c).1) K3) (h4 : zMK a (zdrop s w c).2 K3) (h5 : zcn (zdrop s w c).2 + (zdrop s w c).1.length = zcn c + w.length) (h6 : ∀ j, (j < a ∨ B + 810 ≤ j) → K3 75 j = I 75 j) (h7 : zMD ts' K3) (h8 : ts'.length = ts.length) : ∃ (J : Nat → Nat → Int32) (LJ : Nat → Nat → Int64), zMF a (B + 810) I J L LJ ∧ zMG F N a B (zlx F N tk.2.2.1) (-tk.1 :: (zdrop s w c).1) ts' (zdrop s w c).2 J LJ ∧ tk.2.1 + 1 ≤ (zlx F N tk.2.2.1).2.1 ∧ z_pu (z_run X z_cf z_ff (d + 6)) 184 [.ref 55] (118, z_sd m, ce, sl, K3, L, z_rr t u r q (z_gg m) (z_sf m)) = some (.inl none, (118, z_sd m, ce, sl, J, LJ, z_rr t u r q (z_gg m) (z_sf m))) := by
  obtain ⟨g1, g2, g3, g4, g5, g6, g7, g8, g9⟩ := h
  obtain ⟨z1, z2, z3⟩ := zdrop_z s w c
  obtain ⟨J, LJ, i1, i2, i3, i4, i5, i6, i7⟩ := zM_tok X (d + 2) m ce sl K3 L t u r q hN4 (zMB_c g1 (fun j _ _ => h2 j (by omega) (by omega)) (h1 69 (by omega) (by omega) (by omega) (by omega))) (zlev_0 hs h0)
  refine ⟨J, LJ, zMF_t (J := K3) (LJ := L) ⟨h1, fun j hj => h2 j (by omega) (by omega), fun _ _ => rfl, fun _ _ => rfl, h6⟩ (zMF_55 i1 (fun j hj => i2 j (by omega)) i3 i4), ⟨i5, by rw [i2 18 (by omega), h2 18 (by omega) (by omega)]; exact g2, zMW_c h3 (i2 31 (by omega)) (i1 76 (by omega)), zMD_c h7 (i2 32 (by omega)) (i1 77 (by omega)), zMK_c h4 (i2 30 (by omega)) (i1 75 (by omega)), ?_, ?_, ?_, by omega⟩, i6, i7⟩
  · show (zdrop s w c).1.length + 1 ≤ _
    omega
  · show a + zcn (zdrop s w c).2 + ((zdrop s w c).1.length + 1) ≤ _
    omega
  · show (if -tk.1 = 0 then 1 else 0) + zz (zdrop s w c).1 + 1 = _
    rw [if_neg (zwvw_s hs h0).2, z2]
    omega
/-- .. with the test of this depth set -/
theorem zM_fint (X : ZX) (d m ce sl : Nat) (I : Nat → Nat → Int32) (L : Nat → Nat → Int64) (t u r q : Nat) {F : Nat → Int} {N a B : Nat} (hN4 : N ≤ 400) {tk : zTk} {w : List Int} {ts : List Bool} {c : List Int} (h : zMG F N a B tk w ts c I L) {s : Nat} (hs : zlev tk.1 = s) (h0 : s ≠ 0) {K2 : Nat → Nat → Int32} (b : Bool) (v : Int32) (hv : v = (if b = true then Int32.ofInt 1 else Int32.ofInt 0)) (h1 : ∀ x, x ≠ 55 → x ≠ 75 → x ≠ 76 → K2 x = I x) (h2 : ∀ j, j ≠ 30 → j ≠ 31 → K2 55 j = I 55 j) (h3 : zMW (-tk.1 :: (zdrop s w c).1) K2) (h4 : zMK a (zdrop s w c).2 K2) (h5 : zcn (zdrop s w c).2 + (zdrop s w c).1.length = zcn c + w.length) (h6 : ∀ j, (j < a ∨ B + 810 ≤ j) → K2 75 j = I 75 j) : ∃ (J : Nat → Nat → Int32) (LJ : Nat → Nat → Int64), zMF a (B + 810) I J L LJ ∧ zMG F N a B (zlx F N tk.2.2.1) (-tk.1 :: (zdrop s w c).1) (b :: ts.tail) (zdrop s w c).2 J LJ ∧ tk.2.1 + 1 ≤ (zlx F N tk.2.2.1).2.1 ∧ z_in (K2 55 32) 9 = true ∧ z_pu (z_run X z_cf z_ff (d + 6)) 184 [.ref 55] (118, z_sd m, ce, sl, (z_up K2 77 (K2 55 32).toNatClampNeg v), L, z_rr t u r q (z_gg m) (z_sf m)) = some (.inl none, (118, z_sd m, ce, sl, J, LJ, z_rr t u r q (z_gg m) (z_sf m))) := by
  obtain ⟨g1, g2, g3, g4, g5, g6, g7, g8, g9⟩ := h
  have hlen : ts.tail.length = ts.length - 1 := List.length_tail
  have e32 : (K2 55 32).toInt = ts.length := by rw [h2 32 (by omega) (by omega)]; exact g4.1
  have n32 : (K2 55 32).toNatClampNeg = ts.length := by rw [y_tn, e32]; rfl
  have f77 : ∀ x, x ≠ 77 → (z_up K2 77 (K2 55 32).toNatClampNeg v) x = K2 x := fun x hx => z_up_r _ _ _ _ _ hx
  have D : zMD (b :: ts.tail) (z_up K2 77 (K2 55 32).toNatClampNeg v) := by
    refine ⟨?_, ?_, ?_⟩
    · rw [f77 55 (by omega), e32]
      show _ = ((ts.tail.length + 1 : Nat) : Int)
      omega
    · rw [show ts.tail.length + 1 = (K2 55 32).toNatClampNeg by omega, z_up_s]
      exact hv
    · have ht : zTst (I 77) ts.tail := by
        have := g4.2
        cases ts with
        | nil => exact this
        | cons b' r => exact this.2
      refine zTst_u ts.tail ht (fun j hj => ?_)
      rw [z_up_j _ _ _ _ _ (by omega), h1 77 (by omega) (by omega) (by omega)]
  obtain ⟨J, LJ, q1, q2, q3, q4⟩ := zM_fin X d m ce sl I L t u r q hN4 ⟨g1, g2, g3, g4, g5, g6, g7, g8, g9⟩ hs h0 (K3 := z_up K2 77 (K2 55 32).toNatClampNeg v) (ts' := b :: ts.tail) (fun x x1 x2 x3 x4 => by rw [f77 x x4, h1 x x1 x2 x3]) (fun j j1 j2 => by rw [f77 55 (by omega), h2 j j1 j2]) (zMW_c h3 (by rw [f77 55 (by omega)]) (f77 76 (by omega))) (zMK_c h4 (by rw [f77 55 (by omega)]) (f77 75 (by omega))) h5 (fun j hj => by rw [f77 75 (by omega), h6 j hj]) D (by show ts.tail.length + 1 = _; omega)
  exact ⟨J, LJ, q1, q2, q3, y_in_t (by omega) (by omega), q4⟩
theorem zM_k111 (X : ZX) (d m ce sl : Nat) (I : Nat → Nat → Int32) (L : Nat → Nat → Int64) (t u r q : Nat) {F : Nat → Int} {N a B : Nat} (hN4 : N ≤ 400) (hB : B ≤ 1000) {tk : zTk} {w : List Int} {ts : List Bool} {c : List Int} (h : zMG F N a B tk w ts c I L) (hk : tk.1 = 111) (x1 : Int32) : ∃ (J : Nat → Nat → Int32) (LJ : Nat → Nat → Int64), zMF a (B + 810) I J L LJ ∧ zMG F N a B (zlx F N tk.2.2.1) (-tk.1 :: (zdrop 2 w c).1) (false :: ts.tail) (zdrop 2 w c).2 J LJ ∧ tk.2.1 + 1 ≤ (zlx F N tk.2.2.1).2.1 ∧ ∀ M J' LJ', z_pu (z_run X z_cf z_ff (d + 6)) 199 [.ref 55, .int (Int32.ofInt 1)] (118, z_sd m, ce, sl, J, LJ, z_rr t u r q (z_gg m) (z_sf m)) = some (.inl none, (118, z_sd m, ce, sl, J', LJ', z_rr t u r q (z_gg m) (z_sf m))) → z_loop X z_cf z_ff (z_pu (z_run X z_cf z_ff (d + 6))) 196 (M + 7) 35 [(0, .ref 55), (1, .int x1), (2, .int (Int32.ofInt 1))] [] (118, z_sd m, ce, sl, I, L, z_rr t u r q (z_gg m) (z_sf m)) = z_loop X z_cf z_ff (z_pu (z_run X z_cf z_ff (d + 6))) 196 (M) 35 [(0, .ref 55), (1, .int x1), (2, .int (Int32.ofInt 1))] [] (118, z_sd m, ce, sl, J', LJ', z_rr t u r q (z_gg m) (z_sf m)) := by
  have hl : zlev tk.1 = 2 := by rw [hk]; rfl
  obtain ⟨K1, K2, k0, k1, k2, k3, k4, k5, k6, k7, k8⟩ := zM_dw X d m ce sl I L t u r q hN4 hB h hl (by omega) (Int32.ofInt 2) (Int32.ofInt 4) rfl (by rw [hk]; rfl)
  obtain ⟨J, LJ, q1, q2, q3, q5, q4⟩ := zM_fint X d m ce sl I L t u r q hN4 h hl (by omega) false (Int32.ofInt 0) rfl k1 k2 k3 k4 k5 k6
  obtain ⟨y, y1, y2⟩ := zr_known X (d + 2) m ce sl I L t u r q h.1.1 h.1.2.1
  have hy : y = Int32.ofInt 6 := y_eqi (by rw [y1]; exact zkw_6.mpr hk)
  refine ⟨J, LJ, q1, q2, q3, fun M J' LJ' hc => ?_⟩
  rw [show M + 7 = M + 1 + 1 + 1 + 1 + 1 + 1 + 1 by omega, zb_M_expression_35, if_neg (by decide), zM_isg X (d + 3) m ce sl I L t u r q h.2.1, z_bi_v, zb_M_expression_43, if_neg (by decide), y2, z_bi_v, zb_M_expression_50, if_pos hy, if_pos hy, k7, z_b0_v, zb_M_expression_78, if_pos hy, k8, z_b0_v, zb_M_expression_93, q5, z_gd_t, z_b1_0, z_gd_t, q4, z_b0_v, zb_M_expression_107, hc, z_b0_v, zb_M_expression_112]
theorem zM_k112 (X : ZX) (d m ce sl : Nat) (I : Nat → Nat → Int32) (L : Nat → Nat → Int64) (t u r q : Nat) {F : Nat → Int} {N a B : Nat} (hN4 : N ≤ 400) (hB : B ≤ 1000) {tk : zTk} {w : List Int} {ts : List Bool} {c : List Int} (h : zMG F N a B tk w ts c I L) (hk : tk.1 = 112) (x1 : Int32) : ∃ (J : Nat → Nat → Int32) (LJ : Nat → Nat → Int64), zMF a (B + 810) I J L LJ ∧ zMG F N a B (zlx F N tk.2.2.1) (-tk.1 :: (zdrop 1 w c).1) (false :: ts.tail) (zdrop 1 w c).2 J LJ ∧ tk.2.1 + 1 ≤ (zlx F N tk.2.2.1).2.1 ∧ ∀ M J' LJ', z_pu (z_run X z_cf z_ff (d + 6)) 199 [.ref 55, .int (Int32.ofInt 1)] (118, z_sd m, ce, sl, J, LJ, z_rr t u r q (z_gg m) (z_sf m)) = some (.inl none, (118, z_sd m, ce, sl, J', LJ', z_rr t u r q (z_gg m) (z_sf m))) → z_loop X z_cf z_ff (z_pu (z_run X z_cf z_ff (d + 6))) 196 (M + 7) 35 [(0, .ref 55), (1, .int x1), (2, .int (Int32.ofInt 1))] [] (118, z_sd m, ce, sl, I, L, z_rr t u r q (z_gg m) (z_sf m)) = z_loop X z_cf z_ff (z_pu (z_run X z_cf z_ff (d + 6))) 196 (M) 35 [(0, .ref 55), (1, .int x1), (2, .int (Int32.ofInt 1))] [] (118, z_sd m, ce, sl, J', LJ', z_rr t u r q (z_gg m) (z_sf m)) := by
  have hl : zlev tk.1 = 1 := by rw [hk]; rfl
  obtain ⟨K1, K2, k0, k1, k2, k3, k4, k5, k6, k7, k8⟩ := zM_dw X d m ce sl I L t u r q hN4 hB h hl (by omega) (Int32.ofInt 1) (Int32.ofInt 5) rfl (by rw [hk]; rfl)
  obtain ⟨J, LJ, q1, q2, q3, q5, q4⟩ := zM_fint X d m ce sl I L t u r q hN4 h hl (by omega) false (Int32.ofInt 0) rfl k1 k2 k3 k4 k5 k6
  obtain ⟨y, y1, y2⟩ := zr_known X (d + 2) m ce sl I L t u r q h.1.1 h.1.2.1
  have hy : y = Int32.ofInt 7 := y_eqi (by rw [y1]; exact zkw_7.mpr hk)
  have hy6 : ¬ y = Int32.ofInt 6 := by rw [hy]; decide
  refine ⟨J, LJ, q1, q2, q3, fun M J' LJ' hc => ?_⟩
  rw [show M + 7 = M + 1 + 1 + 1 + 1 + 1 + 1 + 1 by omega, zb_M_expression_35, if_neg (by decide), zM_isg X (d + 3) m ce sl I L t u r q h.2.1, z_bi_v, zb_M_expression_43, if_neg (by decide), y2, z_bi_v, zb_M_expression_50, if_neg hy6, if_pos hy, if_neg hy6, k7, z_b0_v, zb_M_expression_78, if_neg hy6, k8, z_b0_v, zb_M_expression_93, q5, z_gd_t, z_b1_0, z_gd_t, q4, z_b0_v, zb_M_expression_107, hc, z_b0_v, zb_M_expression_112]
theorem zM_k60 (X : ZX) (d m ce sl : Nat) (I : Nat → Nat → Int32) (L : Nat → Nat → Int64) (t u r q : Nat) {F : Nat → Int} {N a B : Nat} (hN4 : N ≤ 400) (hB : B ≤ 1000) {tk : zTk} {w : List Int} {ts : List Bool} {c : List Int} (h : zMG F N a B tk w ts c I L) (hk : tk.1 = 60) (ht : ts.headD false = false) (x1 : Int32) : ∃ (J : Nat → Nat → Int32) (LJ : Nat → Nat → Int64), zMF a (B + 810) I J L LJ ∧ zMG F N a B (zlx F N tk.2.2.1) (-tk.1 :: (zdrop 4 w c).1) (true :: ts.tail) (zdrop 4 w c).2 J LJ ∧ tk.2.1 + 1 ≤ (zlx F N tk.2.2.1).2.1 ∧ ∀ M J' LJ', z_pu (z_run X z_cf z_ff (d + 6)) 199 [.ref 55, .int (Int32.ofInt 0)] (118, z_sd m, ce, sl, J, LJ, z_rr t u r q (z_gg m) (z_sf m)) = some (.inl none, (118, z_sd m, ce, sl, J', LJ', z_rr t u r q (z_gg m) (z_sf m))) → z_loop X z_cf z_ff (z_pu (z_run X z_cf z_ff (d + 6))) 196 (M + 9) 35 [(0, .ref 55), (1, .int x1), (2, .int (Int32.ofInt 1))] [] (118, z_sd m, ce, sl, I, L, z_rr t u r q (z_gg m) (z_sf m)) = z_loop X z_cf z_ff (z_pu (z_run X z_cf z_ff (d + 6))) 196 (M) 35 [(0, .ref 55), (1, .int x1), (2, .int (Int32.ofInt 1))] [] (118, z_sd m, ce, sl, J', LJ', z_rr t u r q (z_gg m) (z_sf m)) := by
  have hl : zlev tk.1 = 4 := by rw [hk]; rfl
  obtain ⟨K1, K2, k0, k1, k2, k3, k4, k5, k6, k7, k8⟩ := zM_dw X d m ce sl I L t u r q hN4 hB h hl (by omega) (Int32.ofInt 4) (Int32.ofInt 6) rfl (by rw [hk]; rfl)
  obtain ⟨J, LJ, q1, q2, q3, q5, q4⟩ := zM_fint X d m ce sl I L t u r q hN4 h hl (by omega) true (Int32.ofInt 1) rfl k1 k2 k3 k4 k5 k6
  obtain ⟨y, y1, y2⟩ := zr_known X (d + 2) m ce sl I L t u r q h.1.1 h.1.2.1
  have ny6 : ¬ y = Int32.ofInt 6 := y_lit (by rw [y1]; exact fun e => absurd (zkw_6.mp e) (by omega)) (by omega) (by omega)
  have ny7 : ¬ y = Int32.ofInt 7 := y_lit (by rw [y1]; exact fun e => absurd (zkw_7.mp e) (by omega)) (by omega) (by omega)
  have s60 : ¬ z_v_M_isSign I (Int32.ofInt 60) = 0 := fun h0 => (zM_sign h.1.1 h.1.2.1 (v := 60) (by unfold zsgn; omega)).mp h0 hk
  have s61 : z_v_M_isSign I (Int32.ofInt 61) = 0 := (zM_sign h.1.1 h.1.2.1 (v := 61) (by unfold zsgn; omega)).mpr (by omega)
  have s43 : z_v_M_isSign I (Int32.ofInt 43) = 0 := (zM_sign h.1.1 h.1.2.1 (v := 43) (by unfold zsgn; omega)).mpr (by omega)
  have s45 : z_v_M_isSign I (Int32.ofInt 45) = 0 := (zM_sign h.1.1 h.1.2.1 (v := 45) (by unfold zsgn; omega)).mpr (by omega)
  have s42 : z_v_M_isSign I (Int32.ofInt 42) = 0 := (zM_sign h.1.1 h.1.2.1 (v := 42) (by unfold zsgn; omega)).mpr (by omega)
  have s47 : z_v_M_isSign I (Int32.ofInt 47) = 0 := (zM_sign h.1.1 h.1.2.1 (v := 47) (by unfold zsgn; omega)).mpr (by omega)
  have s41 : z_v_M_isSign I (Int32.ofInt 41) = 0 := (zM_sign h.1.1 h.1.2.1 (v := 41) (by unfold zsgn; omega)).mpr (by omega)
  have e1 : z_v_M_isSign K1 (Int32.ofInt 60) = z_v_M_isSign I (Int32.ofInt 60) := by unfold z_v_M_isSign; rw [k0 22 (by omega) (by omega), k0 26 (by omega) (by omega)]
  have g32 : z_in (I 55 32) 9 = true := by rw [← k2 32 (by omega) (by omega)]; exact q5
  have tst : I 77 (I 55 32).toNatClampNeg = 0 := (zM_tst h.2.2.2.1 (fun e => by have h8 := h.2.2.2.2.2.2.2.1; rw [e] at h8; exact absurd h8 (by show ¬ _ + 1 = 0; omega))).mpr ht
  refine ⟨J, LJ, q1, q2, q3, fun M J' LJ' hc => ?_⟩
  rw [show M + 9 = M + 1 + 1 + 1 + 1 + 1 + 1 + 1 + 1 + 1 by omega, zb_M_expression_35, if_neg (by decide), zM_isg X (d + 3) m ce sl I L t u r q h.2.1, z_bi_v, zb_M_expression_43, if_neg (by decide), y2, z_bi_v, zb_M_expression_50, if_neg ny6, if_neg ny7, zk_M_isSign_0, z_bi_v, zb_M_expression_121, if_neg s60, g32, z_gd_t, if_pos tst, k7, z_b0_v, zb_M_expression_150, zk_M_isSign_0, e1, z_bi_v, zb_M_expression_157, if_neg s60, k8, z_b0_v, zb_M_expression_170, q5, z_gd_t, z_b1_1, z_gd_t, q4, z_b0_v, zb_M_expression_184, hc, z_b0_v, zb_M_expression_189]
theorem zM_k61 (X : ZX) (d m ce sl : Nat) (I : Nat → Nat → Int32) (L : Nat → Nat → Int64) (t u r q : Nat) {F : Nat → Int} {N a B : Nat} (hN4 : N ≤ 400) (hB : B ≤ 1000) {tk : zTk} {w : List Int} {ts : List Bool} {c : List Int} (h : zMG F N a B tk w ts c I L) (hk : tk.1 = 61) (ht : ts.headD false = false) (x1 : Int32) : ∃ (J : Nat → Nat → Int32) (LJ : Nat → Nat → Int64), zMF a (B + 810) I J L LJ ∧ zMG F N a B (zlx F N tk.2.2.1) (-tk.1 :: (zdrop 4 w c).1) (true :: ts.tail) (zdrop 4 w c).2 J LJ ∧ tk.2.1 + 1 ≤ (zlx F N tk.2.2.1).2.1 ∧ ∀ M J' LJ', z_pu (z_run X z_cf z_ff (d + 6)) 199 [.ref 55, .int (Int32.ofInt 0)] (118, z_sd m, ce, sl, J, LJ, z_rr t u r q (z_gg m) (z_sf m)) = some (.inl none, (118, z_sd m, ce, sl, J', LJ', z_rr t u r q (z_gg m) (z_sf m))) → z_loop X z_cf z_ff (z_pu (z_run X z_cf z_ff (d + 6))) 196 (M + 10) 35 [(0, .ref 55), (1, .int x1), (2, .int (Int32.ofInt 1))] [] (118, z_sd m, ce, sl, I, L, z_rr t u r q (z_gg m) (z_sf m)) = z_loop X z_cf z_ff (z_pu (z_run X z_cf z_ff (d + 6))) 196 (M) 35 [(0, .ref 55), (1, .int x1), (2, .int (Int32.ofInt 1))] [] (118, z_sd m, ce, sl, J', LJ', z_rr t u r q (z_gg m) (z_sf m)) := by
  have hl : zlev tk.1 = 4 := by rw [hk]; rfl
  obtain ⟨K1, K2, k0, k1, k2, k3, k4, k5, k6, k7, k8⟩ := zM_dw X d m ce sl I L t u r q hN4 hB h hl (by omega) (Int32.ofInt 4) (Int32.ofInt 7) rfl (by rw [hk]; rfl)
  obtain ⟨J, LJ, q1, q2, q3, q5, q4⟩ := zM_fint X d m ce sl I L t u r q hN4 h hl (by omega) true (Int32.ofInt 1) rfl k1 k2 k3 k4 k5 k6
  obtain ⟨y, y1, y2⟩ := zr_known X (d + 2) m ce sl I L t u r q h.1.1 h.1.2.1
  have ny6 : ¬ y = Int32.ofInt 6 := y_lit (by rw [y1]; exact fun e => absurd (zkw_6.mp e) (by omega)) (by omega) (by omega)
  have ny7 : ¬ y = Int32.ofInt 7 := y_lit (by rw [y1]; exact fun e => absurd (zkw_7.mp e) (by omega)) (by omega) (by omega)
  have s60 : z_v_M_isSign I (Int32.ofInt 60) = 0 := (zM_sign h.1.1 h.1.2.1 (v := 60) (by unfold zsgn; omega)).mpr (by omega)
  have s61 : ¬ z_v_M_isSign I (Int32.ofInt 61) = 0 := fun h0 => (zM_sign h.1.1 h.1.2.1 (v := 61) (by unfold zsgn; omega)).mp h0 hk
  have s43 : z_v_M_isSign I (Int32.ofInt 43) = 0 := (zM_sign h.1.1 h.1.2.1 (v := 43) (by unfold zsgn; omega)).mpr (by omega)
  have s45 : z_v_M_isSign I (Int32.ofInt 45) = 0 := (zM_sign h.1.1 h.1.2.1 (v := 45) (by unfold zsgn; omega)).mpr (by omega)
  have s42 : z_v_M_isSign I (Int32.ofInt 42) = 0 := (zM_sign h.1.1 h.1.2.1 (v := 42) (by unfold zsgn; omega)).mpr (by omega)
  have s47 : z_v_M_isSign I (Int32.ofInt 47) = 0 := (zM_sign h.1.1 h.1.2.1 (v := 47) (by unfold zsgn; omega)).mpr (by omega)
  have s41 : z_v_M_isSign I (Int32.ofInt 41) = 0 := (zM_sign h.1.1 h.1.2.1 (v := 41) (by unfold zsgn; omega)).mpr (by omega)
  have e1 : z_v_M_isSign K1 (Int32.ofInt 60) = z_v_M_isSign I (Int32.ofInt 60) := by unfold z_v_M_isSign; rw [k0 22 (by omega) (by omega), k0 26 (by omega) (by omega)]
  have g32 : z_in (I 55 32) 9 = true := by rw [← k2 32 (by omega) (by omega)]; exact q5
  have tst : I 77 (I 55 32).toNatClampNeg = 0 := (zM_tst h.2.2.2.1 (fun e => by have h8 := h.2.2.2.2.2.2.2.1; rw [e] at h8; exact absurd h8 (by show ¬ _ + 1 = 0; omega))).mpr ht
  refine ⟨J, LJ, q1, q2, q3, fun M J' LJ' hc => ?_⟩
  rw [show M + 10 = M + 1 + 1 + 1 + 1 + 1 + 1 + 1 + 1 + 1 + 1 by omega, zb_M_expression_35, if_neg (by decide), zM_isg X (d + 3) m ce sl I L t u r q h.2.1, z_bi_v, zb_M_expression_43, if_neg (by decide), y2, z_bi_v, zb_M_expression_50, if_neg ny6, if_neg ny7, zk_M_isSign_0, z_bi_v, zb_M_expression_121, if_pos s60, zk_M_isSign_0, z_bi_v, zb_M_expression_130, if_neg s61, g32, z_gd_t, if_pos tst, k7, z_b0_v, zb_M_expression_150, zk_M_isSign_0, e1, z_bi_v, zb_M_expression_157, if_pos s60, k8, z_b0_v, zb_M_expression_170, q5, z_gd_t, z_b1_1, z_gd_t, q4, z_b0_v, zb_M_expression_184, hc, z_b0_v, zb_M_expression_189]
theorem zM_k43 (X : ZX) (d m ce sl : Nat) (I : Nat → Nat → Int32) (L : Nat → Nat → Int64) (t u r q : Nat) {F : Nat → Int} {N a B : Nat} (hN4 : N ≤ 400) (hB : B ≤ 1000) {tk : zTk} {w : List Int} {ts : List Bool} {c : List Int} (h : zMG F N a B tk w ts c I L) (hk : tk.1 = 43) (x1 : Int32) : ∃ (J : Nat → Nat → Int32) (LJ : Nat → Nat → Int64), zMF a (B + 810) I J L LJ ∧ zMG F N a B (zlx F N tk.2.2.1) (-tk.1 :: (zdrop 5 w c).1) (ts) (zdrop 5 w c).2 J LJ ∧ tk.2.1 + 1 ≤ (zlx F N tk.2.2.1).2.1 ∧ ∀ M J' LJ', z_pu (z_run X z_cf z_ff (d + 6)) 199 [.ref 55, .int (Int32.ofInt 0)] (118, z_sd m, ce, sl, J, LJ, z_rr t u r q (z_gg m) (z_sf m)) = some (.inl none, (118, z_sd m, ce, sl, J', LJ', z_rr t u r q (z_gg m) (z_sf m))) → z_loop X z_cf z_ff (z_pu (z_run X z_cf z_ff (d + 6))) 196 (M + 11) 35 [(0, .ref 55), (1, .int x1), (2, .int (Int32.ofInt 1))] [] (118, z_sd m, ce, sl, I, L, z_rr t u r q (z_gg m) (z_sf m)) = z_loop X z_cf z_ff (z_pu (z_run X z_cf z_ff (d + 6))) 196 (M) 35 [(0, .ref 55), (1, .int x1), (2, .int (Int32.ofInt 1))] [] (118, z_sd m, ce, sl, J', LJ', z_rr t u r q (z_gg m) (z_sf m)) := by
  have hl : zlev tk.1 = 5 := by rw [hk]; rfl
  obtain ⟨K1, K2, k0, k1, k2, k3, k4, k5, k6, k7, k8⟩ := zM_dw X d m ce sl I L t u r q hN4 hB h hl (by omega) (Int32.ofInt 5) (Int32.ofInt 8) rfl (by rw [hk]; rfl)
  obtain ⟨J, LJ, q1, q2, q3, q4⟩ := zM_fin X d m ce sl I L t u r q hN4 h hl (by omega) (K3 := K2) (ts' := ts) (fun x x1 x2 x3 _ => k1 x x1 x2 x3) k2 k3 k4 k5 k6 (zMD_c h.2.2.2.1 (k2 32 (by omega) (by omega)) (k1 77 (by omega) (by omega) (by omega))) rfl
  obtain ⟨y, y1, y2⟩ := zr_known X (d + 2) m ce sl I L t u r q h.1.1 h.1.2.1
  have ny6 : ¬ y = Int32.ofInt 6 := y_lit (by rw [y1]; exact fun e => absurd (zkw_6.mp e) (by omega)) (by omega) (by omega)
  have ny7 : ¬ y = Int32.ofInt 7 := y_lit (by rw [y1]; exact fun e => absurd (zkw_7.mp e) (by omega)) (by omega) (by omega)
  have s60 : z_v_M_isSign I (Int32.ofInt 60) = 0 := (zM_sign h.1.1 h.1.2.1 (v := 60) (by unfold zsgn; omega)).mpr (by omega)
  have s61 : z_v_M_isSign I (Int32.ofInt 61) = 0 := (zM_sign h.1.1 h.1.2.1 (v := 61) (by unfold zsgn; omega)).mpr (by omega)
  have s43 : ¬ z_v_M_isSign I (Int32.ofInt 43) = 0 := fun h0 => (zM_sign h.1.1 h.1.2.1 (v := 43) (by unfold zsgn; omega)).mp h0 hk
  have s45 : z_v_M_isSign I (Int32.ofInt 45) = 0 := (zM_sign h.1.1 h.1.2.1 (v := 45) (by unfold zsgn; omega)).mpr (by omega)
  have s42 : z_v_M_isSign I (Int32.ofInt 42) = 0 := (zM_sign h.1.1 h.1.2.1 (v := 42) (by unfold zsgn; omega)).mpr (by omega)
  have s47 : z_v_M_isSign I (Int32.ofInt 47) = 0 := (zM_sign h.1.1 h.1.2.1 (v := 47) (by unfold zsgn; omega)).mpr (by omega)
  have s41 : z_v_M_isSign I (Int32.ofInt 41) = 0 := (zM_sign h.1.1 h.1.2.1 (v := 41) (by unfold zsgn; omega)).mpr (by omega)
  have e1 : z_v_M_isSign K1 (Int32.ofInt 43) = z_v_M_isSign I (Int32.ofInt 43) := by unfold z_v_M_isSign; rw [k0 22 (by omega) (by omega), k0 26 (by omega) (by omega)]
  refine ⟨J, LJ, q1, q2, q3, fun M J' LJ' hc => ?_⟩
  rw [show M + 11 = M + 1 + 1 + 1 + 1 + 1 + 1 + 1 + 1 + 1 + 1 + 1 by omega, zb_M_expression_35, if_neg (by decide), zM_isg X (d + 3) m ce sl I L t u r q h.2.1, z_bi_v, zb_M_expression_43, if_neg (by decide), y2, z_bi_v, zb_M_expression_50, if_neg ny6, if_neg ny7, zk_M_isSign_0, z_bi_v, zb_M_expression_121, if_pos s60, zk_M_isSign_0, z_bi_v, zb_M_expression_130, if_pos s61, zk_M_isSign_0, z_bi_v, zb_M_expression_198, if_neg s43, k7, z_b0_v, zb_M_expression_215, zk_M_isSign_0, e1, z_bi_v, zb_M_expression_222, if_neg s43, k8, z_b0_v, zb_M_expression_235, q4, z_b0_v, zb_M_expression_239, hc, z_b0_v, zb_M_expression_244]
theorem zM_k45 (X : ZX) (d m ce sl : Nat) (I : Nat → Nat → Int32) (L : Nat → Nat → Int64) (t u r q : Nat) {F : Nat → Int} {N a B : Nat} (hN4 : N ≤ 400) (hB : B ≤ 1000) {tk : zTk} {w : List Int} {ts : List Bool} {c : List Int} (h : zMG F N a B tk w ts c I L) (hk : tk.1 = 45) (x1 : Int32) : ∃ (J : Nat → Nat → Int32) (LJ : Nat → Nat → Int64), zMF a (B + 810) I J L LJ ∧ zMG F N a B (zlx F N tk.2.2.1) (-tk.1 :: (zdrop 5 w c).1) (ts) (zdrop 5 w c).2 J LJ ∧ tk.2.1 + 1 ≤ (zlx F N tk.2.2.1).2.1 ∧ ∀ M J' LJ', z_pu (z_run X z_cf z_ff (d + 6)) 199 [.ref 55, .int (Int32.ofInt 0)] (118, z_sd m, ce, sl, J, LJ, z_rr t u r q (z_gg m) (z_sf m)) = some (.inl none, (118, z_sd m, ce, sl, J', LJ', z_rr t u r q (z_gg m) (z_sf m))) → z_loop X z_cf z_ff (z_pu (z_run X z_cf z_ff (d + 6))) 196 (M + 12) 35 [(0, .ref 55), (1, .int x1), (2, .int (Int32.ofInt 1))] [] (118, z_sd m, ce, sl, I, L, z_rr t u r q (z_gg m) (z_sf m)) = z_loop X z_cf z_ff (z_pu (z_run X z_cf z_ff (d + 6))) 196 (M) 35 [(0, .ref 55), (1, .int x1), (2, .int (Int32.ofInt 1))] [] (118, z_sd m, ce, sl, J', LJ', z_rr t u r q (z_gg m) (z_sf m)) := by
  have hl : zlev tk.1 = 5 := by rw [hk]; rfl
  obtain ⟨K1, K2, k0, k1, k2, k3, k4, k5, k6, k7, k8⟩ := zM_dw X d m ce sl I L t u r q hN4 hB h hl (by omega) (Int32.ofInt 5) (Int32.ofInt 9) rfl (by rw [hk]; rfl)
  obtain ⟨J, LJ, q1, q2, q3, q4⟩ := zM_fin X d m ce sl I L t u r q hN4 h hl (by omega) (K3 := K2) (ts' := ts) (fun x x1 x2 x3 _ => k1 x x1 x2 x3) k2 k3 k4 k5 k6 (zMD_c h.2.2.2.1 (k2 32 (by omega) (by omega)) (k1 77 (by omega) (by omega) (by omega))) rfl
  obtain ⟨y, y1, y2⟩ := zr_known X (d + 2) m ce sl I L t u r q h.1.1 h.1.2.1
  have ny6 : ¬ y = Int32.ofInt 6 := y_lit (by rw [y1]; exact fun e => absurd (zkw_6.mp e) (by omega)) (by omega) (by omega)
  have ny7 : ¬ y = Int32.ofInt 7 := y_lit (by rw [y1]; exact fun e => absurd (zkw_7.mp e) (by omega)) (by omega) (by omega)
  have s60 : z_v_M_isSign I (Int32.ofInt 60) = 0 := (zM_sign h.1.1 h.1.2.1 (v := 60) (by unfold zsgn; omega)).mpr (by omega)
  have s61 : z_v_M_isSign I (Int32.ofInt 61) = 0 := (zM_sign h.1.1 h.1.2.1 (v := 61) (by unfold zsgn; omega)).mpr (by omega)
  have s43 : z_v_M_isSign I (Int32.ofInt 43) = 0 := (zM_sign h.1.1 h.1.2.1 (v := 43) (by unfold zsgn; omega)).mpr (by omega)
  have s45 : ¬ z_v_M_isSign I (Int32.ofInt 45) = 0 := fun h0 => (zM_sign h.1.1 h.1.2.1 (v := 45) (by unfold zsgn; omega)).mp h0 hk
  have s42 : z_v_M_isSign I (Int32.ofInt 42) = 0 := (zM_sign h.1.1 h.1.2.1 (v := 42) (by unfold zsgn; omega)).mpr (by omega)
  have s47 : z_v_M_isSign I (Int32.ofInt 47) = 0 := (zM_sign h.1.1 h.1.2.1 (v := 47) (by unfold zsgn; omega)).mpr (by omega)
  have s41 : z_v_M_isSign I (Int32.ofInt 41) = 0 := (zM_sign h.1.1 h.1.2.1 (v := 41) (by unfold zsgn; omega)).mpr (by omega)
  have e1 : z_v_M_isSign K1 (Int32.ofInt 43) = z_v_M_isSign I (Int32.ofInt 43) := by unfold z_v_M_isSign; rw [k0 22 (by omega) (by omega), k0 26 (by omega) (by omega)]
  refine ⟨J, LJ, q1, q2, q3, fun M J' LJ' hc => ?_⟩
  rw [show M + 12 = M + 1 + 1 + 1 + 1 + 1 + 1 + 1 + 1 + 1 + 1 + 1 + 1 by omega, zb_M_expression_35, if_neg (by decide), zM_isg X (d + 3) m ce sl I L t u r q h.2.1, z_bi_v, zb_M_expression_43, if_neg (by decide), y2, z_bi_v, zb_M_expression_50, if_neg ny6, if_neg ny7, zk_M_isSign_0, z_bi_v, zb_M_expression_121, if_pos s60, zk_M_isSign_0, z_bi_v, zb_M_expression_130, if_pos s61, zk_M_isSign_0, z_bi_v, zb_M_expression_198, if_pos s43, zk_M_isSign_0, z_bi_v, zb_M_expression_207, if_neg s45, k7, z_b0_v, zb_M_expression_215, zk_M_isSign_0, e1, z_bi_v, zb_M_expression_222, if_pos s43, k8, z_b0_v, zb_M_expression_235, q4, z_b0_v, zb_M_expression_239, hc, z_b0_v, zb_M_expression_244]
theorem zM_k42 (X : ZX) (d m ce sl : Nat) (I : Nat → Nat → Int32) (L : Nat → Nat → Int64) (t u r q : Nat) {F : Nat → Int} {N a B : Nat} (hN4 : N ≤ 400) (hB : B ≤ 1000) {tk : zTk} {w : List Int} {ts : List Bool} {c : List Int} (h : zMG F N a B tk w ts c I L) (hk : tk.1 = 42) (x1 : Int32) : ∃ (J : Nat → Nat → Int32) (LJ : Nat → Nat → Int64), zMF a (B + 810) I J L LJ ∧ zMG F N a B (zlx F N tk.2.2.1) (-tk.1 :: (zdrop 6 w c).1) (ts) (zdrop 6 w c).2 J LJ ∧ tk.2.1 + 1 ≤ (zlx F N tk.2.2.1).2.1 ∧ ∀ M J' LJ', z_pu (z_run X z_cf z_ff (d + 6)) 199 [.ref 55, .int (Int32.ofInt 0)] (118, z_sd m, ce, sl, J, LJ, z_rr t u r q (z_gg m) (z_sf m)) = some (.inl none, (118, z_sd m, ce, sl, J', LJ', z_rr t u r q (z_gg m) (z_sf m))) → z_loop X z_cf z_ff (z_pu (z_run X z_cf z_ff (d + 6))) 196 (M + 13) 35 [(0, .ref 55), (1, .int x1), (2, .int (Int32.ofInt 1))] [] (118, z_sd m, ce, sl, I, L, z_rr t u r q (z_gg m) (z_sf m)) = z_loop X z_cf z_ff (z_pu (z_run X z_cf z_ff (d + 6))) 196 (M) 35 [(0, .ref 55), (1, .int x1), (2, .int (Int32.ofInt 1))] [] (118, z_sd m, ce, sl, J', LJ', z_rr t u r q (z_gg m) (z_sf m)) := by
  have hl : zlev tk.1 = 6 := by rw [hk]; rfl
  obtain ⟨K1, K2, k0, k1, k2, k3, k4, k5, k6, k7, k8⟩ := zM_dw X d m ce sl I L t u r q hN4 hB h hl (by omega) (Int32.ofInt 6) (Int32.ofInt 10) rfl (by rw [hk]; rfl)
  obtain ⟨J, LJ, q1, q2, q3, q4⟩ := zM_fin X d m ce sl I L t u r q hN4 h hl (by omega) (K3 := K2) (ts' := ts) (fun x x1 x2 x3 _ => k1 x x1 x2 x3) k2 k3 k4 k5 k6 (zMD_c h.2.2.2.1 (k2 32 (by omega) (by omega)) (k1 77 (by omega) (by omega) (by omega))) rfl
  obtain ⟨y, y1, y2⟩ := zr_known X (d + 2) m ce sl I L t u r q h.1.1 h.1.2.1
  have ny6 : ¬ y = Int32.ofInt 6 := y_lit (by rw [y1]; exact fun e => absurd (zkw_6.mp e) (by omega)) (by omega) (by omega)
  have ny7 : ¬ y = Int32.ofInt 7 := y_lit (by rw [y1]; exact fun e => absurd (zkw_7.mp e) (by omega)) (by omega) (by omega)
  have s60 : z_v_M_isSign I (Int32.ofInt 60) = 0 := (zM_sign h.1.1 h.1.2.1 (v := 60) (by unfold zsgn; omega)).mpr (by omega)
  have s61 : z_v_M_isSign I (Int32.ofInt 61) = 0 := (zM_sign h.1.1 h.1.2.1 (v := 61) (by unfold zsgn; omega)).mpr (by omega)
  have s43 : z_v_M_isSign I (Int32.ofInt 43) = 0 := (zM_sign h.1.1 h.1.2.1 (v := 43) (by unfold zsgn; omega)).mpr (by omega)
  have s45 : z_v_M_isSign I (Int32.ofInt 45) = 0 := (zM_sign h.1.1 h.1.2.1 (v := 45) (by unfold zsgn; omega)).mpr (by omega)
  have s42 : ¬ z_v_M_isSign I (Int32.ofInt 42) = 0 := fun h0 => (zM_sign h.1.1 h.1.2.1 (v := 42) (by unfold zsgn; omega)).mp h0 hk
  have s47 : z_v_M_isSign I (Int32.ofInt 47) = 0 := (zM_sign h.1.1 h.1.2.1 (v := 47) (by unfold zsgn; omega)).mpr (by omega)
  have s41 : z_v_M_isSign I (Int32.ofInt 41) = 0 := (zM_sign h.1.1 h.1.2.1 (v := 41) (by unfold zsgn; omega)).mpr (by omega)
  have e1 : z_v_M_isSign K1 (Int32.ofInt 42) = z_v_M_isSign I (Int32.ofInt 42) := by unfold z_v_M_isSign; rw [k0 22 (by omega) (by omega), k0 26 (by omega) (by omega)]
  refine ⟨J, LJ, q1, q2, q3, fun M J' LJ' hc => ?_⟩
  rw [show M + 13 = M + 1 + 1 + 1 + 1 + 1 + 1 + 1 + 1 + 1 + 1 + 1 + 1 + 1 by omega, zb_M_expression_35, if_neg (by decide), zM_isg X (d + 3) m ce sl I L t u r q h.2.1, z_bi_v, zb_M_expression_43, if_neg (by decide), y2, z_bi_v, zb_M_expression_50, if_neg ny6, if_neg ny7, zk_M_isSign_0, z_bi_v, zb_M_expression_121, if_pos s60, zk_M_isSign_0, z_bi_v, zb_M_expression_130, if_pos s61, zk_M_isSign_0, z_bi_v, zb_M_expression_198, if_pos s43, zk_M_isSign_0, z_bi_v, zb_M_expression_207, if_pos s45, zk_M_isSign_0, z_bi_v, zb_M_expression_253, if_neg s42, k7, z_b0_v, zb_M_expression_271, zk_M_isSign_0, e1, z_bi_v, zb_M_expression_278, if_neg s42, k8, z_b0_v, zb_M_expression_291, q4, z_b0_v, zb_M_expression_295, hc, z_b0_v, zb_M_expression_300]
theorem zM_k47 (X : ZX) (d m ce sl : Nat) (I : Nat → Nat → Int32) (L : Nat → Nat → Int64) (t u r q : Nat) {F : Nat → Int} {N a B : Nat} (hN4 : N ≤ 400) (hB : B ≤ 1000) {tk : zTk} {w : List Int} {ts : List Bool} {c : List Int} (h : zMG F N a B tk w ts c I L) (hk : tk.1 = 47) (x1 : Int32) : ∃ (J : Nat → Nat → Int32) (LJ : Nat → Nat → Int64), zMF a (B + 810) I J L LJ ∧ zMG F N a B (zlx F N tk.2.2.1) (-tk.1 :: (zdrop 6 w c).1) (ts) (zdrop 6 w c).2 J LJ ∧ tk.2.1 + 1 ≤ (zlx F N tk.2.2.1).2.1 ∧ ∀ M J' LJ', z_pu (z_run X z_cf z_ff (d + 6)) 199 [.ref 55, .int (Int32.ofInt 0)] (118, z_sd m, ce, sl, J, LJ, z_rr t u r q (z_gg m) (z_sf m)) = some (.inl none, (118, z_sd m, ce, sl, J', LJ', z_rr t u r q (z_gg m) (z_sf m))) → z_loop X z_cf z_ff (z_pu (z_run X z_cf z_ff (d + 6))) 196 (M + 14) 35 [(0, .ref 55), (1, .int x1), (2, .int (Int32.ofInt 1))] [] (118, z_sd m, ce, sl, I, L, z_rr t u r q (z_gg m) (z_sf m)) = z_loop X z_cf z_ff (z_pu (z_run X z_cf z_ff (d + 6))) 196 (M) 35 [(0, .ref 55), (1, .int x1), (2, .int (Int32.ofInt 1))] [] (118, z_sd m, ce, sl, J', LJ', z_rr t u r q (z_gg m) (z_sf m)) := by
  have hl : zlev tk.1 = 6 := by rw [hk]; rfl
  obtain ⟨K1, K2, k0, k1, k2, k3, k4, k5, k6, k7, k8⟩ := zM_dw X d m ce sl I L t u r q hN4 hB h hl (by omega) (Int32.ofInt 6) (Int32.ofInt 11) rfl (by rw [hk]; rfl)
  obtain ⟨J, LJ, q1, q2, q3, q4⟩ := zM_fin X d m ce sl I L t u r q hN4 h hl (by omega) (K3 := K2) (ts' := ts) (fun x x1 x2 x3 _ => k1 x x1 x2 x3) k2 k3 k4 k5 k6 (zMD_c h.2.2.2.1 (k2 32 (by omega) (by omega)) (k1 77 (by omega) (by omega) (by omega))) rfl
  obtain ⟨y, y1, y2⟩ := zr_known X (d + 2) m ce sl I L t u r q h.1.1 h.1.2.1
  have ny6 : ¬ y = Int32.ofInt 6 := y_lit (by rw [y1]; exact fun e => absurd (zkw_6.mp e) (by omega)) (by omega) (by omega)
  have ny7 : ¬ y = Int32.ofInt 7 := y_lit (by rw [y1]; exact fun e => absurd (zkw_7.mp e) (by omega)) (by omega) (by omega)
  have s60 : z_v_M_isSign I (Int32.ofInt 60) = 0 := (zM_sign h.1.1 h.1.2.1 (v := 60) (by unfold zsgn; omega)).mpr (by omega)
  have s61 : z_v_M_isSign I (Int32.ofInt 61) = 0 := (zM_sign h.1.1 h.1.2.1 (v := 61) (by unfold zsgn; omega)).mpr (by omega)
  have s43 : z_v_M_isSign I (Int32.ofInt 43) = 0 := (zM_sign h.1.1 h.1.2.1 (v := 43) (by unfold zsgn; omega)).mpr (by omega)
  have s45 : z_v_M_isSign I (Int32.ofInt 45) = 0 := (zM_sign h.1.1 h.1.2.1 (v := 45) (by unfold zsgn; omega)).mpr (by omega)
  have s42 : z_v_M_isSign I (Int32.ofInt 42) = 0 := (zM_sign h.1.1 h.1.2.1 (v := 42) (by unfold zsgn; omega)).mpr (by omega)
  have s47 : ¬ z_v_M_isSign I (Int32.ofInt 47) = 0 := fun h0 => (zM_sign h.1.1 h.1.2.1 (v := 47) (by unfold zsgn; omega)).mp h0 hk
  have s41 : z_v_M_isSign I (Int32.ofInt 41) = 0 := (zM_sign h.1.1 h.1.2.1 (v := 41) (by unfold zsgn; omega)).mpr (by omega)
  have e1 : z_v_M_isSign K1 (Int32.ofInt 42) = z_v_M_isSign I (Int32.ofInt 42) := by unfold z_v_M_isSign; rw [k0 22 (by omega) (by omega), k0 26 (by omega) (by omega)]
  refine ⟨J, LJ, q1, q2, q3, fun M J' LJ' hc => ?_⟩
  rw [show M + 14 = M + 1 + 1 + 1 + 1 + 1 + 1 + 1 + 1 + 1 + 1 + 1 + 1 + 1 + 1 by omega, zb_M_expression_35, if_neg (by decide), zM_isg X (d + 3) m ce sl I L t u r q h.2.1, z_bi_v, zb_M_expression_43, if_neg (by decide), y2, z_bi_v, zb_M_expression_50, if_neg ny6, if_neg ny7, zk_M_isSign_0, z_bi_v, zb_M_expression_121, if_pos s60, zk_M_isSign_0, z_bi_v, zb_M_expression_130, if_pos s61, zk_M_isSign_0, z_bi_v, zb_M_expression_198, if_pos s43, zk_M_isSign_0, z_bi_v, zb_M_expression_207, if_pos s45, zk_M_isSign_0, z_bi_v, zb_M_expression_253, if_pos s42, zk_M_isSign_0, z_bi_v, zb_M_expression_262, if_neg s47, k7, z_b0_v, zb_M_expression_271, zk_M_isSign_0, e1, z_bi_v, zb_M_expression_278, if_pos s42, k8, z_b0_v, zb_M_expression_291, q4, z_b0_v, zb_M_expression_295, hc, z_b0_v, zb_M_expression_300]
theorem zM_sgn (X : ZX) (d m ce sl : Nat) (I : Nat → Nat → Int32) (L : Nat → Nat → Int64) (t u r q : Nat) {F : Nat → Int} {N a B : Nat} (hN4 : N ≤ 400) (hB : B ≤ 1000) {tk : zTk} {w : List Int} {ts : List Bool} {c : List Int} (h : zMG F N a B tk w ts c I L) (h0 : zlev tk.1 ≠ 0) (h4 : zlev tk.1 = 4 → ts.headD false = false) (x1 : Int32) : ∃ (J : Nat → Nat → Int32) (LJ : Nat → Nat → Int64) (n : Nat), n ≤ 14 ∧ zMF a (B + 810) I J L LJ ∧ zMG F N a B (zlx F N tk.2.2.1) (-tk.1 :: (zdrop (zlev tk.1) w c).1) (zqts tk.1 ts) (zdrop (zlev tk.1) w c).2 J LJ ∧ tk.2.1 + 1 ≤ (zlx F N tk.2.2.1).2.1 ∧ ∀ M J' LJ', z_pu (z_run X z_cf z_ff (d + 6)) 199 [.ref 55, .int (zbx (decide (zlev tk.1 ≤ 2)))] (118, z_sd m, ce, sl, J, LJ, z_rr t u r q (z_gg m) (z_sf m)) = some (.inl none, (118, z_sd m, ce, sl, J', LJ', z_rr t u r q (z_gg m) (z_sf m))) → z_loop X z_cf z_ff (z_pu (z_run X z_cf z_ff (d + 6))) 196 (M + n) 35 [(0, .ref 55), (1, .int x1), (2, .int (Int32.ofInt 1))] [] (118, z_sd m, ce, sl, I, L, z_rr t u r q (z_gg m) (z_sf m)) = z_loop X z_cf z_ff (z_pu (z_run X z_cf z_ff (d + 6))) 196 (M) 35 [(0, .ref 55), (1, .int x1), (2, .int (Int32.ofInt 1))] [] (118, z_sd m, ce, sl, J', LJ', z_rr t u r q (z_gg m) (z_sf m)) := by
  rcases (zlev_k rfl h0).1 with hk | hk | hk | hk | hk | hk | hk | hk
  · have e1 : zlev tk.1 = 1 := by rw [hk]; rfl
    have e2 : zqts tk.1 ts = false :: ts.tail := by
      unfold zqts
      rw [e1, if_pos (by omega)]
    obtain ⟨J, LJ, q1, q2, q3, q4⟩ := zM_k112 X d m ce sl I L t u r q hN4 hB h hk x1
    rw [e1, e2]
    exact ⟨J, LJ, 7, by omega, q1, q2, q3, fun M J' LJ' hc => q4 M J' LJ' hc⟩
  · have e1 : zlev tk.1 = 2 := by rw [hk]; rfl
    have e2 : zqts tk.1 ts = false :: ts.tail := by
      unfold zqts
      rw [e1, if_pos (by omega)]
    obtain ⟨J, LJ, q1, q2, q3, q4⟩ := zM_k111 X d m ce sl I L t u r q hN4 hB h hk x1
    rw [e1, e2]
    exact ⟨J, LJ, 7, by omega, q1, q2, q3, fun M J' LJ' hc => q4 M J' LJ' hc⟩
  · have e1 : zlev tk.1 = 4 := by rw [hk]; rfl
    have e2 : zqts tk.1 ts = true :: ts.tail := by
      unfold zqts
      rw [e1, if_neg (by omega), if_pos rfl]
    obtain ⟨J, LJ, q1, q2, q3, q4⟩ := zM_k60 X d m ce sl I L t u r q hN4 hB h hk (h4 e1) x1
    rw [e1, e2]
    exact ⟨J, LJ, 9, by omega, q1, q2, q3, fun M J' LJ' hc => q4 M J' LJ' hc⟩
  · have e1 : zlev tk.1 = 4 := by rw [hk]; rfl
    have e2 : zqts tk.1 ts = true :: ts.tail := by
      unfold zqts
      rw [e1, if_neg (by omega), if_pos rfl]
    obtain ⟨J, LJ, q1, q2, q3, q4⟩ := zM_k61 X d m ce sl I L t u r q hN4 hB h hk (h4 e1) x1
    rw [e1, e2]
    exact ⟨J, LJ, 10, by omega, q1, q2, q3, fun M J' LJ' hc => q4 M J' LJ' hc⟩
  · have e1 : zlev tk.1 = 5 := by rw [hk]; rfl
    have e2 : zqts tk.1 ts = ts := by
      unfold zqts
      rw [e1, if_neg (by omega), if_neg (by omega)]
    obtain ⟨J, LJ, q1, q2, q3, q4⟩ := zM_k43 X d m ce sl I L t u r q hN4 hB h hk x1
    rw [e1, e2]
    exact ⟨J, LJ, 11, by omega, q1, q2, q3, fun M J' LJ' hc => q4 M J' LJ' hc⟩
  · have e1 : zlev tk.1 = 5 := by rw [hk]; rfl
    have e2 : zqts tk.1 ts = ts := by
      unfold zqts
      rw [e1, if_neg (by omega), if_neg (by omega)]
    obtain ⟨J, LJ, q1, q2, q3, q4⟩ := zM_k45 X d m ce sl I L t u r q hN4 hB h hk x1
    rw [e1, e2]
    exact ⟨J, LJ, 12, by omega, q1, q2, q3, fun M J' LJ' hc => q4 M J' LJ' hc⟩
  · have e1 : zlev tk.1 = 6 := by rw [hk]; rfl
    have e2 : zqts tk.1 ts = ts := by
      unfold zqts
      rw [e1, if_neg (by omega), if_neg (by omega)]
    obtain ⟨J, LJ, q1, q2, q3, q4⟩ := zM_k42 X d m ce sl I L t u r q hN4 hB h hk x1
    rw [e1, e2]
    exact ⟨J, LJ, 13, by omega, q1, q2, q3, fun M J' LJ' hc => q4 M J' LJ' hc⟩
  · have e1 : zlev tk.1 = 6 := by rw [hk]; rfl
    have e2 : zqts tk.1 ts = ts := by
      unfold zqts
      rw [e1, if_neg (by omega), if_neg (by omega)]
    obtain ⟨J, LJ, q1, q2, q3, q4⟩ := zM_k47 X d m ce sl I L t u r q hN4 hB h hk x1
    rw [e1, e2]
    exact ⟨J, LJ, 14, by omega, q1, q2, q3, fun M J' LJ' hc => q4 M J' LJ' hc⟩
/-- a token that ends an expression -/
theorem zM_stop (X : ZX) (d m ce sl : Nat) (I : Nat → Nat → Int32) (L : Nat → Nat → Int64) (t u r q : Nat) {F : Nat → Int} {N a B : Nat} (hN4 : N ≤ 400) (hB : B ≤ 1000) {tk : zTk} {w : List Int} {ts : List Bool} {c : List Int} (h : zMG F N a B tk w ts c I L) (h0 : ¬ (zlev tk.1 ≠ 0 ∧ (zlev tk.1 = 4 → ts.headD false = false))) (h1 : ¬ (tk.1 = 41 ∧ 1 < ts.length)) (x1 : Int32) : ∃ n, n ≤ 14 ∧ ∀ M, z_loop X z_cf z_ff (z_pu (z_run X z_cf z_ff (d + 6))) 196 (M + n) 35 [(0, .ref 55), (1, .int x1), (2, .int (Int32.ofInt 1))] [] (118, z_sd m, ce, sl, I, L, z_rr t u r q (z_gg m) (z_sf m)) = z_loop X z_cf z_ff (z_pu (z_run X z_cf z_ff (d + 6))) 196 (M) 35 [(0, .ref 55), (1, .int x1), (2, .int (Int32.ofInt 0))] [] (118, z_sd m, ce, sl, I, L, z_rr t u r q (z_gg m) (z_sf m)) := by
  obtain ⟨y, y1, y2⟩ := zr_known X (d + 2) m ce sl I L t u r q h.1.1 h.1.2.1
  have hne : ts ≠ [] := fun e => by
    have h8 := h.2.2.2.2.2.2.2.1
    rw [e] at h8
    exact absurd h8 (by show ¬ _ + 1 = 0; omega)
  have hlev : zlev tk.1 = 0 ∨ zlev tk.1 = 4 ∧ ¬ ts.headD false = false := by
    by_cases c0 : zlev tk.1 = 0
    · exact Or.inl c0
    · by_cases c4 : zlev tk.1 = 4
      · by_cases ch : ts.headD false = false
        · exact absurd ⟨c0, fun _ => ch⟩ h0
        · exact Or.inr ⟨c4, ch⟩
      · exact absurd ⟨c0, fun e => absurd e c4⟩ h0
  have nk : ∀ K : Int, zlev K ≠ 0 → zlev K ≠ 4 → tk.1 ≠ K := by
    intro K a1 a2 e
    rw [e] at hlev
    rcases hlev with h | h
    · exact a1 h
    · exact a2 h.1
  have n111 := nk 111 (by decide) (by decide)
  have n112 := nk 112 (by decide) (by decide)
  have n43 := nk 43 (by decide) (by decide)
  have n45 := nk 45 (by decide) (by decide)
  have n42 := nk 42 (by decide) (by decide)
  have n47 := nk 47 (by decide) (by decide)
  have ny6 : ¬ y = Int32.ofInt 6 := y_lit (by rw [y1]; exact fun e => n111 (zkw_6.mp e)) (by omega) (by omega)
  have ny7 : ¬ y = Int32.ofInt 7 := y_lit (by rw [y1]; exact fun e => n112 (zkw_7.mp e)) (by omega) (by omega)
  have s43 : z_v_M_isSign I (Int32.ofInt 43) = 0 := (zM_sign h.1.1 h.1.2.1 (v := 43) (by unfold zsgn; omega)).mpr n43
  have s45 : z_v_M_isSign I (Int32.ofInt 45) = 0 := (zM_sign h.1.1 h.1.2.1 (v := 45) (by unfold zsgn; omega)).mpr n45
  have s42 : z_v_M_isSign I (Int32.ofInt 42) = 0 := (zM_sign h.1.1 h.1.2.1 (v := 42) (by unfold zsgn; omega)).mpr n42
  have s47 : z_v_M_isSign I (Int32.ofInt 47) = 0 := (zM_sign h.1.1 h.1.2.1 (v := 47) (by unfold zsgn; omega)).mpr n47
  have g32 : z_in (I 55 32) 9 = true := by
    have h4 := h.2.2.2.1.1
    have h9 := h.2.2.2.2.2.2.2.2
    exact y_in_t (by omega) (by omega)
  have i32 := h.2.2.2.1.1
  have tl5 : ∀ M, z_loop X z_cf z_ff (z_pu (z_run X z_cf z_ff (d + 6))) 196 (M + 5) 198 [(0, .ref 55), (1, .int x1), (2, .int (Int32.ofInt 1))] [.int (z_v_M_isSign I (Int32.ofInt 43))] (118, z_sd m, ce, sl, I, L, z_rr t u r q (z_gg m) (z_sf m)) = z_loop X z_cf z_ff (z_pu (z_run X z_cf z_ff (d + 6))) 196 (M) 35 [(0, .ref 55), (1, .int x1), (2, .int (Int32.ofInt 0))] [] (118, z_sd m, ce, sl, I, L, z_rr t u r q (z_gg m) (z_sf m)) := by
    intro M
    rw [show M + 5 = M + 1 + 1 + 1 + 1 + 1 by omega, zb_M_expression_198, if_pos s43, zk_M_isSign_0, z_bi_v, zb_M_expression_207, if_pos s45, zk_M_isSign_0, z_bi_v, zb_M_expression_253, if_pos s42, zk_M_isSign_0, z_bi_v, zb_M_expression_262, if_pos s47, zk_M_isSign_0, z_bi_v, zb_M_expression_309]
    by_cases c41 : tk.1 = 41
    · have s41 : ¬ z_v_M_isSign I (Int32.ofInt 41) = 0 := fun h0 => (zM_sign h.1.1 h.1.2.1 (v := 41) (by unfold zsgn; omega)).mp h0 c41
      rw [if_neg s41, if_pos (by
        rw [y_i_le, i32]
        show _ ≤ (1 : Int)
        have : ¬ 1 < ts.length := fun e => h1 ⟨c41, e⟩
        omega)]
    · have s41 : z_v_M_isSign I (Int32.ofInt 41) = 0 := (zM_sign h.1.1 h.1.2.1 (v := 41) (by unfold zsgn; omega)).mpr c41
      rw [if_pos s41]
  by_cases c60 : tk.1 = 60
  · have s60 : ¬ z_v_M_isSign I (Int32.ofInt 60) = 0 := fun h0 => (zM_sign h.1.1 h.1.2.1 (v := 60) (by unfold zsgn; omega)).mp h0 c60
    have ht : ¬ I 77 (I 55 32).toNatClampNeg = 0 := by
      rw [zM_tst h.2.2.2.1 hne]
      rcases hlev with e | e
      · rw [c60] at e
        exact absurd e (by decide)
      · exact e.2
    refine ⟨9, by omega, fun M => ?_⟩
    rw [show M + 9 = M + 5 + 1 + 1 + 1 + 1 by omega, zb_M_expression_35, if_neg (by decide), zM_isg X (d + 3) m ce sl I L t u r q h.2.1, z_bi_v, zb_M_expression_43, if_neg (by decide), y2, z_bi_v, zb_M_expression_50, if_neg ny6, if_neg ny7, zk_M_isSign_0, z_bi_v, zb_M_expression_121, if_neg s60, g32, z_gd_t, if_neg ht, zk_M_isSign_0, z_bi_v, tl5]
  · have s60 : z_v_M_isSign I (Int32.ofInt 60) = 0 := (zM_sign h.1.1 h.1.2.1 (v := 60) (by unfold zsgn; omega)).mpr c60
    by_cases c61 : tk.1 = 61
    · have s61 : ¬ z_v_M_isSign I (Int32.ofInt 61) = 0 := fun h0 => (zM_sign h.1.1 h.1.2.1 (v := 61) (by unfold zsgn; omega)).mp h0 c61
      have ht : ¬ I 77 (I 55 32).toNatClampNeg = 0 := by
        rw [zM_tst h.2.2.2.1 hne]
        rcases hlev with e | e
        · rw [c61] at e
          exact absurd e (by decide)
        · exact e.2
      refine ⟨10, by omega, fun M => ?_⟩
      rw [show M + 10 = M + 5 + 1 + 1 + 1 + 1 + 1 by omega, zb_M_expression_35, if_neg (by decide), zM_isg X (d + 3) m ce sl I L t u r q h.2.1, z_bi_v, zb_M_expression_43, if_neg (by decide), y2, z_bi_v, zb_M_expression_50, if_neg ny6, if_neg ny7, zk_M_isSign_0, z_bi_v, zb_M_expression_121, if_pos s60, zk_M_isSign_0, z_bi_v, zb_M_expression_130, if_neg s61, g32, z_gd_t, if_neg ht, zk_M_isSign_0, z_bi_v, tl5]
    · have s61 : z_v_M_isSign I (Int32.ofInt 61) = 0 := (zM_sign h.1.1 h.1.2.1 (v := 61) (by unfold zsgn; omega)).mpr c61
      refine ⟨10, by omega, fun M => ?_⟩
      rw [show M + 10 = M + 5 + 1 + 1 + 1 + 1 + 1 by omega, zb_M_expression_35, if_neg (by decide), zM_isg X (d + 3) m ce sl I L t u r q h.2.1, z_bi_v, zb_M_expression_43, if_neg (by decide), y2, z_bi_v, zb_M_expression_50, if_neg ny6, if_neg ny7, zk_M_isSign_0, z_bi_v, zb_M_expression_121, if_pos s60, zk_M_isSign_0, z_bi_v, zb_M_expression_130, if_pos s61, zk_M_isSign_0, z_bi_v, tl5]
