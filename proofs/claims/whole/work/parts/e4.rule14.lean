/-! RULES, 17: clauses, apart from the machines -/
/-- what is read leaves one number more -/
def zWP (N : Nat) (X : zTk → zFl ⊕ (zTk × List Int)) : Prop := ∀ tk tk' s, zTO N tk → X tk = .inr (tk', s) → ∀ r n, zwf r (n + 1) → zwf (s ++ r) n
theorem zwf_sg {v : Int} {r : List Int} {n : Nat} (hv : zisb v) (h : zwf r (n + 1)) : zwf (v :: r) (n + 2) := by
  obtain ⟨a1, a2, a3, a4⟩ := zisb_n hv
  unfold zwf
  rw [if_neg (by omega), if_neg a2, if_neg a3]
  exact ⟨hv, by omega, h⟩
theorem zisb_k {k : Int} {sg : Nat} (h : zlev k = sg) (h0 : sg ≠ 0) : zisb (-k) := by
  have := (zlev_k h h0).1
  unfold zisb
  omega
theorem zWP_part {N : Nat} {lx : Nat → zTk} (hl : zLX N lx) {E : zTk → zFl ⊕ (zTk × List Int)} (hE : zWP N E) : zWP N (zpPart lx E) := by
  intro tk tk' s hT h r n hr
  unfold zpPart at h
  by_cases c : tk.1 = 40
  · rw [if_pos c] at h
    cases hx : E (lx tk.2.2.1) with
    | inl y => rw [hx] at h; exact absurd h (by simp)
    | inr y =>
      obtain ⟨tk2, s2⟩ := y
      rw [hx] at h
      have h' : (if tk2.1 = 41 then (.inr (lx tk2.2.2.1, s2) : zFl ⊕ (zTk × List Int)) else .inl (1, tk2.2.1)) = .inr (tk', s) := h
      by_cases c2 : tk2.1 = 41
      · rw [if_pos c2] at h'
        injection h' with h'
        injection h' with e1 e2
        rw [← e2]
        exact hE _ _ _ (zTO_nx hl hT (by omega)).1 hx r n hr
      · rw [if_neg c2] at h'
        exact absurd h' (by simp)
  · rw [if_neg c] at h
    by_cases c1 : 100 ≤ tk.1
    · rw [if_pos c1] at h
      by_cases c2 : tk.1 ≤ 109
      · rw [if_pos c2] at h
        injection h with h
        injection h with e1 e2
        rw [← e2]
        show zwf (-tk.1 :: r) n
        unfold zwf
        rw [if_neg (by omega), if_pos (by omega)]
        exact hr
      · rw [if_neg c2] at h
        exact absurd h (by simp)
    · rw [if_neg c1] at h
      by_cases c2 : tk.1 = 2
      · rw [if_pos c2] at h
        by_cases c3 : tk.2.2.2.2 ≤ 5
        · rw [if_pos c3] at h
          injection h with h
          injection h with e1 e2
          rw [← e2]
          obtain ⟨d1, d2, d3⟩ := hT.2.2.2 c2
          show zwf (tk.2.2.2.1 :: r) n
          unfold zwf
          rw [if_pos d2]
          exact ⟨d3, hr⟩
        · rw [if_neg c3] at h
          exact absurd h (by simp)
      · rw [if_neg c2] at h
        exact absurd h (by simp)
theorem zWP_loop {N : Nat} {lx : Nat → zTk} (hl : zLX N lx) {sg : Nat} (hs : sg ≠ 0) {one : zTk → zFl ⊕ (zTk × List Int)} (hA : zAdv N one) (h1 : zWP N one) : ∀ f tk s0, zTO N tk → (∀ r n, zwf r (n + 1) → zwf (s0 ++ r) n) → ∀ tk' s, zpLoop lx sg one f tk s0 = .inr (tk', s) → ∀ r n, zwf r (n + 1) → zwf (s ++ r) n := by
  intro f
  induction f with
  | zero =>
    intro tk s0 hT h0 tk' s h r n hr
    unfold zpLoop at h
    injection h with h
    injection h with e1 e2
    rw [← e2]
    exact h0 r n hr
  | succ f ih =>
    intro tk s0 hT h0 tk' s h r n hr
    unfold zpLoop at h
    by_cases c : zlev tk.1 = sg
    · rw [if_pos c] at h
      have hn := (zTO_nx hl hT (zlev_0 c hs)).1
      cases hx : one (lx tk.2.2.1) with
      | inl y => rw [hx] at h; exact absurd h (by simp)
      | inr y =>
        obtain ⟨tk2, s2⟩ := y
        rw [hx] at h
        refine ih tk2 (s0 ++ s2 ++ [-tk.1]) (hA _ hn _ _ hx).1 (fun r n hr => ?_) tk' s h r n hr
        have e : s0 ++ s2 ++ [-tk.1] ++ r = s0 ++ (s2 ++ (-tk.1 :: r)) := by simp only [List.append_assoc, List.singleton_append]
        rw [e]
        exact h0 _ _ (h1 _ _ _ hn hx _ _ (zwf_sg (zisb_k c hs) hr))
    · rw [if_neg c] at h
      injection h with h
      injection h with e1 e2
      rw [← e2]
      exact h0 r n hr
theorem zWP_row {N : Nat} {lx : Nat → zTk} (hl : zLX N lx) {sg : Nat} (hs : sg ≠ 0) {one : zTk → zFl ⊕ (zTk × List Int)} (hA : zAdv N one) (h1 : zWP N one) : zWP N (zpRow lx sg one) := by
  intro tk tk' s hT h r n hr
  unfold zpRow at h
  cases hx : one tk with
  | inl y => rw [hx] at h; exact absurd h (by simp)
  | inr y =>
    obtain ⟨tk2, s2⟩ := y
    rw [hx] at h
    exact zWP_loop hl hs hA h1 400 tk2 s2 (hA _ hT _ _ hx).1 (fun r n hr => h1 _ _ _ hT hx r n hr) tk' s h r n hr
theorem zWP_test {N : Nat} {lx : Nat → zTk} (hl : zLX N lx) {one : zTk → zFl ⊕ (zTk × List Int)} (hA : zAdv N one) (h1 : zWP N one) : zWP N (zpTest lx one) := by
  intro tk tk' s hT h r n hr
  unfold zpTest at h
  cases hx : one tk with
  | inl y => rw [hx] at h; exact absurd h (by simp)
  | inr y =>
    obtain ⟨tk2, s2⟩ := y
    rw [hx] at h
    have h' : (if zlev tk2.1 = 4 then match one (lx tk2.2.2.1) with
      | .inl e => (.inl e : zFl ⊕ (zTk × List Int))
      | .inr (tk3, s3) => .inr (tk3, s2 ++ s3 ++ [-tk2.1])
    else .inr (tk2, s2)) = .inr (tk', s) := h
    by_cases c : zlev tk2.1 = 4
    · rw [if_pos c] at h'
      have hn := (zTO_nx hl (hA _ hT _ _ hx).1 (zlev_0 c (by omega))).1
      cases hy : one (lx tk2.2.2.1) with
      | inl y => rw [hy] at h'; exact absurd h' (by simp)
      | inr y =>
        obtain ⟨tk3, s3⟩ := y
        rw [hy] at h'
        injection h' with h'
        injection h' with e1 e2
        rw [← e2]
        have e : s2 ++ s3 ++ [-tk2.1] ++ r = s2 ++ (s3 ++ (-tk2.1 :: r)) := by simp only [List.append_assoc, List.singleton_append]
        rw [e]
        exact h1 _ _ _ hT hx _ _ (h1 _ _ _ hn hy _ _ (zwf_sg (zisb_k c (by omega)) hr))
    · rw [if_neg c] at h'
      injection h' with h'
      injection h' with e1 e2
      rw [← e2]
      exact h1 _ _ _ hT hx r n hr
theorem zWP_nots {N : Nat} {lx : Nat → zTk} (hl : zLX N lx) {one : zTk → zFl ⊕ (zTk × List Int)} (h1 : zWP N one) : ∀ k, zWP N (zpNots lx one k) := by
  intro k
  induction k with
  | zero =>
    intro tk tk' s hT h r n hr
    unfold zpNots at h
    by_cases c : tk.1 = 110
    · rw [if_pos c] at h
      exact absurd h (by simp)
    · rw [if_neg c] at h
      exact h1 _ _ _ hT h r n hr
  | succ k ih =>
    intro tk tk' s hT h r n hr
    unfold zpNots at h
    by_cases c : tk.1 = 110
    · rw [if_pos c] at h
      have hn := (zTO_nx hl hT (by omega)).1
      cases hy : zpNots lx one k (lx tk.2.2.1) with
      | inl y => rw [hy] at h; exact absurd h (by simp)
      | inr y =>
        obtain ⟨tk3, s3⟩ := y
        rw [hy] at h
        injection h with h
        injection h with e1 e2
        rw [← e2]
        have e : s3 ++ [-110] ++ r = s3 ++ (-110 :: r) := by simp only [List.append_assoc, List.singleton_append]
        rw [e]
        refine ih _ _ _ hn hy _ _ ?_
        unfold zwf
        rw [if_neg (by omega), if_neg (by omega), if_pos rfl]
        exact ⟨by omega, hr⟩
    · rw [if_neg c] at h
      exact h1 _ _ _ hT h r n hr
theorem zWP_expr {N : Nat} {lx : Nat → zTk} (hl : zLX N lx) : ∀ r, zWP N (zpExpr lx r) := by
  intro r
  induction r with
  | zero =>
    intro tk tk' s hT h r n hr
    unfold zpExpr at h
    exact absurd h (by simp)
  | succ r ih =>
    have aE := zAdv_expr hl r
    have a0 := zAdv_part hl aE
    have a6 := zAdv_row hl (sg := 6) (by omega) a0
    have a5 := zAdv_row hl (sg := 5) (by omega) a6
    have a4 := zAdv_test hl a5
    have a3 := zAdv_nots hl a4 6
    have a2 := zAdv_row hl (sg := 2) (by omega) a3
    intro tk tk' s hT h
    unfold zpExpr at h
    exact zWP_row hl (by omega) a2 (zWP_row hl (by omega) a3 (zWP_nots hl (zWP_test hl a5 (zWP_row hl (by omega) a6 (zWP_row hl (by omega) a0 (zWP_part hl ih)))) 6)) tk tk' s hT h
/-- a whole expression's steps -/
theorem zwf_expr {N : Nat} (hN : N ≤ 400) {lx : Nat → zTk} (hl : zLX N lx) {tk tk' : zTk} {s : List Int} (hT : zTO N tk) (h : zpExpr lx 6 tk = .inr (tk', s)) : zwf s 0 ∧ s.length ≤ 400 ∧ s ≠ [] := by
  have h1 := zWP_expr hl 6 tk tk' s hT h [] 0 rfl
  rw [List.append_nil] at h1
  have h2 := zAdv_expr hl 6 tk hT tk' s h
  have h3 := h2.1.1
  refine ⟨h1, by omega, fun e => ?_⟩
  rw [e] at h1
  exact absurd (show (0 : Nat) = 1 from h1) (by omega)
abbrev zPq : Type := Int × Int × Int × Int
def zsetp (k v : Int) (q : zPq) : zPq := if k = 115 then (v, q.2) else if k = 116 then (q.1, v, q.2.2) else if k = 117 then (q.1, q.2.1, v, q.2.2.2) else (q.1, q.2.1, q.2.2.1, v)
def zpNum (lx : Nat → zTk) (most kind : Int) (tk : zTk) : zFl ⊕ (zTk × Int) := if tk.1 = 2 then (if tk.2.2.2.2 ≤ 5 then (if tk.2.2.2.1 ≤ most then .inr (lx tk.2.2.1, tk.2.2.2.1) else .inl (kind, tk.2.1)) else .inl (2, tk.2.1)) else .inl (1, tk.2.1)
/-- behind 'stand' -/
def zpStd (lx : Nat → zTk) (nst : Int) (tk : zTk) : zFl ⊕ (zTk × zcl) := match zpNum lx (nst - 1) 4 tk with
  | .inl e => .inl e
  | .inr (t1, v) => if t1.1 = 100 then match zpExpr lx 6 (lx t1.2.2.1) with
      | .inl e => .inl e
      | .inr (t2, s) => if t2.1 = 113 then match zpExpr lx 6 (lx t2.2.2.1) with
          | .inl e => .inl e
          | .inr (t3, s2) => .inr (t3, (v, s, s2))
        else .inr (t2, (v, s, []))
    else .inl (1, t1.2.1)
def zpCla (lx : Nat → zTk) (nst : Int) (i : Nat) (tk : zTk) (P : List zcl) (q : zPq) : zFl ⊕ (zTk × List zcl × zPq) :=
  if 114 ≤ tk.1 ∧ tk.1 ≤ 118 then (if i < 12 then
    (if tk.1 = 114 then match zpStd lx nst (lx tk.2.2.1) with
      | .inl e => .inl e
      | .inr (t, c) => if t.1 = 59 then .inr (lx t.2.2.1, P ++ [c], q) else .inl (1, t.2.1)
    else match zpNum lx (if tk.1 = 115 then 9 else 99999) 2 (lx tk.2.2.1) with
      | .inl e => .inl e
      | .inr (t, v) => if t.1 = 59 then .inr (lx t.2.2.1, P, zsetp tk.1 v q) else .inl (1, t.2.1))
    else .inl (2, tk.2.1))
  else .inl (1, tk.2.1)
def zpAll (lx : Nat → zTk) (nst : Int) : Nat → Nat → zTk → List zcl → zPq → zFl ⊕ (List zcl × zPq)
  | 0, _, _, P, q => .inr (P, q)
  | f + 1, i, tk, P, q => if tk.1 = 0 then .inr (P, q) else match zpCla lx nst i tk P q with
    | .inl e => .inl e
    | .inr (tk', P', q') => zpAll lx nst f (i + 1) tk' P' q'
/-- clauses in the class's rows, within so many steps -/
def zPC (D n : Nat) (I : Nat → Nat → Int32) : Nat → List zcl → Prop
  | _, [] => True
  | i, x :: l => ((I (D + 3) i).toInt = x.1 ∧ ∃ p : Nat, (I (D + 4) i).toInt = p ∧ (I (D + 5) i).toInt = p + x.2.1.length ∧ (I (D + 6) i).toInt = p + x.2.1.length + x.2.2.length ∧ p + x.2.1.length + x.2.2.length ≤ n ∧ zrow (I (D + 1)) p x.2.1 ∧ zrow (I (D + 1)) (p + x.2.1.length) x.2.2) ∧ zPC D n I (i + 1) l
theorem zrow_u {F G : Nat → Int32} (l : List Int) : ∀ i, zrow F i l → (∀ j, i ≤ j → j < i + l.length → G j = F j) → zrow G i l := by
  induction l with
  | nil => intro _ _ _; trivial
  | cons v l ih =>
    intro i h hG
    have hl : (v :: l).length = l.length + 1 := rfl
    rw [hl] at hG
    exact ⟨by rw [hG i (Nat.le_refl _) (by omega)]; exact h.1, ih _ h.2 (fun j j1 j2 => hG j (by omega) (by omega))⟩
theorem zPC_u {D n n' : Nat} {I J : Nat → Nat → Int32} (hn : n ≤ n') (h1 : ∀ j, j < n → J (D + 1) j = I (D + 1) j) (l : List zcl) : ∀ i, (∀ x, D + 3 ≤ x → x ≤ D + 6 → ∀ j, j < i + l.length → J x j = I x j) → zPC D n I i l → zPC D n' J i l := by
  induction l with
  | nil => intro _ _ _; trivial
  | cons x l ih =>
    intro i h2 h
    have hl : (x :: l).length = l.length + 1 := rfl
    rw [hl] at h2
    obtain ⟨⟨a1, p, a2, a3, a4, a5, a6, a7⟩, a8⟩ := h
    refine ⟨⟨by rw [h2 (D + 3) (by omega) (by omega) i (by omega)]; exact a1, p, by rw [h2 (D + 4) (by omega) (by omega) i (by omega)]; exact a2, by rw [h2 (D + 5) (by omega) (by omega) i (by omega)]; exact a3, by rw [h2 (D + 6) (by omega) (by omega) i (by omega)]; exact a4, by omega, zrow_u _ _ a6 (fun j j1 j2 => h1 j (by omega)), zrow_u _ _ a7 (fun j j1 j2 => h1 j (by omega))⟩, ih (i + 1) (fun x x1 x2 j hj => h2 x x1 x2 j (by omega)) a8⟩
theorem zPC_a {D n : Nat} {I : Nat → Nat → Int32} (x : zcl) (l : List zcl) : ∀ i, zPC D n I i l → zPC D n I (i + l.length) [x] → zPC D n I i (l ++ [x]) := by
  induction l with
  | nil => intro i _ h; exact h
  | cons y l ih =>
    intro i h hx
    have hl : (y :: l).length = l.length + 1 := rfl
    rw [hl] at hx
    exact ⟨h.1, ih (i + 1) h.2 (by rw [show i + 1 + l.length = i + (l.length + 1) by omega]; exact hx)⟩
/-- a piece of the steps is a row of the cells -/
theorem zrow_S {D : Nat} {I : Nat → Nat → Int32} {S : List Int} (h : zCS D S I) (s : List Int) : ∀ p, (∀ j, j < s.length → S.getD (p + j) 0 = s.getD j 0) → p + s.length ≤ S.length → zrow (I (D + 1)) p s := by
  induction s with
  | nil => intro _ _ _; trivial
  | cons v s ih =>
    intro p h1 h2
    have hl : (v :: s).length = s.length + 1 := rfl
    rw [hl] at h1 h2
    refine ⟨?_, ih (p + 1) (fun j hj => ?_) (by omega)⟩
    · rw [h.2 p (by omega)]
      have := h1 0 (by omega)
      rw [Nat.add_zero] at this
      exact this
    · have := h1 (j + 1) (by omega)
      rw [show p + 1 + j = p + (j + 1) by omega]
      exact this
theorem zget_m (A s B : List Int) : ∀ j, j < s.length → (A ++ s ++ B).getD (A.length + j) 0 = s.getD j 0 := by
  intro j hj
  rw [List.getD_eq_getElem?_getD, List.getD_eq_getElem?_getD, List.append_assoc, List.getElem?_append_right (by omega), List.getElem?_append_left (by omega), show A.length + j - A.length = j by omega]
theorem zCS_i {D : Nat} {S r : List Int} {I J : Nat → Nat → Int32} (h1 : zCS D S I) (h2 : zCS D (S ++ r) J) : ∀ j, j < S.length → J (D + 1) j = I (D + 1) j := by
  intro j hj
  refine y_i_eq.mpr ?_
  rw [h1.2 j hj, h2.2 j (by rw [List.length_append]; omega), List.getD_eq_getElem?_getD, List.getD_eq_getElem?_getD, List.getElem?_append_left hj]
