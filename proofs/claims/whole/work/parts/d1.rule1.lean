/-! RULES, 4: tokens, and the two ways of reading, apart from the machines -/
/-- a token: its kind as the class numbers it, where it is, where it ends, its number and digits -/
abbrev zTk : Type := Int × Nat × Nat × Int × Nat
abbrev zFl : Type := Int × Nat
def zsgn (v : Int) : Prop := v = 40 ∨ v = 41 ∨ v = 42 ∨ v = 43 ∨ v = 45 ∨ v = 47 ∨ v = 59 ∨ v = 60 ∨ v = 61
def zkd (v : Int) : Prop := v = 0 ∨ v = 1 ∨ v = 2 ∨ zsgn v ∨ 100 ≤ v ∧ v ≤ 119
/-- a token that may be -/
def zTO (N : Nat) (tk : zTk) : Prop := tk.2.1 ≤ N ∧ (tk.1 = 0 ∧ tk.2.2.1 = tk.2.1 ∨ tk.1 ≠ 0 ∧ tk.2.1 < tk.2.2.1 ∧ tk.2.2.1 ≤ N) ∧ zkd tk.1 ∧ (tk.1 = 2 → tk.2.2.2.2 = tk.2.2.1 - tk.2.1 ∧ 0 ≤ tk.2.2.2.1 ∧ tk.2.2.2.1 ≤ 99999)
def zLX (N : Nat) (lx : Nat → zTk) : Prop := ∀ e, e ≤ N → zTO N (lx e) ∧ e ≤ (lx e).2.1
theorem zTO_nx {N : Nat} {lx : Nat → zTk} (hl : zLX N lx) {tk : zTk} (h : zTO N tk) (hk : tk.1 ≠ 0) : zTO N (lx tk.2.2.1) ∧ tk.2.1 + 1 ≤ (lx tk.2.2.1).2.1 := by
  obtain ⟨h1, h2, h3, h4⟩ := h
  rcases h2 with h2 | h2
  · exact absurd h2.1 hk
  · obtain ⟨a, b⟩ := hl tk.2.2.1 h2.2.2
    exact ⟨a, by omega⟩
/-- the class's way: it goes down -/
def zpPart (lx : Nat → zTk) (E : zTk → zFl ⊕ (zTk × List Int)) (tk : zTk) : zFl ⊕ (zTk × List Int) :=
  if tk.1 = 40 then match E (lx tk.2.2.1) with
    | .inl e => .inl e
    | .inr (tk', s) => if tk'.1 = 41 then .inr (lx tk'.2.2.1, s) else .inl (1, tk'.2.1)
  else if 100 ≤ tk.1 then (if tk.1 ≤ 109 then .inr (lx tk.2.2.1, [-tk.1]) else .inl (3, tk.2.1))
  else if tk.1 = 2 then (if tk.2.2.2.2 ≤ 5 then .inr (lx tk.2.2.1, [tk.2.2.2.1]) else .inl (2, tk.2.1))
  else .inl (1, tk.2.1)
def zlev (k : Int) : Nat := if k = 112 then 1 else if k = 111 then 2 else if k = 60 ∨ k = 61 then 4 else if k = 43 ∨ k = 45 then 5 else if k = 42 ∨ k = 47 then 6 else 0
def zpLoop (lx : Nat → zTk) (sg : Nat) (one : zTk → zFl ⊕ (zTk × List Int)) : Nat → zTk → List Int → zFl ⊕ (zTk × List Int)
  | 0, tk, s => .inr (tk, s)
  | f + 1, tk, s => if zlev tk.1 = sg then match one (lx tk.2.2.1) with
      | .inl e => .inl e
      | .inr (tk', s') => zpLoop lx sg one f tk' (s ++ s' ++ [-tk.1])
    else .inr (tk, s)
def zpRow (lx : Nat → zTk) (sg : Nat) (one : zTk → zFl ⊕ (zTk × List Int)) (tk : zTk) : zFl ⊕ (zTk × List Int) := match one tk with
  | .inl e => .inl e
  | .inr (tk', s) => zpLoop lx sg one 400 tk' s
def zpTest (lx : Nat → zTk) (one : zTk → zFl ⊕ (zTk × List Int)) (tk : zTk) : zFl ⊕ (zTk × List Int) := match one tk with
  | .inl e => .inl e
  | .inr (tk', s) => if zlev tk'.1 = 4 then match one (lx tk'.2.2.1) with
      | .inl e => .inl e
      | .inr (tk2, s2) => .inr (tk2, s ++ s2 ++ [-tk'.1])
    else .inr (tk', s)
def zpNots (lx : Nat → zTk) (one : zTk → zFl ⊕ (zTk × List Int)) : Nat → zTk → zFl ⊕ (zTk × List Int)
  | 0, tk => if tk.1 = 110 then .inl (2, tk.2.1) else one tk
  | r + 1, tk => if tk.1 = 110 then match zpNots lx one r (lx tk.2.2.1) with
      | .inl e => .inl e
      | .inr (tk', s) => .inr (tk', s ++ [-110])
    else one tk
def zpAnds (lx : Nat → zTk) (E : zTk → zFl ⊕ (zTk × List Int)) : zTk → zFl ⊕ (zTk × List Int) := zpNots lx (zpTest lx (zpRow lx 5 (zpRow lx 6 (zpPart lx E)))) 6
def zbgk (k : Int) : Int := if k = 2 ∨ k = 40 ∨ 100 ≤ k then 2 else 1
def zpExpr (lx : Nat → zTk) : Nat → zTk → zFl ⊕ (zTk × List Int)
  | 0, tk => .inl (zbgk tk.1, tk.2.1)
  | r + 1, tk => zpRow lx 1 (zpRow lx 2 (zpAnds lx (zpExpr lx r))) tk
/-- what was read lies ahead, and has no more steps than bytes -/
def zAdv (N : Nat) (X : zTk → zFl ⊕ (zTk × List Int)) : Prop := ∀ tk, zTO N tk → ∀ tk' s, X tk = .inr (tk', s) → zTO N tk' ∧ tk.2.1 + 1 ≤ tk'.2.1 ∧ tk.2.1 + s.length ≤ tk'.2.1
theorem zAdv_part {N : Nat} {lx : Nat → zTk} (hl : zLX N lx) {E : zTk → zFl ⊕ (zTk × List Int)} (hE : zAdv N E) : zAdv N (zpPart lx E) := by
  intro tk h tk' s e
  unfold zpPart at e
  by_cases c : tk.1 = 40
  · rw [if_pos c] at e
    obtain ⟨a, b⟩ := zTO_nx hl h (by omega)
    cases hx : E (lx tk.2.2.1) with
    | inl y => rw [hx] at e; exact absurd e (by simp)
    | inr y =>
      obtain ⟨tk2, s2⟩ := y
      rw [hx] at e
      obtain ⟨a1, a2, a3⟩ := hE _ a _ _ hx
      have e' : (if tk2.1 = 41 then (.inr (lx tk2.2.2.1, s2) : zFl ⊕ (zTk × List Int)) else .inl (1, tk2.2.1)) = .inr (tk', s) := e
      by_cases c2 : tk2.1 = 41
      · rw [if_pos c2] at e'
        obtain ⟨b1, b2⟩ := zTO_nx hl a1 (by omega)
        injection e' with e'
        injection e' with e1 e2
        rw [← e1, ← e2]
        exact ⟨b1, by omega, by omega⟩
      · rw [if_neg c2] at e'
        exact absurd e' (by simp)
  · rw [if_neg c] at e
    by_cases c1 : 100 ≤ tk.1
    · rw [if_pos c1] at e
      by_cases c2 : tk.1 ≤ 109
      · rw [if_pos c2] at e
        obtain ⟨b1, b2⟩ := zTO_nx hl h (by omega)
        injection e with e
        injection e with e1 e2
        rw [← e1, ← e2]
        exact ⟨b1, b2, b2⟩
      · rw [if_neg c2] at e
        exact absurd e (by simp)
    · rw [if_neg c1] at e
      by_cases c2 : tk.1 = 2
      · rw [if_pos c2] at e
        by_cases c3 : tk.2.2.2.2 ≤ 5
        · rw [if_pos c3] at e
          obtain ⟨b1, b2⟩ := zTO_nx hl h (by omega)
          injection e with e
          injection e with e1 e2
          rw [← e1, ← e2]
          exact ⟨b1, b2, b2⟩
        · rw [if_neg c3] at e
          exact absurd e (by simp)
      · rw [if_neg c2] at e
        exact absurd e (by simp)
theorem zlev_0 {k : Int} {n : Nat} (h : zlev k = n) (hn : n ≠ 0) : k ≠ 0 := by
  intro e
  subst e
  exact hn (h.symm.trans rfl)
theorem zAdv_loop {N : Nat} {lx : Nat → zTk} (hl : zLX N lx) {sg : Nat} (hs : sg ≠ 0) {one : zTk → zFl ⊕ (zTk × List Int)} (h1 : zAdv N one) : ∀ f tk s0 p, zTO N tk → p + s0.length ≤ tk.2.1 → p + 1 ≤ tk.2.1 → ∀ tk' s, zpLoop lx sg one f tk s0 = .inr (tk', s) → zTO N tk' ∧ p + 1 ≤ tk'.2.1 ∧ p + s.length ≤ tk'.2.1 := by
  intro f
  induction f with
  | zero =>
    intro tk s0 p h hp hp1 tk' s e
    unfold zpLoop at e
    injection e with e
    injection e with e1 e2
    rw [← e1, ← e2]
    exact ⟨h, hp1, hp⟩
  | succ f ih =>
    intro tk s0 p h hp hp1 tk' s e
    unfold zpLoop at e
    by_cases c : zlev tk.1 = sg
    · rw [if_pos c] at e
      obtain ⟨a, b⟩ := zTO_nx hl h (zlev_0 c hs)
      cases hx : one (lx tk.2.2.1) with
      | inl y => rw [hx] at e; exact absurd e (by simp)
      | inr y =>
        obtain ⟨tk2, s2⟩ := y
        rw [hx] at e
        obtain ⟨a1, a2, a3⟩ := h1 _ a _ _ hx
        exact ih tk2 (s0 ++ s2 ++ [-tk.1]) p a1 (by rw [List.length_append, List.length_append]; show p + (s0.length + s2.length + 1) ≤ _; omega) (by omega) tk' s e
    · rw [if_neg c] at e
      injection e with e
      injection e with e1 e2
      rw [← e1, ← e2]
      exact ⟨h, hp1, hp⟩
theorem zAdv_row {N : Nat} {lx : Nat → zTk} (hl : zLX N lx) {sg : Nat} (hs : sg ≠ 0) {one : zTk → zFl ⊕ (zTk × List Int)} (h1 : zAdv N one) : zAdv N (zpRow lx sg one) := by
  intro tk h tk' s e
  unfold zpRow at e
  cases hx : one tk with
  | inl y => rw [hx] at e; exact absurd e (by simp)
  | inr y =>
    obtain ⟨tk2, s2⟩ := y
    rw [hx] at e
    obtain ⟨a1, a2, a3⟩ := h1 _ h _ _ hx
    exact zAdv_loop hl hs h1 400 tk2 s2 tk.2.1 a1 a3 a2 tk' s e
theorem zAdv_test {N : Nat} {lx : Nat → zTk} (hl : zLX N lx) {one : zTk → zFl ⊕ (zTk × List Int)} (h1 : zAdv N one) : zAdv N (zpTest lx one) := by
  intro tk h tk' s e
  unfold zpTest at e
  cases hx : one tk with
  | inl y => rw [hx] at e; exact absurd e (by simp)
  | inr y =>
    obtain ⟨tk2, s2⟩ := y
    rw [hx] at e
    obtain ⟨a1, a2, a3⟩ := h1 _ h _ _ hx
    have e' : (if zlev tk2.1 = 4 then match one (lx tk2.2.2.1) with
      | .inl e => (.inl e : zFl ⊕ (zTk × List Int))
      | .inr (tk3, s3) => .inr (tk3, s2 ++ s3 ++ [-tk2.1])
    else .inr (tk2, s2)) = .inr (tk', s) := e
    by_cases c : zlev tk2.1 = 4
    · rw [if_pos c] at e'
      obtain ⟨b1, b2⟩ := zTO_nx hl a1 (zlev_0 c (by omega))
      cases hy : one (lx tk2.2.2.1) with
      | inl y => rw [hy] at e'; exact absurd e' (by simp)
      | inr y =>
        obtain ⟨tk3, s3⟩ := y
        rw [hy] at e'
        obtain ⟨c1, c2, c3⟩ := h1 _ b1 _ _ hy
        injection e' with e'
        injection e' with e1 e2
        rw [← e1, ← e2]
        exact ⟨c1, by omega, by rw [List.length_append, List.length_append]; show tk.2.1 + (s2.length + s3.length + 1) ≤ _; omega⟩
    · rw [if_neg c] at e'
      injection e' with e'
      injection e' with e1 e2
      rw [← e1, ← e2]
      exact ⟨a1, a2, a3⟩
theorem zAdv_nots {N : Nat} {lx : Nat → zTk} (hl : zLX N lx) {one : zTk → zFl ⊕ (zTk × List Int)} (h1 : zAdv N one) : ∀ r, zAdv N (zpNots lx one r) := by
  intro r
  induction r with
  | zero =>
    intro tk h tk' s e
    unfold zpNots at e
    by_cases c : tk.1 = 110
    · rw [if_pos c] at e
      exact absurd e (by simp)
    · rw [if_neg c] at e
      exact h1 _ h _ _ e
  | succ r ih =>
    intro tk h tk' s e
    unfold zpNots at e
    by_cases c : tk.1 = 110
    · rw [if_pos c] at e
      obtain ⟨b1, b2⟩ := zTO_nx hl h (by omega)
      cases hy : zpNots lx one r (lx tk.2.2.1) with
      | inl y => rw [hy] at e; exact absurd e (by simp)
      | inr y =>
        obtain ⟨tk3, s3⟩ := y
        rw [hy] at e
        obtain ⟨c1, c2, c3⟩ := ih _ b1 _ _ hy
        injection e with e
        injection e with e1 e2
        rw [← e1, ← e2]
        exact ⟨c1, by omega, by rw [List.length_append]; show tk.2.1 + (s3.length + 1) ≤ _; omega⟩
    · rw [if_neg c] at e
      exact h1 _ h _ _ e
theorem zAdv_expr {N : Nat} {lx : Nat → zTk} (hl : zLX N lx) : ∀ r, zAdv N (zpExpr lx r) := by
  intro r
  induction r with
  | zero =>
    intro tk h tk' s e
    unfold zpExpr at e
    exact absurd e (by simp)
  | succ r ih =>
    intro tk h tk' s e
    unfold zpExpr at e
    exact zAdv_row hl (by omega) (zAdv_row hl (by omega) (zAdv_nots hl (zAdv_test hl (zAdv_row hl (by omega) (zAdv_row hl (by omega) (zAdv_part hl ih)))) 6)) tk h tk' s e
