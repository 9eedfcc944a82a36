/-! PLAN, 2: the best plan, by trying all and by tables -/
def zNV : Int := 1000000000000000
def zmn (F : Nat → Int) (i : Nat) : Nat → Int
  | 0 => zNV
  | n + 1 => min (zmn F i n) (F (i + n))
def zW (p : Nat → Nat → Nat → Int) (N goal : Nat) : Nat → Nat → Int
  | 0, i => if i = goal then 0 else zNV
  | r + 1, i => zmn (fun j => if p r i j = -1 ∨ zW p N goal r j = zNV then zNV else max (p r i j) (zW p N goal r j)) i (N - i)
def zS (p : Nat → Nat → Nat → Int) (N goal : Nat) (B : Int) : Nat → Nat → Int
  | 0, i => if i = goal then 0 else zNV
  | r + 1, i => zmn (fun j => if p r i j = -1 ∨ B < p r i j ∨ zS p N goal B r j = zNV then zNV else p r i j + zS p N goal B r j) i (N - i)
def zfst (c : Nat → Bool) : Nat → Nat → Nat
  | 0, i => i
  | n + 1, i => if c i = true then i else zfst c n (i + 1)
def zgc (p : Nat → Nat → Nat → Int) (N goal : Nat) (B : Int) (r i j : Nat) : Bool := decide (¬ (p r i j = -1 ∨ B < p r i j ∨ zS p N goal B r j = zNV) ∧ p r i j + zS p N goal B r j = zS p N goal B (r + 1) i)
def zgr (p : Nat → Nat → Nat → Int) (N goal : Nat) (B : Int) : Nat → Nat → List Nat
  | 0, _ => []
  | r + 1, i => zfst (zgc p N goal B r i) (N - i) i :: zgr p N goal B r (zfst (zgc p N goal B r i) (N - i) i)
abbrev zC3 : Type := Int × Int × List Nat
abbrev zlt3 (b a : zC3) : Prop := b.1 < a.1 ∨ b.1 = a.1 ∧ b.2.1 < a.2.1
def zpick : Option zC3 → Option zC3 → Option zC3
  | none, b => b
  | some a, none => some a
  | some a, some b => if zlt3 b a then some b else some a
def zpk (F : Nat → Option zC3) (i : Nat) : Nat → Option zC3
  | 0 => none
  | n + 1 => zpick (zpk F i n) (F (i + n))
def zbe (p : Nat → Nat → Nat → Int) (N goal : Nat) : Nat → Nat → Int → Option zC3
  | 0, i, g => if i = goal then some (g, 0, []) else none
  | r + 1, i, g => zpk (fun j => if p r i j = -1 then none else (zbe p N goal r j (max g (p r i j))).map (fun x => (x.1, p r i j + x.2.1, j :: x.2.2))) i (N - i)
theorem zmn_is (F : Nat → Int) (i n : Nat) (hF : ∀ j, i ≤ j → j < i + n → F j ≤ zNV) : (∀ j, i ≤ j → j < i + n → zmn F i n ≤ F j) ∧ (zmn F i n = zNV ∨ ∃ j, i ≤ j ∧ j < i + n ∧ zmn F i n = F j) ∧ zmn F i n ≤ zNV := by
  induction n with
  | zero => exact ⟨fun j h1 h2 => by omega, Or.inl rfl, Int.le_refl _⟩
  | succ n ih =>
    obtain ⟨a1, a2, a3⟩ := ih (fun j h1 h2 => hF j h1 (by omega))
    have a4 := hF (i + n) (by omega) (by omega)
    show (∀ j, i ≤ j → j < i + (n + 1) → min (zmn F i n) (F (i + n)) ≤ F j) ∧ (min (zmn F i n) (F (i + n)) = zNV ∨ ∃ j, i ≤ j ∧ j < i + (n + 1) ∧ min (zmn F i n) (F (i + n)) = F j) ∧ min (zmn F i n) (F (i + n)) ≤ zNV
    refine ⟨?_, ?_, by omega⟩
    · intro j h1 h2
      by_cases c : j = i + n
      · subst c
        omega
      · have := a1 j h1 (by omega)
        omega
    · rcases Int.lt_or_le (F (i + n)) (zmn F i n) with c | c
      · exact Or.inr ⟨i + n, by omega, by omega, by omega⟩
      · rcases a2 with a2 | ⟨j, j1, j2, j3⟩
        · exact Or.inl (by omega)
        · exact Or.inr ⟨j, j1, by omega, by omega⟩
theorem zpk_none (F : Nat → Option zC3) (i n : Nat) (h : zpk F i n = none) : ∀ j, i ≤ j → j < i + n → F j = none := by
  induction n with
  | zero => intro j h1 h2; omega
  | succ n ih =>
    intro j h1 h2
    have h' : zpick (zpk F i n) (F (i + n)) = none := h
    cases e1 : zpk F i n with
    | none =>
      rw [e1] at h'
      have h'' : F (i + n) = none := h'
      by_cases c : j = i + n
      · rw [c]
        exact h''
      · exact ih e1 j h1 (by omega)
    | some a =>
      rw [e1] at h'
      cases e2 : F (i + n) with
      | none =>
        rw [e2] at h'
        exact absurd h' (by simp [zpick])
      | some b =>
        rw [e2] at h'
        simp only [zpick] at h'
        split at h' <;> exact absurd h' (by simp)
theorem zpk_some (F : Nat → Option zC3) (i n : Nat) : ∀ c, zpk F i n = some c → ∃ j0, i ≤ j0 ∧ j0 < i + n ∧ F j0 = some c ∧ (∀ j, i ≤ j → j < j0 → ∀ x, F j = some x → zlt3 c x) ∧ (∀ j, i ≤ j → j < i + n → ∀ x, F j = some x → ¬ zlt3 x c) := by
  induction n with
  | zero => intro c h; exact absurd h (by simp [zpk])
  | succ n ih =>
    intro c h
    have h' : zpick (zpk F i n) (F (i + n)) = some c := h
    cases e1 : zpk F i n with
    | none =>
      rw [e1] at h'
      have h'' : F (i + n) = some c := h'
      have hn := zpk_none F i n e1
      refine ⟨i + n, by omega, by omega, h'', ?_, ?_⟩
      · intro j h1 h2 x hx
        rw [hn j h1 h2] at hx
        exact absurd hx (by simp)
      · intro j h1 h2 x hx
        by_cases cj : j = i + n
        · rw [cj, h''] at hx
          injection hx with hx
          subst hx
          unfold zlt3
          omega
        · rw [hn j h1 (by omega)] at hx
          exact absurd hx (by simp)
    | some a =>
      rw [e1] at h'
      obtain ⟨j0, k1, k2, k3, k4, k5⟩ := ih a e1
      cases e2 : F (i + n) with
      | none =>
        rw [e2] at h'
        have ha : a = c := by simpa [zpick] using h'
        subst ha
        refine ⟨j0, k1, by omega, k3, k4, ?_⟩
        intro j h1 h2 x hx
        by_cases cj : j = i + n
        · rw [cj, e2] at hx
          exact absurd hx (by simp)
        · exact k5 j h1 (by omega) x hx
      | some b =>
        rw [e2] at h'
        simp only [zpick] at h'
        by_cases hl : zlt3 b a
        · rw [if_pos hl] at h'
          injection h' with h'
          subst h'
          refine ⟨i + n, by omega, by omega, e2, ?_, ?_⟩
          · intro j h1 h2 x hx
            have := k5 j h1 h2 x hx
            unfold zlt3 at *
            omega
          · intro j h1 h2 x hx
            by_cases cj : j = i + n
            · rw [cj, e2] at hx
              injection hx with hx
              subst hx
              unfold zlt3
              omega
            · have := k5 j h1 (by omega) x hx
              unfold zlt3 at *
              omega
        · rw [if_neg hl] at h'
          injection h' with h'
          subst h'
          refine ⟨j0, k1, by omega, k3, k4, ?_⟩
          intro j h1 h2 x hx
          by_cases cj : j = i + n
          · rw [cj, e2] at hx
            injection hx with hx
            subst hx
            exact hl
          · exact k5 j h1 (by omega) x hx
theorem zfst_is (c : Nat → Bool) (n : Nat) : ∀ i, (∃ j, i ≤ j ∧ j < i + n ∧ c j = true) → i ≤ zfst c n i ∧ zfst c n i < i + n ∧ c (zfst c n i) = true ∧ ∀ j, i ≤ j → j < zfst c n i → c j = false := by
  induction n with
  | zero =>
    intro i h
    obtain ⟨j, h1, h2, _⟩ := h
    omega
  | succ n ih =>
    intro i h
    unfold zfst
    by_cases ci : c i = true
    · rw [if_pos ci]
      exact ⟨Nat.le_refl _, by omega, ci, fun j h1 h2 => by omega⟩
    · rw [if_neg ci]
      obtain ⟨j, h1, h2, h3⟩ := h
      have hj : i + 1 ≤ j := by
        rcases Nat.lt_or_ge i j with g | g
        · exact g
        · have : i = j := by omega
          subst this
          exact absurd h3 ci
      obtain ⟨q1, q2, q3, q4⟩ := ih (i + 1) ⟨j, hj, by omega, h3⟩
      refine ⟨by omega, by omega, q3, ?_⟩
      intro k k1 k2
      by_cases ck : k = i
      · subst ck
        exact Bool.eq_false_iff.mpr ci
      · exact q4 k (by omega) k2
/-- presses as they may be -/
def zpok (p : Nat → Nat → Nat → Int) : Prop := ∀ r i j, p r i j = -1 ∨ 0 ≤ p r i j ∧ p r i j ≤ 1000000000
theorem zW_r {p : Nat → Nat → Nat → Int} (hp : zpok p) (N goal : Nat) : ∀ r i, zW p N goal r i = zNV ∨ 0 ≤ zW p N goal r i ∧ zW p N goal r i ≤ 1000000000 := by
  have hN : zNV = 1000000000000000 := rfl
  intro r
  induction r with
  | zero =>
    intro i
    unfold zW
    split
    · exact Or.inr (by omega)
    · exact Or.inl rfl
  | succ r ih =>
    intro i
    show zmn _ i (N - i) = zNV ∨ 0 ≤ zmn _ i (N - i) ∧ zmn _ i (N - i) ≤ 1000000000
    obtain ⟨a1, a2, a3⟩ := zmn_is (fun j => if p r i j = -1 ∨ zW p N goal r j = zNV then zNV else max (p r i j) (zW p N goal r j)) i (N - i) (by
      intro j _ _
      have h1 := hp r i j
      have h2 := ih j
      by_cases c : p r i j = -1 ∨ zW p N goal r j = zNV
      · exact Int.le_of_eq (if_pos c)
      · refine Int.le_trans (Int.le_of_eq (if_neg c)) ?_
        omega)
    rcases a2 with a2 | ⟨j, j1, j2, j3⟩
    · exact Or.inl a2
    · have h1 := hp r i j
      have h2 := ih j
      by_cases c : p r i j = -1 ∨ zW p N goal r j = zNV
      · exact Or.inl (j3.trans (if_pos c))
      · have e := j3.trans (if_neg c)
        rw [e]
        exact Or.inr (by omega)
theorem zS_r {p : Nat → Nat → Nat → Int} (hp : zpok p) (N goal : Nat) (B : Int) : ∀ r, r ≤ 5 → ∀ i, zS p N goal B r i = zNV ∨ 0 ≤ zS p N goal B r i ∧ zS p N goal B r i ≤ 1000000000 * r := by
  have hN : zNV = 1000000000000000 := rfl
  intro r
  induction r with
  | zero =>
    intro _ i
    unfold zS
    split
    · exact Or.inr (by omega)
    · exact Or.inl rfl
  | succ r ih =>
    intro h5 i
    show zmn _ i (N - i) = zNV ∨ 0 ≤ zmn _ i (N - i) ∧ zmn _ i (N - i) ≤ 1000000000 * ((r + 1 : Nat) : Int)
    obtain ⟨a1, a2, a3⟩ := zmn_is (fun j => if p r i j = -1 ∨ B < p r i j ∨ zS p N goal B r j = zNV then zNV else p r i j + zS p N goal B r j) i (N - i) (by
      intro j _ _
      have h1 := hp r i j
      have h2 := ih (by omega) j
      by_cases c : p r i j = -1 ∨ B < p r i j ∨ zS p N goal B r j = zNV
      · exact Int.le_of_eq (if_pos c)
      · refine Int.le_trans (Int.le_of_eq (if_neg c)) ?_
        omega)
    rcases a2 with a2 | ⟨j, j1, j2, j3⟩
    · exact Or.inl a2
    · have h1 := hp r i j
      have h2 := ih (by omega) j
      by_cases c : p r i j = -1 ∨ B < p r i j ∨ zS p N goal B r j = zNV
      · exact Or.inl (j3.trans (if_pos c))
      · have e := j3.trans (if_neg c)
        rw [e]
        exact Or.inr (by omega)
/-- what a step of the tables says -/
theorem zW_step {p : Nat → Nat → Nat → Int} (hp : zpok p) (N goal r i : Nat) (hi : i ≤ N) : (∀ j, i ≤ j → j < N → p r i j ≠ -1 → zW p N goal r j ≠ zNV → zW p N goal (r + 1) i ≤ max (p r i j) (zW p N goal r j)) ∧ (zW p N goal (r + 1) i = zNV ∨ ∃ j, i ≤ j ∧ j < N ∧ p r i j ≠ -1 ∧ zW p N goal r j ≠ zNV ∧ zW p N goal (r + 1) i = max (p r i j) (zW p N goal r j)) := by
  have hN : zNV = 1000000000000000 := rfl
  obtain ⟨a1, a2, a3⟩ := zmn_is (fun j => if p r i j = -1 ∨ zW p N goal r j = zNV then zNV else max (p r i j) (zW p N goal r j)) i (N - i) (by
    intro j _ _
    have h1 := hp r i j
    have h2 := zW_r hp N goal r j
    by_cases c : p r i j = -1 ∨ zW p N goal r j = zNV
    · exact Int.le_of_eq (if_pos c)
    · refine Int.le_trans (Int.le_of_eq (if_neg c)) ?_
      omega)
  refine ⟨?_, ?_⟩
  · intro j j1 j2 j3 j4
    have e : zmn (fun j => if p r i j = -1 ∨ zW p N goal r j = zNV then zNV else max (p r i j) (zW p N goal r j)) i (N - i) ≤ (if p r i j = -1 ∨ zW p N goal r j = zNV then zNV else max (p r i j) (zW p N goal r j)) := a1 j j1 (by omega)
    rw [if_neg (by omega)] at e
    exact e
  · rcases a2 with a2 | ⟨j, j1, j2, j3⟩
    · exact Or.inl a2
    · by_cases c : p r i j = -1 ∨ zW p N goal r j = zNV
      · refine Or.inl (j3.trans ?_)
        show (if _ then _ else _) = _
        rw [if_pos c]
      · refine Or.inr ⟨j, j1, by omega, by omega, by omega, j3.trans ?_⟩
        show (if _ then _ else _) = _
        rw [if_neg c]
theorem zS_step {p : Nat → Nat → Nat → Int} (hp : zpok p) (N goal : Nat) (B : Int) (r i : Nat) (h5 : r ≤ 5) (hi : i ≤ N) : (∀ j, i ≤ j → j < N → p r i j ≠ -1 → p r i j ≤ B → zS p N goal B r j ≠ zNV → zS p N goal B (r + 1) i ≤ p r i j + zS p N goal B r j) ∧ (zS p N goal B (r + 1) i = zNV ∨ ∃ j, i ≤ j ∧ j < N ∧ p r i j ≠ -1 ∧ p r i j ≤ B ∧ zS p N goal B r j ≠ zNV ∧ zS p N goal B (r + 1) i = p r i j + zS p N goal B r j) := by
  have hN : zNV = 1000000000000000 := rfl
  obtain ⟨a1, a2, a3⟩ := zmn_is (fun j => if p r i j = -1 ∨ B < p r i j ∨ zS p N goal B r j = zNV then zNV else p r i j + zS p N goal B r j) i (N - i) (by
    intro j _ _
    have h1 := hp r i j
    have h2 := zS_r hp N goal B r h5 j
    by_cases c : p r i j = -1 ∨ B < p r i j ∨ zS p N goal B r j = zNV
    · exact Int.le_of_eq (if_pos c)
    · refine Int.le_trans (Int.le_of_eq (if_neg c)) ?_
      omega)
  refine ⟨?_, ?_⟩
  · intro j j1 j2 j3 j4 j5
    have e : zmn (fun j => if p r i j = -1 ∨ B < p r i j ∨ zS p N goal B r j = zNV then zNV else p r i j + zS p N goal B r j) i (N - i) ≤ (if p r i j = -1 ∨ B < p r i j ∨ zS p N goal B r j = zNV then zNV else p r i j + zS p N goal B r j) := a1 j j1 (by omega)
    rw [if_neg (by omega)] at e
    exact e
  · rcases a2 with a2 | ⟨j, j1, j2, j3⟩
    · exact Or.inl a2
    · by_cases c : p r i j = -1 ∨ B < p r i j ∨ zS p N goal B r j = zNV
      · refine Or.inl (j3.trans ?_)
        show (if _ then _ else _) = _
        rw [if_pos c]
      · refine Or.inr ⟨j, j1, by omega, by omega, by omega, by omega, j3.trans ?_⟩
        show (if _ then _ else _) = _
        rw [if_neg c]
theorem zWS {p : Nat → Nat → Nat → Int} (hp : zpok p) (N goal : Nat) {B : Int} (hB : B ≤ 1000000000) : ∀ r, r ≤ 5 → ∀ i, i ≤ N → (zS p N goal B r i ≠ zNV → zW p N goal r i ≠ zNV ∧ (zW p N goal r i ≤ max 0 B)) ∧ (zW p N goal r i ≠ zNV → zW p N goal r i ≤ B → zS p N goal B r i ≠ zNV) := by
  have hN : zNV = 1000000000000000 := rfl
  intro r
  induction r with
  | zero =>
    intro _ i _
    unfold zS zW
    by_cases c : i = goal
    · rw [if_pos c]
      exact ⟨fun _ => ⟨by omega, by omega⟩, fun _ _ => by omega⟩
    · rw [if_neg c]
      exact ⟨fun g => absurd rfl g, fun g => absurd rfl g⟩
  | succ r ih =>
    intro h5 i hi
    obtain ⟨w1, w2⟩ := zW_step hp N goal r i hi
    obtain ⟨s1, s2⟩ := zS_step hp N goal B r i (by omega) hi
    refine ⟨fun g => ?_, fun g1 g2 => ?_⟩
    · rcases s2 with s2 | ⟨j, j1, j2, j3, j4, j5, j6⟩
      · exact absurd s2 g
      · obtain ⟨a1, a2⟩ := (ih (by omega) j (by omega)).1 j5
        have := w1 j j1 j2 j3 a1
        have hr := hp r i j
        omega
    · rcases w2 with w2 | ⟨j, j1, j2, j3, j4, j5⟩
      · exact absurd w2 g1
      · have a1 := (ih (by omega) j (by omega)).2 j4 (by omega)
        have := s1 j j1 j2 j3 (by omega) a1
        have hr := hp r i j
        have hs := zS_r hp N goal B r (by omega) j
        omega
/-- the best that is found by trying is what the tables say -/
theorem zbe_is {p : Nat → Nat → Nat → Int} (hp : zpok p) (N goal : Nat) : ∀ r, r ≤ 5 → ∀ i, i ≤ N → ∀ g : Int, 0 ≤ g → g ≤ 1000000000 → (zW p N goal r i = zNV → zbe p N goal r i g = none) ∧ (zW p N goal r i ≠ zNV → zbe p N goal r i g = some (max g (zW p N goal r i), zS p N goal (max g (zW p N goal r i)) r i, zgr p N goal (max g (zW p N goal r i)) r i)) := by
  have hN : zNV = 1000000000000000 := rfl
  intro r
  induction r with
  | zero =>
    intro _ i _ g g0 g1
    unfold zW zbe zS zgr
    by_cases c : i = goal
    · rw [if_pos c, if_pos c]
      refine ⟨fun h => absurd h (by omega), fun _ => ?_⟩
      rw [show max g 0 = g by omega]
    · rw [if_neg c, if_neg c]
      exact ⟨fun _ => rfl, fun h => absurd rfl h⟩
  | succ r ih =>
    intro h5 i hi g g0 g1
    obtain ⟨w1, w2⟩ := zW_step hp N goal r i hi
    have hF : ∀ j, i ≤ j → j < N → (if p r i j = -1 then none else (zbe p N goal r j (max g (p r i j))).map (fun x => ((x.1, p r i j + x.2.1, j :: x.2.2) : zC3))) = if p r i j = -1 ∨ zW p N goal r j = zNV then none else some (max g (max (p r i j) (zW p N goal r j)), p r i j + zS p N goal (max g (max (p r i j) (zW p N goal r j))) r j, j :: zgr p N goal (max g (max (p r i j) (zW p N goal r j))) r j) := by
      intro j j1 j2
      have hr := hp r i j
      by_cases c : p r i j = -1
      · rw [if_pos c, if_pos (Or.inl c)]
      · rw [if_neg c]
        obtain ⟨b1, b2⟩ := ih (by omega) j (by omega) (max g (p r i j)) (by omega) (by omega)
        by_cases c2 : zW p N goal r j = zNV
        · rw [if_pos (Or.inr c2), b1 c2]
          rfl
        · rw [if_neg (by omega), b2 c2, show max (max g (p r i j)) (zW p N goal r j) = max g (max (p r i j) (zW p N goal r j)) by omega]
          rfl
    refine ⟨fun h => ?_, fun h => ?_⟩
    · show zpk _ i (N - i) = none
      cases e : zpk (fun j => if p r i j = -1 then none else (zbe p N goal r j (max g (p r i j))).map (fun x => ((x.1, p r i j + x.2.1, j :: x.2.2) : zC3))) i (N - i) with
      | none => rfl
      | some c =>
        obtain ⟨j0, j1, j2, j3, _, _⟩ := zpk_some _ _ _ c e
        have j3' : (if p r i j0 = -1 then none else (zbe p N goal r j0 (max g (p r i j0))).map (fun x => ((x.1, p r i j0 + x.2.1, j0 :: x.2.2) : zC3))) = some c := j3
        rw [hF j0 j1 (by omega)] at j3'
        by_cases c1 : p r i j0 = -1 ∨ zW p N goal r j0 = zNV
        · rw [if_pos c1] at j3'
          exact absurd j3' (by simp)
        · have := w1 j0 j1 (by omega) (by omega) (by omega)
          have hr := hp r i j0
          have hw := zW_r hp N goal r j0
          omega
    · show zpk _ i (N - i) = _
      rcases w2 with w2 | ⟨ja, ja1, ja2, ja3, ja4, ja5⟩
      · exact absurd w2 h
      cases e : zpk (fun j => if p r i j = -1 then none else (zbe p N goal r j (max g (p r i j))).map (fun x => ((x.1, p r i j + x.2.1, j :: x.2.2) : zC3))) i (N - i) with
      | none =>
        have hn : (if p r i ja = -1 then none else (zbe p N goal r ja (max g (p r i ja))).map (fun x => ((x.1, p r i ja + x.2.1, ja :: x.2.2) : zC3))) = none := zpk_none _ _ _ e ja ja1 (by omega)
        rw [hF ja ja1 ja2, if_neg (by omega)] at hn
        exact absurd hn (by simp)
      | some c =>
        obtain ⟨j0, j1, j2, j3, j4, j5⟩ := zpk_some _ _ _ c e
        have j3' : (if p r i j0 = -1 then none else (zbe p N goal r j0 (max g (p r i j0))).map (fun x => ((x.1, p r i j0 + x.2.1, j0 :: x.2.2) : zC3))) = some c := j3
        have j4' : ∀ j, i ≤ j → j < j0 → ∀ x, (if p r i j = -1 then none else (zbe p N goal r j (max g (p r i j))).map (fun x => ((x.1, p r i j + x.2.1, j :: x.2.2) : zC3))) = some x → zlt3 c x := j4
        have j5' : ∀ j, i ≤ j → j < i + (N - i) → ∀ x, (if p r i j = -1 then none else (zbe p N goal r j (max g (p r i j))).map (fun x => ((x.1, p r i j + x.2.1, j :: x.2.2) : zC3))) = some x → ¬ zlt3 x c := j5
        rw [hF j0 j1 (by omega)] at j3'
        have c1 : ¬ (p r i j0 = -1 ∨ zW p N goal r j0 = zNV) := by
          intro c1
          rw [if_pos c1] at j3'
          exact absurd j3' (by simp)
        rw [if_neg c1] at j3'
        injection j3' with j3'
        have hr := hp r i j0
        have hw := zW_r hp N goal r j0
        -- the greatest press of the best is the table's
        have ea := j5' ja ja1 (by omega) _ (by rw [hF ja ja1 ja2, if_neg (by omega)])
        have e0 := w1 j0 j1 (by omega) (by omega) (by omega)
        have hra := hp r i ja
        have hwa := zW_r hp N goal r ja
        have eG : max g (max (p r i j0) (zW p N goal r j0)) = max g (zW p N goal (r + 1) i) := by
          rw [← j3'] at ea
          unfold zlt3 at ea
          simp only [] at ea
          omega
        obtain ⟨G, hG⟩ : ∃ G, G = max g (zW p N goal (r + 1) i) := ⟨_, rfl⟩
        rw [eG, ← hG] at j3'
        rw [← hG] at eG ⊢
        have hGB : G ≤ 1000000000 := by omega
        have sj0 := (zWS hp N goal hGB r (by omega) j0 (by omega)).2 (by omega) (by omega)
        have s1 := (zS_step hp N goal G r i (by omega) hi).1
        have sle := s1 j0 j1 (by omega) (by omega) (by omega) sj0
        have sr0 := zS_r hp N goal G r (by omega) j0
        -- any other step that is in the bound has the same greatest
        have oth : ∀ j, i ≤ j → j < N → p r i j ≠ -1 → p r i j ≤ G → zS p N goal G r j ≠ zNV → (if p r i j = -1 ∨ zW p N goal r j = zNV then none else some ((max g (max (p r i j) (zW p N goal r j)), p r i j + zS p N goal (max g (max (p r i j) (zW p N goal r j))) r j, j :: zgr p N goal (max g (max (p r i j) (zW p N goal r j))) r j) : zC3)) = some (G, p r i j + zS p N goal G r j, j :: zgr p N goal G r j) := by
          intro j k1 k2 k3 k4 k5
          obtain ⟨b1, b2⟩ := (zWS hp N goal hGB r (by omega) j (by omega)).1 k5
          have b3 := w1 j k1 k2 k3 b1
          have hrj := hp r i j
          rw [if_neg (by omega), show max g (max (p r i j) (zW p N goal r j)) = G by omega]
        have smin : zS p N goal G (r + 1) i = p r i j0 + zS p N goal G r j0 := by
          rcases (zS_step hp N goal G r i (by omega) hi).2 with s2 | ⟨j, k1, k2, k3, k4, k5, k6⟩
          · omega
          · have o := j5' j k1 (by omega) _ (by rw [hF j k1 k2, oth j k1 k2 k3 k4 k5])
            rw [← j3'] at o
            have o' : ¬ (p r i j + zS p N goal G r j < p r i j0 + zS p N goal G r j0) := fun x => o (Or.inr ⟨rfl, x⟩)
            omega
        have hgc0 : zgc p N goal G r i j0 = true := by
          unfold zgc
          rw [decide_eq_true_iff]
          exact ⟨by omega, by omega⟩
        obtain ⟨f1, f2, f3, f4⟩ := zfst_is (zgc p N goal G r i) (N - i) i ⟨j0, j1, by omega, hgc0⟩
        have ef : zfst (zgc p N goal G r i) (N - i) i = j0 := by
          rcases Nat.lt_trichotomy (zfst (zgc p N goal G r i) (N - i) i) j0 with c2 | c2 | c2
          · exfalso
            generalize zfst (zgc p N goal G r i) (N - i) i = j at *
            unfold zgc at f3
            rw [decide_eq_true_iff] at f3
            have o := j4' j f1 c2 _ (by rw [hF j f1 (by omega), oth j f1 (by omega) (by omega) (by omega) (by omega)])
            rw [← j3'] at o
            have o' : p r i j0 + zS p N goal G r j0 < p r i j + zS p N goal G r j := o.elim (fun x => absurd x (Int.lt_irrefl G)) (fun x => x.2)
            omega
          · exact c2
          · have := f4 j0 j1 c2
            rw [hgc0] at this
            exact absurd this (by decide)
        rw [← j3', smin]
        show some _ = some (G, _, zfst (zgc p N goal G r i) (N - i) i :: zgr p N goal G r (zfst (zgc p N goal G r i) (N - i) i))
        rw [ef]
