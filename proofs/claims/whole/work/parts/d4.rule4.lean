/-! RULES, 7: the tokens of a text -/
def zbln (v : Int) : Bool := decide (v = 32 ∨ v = 10)
def zltr (v : Int) : Bool := decide (97 ≤ v ∧ v ≤ 122)
def zdgt (v : Int) : Bool := decide (48 ≤ v ∧ v ≤ 57)
def zsgb (v : Int) : Bool := decide (v = 40 ∨ v = 41 ∨ v = 42 ∨ v = 43 ∨ v = 45 ∨ v = 47 ∨ v = 59 ∨ v = 60 ∨ v = 61)
def zscn (p : Int → Bool) (F : Nat → Int) (N : Nat) : Nat → Nat → Nat
  | 0, i => i
  | k + 1, i => if i < N ∧ p (F i) = true then zscn p F N k (i + 1) else i
def zsc (p : Int → Bool) (F : Nat → Int) (N i : Nat) : Nat := zscn p F N (N - i) i
theorem zsc_go {p : Int → Bool} {F : Nat → Int} {N i : Nat} (h1 : i < N) (h2 : p (F i) = true) : zsc p F N i = zsc p F N (i + 1) := by
  unfold zsc
  rw [show N - i = (N - (i + 1)) + 1 by omega]
  show (if i < N ∧ p (F i) = true then zscn p F N (N - (i + 1)) (i + 1) else i) = _
  rw [if_pos ⟨h1, h2⟩]
theorem zsc_no {p : Int → Bool} {F : Nat → Int} {N i : Nat} (h : ¬ (i < N ∧ p (F i) = true)) : zsc p F N i = i := by
  unfold zsc
  cases N - i with
  | zero => rfl
  | succ k =>
    show (if i < N ∧ p (F i) = true then zscn p F N k (i + 1) else i) = _
    rw [if_neg h]
/-- where a walk ends -/
theorem zsc_is {p : Int → Bool} {F : Nat → Int} {N : Nat} (k : Nat) : ∀ i, N - i = k → i ≤ zsc p F N i ∧ (i ≤ N → zsc p F N i ≤ N) ∧ (∀ j, i ≤ j → j < zsc p F N i → p (F j) = true) ∧ ¬ (zsc p F N i < N ∧ p (F (zsc p F N i)) = true) := by
  induction k with
  | zero =>
    intro i h
    have e : zsc p F N i = i := zsc_no (by omega)
    rw [e]
    exact ⟨Nat.le_refl _, fun x => x, fun j h1 h2 => by omega, by omega⟩
  | succ k ih =>
    intro i h
    by_cases c : i < N ∧ p (F i) = true
    · rw [zsc_go c.1 c.2]
      obtain ⟨a1, a2, a3, a4⟩ := ih (i + 1) (by omega)
      refine ⟨by omega, fun _ => a2 (by omega), fun j h1 h2 => ?_, a4⟩
      by_cases e : j = i
      · rw [e]; exact c.2
      · exact a3 j (by omega) h2
    · rw [zsc_no c]
      exact ⟨Nat.le_refl _, fun x => x, fun j h1 h2 => by omega, c⟩
theorem zsc_f {p : Int → Bool} {F : Nat → Int} {N : Nat} (i : Nat) : i ≤ zsc p F N i ∧ (i ≤ N → zsc p F N i ≤ N) ∧ (∀ j, i ≤ j → j < zsc p F N i → p (F j) = true) ∧ ¬ (zsc p F N i < N ∧ p (F (zsc p F N i)) = true) := zsc_is (N - i) i rfl
def zls (F : Nat → Int) (a : Nat) : Nat → List Int
  | 0 => []
  | k + 1 => zls F a k ++ [F (a + k)]
def znm (F : Nat → Int) (a : Nat) : Nat → Int
  | 0 => 0
  | k + 1 => znm F a k * 10 + F (a + k) - 48
/-- the words, as the class numbers them from 100 on -/
def zwtab : List (List Int) := [[103, 97, 112], [105, 110], [111, 117, 116], [112, 114, 101, 115, 115], [103, 97, 117, 103, 101], [97, 105, 109], [116, 105, 99, 107], [119, 101, 97, 114], [112, 117, 108, 108], [104, 97, 114, 100], [110, 111, 116], [97, 110, 100], [111, 114], [117, 110, 108, 101, 115, 115], [115, 116, 97, 110, 100], [108, 97, 116, 101], [100, 114, 105, 102, 116], [116, 101, 97, 114], [108, 111, 111, 112]]
def zwfd : List (List Int) → List Int → Int → Int
  | [], _, k => k
  | w :: r, l, k => if w = l then k else zwfd r l (k + 1)
def zwd (l : List Int) : Int := zwfd zwtab l 100
theorem zwfd_r (t : List (List Int)) (l : List Int) : ∀ k, k ≤ zwfd t l k ∧ zwfd t l k ≤ k + t.length := by
  induction t with
  | nil => intro k; exact ⟨Int.le_refl _, by show k ≤ k + ((0 : Nat) : Int); omega⟩
  | cons w t ih =>
    intro k
    have := ih (k + 1)
    show k ≤ (if w = l then k else zwfd t l (k + 1)) ∧ (if w = l then k else zwfd t l (k + 1)) ≤ k + ((t.length + 1 : Nat) : Int)
    split <;> omega
theorem zwd_r (l : List Int) : 100 ≤ zwd l ∧ zwd l ≤ 119 := by
  have := zwfd_r zwtab l 100
  have e : (zwtab.length : Int) = 19 := rfl
  unfold zwd
  omega
/-- the token at a place that is no blank -/
def ztk (F : Nat → Int) (N a : Nat) : zTk :=
  if a < N then
    if zltr (F a) = true then (zwd (zls F a (zsc zltr F N a - a)), a, zsc zltr F N a, 0, 0)
    else if zdgt (F a) = true then (2, a, zsc zdgt F N a, znm F a (min 5 (zsc zdgt F N a - a)), zsc zdgt F N a - a)
    else if zsgb (F a) = true then (F a, a, a + 1, 0, 0) else (1, a, a + 1, 0, 0)
  else (0, a, a, 0, 0)
def zlx (F : Nat → Int) (N e : Nat) : zTk := ztk F N (zsc zbln F N e)
theorem znm_r {F : Nat → Int} {a : Nat} : ∀ k, k ≤ 5 → (∀ j, j < k → zdgt (F (a + j)) = true) → 0 ≤ znm F a k ∧ znm F a k < 10 ^ k := by
  intro k
  induction k with
  | zero => intro _ _; exact ⟨Int.le_refl _, by show (0 : Int) < 1; omega⟩
  | succ k ih =>
    intro hk h
    have a1 := ih (by omega) (fun j hj => h j (by omega))
    have a2 := h k (by omega)
    unfold zdgt at a2
    have a3 : 48 ≤ F (a + k) ∧ F (a + k) ≤ 57 := by simpa using a2
    show 0 ≤ znm F a k * 10 + F (a + k) - 48 ∧ znm F a k * 10 + F (a + k) - 48 < 10 ^ (k + 1)
    rw [Int.pow_succ]
    omega
theorem zsgb_is {v : Int} : zsgb v = true ↔ zsgn v := by
  unfold zsgb zsgn
  rw [decide_eq_true_iff]
theorem ztk_ok (F : Nat → Int) (N a : Nat) (h : a ≤ N) : zTO N (ztk F N a) ∧ (ztk F N a).2.1 = a := by
  unfold ztk
  by_cases c : a < N
  · rw [if_pos c]
    by_cases c1 : zltr (F a) = true
    · rw [if_pos c1]
      obtain ⟨s1, s2, s3, s4⟩ := zsc_f (p := zltr) (F := F) (N := N) a
      have := zwd_r (zls F a (zsc zltr F N a - a))
      have hlt : a < zsc zltr F N a := by
        rw [zsc_go c c1]
        have := (zsc_f (p := zltr) (F := F) (N := N) (a + 1)).1
        omega
      refine ⟨⟨h, Or.inr ⟨?_, hlt, s2 h⟩, ?_, ?_⟩, rfl⟩
      · show zwd _ ≠ 0
        omega
      · exact Or.inr (Or.inr (Or.inr (Or.inr this)))
      · intro e
        have e' : zwd (zls F a (zsc zltr F N a - a)) = 2 := e
        omega
    · rw [if_neg c1]
      by_cases c2 : zdgt (F a) = true
      · rw [if_pos c2]
        obtain ⟨s1, s2, s3, s4⟩ := zsc_f (p := zdgt) (F := F) (N := N) a
        have hlt : a < zsc zdgt F N a := by
          rw [zsc_go c c2]
          have := (zsc_f (p := zdgt) (F := F) (N := N) (a + 1)).1
          omega
        have hn := znm_r (F := F) (a := a) (min 5 (zsc zdgt F N a - a)) (by omega) (fun j hj => s3 (a + j) (by omega) (by omega))
        have hp : (10 : Int) ^ min 5 (zsc zdgt F N a - a) ≤ 10 ^ 5 := by
          have : (10 : Nat) ^ min 5 (zsc zdgt F N a - a) ≤ 10 ^ 5 := Nat.pow_le_pow_right (by omega) (by omega)
          exact_mod_cast this
        have e5 : (10 : Int) ^ 5 = 100000 := by decide
        refine ⟨⟨h, Or.inr ⟨by show (2 : Int) ≠ 0; omega, hlt, s2 h⟩, Or.inr (Or.inr (Or.inl rfl)), fun _ => ⟨rfl, hn.1, ?_⟩⟩, rfl⟩
        show znm F a (min 5 (zsc zdgt F N a - a)) ≤ 99999
        omega
      · rw [if_neg c2]
        by_cases c3 : zsgb (F a) = true
        · rw [if_pos c3]
          have hs := zsgb_is.mp c3
          refine ⟨⟨h, Or.inr ⟨?_, by show a < a + 1; omega, by show a + 1 ≤ N; omega⟩, Or.inr (Or.inr (Or.inr (Or.inl hs))), ?_⟩, rfl⟩
          · show F a ≠ 0
            unfold zsgn at hs
            omega
          · intro e
            have e' : F a = 2 := e
            unfold zsgn at hs
            omega
        · rw [if_neg c3]
          exact ⟨⟨h, Or.inr ⟨by show (1 : Int) ≠ 0; omega, by show a < a + 1; omega, by show a + 1 ≤ N; omega⟩, Or.inr (Or.inl rfl), fun e => by have e' : (1 : Int) = 2 := e; omega⟩, rfl⟩
  · rw [if_neg c]
    exact ⟨⟨h, Or.inl ⟨rfl, rfl⟩, Or.inl rfl, fun e => by have e' : (0 : Int) = 2 := e; omega⟩, rfl⟩
theorem zlx_ok (F : Nat → Int) (N : Nat) : zLX N (zlx F N) := by
  intro e h
  obtain ⟨s1, s2, s3, s4⟩ := zsc_f (p := zbln) (F := F) (N := N) e
  obtain ⟨a1, a2⟩ := ztk_ok F N (zsc zbln F N e) (s2 h)
  unfold zlx
  exact ⟨a1, by rw [a2]; exact s1⟩
