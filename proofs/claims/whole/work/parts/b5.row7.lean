/-! ROW, 7: rows as lists: an order and whether a change comes ahead of it -/
abbrev zPl2 : Type := List (Nat × Nat)
def zws : zPl2 → Nat → Nat
  | [], S => S
  | x :: r, S => zws r (S + 2 ^ x.1)
def zwl : zPl2 → Nat → Nat
  | [], l => l
  | x :: r, _ => zwl r x.1
def zwc : zPl2 → Nat → Nat
  | [], c => c
  | x :: r, c => zwc r (c + x.2)
def zwok (n : Nat) : zPl2 → Nat → Prop
  | [], _ => True
  | x :: r, S => x.1 < n ∧ zbt2 S x.1 = 0 ∧ x.2 < 2 ∧ zwok n r (S + 2 ^ x.1)
def zcoin (I : Nat → Nat → Int32) (n : Nat) : zPl2 → Nat → Nat → Nat → Int
  | [], _, _, _ => 0
  | x :: r, S, l, c => zoc I n S l x.1 x.2 c + zcoin I n r (S + 2 ^ x.1) x.1 (c + x.2)
def zkeyl (I : Nat → Nat → Int32) (n : Nat) : zPl2 → Nat → Nat → Nat → Int
  | [], _, _, _ => 0
  | x :: r, S, l, c => zkst I n S l x.1 x.2 c + zkeyl I n r (S + 2 ^ x.1) x.1 (c + x.2)
theorem zws_a (a b : zPl2) : ∀ S, zws (a ++ b) S = zws b (zws a S) := by
  induction a with
  | nil => intro S; rfl
  | cons x a ih => intro S; exact ih _
theorem zwl_a (a b : zPl2) : ∀ l, zwl (a ++ b) l = zwl b (zwl a l) := by
  induction a with
  | nil => intro l; rfl
  | cons x a ih => intro l; exact ih _
theorem zwc_a (a b : zPl2) : ∀ c, zwc (a ++ b) c = zwc b (zwc a c) := by
  induction a with
  | nil => intro c; rfl
  | cons x a ih => intro c; exact ih _
theorem zwok_a (n : Nat) (a b : zPl2) : ∀ S, zwok n (a ++ b) S ↔ zwok n a S ∧ zwok n b (zws a S) := by
  induction a with
  | nil => intro S; exact ⟨fun h => ⟨trivial, h⟩, fun h => h.2⟩
  | cons x a ih =>
    intro S
    constructor
    · rintro ⟨h1, h2, h3, h4⟩
      have := (ih _).mp h4
      exact ⟨⟨h1, h2, h3, this.1⟩, this.2⟩
    · rintro ⟨⟨h1, h2, h3, h4⟩, h5⟩
      exact ⟨h1, h2, h3, (ih _).mpr ⟨h4, h5⟩⟩
theorem zcoin_a (I : Nat → Nat → Int32) (n : Nat) (a b : zPl2) : ∀ S l c, zcoin I n (a ++ b) S l c = zcoin I n a S l c + zcoin I n b (zws a S) (zwl a l) (zwc a c) := by
  induction a with
  | nil =>
    intro S l c
    show zcoin I n b S l c = 0 + zcoin I n b S l c
    omega
  | cons x a ih =>
    intro S l c
    show zoc I n S l x.1 x.2 c + zcoin I n (a ++ b) (S + 2 ^ x.1) x.1 (c + x.2) = zoc I n S l x.1 x.2 c + zcoin I n a (S + 2 ^ x.1) x.1 (c + x.2) + _
    rw [ih]
    show _ = _ + zcoin I n b (zws a (S + 2 ^ x.1)) (zwl a x.1) (zwc a (c + x.2))
    omega
theorem zkeyl_a (I : Nat → Nat → Int32) (n : Nat) (a b : zPl2) : ∀ S l c, zkeyl I n (a ++ b) S l c = zkeyl I n a S l c + zkeyl I n b (zws a S) (zwl a l) (zwc a c) := by
  induction a with
  | nil =>
    intro S l c
    show zkeyl I n b S l c = 0 + zkeyl I n b S l c
    omega
  | cons x a ih =>
    intro S l c
    show zkst I n S l x.1 x.2 c + zkeyl I n (a ++ b) (S + 2 ^ x.1) x.1 (c + x.2) = zkst I n S l x.1 x.2 c + zkeyl I n a (S + 2 ^ x.1) x.1 (c + x.2) + _
    rw [ih]
    show _ = _ + zkeyl I n b (zws a (S + 2 ^ x.1)) (zwl a x.1) (zwc a (c + x.2))
    omega
theorem zwc_ge (a : zPl2) : ∀ c, c ≤ zwc a c := by
  induction a with
  | nil => intro c; exact Nat.le_refl _
  | cons x a ih =>
    intro c
    have := ih (c + x.2)
    show c ≤ zwc a (c + x.2)
    omega
theorem zwc_add (a : zPl2) : ∀ c d, zwc a (c + d) = zwc a c + d := by
  induction a with
  | nil => intro c d; rfl
  | cons x a ih =>
    intro c d
    show zwc a (c + d + x.2) = zwc a (c + x.2) + d
    rw [show c + d + x.2 = c + x.2 + d by omega, ih]
/-- the set grows by one each time -/
theorem zwok_is {n : Nat} (hn : n ≤ 9) (a : zPl2) : ∀ S, S < 2 ^ n → zwok n a S → zws a S < 2 ^ n ∧ zcard (zws a S) = zcard S + a.length ∧ (∀ c, zwc a c ≤ c + a.length) := by
  have p5 := zp2_512 hn
  induction a with
  | nil => intro S h _; exact ⟨h, rfl, fun c => Nat.le_refl _⟩
  | cons x a ih =>
    intro S h hk
    obtain ⟨h1, h2, h3, h4⟩ := hk
    have lt := zbits_lt n hn x.1 h1 S h h2
    have ad := zbits_ad1 x.1 (by omega) S (by omega) h2
    obtain ⟨a1, a2, a3⟩ := ih (S + 2 ^ x.1) lt h4
    refine ⟨a1, ?_, fun c => ?_⟩
    · show zcard (zws a (S + 2 ^ x.1)) = zcard S + (a.length + 1)
      omega
    · have := a3 (c + x.2)
      show zwc a (c + x.2) ≤ c + (a.length + 1)
      omega
theorem zwl_is {n : Nat} (a : zPl2) : ∀ S l, l < n → zwok n a S → zwl a l < n := by
  induction a with
  | nil => intro S l h _; exact h
  | cons x a ih => intro S l h hk; exact ih _ _ hk.1 hk.2.2.2
/-- a row that is under way goes on -/
theorem zPR_go {I : Nat → Nat → Int32} {n : Nat} (a : zPl2) : ∀ m S l c key, zPR I n m S l c key → zwok n a S → zPR I n (m + a.length) (zws a S) (zwl a l) (zwc a c) (key + zkeyl I n a S l c) := by
  induction a with
  | nil =>
    intro m S l c key h _
    show zPR I n m S l c (key + 0)
    rw [Int.add_zero]
    exact h
  | cons x a ih =>
    intro m S l c key h hk
    obtain ⟨h1, h2, h3, h4⟩ := hk
    have := ih (m + 1) (S + 2 ^ x.1) x.1 (c + x.2) (key + zkst I n S l x.1 x.2 c) ⟨S, l, c, x.2, key, h, h1, h2, h3, rfl, rfl, rfl⟩ h4
    have e : m + (x :: a).length = m + 1 + a.length := by rw [List.length_cons]; omega
    rw [e]
    show zPR I n (m + 1 + a.length) (zws a (S + 2 ^ x.1)) (zwl a x.1) (zwc a (c + x.2)) (key + (zkst I n S l x.1 x.2 c + zkeyl I n a (S + 2 ^ x.1) x.1 (c + x.2)))
    rw [← Int.add_assoc]
    exact this
theorem zPR_to {I : Nat → Nat → Int32} {n : Nat} : ∀ m S l c key, zPR I n m S l c key → ∃ k0 a, k0 < n ∧ a.length = m ∧ zwok n a (2 ^ k0) ∧ S = zws a (2 ^ k0) ∧ l = zwl a k0 ∧ c = zwc a 0 ∧ key = zk0 I k0 + zkeyl I n a (2 ^ k0) k0 0 := by
  intro m
  induction m with
  | zero =>
    intro S l c key h
    obtain ⟨h1, h2, h3, h4⟩ := h
    exact ⟨l, [], h1, rfl, trivial, h2, rfl, h3, by rw [h4]; show _ = zk0 I l + 0; omega⟩
  | succ m ih =>
    intro S l c key h
    obtain ⟨S0, l0, c0, f, key0, h1, h2, h3, h4, h5, h6, h7⟩ := h
    obtain ⟨k0, a, a1, a2, a3, a4, a5, a6, a7⟩ := ih _ _ _ _ h1
    refine ⟨k0, a ++ [(l, f)], a1, by rw [List.length_append, a2]; rfl, (zwok_a _ _ _ _).mpr ⟨a3, ?_⟩, ?_, ?_, ?_, ?_⟩
    · rw [← a4]
      exact ⟨h2, h3, h4, trivial⟩
    · rw [zws_a, ← a4, h5]
      rfl
    · rw [zwl_a]
      rfl
    · rw [zwc_a, ← a6, h6]
      rfl
    · rw [zkeyl_a, ← a4, ← a5, ← a6, h7, a7]
      show _ = zk0 I k0 + (_ + (zkst I n S0 l0 l f c0 + 0))
      omega
/-- a full row -/
def zFull (n : Nat) (k0 : Nat) (a : zPl2) : Prop := k0 < n ∧ zwok n a (2 ^ k0) ∧ zws a (2 ^ k0) = 2 ^ n - 1
theorem zFull_is {n k0 : Nat} {a : zPl2} (hn : n ≤ 9) (h : zFull n k0 a) : a.length + 1 = n ∧ zwc a 0 < n := by
  obtain ⟨h1, h2, h3⟩ := h
  have lt := zp2_lt h1 hn
  obtain ⟨a1, a2, a3⟩ := zwok_is hn a (2 ^ k0) lt h2
  have c1 := (zbits_p2 k0 (by omega)).1
  have cn : zcard (2 ^ n - 1) = n := by
    have : ∀ n, n ≤ 9 → zcard (2 ^ n - 1) = n := by decide +kernel
    exact this n hn
  rw [h3, cn] at a2
  have := a3 0
  omega
/-- what the class keeps is the least key of all full rows -/
theorem zIsM_full {I : Nat → Nat → Int32} {n : Nat} (hO : zOr I n) {v : Int} (h : zIsM (fun key => ∃ m l c, c < n ∧ zPR I n m (2 ^ n - 1) l c key) v) : zIsM (fun key => ∃ k0 a, zFull n k0 a ∧ key = zk0 I k0 + zkeyl I n a (2 ^ k0) k0 0) v := by
  have hn := hO.1
  refine zIsM_c h (fun key => ⟨fun x => ?_, fun x => ?_⟩)
  · obtain ⟨m, l, c, x1, x2⟩ := x
    obtain ⟨k0, a, a1, a2, a3, a4, a5, a6, a7⟩ := zPR_to _ _ _ _ _ x2
    exact ⟨k0, a, ⟨a1, a3, a4.symm⟩, a7⟩
  · obtain ⟨k0, a, hf, e⟩ := x
    have hl := zFull_is hn hf
    obtain ⟨h1, h2, h3⟩ := hf
    have := zPR_go (I := I) a 0 (2 ^ k0) k0 0 (zk0 I k0) ⟨h1, rfl, rfl, rfl⟩ h2
    rw [h3, ← e] at this
    exact ⟨_, _, _, hl.2, this⟩
