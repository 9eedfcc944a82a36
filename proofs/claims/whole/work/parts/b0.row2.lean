/-! ROW, 2: rows as numbers, the least the better -/
def zMX : Int := 9223372036854775807
def zoT (I : Nat → Nat → Int32) (S : Nat) : Nat → Int
  | 0 => 0
  | n + 1 => zoT I S n + (zbt2 S n : Int) * (I 44 n).toInt
def zolate (I : Nat → Nat → Int32) (j : Nat) (e : Int) : Int := 2 * max 0 (e - (I 45 j).toInt)
def zobes (I : Nat → Nat → Int32) (l j : Nat) : Int := (if (I 43 l).toInt < (I 43 j).toInt then (I 43 j).toInt - (I 43 l).toInt else (I 43 l).toInt - (I 43 j).toInt) / 100 + (if (I 42 l).toInt < (I 42 j).toInt then 40 else 0)
/-- the coin of an order behind others -/
def zoc (I : Nat → Nat → Int32) (n S l j f c : Nat) : Int := if f = 0 then zolate I j (5 * (c : Int) + zoT I S n + (I 44 j).toInt) + zobes I l j else zolate I j (5 * (c : Int) + zoT I S n + (I 44 j).toInt + 5) + 25
def zoP (p : Nat) : Int := 2 ^ (8 + 4 * (8 - p))
def zcP (p : Nat) : Int := 2 ^ (8 - p)
def zkst (I : Nat → Nat → Int32) (n S l j f c : Nat) : Int := zoc I n S l j f c * 281474976710656 + (j : Int) * zoP (zcard S) + (if f = 0 then 0 else 17592186044416 + zcP (zcard S))
def zk0 (I : Nat → Nat → Int32) (l : Nat) : Int := zolate I l (I 44 l).toInt * 281474976710656 + (l : Int) * zoP 0
def zPR (I : Nat → Nat → Int32) (n : Nat) : Nat → Nat → Nat → Nat → Int → Prop
  | 0, S, l, c, key => l < n ∧ S = 2 ^ l ∧ c = 0 ∧ key = zk0 I l
  | m + 1, S, j, c, key => ∃ S0 l0 c0 f key0, zPR I n m S0 l0 c0 key0 ∧ j < n ∧ zbt2 S0 j = 0 ∧ f < 2 ∧ S = S0 + 2 ^ j ∧ c = c0 + f ∧ key = key0 + zkst I n S0 l0 j f c0
/-- orders as they are told -/
def zOr (I : Nat → Nat → Int32) (n : Nat) : Prop := n ≤ 9 ∧ ∀ k, k < n → 1 ≤ (I 42 k).toInt ∧ (I 42 k).toInt ≤ 9999 ∧ 1 ≤ (I 43 k).toInt ∧ (I 43 k).toInt ≤ 60000 ∧ 1 ≤ (I 44 k).toInt ∧ (I 44 k).toInt ≤ 99 ∧ 0 ≤ (I 45 k).toInt ∧ (I 45 k).toInt ≤ 999
theorem zbt2_le (S j : Nat) : zbt2 S j ≤ 1 := by
  unfold zbt2
  omega
theorem zoT_r {I : Nat → Nat → Int32} {n : Nat} (h : zOr I n) (S : Nat) : ∀ k, k ≤ n → 0 ≤ zoT I S k ∧ zoT I S k ≤ 99 * k := by
  intro k
  induction k with
  | zero => intro _; exact ⟨Int.le_refl _, Int.le_refl _⟩
  | succ k ih =>
    intro hk
    have a := ih (by omega)
    have b := h.2 k (by omega)
    have c := zbt2_le S k
    show 0 ≤ zoT I S k + (zbt2 S k : Int) * (I 44 k).toInt ∧ zoT I S k + (zbt2 S k : Int) * (I 44 k).toInt ≤ _
    have : zbt2 S k = 0 ∨ zbt2 S k = 1 := by omega
    rcases this with e | e
    · rw [e]
      omega
    · rw [e]
      omega
theorem zobes_r {I : Nat → Nat → Int32} {n l j : Nat} (h : zOr I n) (hl : l < n) (hj : j < n) : 0 ≤ zobes I l j ∧ zobes I l j ≤ 639 := by
  have a := h.2 l hl
  have b := h.2 j hj
  unfold zobes
  split <;> split <;> omega
theorem zolate_r {I : Nat → Nat → Int32} {n j : Nat} (h : zOr I n) (hj : j < n) {e : Int} (he : e ≤ 1040) : 0 ≤ zolate I j e ∧ zolate I j e ≤ 2080 := by
  have b := h.2 j hj
  unfold zolate
  omega
theorem zoc_r {I : Nat → Nat → Int32} {n S l j f c : Nat} (h : zOr I n) (hl : l < n) (hj : j < n) (hc : c ≤ 8) : 0 ≤ zoc I n S l j f c ∧ zoc I n S l j f c ≤ 2719 := by
  have a := zoT_r h S n (Nat.le_refl _)
  have b := h.2 j hj
  have hn := h.1
  have d := zobes_r h hl hj
  have e0 := zolate_r h hj (e := 5 * (c : Int) + zoT I S n + (I 44 j).toInt) (by omega)
  have e1 := zolate_r h hj (e := 5 * (c : Int) + zoT I S n + (I 44 j).toInt + 5) (by omega)
  unfold zoc
  split <;> omega
theorem zoP_r : ∀ p, p ≤ 8 → 256 ≤ zoP p ∧ zoP p ≤ 1099511627776 := by decide +kernel
theorem zcP_r : ∀ p, p ≤ 8 → 1 ≤ zcP p ∧ zcP p ≤ 256 := by decide +kernel
theorem zoP_m (p : Nat) (hp : p ≤ 8) : ∀ j : Nat, j < 9 → 0 ≤ (j : Int) * zoP p ∧ (j : Int) * zoP p ≤ 8796093022208 := by
  intro j hj
  have := zoP_r p hp
  have a : (j : Int) * zoP p ≤ 8 * zoP p := Int.mul_le_mul_of_nonneg_right (by omega) (by omega)
  have b : 0 * zoP p ≤ (j : Int) * zoP p := Int.mul_le_mul_of_nonneg_right (by omega) (by omega)
  omega
theorem zkst_r {I : Nat → Nat → Int32} {n S l j f c : Nat} (h : zOr I n) (hl : l < n) (hj : j < n) (hc : c ≤ 8) (hS : zcard S ≤ 8) : 0 ≤ zkst I n S l j f c ∧ zkst I n S l j f c ≤ 2720 * 281474976710656 := by
  have hn := h.1
  have a := zoc_r (S := S) (f := f) h hl hj hc
  have b := zoP_m _ hS j (by omega)
  have d := zcP_r _ hS
  unfold zkst
  split <;> omega
theorem zk0_r {I : Nat → Nat → Int32} {n l : Nat} (h : zOr I n) (hl : l < n) : 0 ≤ zk0 I l ∧ zk0 I l ≤ 2720 * 281474976710656 := by
  have hn := h.1
  have b := h.2 l hl
  have a := zolate_r h hl (e := (I 44 l).toInt) (by omega)
  have d := zoP_m 0 (by omega) l (by omega)
  unfold zk0
  omega
theorem zp2_lt {n j : Nat} (h : j < n) (h9 : n ≤ 9) : 2 ^ j < 2 ^ n := Nat.pow_lt_pow_right (by omega) h
theorem zp2_512 {n : Nat} (h9 : n ≤ 9) : 2 ^ n ≤ 512 := Nat.pow_le_pow_right (by omega) h9
theorem zbits_lt : ∀ n, n ≤ 9 → ∀ j, j < n → ∀ S, S < 2 ^ n → zbt2 S j = 0 → S + 2 ^ j < 2 ^ n := by decide +kernel
theorem zbits_p2 : ∀ j, j < 9 → zcard (2 ^ j) = 1 ∧ zbt2 (2 ^ j) j = 1 := by decide +kernel
theorem zbits_hi : ∀ n, n ≤ 9 → ∀ S, S < 2 ^ n → zcard S ≤ n := by decide +kernel
theorem zPR_is {I : Nat → Nat → Int32} {n : Nat} (h : zOr I n) : ∀ m S l c key, zPR I n m S l c key → S < 2 ^ n ∧ zcard S = m + 1 ∧ l < n ∧ zbt2 S l = 1 ∧ c ≤ m ∧ m < n ∧ 0 ≤ key ∧ key ≤ 2720 * 281474976710656 * ((m : Int) + 1) := by
  have hn := h.1
  intro m
  induction m with
  | zero =>
    intro S l c key hk
    obtain ⟨h1, h2, h3, h4⟩ := hk
    have a := zbits_p2 l (by omega)
    have b := zk0_r h h1
    rw [h2, h3, h4]
    exact ⟨zp2_lt h1 hn, a.1, h1, a.2, Nat.le_refl _, by omega, b.1, by omega⟩
  | succ m ih =>
    intro S l c key hk
    obtain ⟨S0, l0, c0, f, key0, h1, h2, h3, h4, h5, h6, h7⟩ := hk
    obtain ⟨a1, a2, a3, a4, a5, a6, a7, a8⟩ := ih S0 l0 c0 key0 h1
    have p5 := zp2_512 hn
    have b := zbits_ad1 l (by omega) S0 (by omega) h3
    have lt := zbits_lt n hn l h2 S0 a1 h3
    have hi := zbits_hi n hn (S0 + 2 ^ l) lt
    have k := zkst_r (S := S0) (f := f) (c := c0) h a3 h2 (by omega) (by omega)
    rw [h5, h6, h7]
    refine ⟨lt, by omega, h2, b.2, by omega, by omega, by omega, ?_⟩
    rw [show ((m + 1 : Nat) : Int) = (m : Int) + 1 by omega]
    omega
/-- the least of some -/
def zIsM (P : Int → Prop) (v : Int) : Prop := (∀ k, P k → v ≤ k) ∧ (v = zMX ∨ P v)
theorem zIsM_c {P Q : Int → Prop} {v : Int} (h : zIsM P v) (e : ∀ k, P k ↔ Q k) : zIsM Q v := ⟨fun k hk => h.1 k ((e k).mpr hk), h.2.elim Or.inl (fun x => Or.inr ((e v).mp x))⟩
theorem zIsM_or {P Q : Int → Prop} {v w : Int} (h : zIsM P v) (g : zIsM Q w) (hv : v ≤ zMX) (hw : w ≤ zMX) : zIsM (fun k => P k ∨ Q k) (min v w) := by
  refine ⟨fun k hk => ?_, ?_⟩
  · rcases hk with hk | hk
    · have := h.1 k hk
      omega
    · have := g.1 k hk
      omega
  · rcases Int.lt_or_le w v with c | c
    · rw [show min v w = w by omega]
      rcases g.2 with e | e
      · exact Or.inl e
      · exact Or.inr (Or.inr e)
    · rw [show min v w = v by omega]
      rcases h.2 with e | e
      · exact Or.inl e
      · exact Or.inr (Or.inl e)
theorem zIsM_no {P : Int → Prop} (h : ∀ k, ¬ P k) : zIsM P zMX := ⟨fun k hk => absurd hk (h k), Or.inl rfl⟩
theorem zIsM_no' {P : Int → Prop} {v : Int} (h : zIsM P v) (hv : v = zMX) (hb : ∀ k, P k → k < zMX) : ∀ k, ¬ P k := fun k hk => by
  have := h.1 k hk
  have := hb k hk
  omega
theorem zIsM_u {P : Int → Prop} {v w : Int} (h : zIsM P v) (g : zIsM P w) (hb : ∀ k, P k → k ≤ zMX) : v = w := by
  obtain ⟨h1, h2⟩ := h
  obtain ⟨g1, g2⟩ := g
  rcases h2 with h2 | h2
  · rcases g2 with g2 | g2
    · omega
    · have := h1 w g2
      have := hb w g2
      omega
  · rcases g2 with g2 | g2
    · have := g1 v h2
      have := hb v h2
      omega
    · have := h1 w g2
      have := g1 v h2
      omega
/-- all that may stand in the table of so many changes, by what has been gone on from -/
def zQ0 (I : Nat → Nat → Int32) (n c : Nat) (D : Nat → Nat → Nat → Prop) (S l : Nat) (key : Int) : Prop := (c = 0 ∧ l < n ∧ S = 2 ^ l ∧ key = zk0 I l) ∨ ∃ m S0 l0 c0 f key0, zPR I n m S0 l0 c0 key0 ∧ l < n ∧ zbt2 S0 l = 0 ∧ f < 2 ∧ S = S0 + 2 ^ l ∧ c = c0 + f ∧ key = key0 + zkst I n S0 l0 l f c0 ∧ (f = 1 ∨ D S0 l0 l)
def zQ1 (I : Nat → Nat → Int32) (n c : Nat) (D : Nat → Nat → Nat → Prop) (S l : Nat) (key : Int) : Prop := ∃ m S0 l0 key0, zPR I n m S0 l0 c key0 ∧ l < n ∧ zbt2 S0 l = 0 ∧ S = S0 + 2 ^ l ∧ key = key0 + zkst I n S0 l0 l 1 c ∧ D S0 l0 l
def zRD2 (I : Nat → Nat → Int32) (n c : Nat) (D : Nat → Nat → Nat → Prop) (A B : Nat → Int64) : Prop := (∀ S l, S < 512 → l < 9 → zIsM (zQ0 I n c D S l) (A (9 * S + l)).toInt) ∧ (∀ S l, S < 512 → l < 9 → zIsM (zQ1 I n c D S l) (B (9 * S + l)).toInt)
theorem zQ0_lt {I : Nat → Nat → Int32} {n c S l : Nat} {D : Nat → Nat → Nat → Prop} (h : zOr I n) {key : Int} (hk : zQ0 I n c D S l key) : 0 ≤ key ∧ key < zMX := by
  have hM : zMX = 9223372036854775807 := rfl
  have hn := h.1
  rcases hk with ⟨h1, h2, h3, h4⟩ | ⟨m, S0, l0, c0, f, key0, h1, h2, h3, h4, h5, h6, h7, h8⟩
  · have := zk0_r h h2
    omega
  · have hk : zPR I n (m + 1) S l c key := ⟨S0, l0, c0, f, key0, h1, h2, h3, h4, h5, h6, h7⟩
    obtain ⟨a1, a2, a3, a4, a5, a6, a7, a8⟩ := zPR_is h _ _ _ _ _ hk
    have : ((m + 1 : Nat) : Int) ≤ 8 := by omega
    omega
theorem zQ1_lt {I : Nat → Nat → Int32} {n c S l : Nat} {D : Nat → Nat → Nat → Prop} (h : zOr I n) {key : Int} (hk : zQ1 I n c D S l key) : 0 ≤ key ∧ key < zMX := by
  have hM : zMX = 9223372036854775807 := rfl
  have hn := h.1
  obtain ⟨m, S0, l0, key0, h1, h2, h3, h5, h7, h8⟩ := hk
  have hk : zPR I n (m + 1) S l (c + 1) key := ⟨S0, l0, c, 1, key0, h1, h2, h3, by omega, h5, rfl, h7⟩
  obtain ⟨a1, a2, a3, a4, a5, a6, a7, a8⟩ := zPR_is h _ _ _ _ _ hk
  have : ((m + 1 : Nat) : Int) ≤ 8 := by omega
  omega
/-- a set's turn: all that leads to it has been gone on from -/
theorem zQ0_all {I : Nat → Nat → Int32} {n c S l : Nat} {D : Nat → Nat → Nat → Prop} (hD : ∀ S0 l0, S0 < S → 1 ≤ S0 → D S0 l0 l) (h : zOr I n) (key : Int) : zQ0 I n c D S l key ↔ ∃ m, zPR I n m S l c key := by
  constructor
  · intro hk
    rcases hk with ⟨h1, h2, h3, h4⟩ | ⟨m, S0, l0, c0, f, key0, h1, h2, h3, h4, h5, h6, h7, h8⟩
    · exact ⟨0, h2, h3, h1, h4⟩
    · exact ⟨m + 1, S0, l0, c0, f, key0, h1, h2, h3, h4, h5, h6, h7⟩
  · intro hk
    obtain ⟨m, hk⟩ := hk
    cases m with
    | zero =>
      obtain ⟨h1, h2, h3, h4⟩ := hk
      exact Or.inl ⟨h3, h1, h2, h4⟩
    | succ m =>
      obtain ⟨S0, l0, c0, f, key0, h1, h2, h3, h4, h5, h6, h7⟩ := hk
      have hp : 0 < 2 ^ l := Nat.pow_pos (by omega)
      have hS0 : 1 ≤ S0 := by
        have := (zPR_is h _ _ _ _ _ h1).2.1
        rcases Nat.eq_zero_or_pos S0 with e | e
        · subst e
          have : zcard 0 = 0 := by decide
          omega
        · exact e
      exact Or.inr ⟨m, S0, l0, c0, f, key0, h1, h2, h3, h4, h5, h6, h7, Or.inr (hD S0 l0 (by omega) hS0)⟩
