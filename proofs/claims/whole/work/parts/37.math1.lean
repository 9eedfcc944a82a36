/-! MATH, 1: the law of bites as numbers; what goes out -/
/-- the line's piece for a draft: the first whose end is no less, or the last -/
def zm_seg (d : Nat → Int) (x : Int) : Nat → Nat
  | 0 => 0
  | 1 => 1
  | j + 2 => if x ≤ d (j + 1) then zm_seg d x (j + 1) else j + 2
def zm_on (d f : Nat → Int) (x : Int) (j : Nat) : Int := f (j - 1) + (x - d (j - 1)) * (f j - f (j - 1)) / (d j - d (j - 1))
def zm_pr (d f : Nat → Int) (p : Nat) (x h : Int) : Int := if p = 0 then 0 else min 999999999 (zm_on d f x (zm_seg d x p) * h / 10)
/-- points as they are told: from 0 on, and growing -/
def zm_pts (d f : Nat → Int) (p : Nat) : Prop := d 0 = 0 ∧ f 0 = 0 ∧ (∀ k < p, d k < d (k + 1)) ∧ (∀ k < p, f k < f (k + 1)) ∧ (∀ k ≤ p, d k ≤ 60000) ∧ (∀ k ≤ p, f k ≤ 99999)
theorem zm_inc {d : Nat → Int} {p : Nat} (h : ∀ k < p, d k < d (k + 1)) {a b : Nat} (hab : a < b) (hb : b ≤ p) : d a < d b := by
  induction b with
  | zero => omega
  | succ b ih =>
    have h1 := h b (by omega)
    rcases Nat.lt_or_ge a b with h2 | h2
    · have := ih h2 (by omega)
      omega
    · have : a = b := by omega
      subst this
      exact h1
theorem zm_inc' {d : Nat → Int} {p : Nat} (h : ∀ k < p, d k < d (k + 1)) {a b : Nat} (hab : a ≤ b) (hb : b ≤ p) : d a ≤ d b := by
  rcases Nat.lt_or_ge a b with h1 | h1
  · exact Int.le_of_lt (zm_inc h h1 hb)
  · have : a = b := by omega
    subst this
    exact Int.le_refl _
theorem zm_seg_is (d : Nat → Int) (x : Int) (p : Nat) (hp : 1 ≤ p) : 1 ≤ zm_seg d x p ∧ zm_seg d x p ≤ p ∧ (zm_seg d x p = p ∨ x ≤ d (zm_seg d x p)) ∧ (zm_seg d x p = 1 ∨ d (zm_seg d x p - 1) < x) := by
  induction p with
  | zero => omega
  | succ p ih =>
    cases p with
    | zero => exact ⟨Nat.le_refl _, Nat.le_refl _, Or.inl rfl, Or.inl rfl⟩
    | succ p =>
      unfold zm_seg
      split
      · rename_i h
        obtain ⟨h1, h2, h3, h4⟩ := ih (by omega)
        refine ⟨h1, by omega, ?_, h4⟩
        rcases h3 with h3 | h3
        · rw [h3]
          exact Or.inr h
        · exact Or.inr h3
      · rename_i h
        refine ⟨by omega, Nat.le_refl _, Or.inl rfl, Or.inr ?_⟩
        have : p + 2 - 1 = p + 1 := by omega
        rw [this]
        omega
theorem zm_seg_eq {d : Nat → Int} {x : Int} {p j : Nat} (hd : ∀ k < p, d k < d (k + 1)) (h1 : 1 ≤ j) (h2 : j ≤ p) (h3 : j = p ∨ x ≤ d j) (h4 : j = 1 ∨ d (j - 1) < x) : zm_seg d x p = j := by
  obtain ⟨g1, g2, g3, g4⟩ := zm_seg_is d x p (by omega)
  generalize zm_seg d x p = i at *
  rcases Nat.lt_trichotomy i j with h | h | h
  · have a1 : x ≤ d i := by
      rcases g3 with g | g
      · omega
      · exact g
    have a2 : d (j - 1) < x := by
      rcases h4 with g | g
      · omega
      · exact g
    have a3 := zm_inc' hd (a := i) (b := j - 1) (by omega) (by omega)
    omega
  · exact h
  · have a1 : x ≤ d j := by
      rcases h3 with g | g
      · omega
      · exact g
    have a2 : d (i - 1) < x := by
      rcases g4 with g | g
      · omega
      · exact g
    have a3 := zm_inc' hd (a := j) (b := i - 1) (by omega) (by omega)
    omega
theorem zm_on_mono {d f : Nat → Int} {p : Nat} (hp : zm_pts d f p) {x y : Int} {j : Nat} (h1 : 1 ≤ j) (h2 : j ≤ p) (hxy : x ≤ y) : zm_on d f x j ≤ zm_on d f y j := by
  obtain ⟨_, _, hd, hf, _⟩ := hp
  have a := hd (j - 1) (by omega)
  have b := hf (j - 1) (by omega)
  have e : j - 1 + 1 = j := by omega
  rw [e] at a b
  unfold zm_on
  have c : (x - d (j - 1)) * (f j - f (j - 1)) ≤ (y - d (j - 1)) * (f j - f (j - 1)) := Int.mul_le_mul_of_nonneg_right (by omega) (by omega)
  have := Int.ediv_le_ediv (c := d j - d (j - 1)) (by omega) c
  omega
theorem zm_on_end {d f : Nat → Int} {p : Nat} (hp : zm_pts d f p) {j : Nat} (h1 : 1 ≤ j) (h2 : j ≤ p) : zm_on d f (d j) j = f j ∧ zm_on d f (d (j - 1)) j = f (j - 1) := by
  obtain ⟨_, _, hd, hf, _⟩ := hp
  have a := hd (j - 1) (by omega)
  have e : j - 1 + 1 = j := by omega
  rw [e] at a
  unfold zm_on
  constructor
  · rw [Int.mul_ediv_cancel_left _ (by omega)]
    omega
  · rw [Int.sub_self, Int.zero_mul, Int.zero_ediv]
    omega
theorem zm_line_mono {d f : Nat → Int} {p : Nat} (hp : zm_pts d f p) (h1 : 1 ≤ p) {x y : Int} (hxy : x ≤ y) : zm_on d f x (zm_seg d x p) ≤ zm_on d f y (zm_seg d y p) := by
  obtain ⟨g1, g2, g3, g4⟩ := zm_seg_is d x p h1
  obtain ⟨k1, k2, k3, k4⟩ := zm_seg_is d y p h1
  have hp' := hp
  obtain ⟨_, _, hd, hf, _⟩ := hp'
  generalize zm_seg d x p = i at *
  generalize zm_seg d y p = j at *
  rcases Nat.lt_trichotomy i j with h | h | h
  · have a1 : x ≤ d i := by
      rcases g3 with g | g
      · omega
      · exact g
    have a2 := zm_on_mono hp g1 g2 a1
    rw [(zm_on_end hp g1 g2).1] at a2
    have a3 : d (j - 1) ≤ y := by
      rcases k4 with g | g
      · omega
      · omega
    have a4 := zm_on_mono hp k1 k2 a3
    rw [(zm_on_end hp k1 k2).2] at a4
    have a5 := zm_inc' hf (a := i) (b := j - 1) (by omega) (by omega)
    omega
  · subst h
    exact zm_on_mono hp g1 g2 hxy
  · have a1 : y ≤ d j := by
      rcases k3 with g | g
      · omega
      · exact g
    have a2 : d (i - 1) < x := by
      rcases g4 with g | g
      · omega
      · exact g
    have a3 := zm_inc' hd (a := j) (b := i - 1) (by omega) (by omega)
    omega
theorem zm_line_0 {d f : Nat → Int} {p : Nat} (hp : zm_pts d f p) (h1 : 1 ≤ p) {x : Int} (hx : 0 ≤ x) : 0 ≤ zm_on d f x (zm_seg d x p) := by
  have h := zm_line_mono hp h1 hx
  obtain ⟨hd0, hf0, hd, _⟩ := hp
  have e : zm_seg d 0 p = 1 := by
    refine zm_seg_eq hd (Nat.le_refl _) h1 (Or.inr ?_) (Or.inl rfl)
    have h7 : d 0 < d 1 := hd 0 (by omega)
    omega
  rw [e] at h
  unfold zm_on at h
  rw [show 1 - 1 = 0 from rfl, hd0, hf0] at h
  simp only [Int.sub_self, Int.zero_mul, Int.zero_ediv, Int.add_zero] at h
  exact h
theorem zm_pr_mono {d f : Nat → Int} {p : Nat} (hp : zm_pts d f p) {x y h : Int} (hh : 0 ≤ h) (hxy : x ≤ y) : zm_pr d f p x h ≤ zm_pr d f p y h := by
  unfold zm_pr
  split
  · exact Int.le_refl _
  · have a := zm_line_mono hp (by omega) hxy
    have b := Int.mul_le_mul_of_nonneg_right a hh
    have c := Int.ediv_le_ediv (c := 10) (by omega) b
    omega
theorem zm_pr_0 {d f : Nat → Int} {p : Nat} (hp : zm_pts d f p) {x h : Int} (hh : 0 ≤ h) (hx : 0 ≤ x) : 0 ≤ zm_pr d f p x h := by
  unfold zm_pr
  split
  · exact Int.le_refl _
  · have a := zm_line_0 hp (by omega) hx
    have b := Int.mul_nonneg a hh
    have c : 0 ≤ zm_on d f x (zm_seg d x p) * h / 10 := Int.ediv_nonneg b (by omega)
    omega
theorem zm_pr_top (d f : Nat → Int) (p : Nat) (x h : Int) : zm_pr d f p x h ≤ 999999999 := by
  unfold zm_pr
  split <;> omega
theorem zm_pr_at0 {d f : Nat → Int} {p : Nat} (hp : zm_pts d f p) (h : Int) : zm_pr d f p 0 h = 0 := by
  unfold zm_pr
  split
  · rfl
  · obtain ⟨hd0, hf0, hd, _⟩ := hp
    have e : zm_seg d 0 p = 1 := by
      refine zm_seg_eq hd (Nat.le_refl _) (by omega) (Or.inr ?_) (Or.inl rfl)
      have h7 : d 0 < d 1 := hd 0 (by omega)
      omega
    rw [e]
    unfold zm_on
    rw [show 1 - 1 = 0 from rfl, hd0, hf0]
    simp only [Int.sub_self, Int.zero_mul, Int.zero_ediv, Int.add_zero]
    omega
/-- what is borne: the frame's pull at this thickness is no less than the press -/
def zm_bo (P : Int → Int) (stiff o v h : Int) : Prop := P h ≤ (v - o) * stiff
/-- what goes out: the least thickness that is borne -/
def zm_isout (B : Int → Prop) (w v : Int) : Prop := 1 ≤ v ∧ v ≤ w ∧ B v ∧ (v = 1 ∨ ¬ B (v - 1))
theorem zm_out_unique {B : Int → Prop} (hB : ∀ a b, B a → a ≤ b → B b) {w v v' : Int} (h : zm_isout B w v) (h' : zm_isout B w v') : v = v' := by
  obtain ⟨a1, a2, a3, a4⟩ := h
  obtain ⟨b1, b2, b3, b4⟩ := h'
  rcases Int.lt_trichotomy v v' with g | g | g
  · rcases b4 with b4 | b4
    · omega
    · exact absurd (hB _ _ a3 (by omega)) b4
  · exact g
  · rcases a4 with a4 | a4
    · omega
    · exact absurd (hB _ _ b3 (by omega)) a4
