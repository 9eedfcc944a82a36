/-! CALLS, 38: run: rules hear ten values alone -/
theorem zev1_c {f g : Nat → Int32} (h : ∀ i < 10, f i = g i) (v : Int) (st : List Int32) : zev1 f v st = zev1 g v st := by
  unfold zev1
  by_cases c : 0 ≤ v
  · rw [if_pos c, if_pos c]
  · rw [if_neg c, if_neg c]
    by_cases e : -109 ≤ v ∧ v ≤ -100
    · rw [if_pos e, if_pos e, h _ (by omega)]
    · rw [if_neg e, if_neg e]
theorem zevs_c {f g : Nat → Int32} (h : ∀ i < 10, f i = g i) (l : List Int) : ∀ st, zevs f l st = zevs g l st := by
  induction l with
  | nil =>
    intro st
    rfl
  | cons v l ih =>
    intro st
    show zevs f l (zev1 f v st) = zevs g l (zev1 g v st)
    rw [zev1_c h, ih]
theorem zwo_c {f g : Nat → Int32} (h : ∀ i < 10, f i = g i) (l : List Int) : zwo f l = zwo g l := by
  unfold zwo
  rw [zevs_c h]
theorem zwant_c {f g : Nat → Int32} (h : ∀ i < 10, f i = g i) (s : Int) (l : List zcl) : zwant f s l = zwant g s l := by
  induction l with
  | nil => rfl
  | cons c l ih =>
    unfold zwant
    rw [ih, zwo_c h, zwo_c h]
