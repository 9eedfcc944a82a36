/-! CALLS, 23: run: a bite that is borne keeps the relation -/
theorem zlen_r {F G : Nat → Int32} {m c : Nat} (hm : 1 ≤ m) (h5 : m ≤ 5) (hc : c ≤ 40) (hF : ∀ i < 200, F i = Int32.ofInt (-1) ∨ 1 ≤ (F i).toInt ∧ (F i).toInt ≤ 60000) (hG : ∀ k : Nat, k < c → 1 ≤ (G k).toInt ∧ (G k).toInt ≤ 60000) : ∀ n, n ≤ c → 0 ≤ zlen F G m n ∧ zlen F G m n ≤ 10000000 * n := by
  intro n
  induction n with
  | zero =>
    intro _
    exact ⟨Int.le_refl _, Int.le_refl _⟩
  | succ n ih =>
    intro h
    have a := ih (by omega)
    have b : 0 ≤ zlt F G m n ∧ zlt F G m n ≤ 10000000 := by
      unfold zlt
      split
      · omega
      · rename_i g
        have f := (hF (40 * (m - 1) + n) (by omega)).resolve_left (fun e => g (Or.inr e))
        have e := hG n (by omega)
        have := Int.ediv_nonneg (a := 1000 * (G n).toInt) (b := (F (40 * (m - 1) + n)).toInt) (by omega) (by omega)
        omega
    show 0 ≤ zlen F G m n + zlt F G m n ∧ zlen F G m n + zlt F G m n ≤ 10000000 * ((n + 1 : Nat) : Int)
    omega
theorem zlen_at {F E G : Nat → Int32} {m s j : Nat} {V : Int32} (hE : ∀ i, E i = if i = 40 * s + j then V else F i) (hs : s < m) (hj : j < 40) (h0 : F (40 * s + j) = Int32.ofInt (-1)) (hV : 1 ≤ V.toInt) : ∀ n, n ≤ 40 → zlen E G m n = zlen F G m n + if s + 1 = m ∧ j < n then min 10000000 (1000 * (G j).toInt / V.toInt) else 0 := by
  intro n
  induction n with
  | zero =>
    intro _
    rw [if_neg (by omega)]
    rfl
  | succ n ih =>
    intro h
    show zlen E G m n + zlt E G m n = zlen F G m n + zlt F G m n + _
    rw [ih (by omega)]
    unfold zlt
    rw [hE]
    by_cases g : s + 1 = m
    · by_cases e : n = j
      · subst e
        have e2 : 40 * (m - 1) + n = 40 * s + n := by omega
        rw [e2, if_pos rfl, h0, if_neg (by omega), if_pos (Or.inr rfl), if_pos (show s + 1 = m ∧ n < n + 1 from ⟨g, by omega⟩), if_neg (by
          intro q
          rcases q with q | q
          · omega
          · rw [q] at hV
            exact absurd hV (by decide))]
        try omega
      · rw [if_neg (show ¬ 40 * (m - 1) + n = 40 * s + j by omega)]
        by_cases f : j < n
        · rw [if_pos (show s + 1 = m ∧ j < n from ⟨g, f⟩), if_pos (show s + 1 = m ∧ j < n + 1 from ⟨g, by omega⟩)]
          try omega
        · rw [if_neg (show ¬ (s + 1 = m ∧ j < n) by omega), if_neg (show ¬ (s + 1 = m ∧ j < n + 1) by omega)]
          try omega
    · rw [if_neg (show ¬ 40 * (m - 1) + n = 40 * s + j by omega), if_neg (show ¬ (s + 1 = m ∧ j < n) by omega), if_neg (show ¬ (s + 1 = m ∧ j < n + 1) by omega)]
      try omega
theorem zbl_i {x v : Int32} (h0 : 1 ≤ x.toInt) (h1 : x.toInt ≤ 60000) (h2 : 1 ≤ v.toInt) : (zbl x v).toInt = min 10000000 (1000 * x.toInt / v.toInt) := by
  unfold zbl
  have e : (Int32.ofInt 1000 * x).toInt = 1000 * x.toInt := y_lmu (by omega) (by omega) (by omega) (by omega)
  rw [y_mni, y_oi (by omega) (by omega), y_dv (by omega) (by omega), e]
theorem zhw_s {I : Nat → Nat → Int32} {h : Int32} {n : Nat} (hw : 0 ≤ (I (z_sd n) 7).toInt) : zhw I h (n + 1) = min 99 (zhw I h n + (I (z_sd n) 7).toInt) := by
  unfold zhw
  show min 99 (h.toInt + (zhs I n + (I (z_sd n) 7).toInt)) = _
  omega
