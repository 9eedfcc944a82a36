/-! CALLS, 22: run: what binds the two while they run -/
/-- stand k has bitten segment j, when stands below s have had their turn in tick T -/
def zbtn (T s k j : Nat) : Prop := j + k < T ∨ (j + k = T ∧ k < s)
/-- how many stands have bitten segment j -/
def zn (T s j m : Nat) : Nat := if T < j then 0 else min m (T - j + if T - j < s then 1 else 0)
/-- how many segments stand k has bitten -/
def zv (T s k c : Nat) : Nat := if T < k then 0 else min c (T - k + if k < s then 1 else 0)
def zR1 (m : Nat) (I0 Ic : Nat → Nat → Int32) : Prop := (∀ a, a < 118 → a ≠ 25 → a ≠ 26 → (a ≠ 27 ∧ a ≠ 28) → a ≠ 29 → (a ≠ 10 ∧ a ≠ 17) → Ic a = I0 a) ∧ (∀ k j, k < m → (j < 8 ∨ j = 10) → Ic (z_sd k) j = I0 (z_sd k) j) ∧ (∀ k, m ≤ k → k < 5 → Ic (z_sd k) = I0 (z_sd k))
def zR2 (K0 Im : Nat → Nat → Int32) : Prop := (∀ a, a ≠ 55 → a ≠ 64 → a ≠ 65 → (a < 80 ∨ 90 < a) → Im a = K0 a) ∧ (∀ j, (j < 43 ∨ 46 < j) → j ≠ 54 → Im 55 j = K0 55 j)
def zR3 (m c : Nat) (I0 Ic Im : Nat → Nat → Int32) (T s : Nat) : Prop := ∀ k < m, Ic (z_sd k) 8 = Im 64 k ∧ Ic (z_sd k) 9 = Im 65 k ∧ (I0 58 k).toInt ≤ (Im 64 k).toInt ∧ (Im 64 k).toInt ≤ (I0 59 k).toInt ∧ 0 ≤ (Im 65 k).toInt ∧ (Im 65 k).toInt ≤ (I0 65 k).toInt + 99999 * (zv T s k c : Int)
def zR4 (m s : Nat) (Ic Im : Nat → Nat → Int32) : Prop := (∀ k < s, Ic (z_sd k) 11 = Im 84 k ∧ Ic (z_sd k) 12 = Im 87 k ∧ Ic (z_sd k) 13 = Im 85 k ∧ Ic (z_sd k) 14 = Im 86 k ∧ (Im 83 k = 0 ∧ Im 84 k = 0 ∨ Im 83 k = Int32.ofInt 1 ∧ 1 ≤ (Im 84 k).toInt)) ∧
  (∀ k, s ≤ k → k < m → Im 83 k = 0 ∧ Im 84 k = 0 ∧ Im 85 k = 0 ∧ Im 86 k = 0 ∧ Im 87 k = 0)
def zR5 (m c : Nat) (I0 Ic Im : Nat → Nat → Int32) (T s : Nat) : Prop := Ic 26 = Im 80 ∧ Ic 27 = Im 82 ∧ (∀ i < 200, Im 80 i = Int32.ofInt (-1) ∨ 1 ≤ (Im 80 i).toInt ∧ (Im 80 i).toInt ≤ 60000) ∧
  (∀ k j, k < m → j < c → (zbtn T s k j → 1 ≤ (Im 80 (40 * k + j)).toInt) ∧ (¬ zbtn T s k j → Im 80 (40 * k + j) = Int32.ofInt (-1))) ∧ (Ic 25 8).toInt = zlen (Im 80) (I0 23) m c
def zR6 (aim : Int32) (Ic Im : Nat → Nat → Int32) (g : Nat) : Prop := Ic 25 2 = Int32.ofInt 1 ∧ Ic 25 3 = aim ∧ Ic 25 4 = Im 55 43 ∧ Ic 25 5 = Im 55 44 ∧ Ic 25 6 = Im 55 45 ∧ Ic 25 7 = Im 55 46 ∧ Ic 25 12 = Im 55 54 ∧ (Ic 25 12).toInt = g ∧ (∀ i < g, Ic 28 i = Im 81 i)
def zR7 (m c : Nat) (I0 Im : Nat → Nat → Int32) (T s : Nat) : Prop := ∀ j < c, (Im 88 j).toInt = zhw I0 (I0 24 j) (zn T s j m)
def zRR (m c : Nat) (aim : Int32) (I0 K0 Ic Im : Nat → Nat → Int32) (T s g : Nat) : Prop := zR1 m I0 Ic ∧ zR2 K0 Im ∧ zR3 m c I0 Ic Im T s ∧ zR4 m s Ic Im ∧ zR5 m c I0 Ic Im T s ∧ zR6 aim Ic Im g ∧ zR7 m c I0 Im T s
theorem zv_up (T s k c : Nat) : (zv T s k c : Int) ≤ zv T (s + 1) k c := by
  unfold zv
  split
  · omega
  · split <;> split <;> omega
theorem zR1_st {m : Nat} {I0 Ic J : Nat → Nat → Int32} (h : zR1 m I0 Ic) {s : Nat} (hs : s < m) (hr : ∀ a, a ≠ z_sd s → a ≠ 25 → a ≠ 26 → J a = Ic a) (h1 : ∀ i, (i < 8 ∨ i = 10) → J (z_sd s) i = Ic (z_sd s) i) : zR1 m I0 J := by
  obtain ⟨a1, a2, a3⟩ := h
  refine ⟨?_, ?_, ?_⟩
  · intro a b1 b2 b3 b4 b5 b6
    have := z_sd_ge s
    rw [hr a (by omega) b2 b3]
    exact a1 a b1 b2 b3 b4 b5 b6
  · intro k j b1 b2
    by_cases e : k = s
    · subst e
      rw [h1 j b2]
      exact a2 k j b1 b2
    · have := z_sd_ge k
      rw [hr _ (fun g => e (z_sd_inj g)) (by omega) (by omega)]
      exact a2 k j b1 b2
  · intro k b1 b2
    have := z_sd_ge k
    rw [hr _ (fun g => by have := z_sd_inj g; omega) (by omega) (by omega)]
    exact a3 k b1 b2
/-- a stand that rests -/
theorem zRR_rest {m c : Nat} {aim : Int32} {I0 K0 Ic Im J : Nat → Nat → Int32} {T s g : Nat} (h : zRR m c aim I0 K0 Ic Im T s g) (hs : s < m) (hT : T < s ∨ s + c ≤ T) (hr : ∀ a, a ≠ z_sd s → J a = Ic a) (h1 : ∀ i, i < 11 → J (z_sd s) i = Ic (z_sd s) i) (h11 : J (z_sd s) 11 = 0) (h12 : J (z_sd s) 12 = 0) (h13 : J (z_sd s) 13 = 0) (h14 : J (z_sd s) 14 = 0) : zRR m c aim I0 K0 J Im T (s + 1) g := by
  obtain ⟨r1, r2, r3, r4, r5, r6, r7⟩ := h
  have hge := z_sd_ge s
  have hne : ∀ k, k ≠ s → J (z_sd k) = Ic (z_sd k) := fun k e => hr _ (fun g => e (z_sd_inj g))
  refine ⟨zR1_st r1 hs (fun a b1 _ _ => hr a b1) (fun i hi => h1 i (by omega)), r2, ?_, ?_, ?_, ?_, ?_⟩
  · intro k hk
    obtain ⟨q1, q2, q3, q4, q5, q6⟩ := r3 k hk
    have := zv_up T s k c
    refine ⟨?_, ?_, q3, q4, q5, by omega⟩
    · by_cases e : k = s
      · subst e
        rw [h1 8 (by omega), q1]
      · rw [hne k e, q1]
    · by_cases e : k = s
      · subst e
        rw [h1 9 (by omega), q2]
      · rw [hne k e, q2]
  · refine ⟨?_, fun k k1 k2 => r4.2 k (by omega) k2⟩
    intro k hk
    by_cases e : k = s
    · subst e
      obtain ⟨q1, q2, q3, q4, q5⟩ := r4.2 k (by omega) hs
      rw [h11, h12, h13, h14, q1, q2, q3, q4, q5]
      exact ⟨rfl, rfl, rfl, rfl, Or.inl ⟨rfl, rfl⟩⟩
    · rw [hne k e]
      exact r4.1 k (by omega)
  · obtain ⟨q1, q2, q3, q4, q5⟩ := r5
    refine ⟨by rw [hr 26 (by omega), q1], by rw [hr 27 (by omega), q2], q3, ?_, by rw [hr 25 (by omega), q5]⟩
    intro k j k1 k2
    have e : zbtn T (s + 1) k j ↔ zbtn T s k j := by
      unfold zbtn
      omega
    rw [e]
    exact q4 k j k1 k2
  · unfold zR6 at *
    rw [hr 25 (by omega), hr 28 (by omega)]
    exact r6
  · intro j hj
    rw [r7 j hj]
    have e : zn T (s + 1) j m = zn T s j m := by
      unfold zn
      split
      · rfl
      · split <;> split <;> omega
    rw [e]
