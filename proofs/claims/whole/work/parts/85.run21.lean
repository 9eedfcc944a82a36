/-! CALLS, 36: run: from one tick to the next -/
theorem zRR_next {m c : Nat} {aim : Int32} {I0 K0 Ic Im K : Nat → Nat → Int32} {T g : Nat} {v : Int32} (h : zRR m c aim I0 K0 Ic Im T m g) (kr : ∀ a, a ≠ 55 → (a < 83 ∨ 87 < a) → K a = Im a) (k55 : ∀ i, i ≠ 43 → K 55 i = Im 55 i) (k43 : K 55 43 = v)
    (kz : ∀ k, k < m → K 83 k = 0 ∧ K 84 k = 0 ∧ K 85 k = 0 ∧ K 86 k = 0 ∧ K 87 k = 0) : zRR m c aim I0 K0 (z_up Ic 25 4 v) K (T + 1) 0 g := by
  obtain ⟨r1, r2, r3, r4, r5, r6, r7⟩ := h
  have hc : ∀ a, a ≠ 25 → z_up Ic 25 4 v a = Ic a := fun a ha => z_up_r _ _ _ _ _ ha
  have hsd : ∀ i, z_up Ic 25 4 v (z_sd i) = Ic (z_sd i) := fun i => hc _ (by have := z_sd_ge i; omega)
  have h25 : ∀ i, i ≠ 4 → z_up Ic 25 4 v 25 i = Ic 25 i := fun i hi => z_up_j _ _ _ _ _ hi
  refine ⟨⟨?_, ?_, ?_⟩, ⟨?_, ?_⟩, ?_, ⟨?_, ?_⟩, ⟨?_, ?_, ?_, ?_, ?_⟩, ?_, ?_⟩
  · intro a b1 b2 b3 b4 b5 b6
    rw [hc a b2]
    exact r1.1 a b1 b2 b3 b4 b5 b6
  · intro i j b1 b2
    rw [hsd]
    exact r1.2.1 i j b1 b2
  · intro i b1 b2
    rw [hsd]
    exact r1.2.2 i b1 b2
  · intro a b1 b2 b3 b4
    rw [kr a b1 (by omega)]
    exact r2.1 a b1 b2 b3 b4
  · intro j b1 b2
    rw [k55 j (by omega)]
    exact r2.2 j b1 b2
  · intro i hi
    obtain ⟨q1, q2, q3, q4, q5, q6⟩ := r3 i hi
    have e : zv (T + 1) 0 i c = zv T m i c := by
      unfold zv
      split <;> (try split) <;> (try split) <;> (try split) <;> omega
    rw [hsd, kr 64 (by omega) (by omega), kr 65 (by omega) (by omega), e]
    exact ⟨q1, q2, q3, q4, q5, q6⟩
  · intro i hi
    exact absurd hi (by omega)
  · intro i _ h2
    exact kz i h2
  · rw [hc 26 (by omega), kr 80 (by omega) (by omega)]
    exact r5.1
  · rw [hc 27 (by omega), kr 82 (by omega) (by omega)]
    exact r5.2.1
  · rw [kr 80 (by omega) (by omega)]
    exact r5.2.2.1
  · intro k j hk hj
    have e : zbtn (T + 1) 0 k j ↔ zbtn T m k j := by
      unfold zbtn
      omega
    rw [e, kr 80 (by omega) (by omega)]
    exact r5.2.2.2.1 k j hk hj
  · rw [h25 8 (by omega), kr 80 (by omega) (by omega)]
    exact r5.2.2.2.2
  · obtain ⟨q1, q2, q3, q4, q5, q6, q7, q8, q9⟩ := r6
    refine ⟨?_, ?_, ?_, ?_, ?_, ?_, ?_, ?_, ?_⟩
    · rw [h25 2 (by omega), q1]
    · rw [h25 3 (by omega), q2]
    · rw [z_up_s, k43]
    · rw [h25 5 (by omega), k55 44 (by omega), q4]
    · rw [h25 6 (by omega), k55 45 (by omega), q5]
    · rw [h25 7 (by omega), k55 46 (by omega), q6]
    · rw [h25 12 (by omega), k55 54 (by omega), q7]
    · rw [h25 12 (by omega), q8]
    · intro i hi
      rw [hc 28 (by omega), kr 81 (by omega) (by omega)]
      exact q9 i hi
  · intro j hj
    have e : zn (T + 1) 0 j m = zn T m j m := by
      unfold zn
      split <;> (try split) <;> (try split) <;> (try split) <;> omega
    rw [kr 88 (by omega) (by omega), e]
    exact r7 j hj
