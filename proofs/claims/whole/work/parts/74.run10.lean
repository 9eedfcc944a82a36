/-! CALLS, 25: run: where a run ends -/
def zRe (m c : Nat) (aim : Int32) (I0 K0 J K : Nat → Nat → Int32) (g : Nat) : Prop := zR1 m I0 J ∧ zR2 K0 K ∧
  (∀ k < m, J (z_sd k) 8 = K 64 k ∧ J (z_sd k) 9 = K 65 k ∧ (I0 58 k).toInt ≤ (K 64 k).toInt ∧ (K 64 k).toInt ≤ (I0 59 k).toInt ∧ 0 ≤ (K 65 k).toInt ∧ (K 65 k).toInt ≤ (I0 65 k).toInt + 4000000) ∧
  J 26 = K 80 ∧ J 27 = K 82 ∧ (∀ i < 200, K 80 i = Int32.ofInt (-1) ∨ 1 ≤ (K 80 i).toInt ∧ (K 80 i).toInt ≤ 60000) ∧ (J 25 8).toInt = zlen (K 80) (I0 23) m c ∧ zR6 aim J K g
theorem zv_le {T s k c : Nat} (hc : c ≤ 40) : 99999 * (zv T s k c : Int) ≤ 4000000 := by
  have h : zv T s k c ≤ c := by
    unfold zv
    split
    · omega
    · omega
  omega
theorem zRe_of {m c : Nat} {aim : Int32} {I0 K0 Ic Im : Nat → Nat → Int32} {T s g : Nat} (h : zRR m c aim I0 K0 Ic Im T s g) (hc : c ≤ 40) : zRe m c aim I0 K0 Ic Im g := by
  obtain ⟨r1, r2, r3, r4, r5, r6, r7⟩ := h
  refine ⟨r1, r2, ?_, r5.1, r5.2.1, r5.2.2.1, r5.2.2.2.2, r6⟩
  intro k hk
  obtain ⟨q1, q2, q3, q4, q5, q6⟩ := r3 k hk
  have := zv_le (T := T) (s := s) (k := k) hc
  exact ⟨q1, q2, q3, q4, q5, by omega⟩
/-- a stand that breaks -/
theorem zRe_break {m c : Nat} {aim : Int32} {I0 K0 Ic Im J K : Nat → Nat → Int32} {T s g : Nat} {x P : Int32} (h : zRR m c aim I0 K0 Ic Im T s g) (hc : c ≤ 40) (hs : s < m)
    (hr : ∀ a, a ≠ z_sd s → a ≠ 25 → J a = Ic a) (h1 : ∀ i, i < 11 → J (z_sd s) i = Ic (z_sd s) i) (h25 : ∀ i, i ≠ 5 → i ≠ 6 → J 25 i = Ic 25 i) (h255 : J 25 5 = x) (h256 : J 25 6 = z_mxi (Ic 25 6) P)
    (kr : ∀ a, a ≠ 55 → (a < 83 ∨ 87 < a) → K a = Im a) (k55 : ∀ i, i ≠ 44 → i ≠ 45 → K 55 i = Im 55 i) (k4 : K 55 44 = x) (k5 : K 55 45 = z_mxi (Im 55 45) P) : zRe m c aim I0 K0 J K g := by
  obtain ⟨r1, r2, r3, r4, r5, r6, r7⟩ := h
  have hge := z_sd_ge s
  have hne : ∀ k, k ≠ s → J (z_sd k) = Ic (z_sd k) := fun k e => hr _ (fun g => e (z_sd_inj g)) (by have := z_sd_ge k; omega)
  have k80 := kr 80 (by omega) (by omega)
  refine ⟨zR1_st r1 hs (fun a b1 b2 _ => hr a b1 b2) (fun i hi => h1 i (by omega)), ?_, ?_, ?_, ?_, ?_, ?_, ?_⟩
  · refine ⟨fun a a1 a2 a3 a4 => ?_, fun i i1 i2 => ?_⟩
    · rw [kr a a1 (by omega)]
      exact r2.1 a a1 a2 a3 a4
    · rw [k55 i (by omega) (by omega)]
      exact r2.2 i i1 i2
  · intro k hk
    obtain ⟨q1, q2, q3, q4, q5, q6⟩ := r3 k hk
    have := zv_le (T := T) (s := s) (k := k) hc
    rw [kr 64 (by omega) (by omega), kr 65 (by omega) (by omega)]
    by_cases e : k = s
    · subst e
      rw [h1 8 (by omega), h1 9 (by omega)]
      exact ⟨q1, q2, q3, q4, q5, by omega⟩
    · rw [hne k e]
      exact ⟨q1, q2, q3, q4, q5, by omega⟩
  · rw [hr 26 (by omega) (by omega), k80]
    exact r5.1
  · rw [hr 27 (by omega) (by omega), kr 82 (by omega) (by omega)]
    exact r5.2.1
  · rw [k80]
    exact r5.2.2.1
  · rw [h25 8 (by omega) (by omega), k80]
    exact r5.2.2.2.2
  · obtain ⟨q1, q2, q3, q4, q5, q6, q7, q8, q9⟩ := r6
    refine ⟨?_, ?_, ?_, ?_, ?_, ?_, ?_, ?_, ?_⟩
    · rw [h25 2 (by omega) (by omega), q1]
    · rw [h25 3 (by omega) (by omega), q2]
    · rw [h25 4 (by omega) (by omega), k55 43 (by omega) (by omega), q3]
    · rw [h255, k4]
    · rw [h256, k5, q5]
    · rw [h25 7 (by omega) (by omega), k55 46 (by omega) (by omega), q6]
    · rw [h25 12 (by omega) (by omega), k55 54 (by omega) (by omega), q7]
    · rw [h25 12 (by omega) (by omega), q8]
    · intro i hi
      rw [hr 28 (by omega) (by omega), kr 81 (by omega) (by omega)]
      exact q9 i hi
/-- what stands fast while a run goes on -/
def zBs (m c C p : Nat) (I0 K0 : Nat → Nat → Int32) : Prop := zg_S C m I0 ∧ zg_L p I0 ∧ zg_C I0 ∧ (I0 22 2).toInt = c ∧ C ≤ 511 ∧ (∀ a, a < 118 → a ≠ 55 → ((a < 25 ∨ 29 < a) ∧ a ≠ 10 ∧ a ≠ 17) → (a < 80 ∨ 90 < a) → K0 a = I0 a) ∧ K0 55 1 = I0 55 1 ∧ K0 55 13 = I0 55 13 ∧ K0 55 42 = I0 55 42 ∧ K0 55 28 = I0 55 28 ∧ K0 55 29 = I0 55 29
theorem zbo_eq {p : Nat} {I J : Nat → Nat → Int32} (h3 : I 3 = J 3) (h4 : I 4 = J 4) (k g r : Int) (w h : Int32) : zbo p I k g r w h = zbo p J k g r w h := by
  unfold zbo zd zf
  rw [h3, h4]
theorem zbp_eq {p : Nat} {I J : Nat → Nat → Int32} (h3 : I 3 = J 3) (h4 : I 4 = J 4) (w v h : Int32) : zbp p I w v h = zbp p J w v h := by
  unfold zbp zd zf
  rw [h3, h4]
/-- the press is none below 0 -/
theorem zbp_r {p : Nat} {I : Nat → Nat → Int32} (hL : zg_L p I) {w v h : Int32} (h0 : v.toInt ≤ w.toInt) (hh : 0 ≤ h.toInt) : 0 ≤ (zbp p I w v h).toInt := by
  have a := zm_pr_0 hL.2.2.2.1 (x := w.toInt - v.toInt) (h := h.toInt) hh (by omega)
  have b := zm_pr_top (zd I) (zf I) p (w.toInt - v.toInt) h.toInt
  unfold zbp
  rw [y_oi (by omega) (by omega)]
  exact a
