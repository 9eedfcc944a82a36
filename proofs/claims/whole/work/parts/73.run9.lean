/-! CALLS, 24: run: a bite that is borne keeps the relation -/
theorem zRR_bite {m c C : Nat} {aim : Int32} {I0 K0 Ic Im J K : Nat → Nat → Int32} {T s g j : Nat} {w h V P : Int32} (hr0 : zRR m c aim I0 K0 Ic Im T s g) (hs : s < m) (h5 : m ≤ 5) (hT : T = j + s) (hj : j < c) (hc : c ≤ 40) (hG : ∀ k : Nat, k < c → 1 ≤ (I0 23 k).toInt ∧ (I0 23 k).toInt ≤ 60000)
    (hH : ∀ k : Nat, k < c → 1 ≤ (I0 24 k).toInt ∧ (I0 24 k).toInt ≤ 99) (hW : ∀ k, k < m → 0 ≤ (I0 (z_sd k) 7).toInt ∧ (I0 (z_sd k) 7).toInt ≤ 9) (h63 : I0 (z_sd s) 7 = Im 63 s)
    (hC : C ≤ 511) (hw65 : (I0 65 s).toInt ≤ 4000000 * C) (hw0 : 1 ≤ w.toInt) (hV0 : 1 ≤ V.toInt) (hV1 : V.toInt ≤ 60000) (hP0 : 0 ≤ P.toInt) (hP1 : P.toInt ≤ 9999999) (hh : h = Im 88 j)
    (hr : ∀ a, a ≠ z_sd s → a ≠ 25 → a ≠ 26 → J a = Ic a) (h1 : ∀ i, (i < 9 ∨ i = 10) → J (z_sd s) i = Ic (z_sd s) i) (h9 : J (z_sd s) 9 = Ic (z_sd s) 9 + P / Int32.ofInt 100) (h11 : J (z_sd s) 11 = w) (h12 : J (z_sd s) 12 = h) (h13 : J (z_sd s) 13 = V) (h14 : J (z_sd s) 14 = P)
    (h26 : ∀ i, J 26 i = if i = 40 * s + j then V else Ic 26 i) (h25 : ∀ i, i ≠ 6 → i ≠ 7 → i ≠ 8 → J 25 i = Ic 25 i) (h256 : J 25 6 = z_mxi (Ic 25 6) P) (h257 : J 25 7 = if s + 1 = m then Ic 25 7 + Int32.ofInt 1 else Ic 25 7) (h258 : J 25 8 = if s + 1 = m then Ic 25 8 + zbl (Ic 23 j) V else Ic 25 8)
    (kr : ∀ a, a ≠ 55 → a ≠ 65 → a ≠ 80 → (a < 83 ∨ 88 < a) → K a = Im a) (k55 : ∀ i, i ≠ 45 → i ≠ 46 → K 55 i = Im 55 i) (k5 : K 55 45 = z_mxi (Im 55 45) P) (k6 : K 55 46 = if s + 1 = m then Im 55 46 + Int32.ofInt 1 else Im 55 46)
    (k65 : ∀ i, K 65 i = if i = s then Im 65 s + P / Int32.ofInt 100 else Im 65 i) (k80 : ∀ i, K 80 i = if i = 40 * s + j then V else Im 80 i) (k83 : ∀ i, K 83 i = if i = s then Int32.ofInt 1 else Im 83 i) (k84 : ∀ i, K 84 i = if i = s then w else Im 84 i) (k85 : ∀ i, K 85 i = if i = s then V else Im 85 i) (k86 : ∀ i, K 86 i = if i = s then P else Im 86 i) (k87 : ∀ i, K 87 i = if i = s then h else Im 87 i) (k88 : ∀ i, K 88 i = if i = j then zhd h (Im 63 s) else Im 88 i) :
    zRR m c aim I0 K0 J K T (s + 1) g := by
  obtain ⟨r1, r2, r3, r4, r5, r6, r7⟩ := hr0
  have hge := z_sd_ge s
  have hne : ∀ k, k ≠ s → J (z_sd k) = Ic (z_sd k) := fun k e => hr _ (fun g => e (z_sd_inj g)) (by have := z_sd_ge k; omega) (by have := z_sd_ge k; omega)
  have hvs : (zv T (s + 1) s c : Int) = zv T s s c + 1 := by
    unfold zv
    rw [if_neg (show ¬ T < s by omega), if_pos (show s < s + 1 by omega), if_neg (show ¬ T < s by omega), if_neg (show ¬ s < s by omega)]
    omega
  have hvc : (zv T s s c : Int) ≤ 40 := by
    unfold zv
    rw [if_neg (by omega)]
    omega
  refine ⟨zR1_st r1 hs hr (fun i hi => h1 i (by omega)), ?_, ?_, ?_, ?_, ?_, ?_⟩
  · refine ⟨fun a a1 a2 a3 a4 => ?_, fun i i1 i2 => ?_⟩
    · rw [kr a a1 a3 (by omega) (by omega)]
      exact r2.1 a a1 a2 a3 a4
    · rw [k55 i (by omega) (by omega)]
      exact r2.2 i i1 i2
  · intro k hk
    obtain ⟨q1, q2, q3, q4, q5, q6⟩ := r3 k hk
    have := zv_up T s k c
    rw [kr 64 (by omega) (by omega) (by omega) (by omega), k65]
    by_cases e : k = s
    · subst e
      have e1 : (P / Int32.ofInt 100).toInt = P.toInt / 100 := by rw [y_dv hP0 (by decide)]; rfl
      have e2 : (Im 65 k + P / Int32.ofInt 100).toInt = (Im 65 k).toInt + P.toInt / 100 := by rw [y_ad (by omega) (by omega), e1]
      rw [if_pos rfl, h1 8 (by omega), h9, q1, q2, e2]
      refine ⟨rfl, rfl, q3, q4, by omega, by omega⟩
    · rw [if_neg e, hne k e]
      exact ⟨q1, q2, q3, q4, q5, by omega⟩
  · refine ⟨?_, ?_⟩
    · intro k hk
      rw [k83, k84, k85, k86, k87]
      by_cases e : k = s
      · subst e
        rw [if_pos rfl, if_pos rfl, if_pos rfl, if_pos rfl, if_pos rfl, h11, h12, h13, h14]
        exact ⟨rfl, rfl, rfl, rfl, Or.inr ⟨rfl, hw0⟩⟩
      · rw [if_neg e, if_neg e, if_neg e, if_neg e, if_neg e, hne k e]
        exact r4.1 k (by omega)
    · intro k q1 q2
      rw [k83, k84, k85, k86, k87, if_neg (by omega), if_neg (by omega), if_neg (by omega), if_neg (by omega), if_neg (by omega)]
      exact r4.2 k (by omega) q2
  · obtain ⟨q1, q2, q3, q4, q5⟩ := r5
    have b0 : Im 80 (40 * s + j) = Int32.ofInt (-1) := (q4 s j hs hj).2 (by unfold zbtn; omega)
    refine ⟨?_, by rw [hr 27 (by omega) (by omega) (by omega), kr 82 (by omega) (by omega) (by omega) (by omega), q2], ?_, ?_, ?_⟩
    · funext i
      rw [h26, k80, q1]
    · intro i hi
      rw [k80]
      by_cases e : i = 40 * s + j
      · rw [if_pos e]
        exact Or.inr ⟨hV0, hV1⟩
      · rw [if_neg e]
        exact q3 i hi
    · intro k i k1 k2
      rw [k80]
      by_cases e : 40 * k + i = 40 * s + j
      · have e1 : k = s := by omega
        have e2 : i = j := by omega
        subst e1
        subst e2
        rw [if_pos rfl]
        exact ⟨fun _ => hV0, fun q => absurd (show zbtn T (k + 1) k i by unfold zbtn; omega) q⟩
      · rw [if_neg e]
        have e3 : zbtn T (s + 1) k i ↔ zbtn T s k i := by
          unfold zbtn
          omega
        rw [e3]
        exact q4 k i k1 k2
    · have a1 := zlen_at (F := Im 80) (E := K 80) (G := I0 23) (m := m) (s := s) (j := j) (V := V) k80 hs (by omega) b0 hV0 c hc
      have a2 := zlen_r (F := Im 80) (G := I0 23) (m := m) (c := c) (by omega) h5 hc q3 hG c (by omega)
      have a3 := hG j hj
      have a4 : Ic 23 = I0 23 := r1.1 23 (by omega) (by omega) (by omega) (by omega) (by omega) (by omega)
      rw [a1, h258]
      by_cases e : s + 1 = m
      · have a5 := zbl_i (x := I0 23 j) (v := V) a3.1 a3.2 hV0
        have a6 := Int.ediv_nonneg (a := 1000 * (I0 23 j).toInt) (b := V.toInt) (by omega) (by omega)
        rw [if_pos e, if_pos ⟨e, hj⟩, a4, y_ad (by omega) (by omega), q5, a5]
      · rw [if_neg e, if_neg (fun q => e q.1), q5]
        omega
  · obtain ⟨q1, q2, q3, q4, q5, q6, q7, q8, q9⟩ := r6
    refine ⟨?_, ?_, ?_, ?_, ?_, ?_, ?_, ?_, ?_⟩
    · rw [h25 2 (by omega) (by omega) (by omega), q1]
    · rw [h25 3 (by omega) (by omega) (by omega), q2]
    · rw [h25 4 (by omega) (by omega) (by omega), k55 43 (by omega) (by omega), q3]
    · rw [h25 5 (by omega) (by omega) (by omega), k55 44 (by omega) (by omega), q4]
    · rw [h256, k5, q5]
    · rw [h257, k6, q6]
    · rw [h25 12 (by omega) (by omega) (by omega), k55 54 (by omega) (by omega), q7]
    · rw [h25 12 (by omega) (by omega) (by omega), q8]
    · intro i hi
      rw [hr 28 (by omega) (by omega) (by omega), kr 81 (by omega) (by omega) (by omega) (by omega)]
      exact q9 i hi
  · intro i hi
    rw [k88]
    by_cases e : i = j
    · subst e
      have z1 : zn T s i m = s := by
        unfold zn
        rw [if_neg (by omega), if_neg (by omega)]
        omega
      have z2 : zn T (s + 1) i m = s + 1 := by
        unfold zn
        rw [if_neg (by omega), if_pos (by omega)]
        omega
      have a1 := r7 i hi
      rw [z1] at a1
      have a2 := zhs_r hW s (by omega)
      have a3 := hH i hi
      have a4 := hW s hs
      rw [if_pos rfl, z2, zhw_s a4.1, hh, zhd_i (by rw [a1]; unfold zhw; omega) (by rw [a1]; unfold zhw; omega) (by rw [← h63]; omega) (by rw [← h63]; omega), a1, h63]
    · rw [if_neg e, r7 i hi]
      have e2 : zn T (s + 1) i m = zn T s i m := by
        unfold zn
        split
        · rfl
        · split <;> split <;> omega
      rw [e2]
