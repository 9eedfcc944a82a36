/-! CALLS, 26: run: the cells behind a bite, one by one -/
theorem zbJ_f (p : Nat) (I : Nat → Nat → Int32) (k : Nat) (w h : Int32) : (∀ a, a ≠ z_sd k → zbJ p I k w h a = I a) ∧ (∀ i, i < 11 → zbJ p I k w h (z_sd k) i = I (z_sd k) i) ∧ zbJ p I k w h (z_sd k) 11 = w ∧ zbJ p I k w h (z_sd k) 12 = h ∧
    zbJ p I k w h (z_sd k) 13 = zbo p I (I (z_sd k) 0).toInt (I (z_sd k) 8).toInt (I (z_sd k) 9).toInt w h ∧ zbJ p I k w h (z_sd k) 14 = zbp p I w (zbo p I (I (z_sd k) 0).toInt (I (z_sd k) 8).toInt (I (z_sd k) 9).toInt w h) h := by
  unfold zbJ
  refine ⟨fun a ha => ?_, fun i hi => ?_, ?_, ?_, ?_, ?_⟩
  · rw [z_up_r _ _ _ _ _ ha, z_up_r _ _ _ _ _ ha, z_up_r _ _ _ _ _ ha, z_up_r _ _ _ _ _ ha]
  · rw [z_up_j _ _ _ _ _ (by omega), z_up_j _ _ _ _ _ (by omega), z_up_j _ _ _ _ _ (by omega), z_up_j _ _ _ _ _ (by omega)]
  · rw [z_up_j _ _ _ _ _ (by omega), z_up_j _ _ _ _ _ (by omega), z_up_j _ _ _ _ _ (by omega), z_up_s]
  · rw [z_up_j _ _ _ _ _ (by omega), z_up_j _ _ _ _ _ (by omega), z_up_s]
  · rw [z_up_j _ _ _ _ _ (by omega), z_up_s]
  · rw [z_up_s]
theorem zbK_f (A : Nat → Nat → Int32) (k j : Nat) : (∀ a, a ≠ z_sd k → a ≠ 25 → a ≠ 26 → zbK A k j a = A a) ∧ (∀ i, i ≠ 9 → zbK A k j (z_sd k) i = A (z_sd k) i) ∧ zbK A k j (z_sd k) 9 = A (z_sd k) 9 + A (z_sd k) 14 / Int32.ofInt 100 ∧
    (∀ i, zbK A k j 26 i = if i = 40 * k + j then A (z_sd k) 13 else A 26 i) ∧ (∀ i, i ≠ 6 → zbK A k j 25 i = A 25 i) ∧ zbK A k j 25 6 = z_mxi (A 25 6) (A (z_sd k) 14) := by
  have hge := z_sd_ge k
  unfold zbK
  refine ⟨fun a a1 a2 a3 => ?_, fun i hi => ?_, ?_, fun i => ?_, fun i hi => ?_, ?_⟩
  · rw [z_up_r _ _ _ _ _ a3, z_up_r _ _ _ _ _ a1, z_up_r _ _ _ _ _ a2]
  · rw [z_up_r _ _ _ _ _ (by omega), z_up_j _ _ _ _ _ hi, z_up_r _ _ _ _ _ (by omega)]
  · rw [z_up_r _ _ _ _ _ (by omega), z_up_s]
  · rw [y_at, z_up_r _ _ _ _ _ (by omega), z_up_r _ _ _ _ _ (by omega)]
  · rw [z_up_r _ _ _ _ _ (show (25 : Nat) ≠ 26 by omega), z_up_r _ _ _ _ _ (by omega), z_up_j _ _ _ _ _ hi]
  · rw [z_up_r _ _ _ _ _ (show (25 : Nat) ≠ 26 by omega), z_up_r _ _ _ _ _ (by omega), z_up_s]
/-- the class's cells behind a stand's turn -/
def zbN (A : Nat → Nat → Int32) (m k j : Nat) : Nat → Nat → Int32 := if k + 1 = m then z_up (z_up (zbK A k j) 25 7 (A 25 7 + Int32.ofInt 1)) 25 8 (A 25 8 + zbl (A 23 j) (A (z_sd k) 13)) else zbK A k j
theorem zbN_f (A : Nat → Nat → Int32) (m k j : Nat) : (∀ a, a ≠ z_sd k → a ≠ 25 → a ≠ 26 → zbN A m k j a = A a) ∧ (∀ i, i ≠ 9 → zbN A m k j (z_sd k) i = A (z_sd k) i) ∧ zbN A m k j (z_sd k) 9 = A (z_sd k) 9 + A (z_sd k) 14 / Int32.ofInt 100 ∧
    (∀ i, zbN A m k j 26 i = if i = 40 * k + j then A (z_sd k) 13 else A 26 i) ∧ (∀ i, i ≠ 6 → i ≠ 7 → i ≠ 8 → zbN A m k j 25 i = A 25 i) ∧ zbN A m k j 25 6 = z_mxi (A 25 6) (A (z_sd k) 14) ∧
    zbN A m k j 25 7 = (if k + 1 = m then A 25 7 + Int32.ofInt 1 else A 25 7) ∧ zbN A m k j 25 8 = (if k + 1 = m then A 25 8 + zbl (A 23 j) (A (z_sd k) 13) else A 25 8) := by
  have hge := z_sd_ge k
  obtain ⟨b1, b2, b3, b4, b5, b6⟩ := zbK_f A k j
  unfold zbN
  by_cases h : k + 1 = m
  · rw [if_pos h, if_pos h, if_pos h]
    refine ⟨fun a a1 a2 a3 => ?_, fun i hi => ?_, ?_, fun i => ?_, fun i h1 h2 h3 => ?_, ?_, ?_, ?_⟩
    · rw [z_up_r _ _ _ _ _ a2, z_up_r _ _ _ _ _ a2, b1 a a1 a2 a3]
    · rw [z_up_r _ _ _ _ _ (by omega), z_up_r _ _ _ _ _ (by omega), b2 i hi]
    · rw [z_up_r _ _ _ _ _ (by omega), z_up_r _ _ _ _ _ (by omega), b3]
    · rw [z_up_r _ _ _ _ _ (show (26 : Nat) ≠ 25 by omega), z_up_r _ _ _ _ _ (show (26 : Nat) ≠ 25 by omega), b4]
    · rw [z_up_j _ _ _ _ _ h3, z_up_j _ _ _ _ _ h2, b5 i h1]
    · rw [z_up_j _ _ _ _ _ (show (6 : Nat) ≠ 8 by omega), z_up_j _ _ _ _ _ (show (6 : Nat) ≠ 7 by omega), b6]
    · rw [z_up_j _ _ _ _ _ (show (7 : Nat) ≠ 8 by omega), z_up_s]
    · rw [z_up_s]
  · rw [if_neg h, if_neg h, if_neg h]
    exact ⟨b1, b2, b3, b4, fun i h1 _ _ => b5 i h1, b6, b5 7 (by omega), b5 8 (by omega)⟩
theorem zmJ_f (p : Nat) (I : Nat → Nat → Int32) (k : Nat) (w h : Int32) {V P : Int32} (hV : zbo p I (I 56 k).toInt (I 64 k).toInt (I 65 k).toInt w h = V) (hP : zbp p I w V h = P) : (∀ a, a ≠ 55 → (a < 83 ∨ 87 < a) → zmJ p I k w h a = I a) ∧ (∀ i, i ≠ 45 → zmJ p I k w h 55 i = I 55 i) ∧ zmJ p I k w h 55 45 = z_mxi (I 55 45) P ∧
    (∀ i, zmJ p I k w h 83 i = if i = k then Int32.ofInt 1 else I 83 i) ∧ (∀ i, zmJ p I k w h 84 i = if i = k then w else I 84 i) ∧ (∀ i, zmJ p I k w h 85 i = if i = k then V else I 85 i) ∧ (∀ i, zmJ p I k w h 86 i = if i = k then P else I 86 i) ∧ (∀ i, zmJ p I k w h 87 i = if i = k then h else I 87 i) := by
  unfold zmJ
  rw [hV, hP]
  refine ⟨fun a a1 a2 => ?_, fun i hi => ?_, ?_, fun i => ?_, fun i => ?_, fun i => ?_, fun i => ?_, fun i => ?_⟩
  · rw [z_up_r _ _ _ _ _ a1, z_up_r _ _ _ _ _ (by omega), z_up_r _ _ _ _ _ (by omega), z_up_r _ _ _ _ _ (by omega), z_up_r _ _ _ _ _ (by omega), z_up_r _ _ _ _ _ (by omega)]
  · rw [z_up_j _ _ _ _ _ hi]
  · rw [z_up_s]
  · exact y_at I 83 k i _
  · exact y_at I 84 k i _
  · exact y_at I 85 k i _
  · exact y_at I 86 k i _
  · exact y_at I 87 k i _
def zmN (A : Nat → Nat → Int32) (m k j : Nat) : Nat → Nat → Int32 := if k + 1 = m then z_up (zmK A k j) 55 46 (A 55 46 + Int32.ofInt 1) else zmK A k j
theorem zmN_f (A : Nat → Nat → Int32) (m k j : Nat) : (∀ a, a ≠ 55 → a ≠ 65 → a ≠ 80 → a ≠ 88 → zmN A m k j a = A a) ∧ (∀ i, i ≠ 46 → zmN A m k j 55 i = A 55 i) ∧ zmN A m k j 55 46 = (if k + 1 = m then A 55 46 + Int32.ofInt 1 else A 55 46) ∧
    (∀ i, zmN A m k j 65 i = if i = k then A 65 k + A 86 k / Int32.ofInt 100 else A 65 i) ∧ (∀ i, zmN A m k j 80 i = if i = 40 * k + j then A 85 k else A 80 i) ∧ (∀ i, zmN A m k j 88 i = if i = j then zhd (A 88 j) (A 63 k) else A 88 i) := by
  have b : (∀ a, a ≠ 65 → a ≠ 80 → a ≠ 88 → zmK A k j a = A a) ∧ (∀ i, zmK A k j 65 i = if i = k then A 65 k + A 86 k / Int32.ofInt 100 else A 65 i) ∧ (∀ i, zmK A k j 80 i = if i = 40 * k + j then A 85 k else A 80 i) ∧ (∀ i, zmK A k j 88 i = if i = j then zhd (A 88 j) (A 63 k) else A 88 i) := by
    unfold zmK
    refine ⟨fun a a1 a2 a3 => ?_, fun i => ?_, fun i => ?_, fun i => ?_⟩
    · rw [z_up_r _ _ _ _ _ a3, z_up_r _ _ _ _ _ a1, z_up_r _ _ _ _ _ a2]
    · exact y_at A 65 k i _
    · exact y_at A 80 _ i _
    · exact y_at A 88 j i _
  obtain ⟨b1, b2, b3, b4⟩ := b
  unfold zmN
  by_cases h : k + 1 = m
  · rw [if_pos h, if_pos h]
    refine ⟨fun a a1 a2 a3 a4 => ?_, fun i hi => ?_, ?_, fun i => ?_, fun i => ?_, fun i => ?_⟩
    · rw [z_up_r _ _ _ _ _ a1, b1 a a2 a3 a4]
    · rw [z_up_j _ _ _ _ _ hi, b1 55 (by omega) (by omega) (by omega)]
    · rw [z_up_s]
    · rw [z_up_r _ _ _ _ _ (show (65 : Nat) ≠ 55 by omega), b2]
    · rw [z_up_r _ _ _ _ _ (show (80 : Nat) ≠ 55 by omega), b3]
    · rw [z_up_r _ _ _ _ _ (show (88 : Nat) ≠ 55 by omega), b4]
  · rw [if_neg h, if_neg h]
    exact ⟨fun a _ a2 a3 a4 => b1 a a2 a3 a4, fun i _ => by rw [b1 55 (by omega) (by omega) (by omega)], by rw [b1 55 (by omega) (by omega) (by omega)], b2, b3, b4⟩
