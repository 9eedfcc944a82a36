/-! THE RELATION between the class's cells and the model's, by groups -/
/-- a stand that is told -/
def zg_S1 (C : Nat) (I : Nat → Nat → Int32) (k : Nat) : Prop :=
  (I (z_sd k) 0 = I 56 k ∧ I (z_sd k) 1 = I 57 k ∧ I (z_sd k) 2 = I 58 k ∧ I (z_sd k) 3 = I 59 k ∧ I (z_sd k) 4 = I 60 k ∧ I (z_sd k) 5 = I 61 k ∧ I (z_sd k) 6 = I 62 k ∧ I (z_sd k) 7 = I 63 k ∧ I (z_sd k) 8 = I 64 k ∧ I (z_sd k) 9 = I 65 k ∧ I (z_sd k) 10 = I 66 k) ∧
  (1 ≤ (I 56 k).toInt ∧ (I 56 k).toInt ≤ 999 ∧ 1 ≤ (I 57 k).toInt ∧ (I 57 k).toInt ≤ 9999999 ∧ 0 ≤ (I 58 k).toInt ∧ (I 58 k).toInt ≤ (I 64 k).toInt ∧ (I 64 k).toInt ≤ (I 59 k).toInt ∧ (I 59 k).toInt ≤ 60000 ∧ 1 ≤ (I 60 k).toInt ∧ (I 60 k).toInt ≤ 60000 ∧
    1 ≤ (I 61 k).toInt ∧ (I 61 k).toInt ≤ 999 ∧ 100 ≤ (I 62 k).toInt ∧ (I 62 k).toInt ≤ 4000 ∧ 0 ≤ (I 63 k).toInt ∧ (I 63 k).toInt ≤ 9 ∧ 0 ≤ (I 65 k).toInt ∧ (I 65 k).toInt ≤ 4000000 * C)
def zg_S (C m : Nat) (I : Nat → Nat → Int32) : Prop := m ≤ 5 ∧ I 5 2 = Int32.ofNat m ∧ I 55 1 = Int32.ofNat m ∧ (∀ k < m, zg_S1 C I k) ∧ (∀ k, m ≤ k → k < 5 → ∀ j, I (z_sd k) j = 0)
/-- the tape -/
def zg_T (I : Nat → Nat → Int32) : Prop := I 0 2 = I 55 17 ∧ 0 ≤ (I 0 2).toInt ∧ (I 0 2).toInt ≤ 400 ∧ I 6 = I 69
/-- the coil -/
def zg_C (I : Nat → Nat → Int32) : Prop := I 22 2 = I 55 42 ∧ 0 ≤ (I 22 2).toInt ∧ (I 22 2).toInt ≤ 40 ∧ I 23 = I 78 ∧ I 24 = I 79 ∧ (∀ k : Nat, (k : Int) < (I 22 2).toInt → 1 ≤ (I 23 k).toInt ∧ (I 23 k).toInt ≤ 60000 ∧ 1 ≤ (I 24 k).toInt ∧ (I 24 k).toInt ≤ 99)
/-- the passes -/
def zg_P (I : Nat → Nat → Int32) : Prop := I 30 2 = I 55 64 ∧ 0 ≤ (I 30 2).toInt ∧ (I 30 2).toInt ≤ 12 ∧ I 31 = I 91 ∧ (∀ k : Nat, (k : Int) < (I 30 2).toInt → 1 ≤ (I 31 k).toInt ∧ (I 31 k).toInt ≤ 60000) ∧ (∀ j k : Nat, j < k → (k : Int) < (I 30 2).toInt → I 31 j ≠ I 31 k)
/-- the plan that is kept -/
def zg_K (m : Nat) (I : Nat → Nat → Int32) : Prop := I 30 13 = I 55 65 ∧ 0 ≤ (I 30 13).toInt ∧ (I 30 13).toInt ≤ m ∧ (∀ k : Nat, (k : Int) < (I 30 13).toInt → I 36 k = I 92 k ∧ I 37 k = I 93 k ∧ I 38 k = I 94 k)
/-- the orders -/
def zg_O (I : Nat → Nat → Int32) : Prop := I 41 4 = I 55 76 ∧ 0 ≤ (I 41 4).toInt ∧ (I 41 4).toInt ≤ 9 ∧ I 42 = I 100 ∧ I 43 = I 101 ∧ I 44 = I 102 ∧ I 45 = I 103 ∧
  (∀ k : Nat, (k : Int) < (I 41 4).toInt → 1 ≤ (I 42 k).toInt ∧ (I 42 k).toInt ≤ 9999 ∧ 1 ≤ (I 43 k).toInt ∧ (I 43 k).toInt ≤ 60000 ∧ 1 ≤ (I 44 k).toInt ∧ (I 44 k).toInt ≤ 99 ∧ 0 ≤ (I 45 k).toInt ∧ (I 45 k).toInt ≤ 999)
/-- the readings -/
def zg_R (I : Nat → Nat → Int32) : Prop := I 48 0 = I 55 89 ∧ 0 ≤ (I 48 0).toInt ∧ (I 48 0).toInt ≤ 99 ∧ I 48 6 = I 55 90 ∧ 0 ≤ (I 48 6).toInt ∧ (I 48 6).toInt ≤ 100 ∧ I 49 = I 111 ∧ I 50 = I 112 ∧ I 51 = I 113 ∧ I 52 = I 114 ∧ I 53 = I 115 ∧
  (∀ k : Nat, (k : Int) < (I 48 6).toInt → 0 ≤ (I 50 k).toInt ∧ (I 50 k).toInt ≤ 39 ∧ 1 ≤ (I 51 k).toInt ∧ (I 51 k).toInt ≤ 60000)
/-- how long the strip of a segment has become behind the last of m stands -/
def zlt (F G : Nat → Int32) (m k : Nat) : Int := if m = 0 ∨ F (40 * (m - 1) + k) = Int32.ofInt (-1) then 0 else min 10000000 (1000 * (G k).toInt / (F (40 * (m - 1) + k)).toInt)
def zlen (F G : Nat → Int32) (m : Nat) : Nat → Int
  | 0 => 0
  | n + 1 => zlen F G m n + zlt F G m n
/-- the latest run -/
def zg_U (m : Nat) (I : Nat → Nat → Int32) : Prop := I 25 2 = I 55 48 ∧ (I 25 2 = 0 ∨ I 25 2 = 1) ∧ (I 25 2 = 1 → I 25 3 = I 55 55 ∧ 1 ≤ (I 25 3).toInt ∧ (I 25 3).toInt ≤ 60000 ∧ I 25 4 = I 55 43 ∧ I 25 5 = I 55 44 ∧ I 25 6 = I 55 45 ∧ I 25 7 = I 55 46 ∧ I 55 47 = Int32.ofNat m ∧
  I 25 12 = I 55 54 ∧ 0 ≤ (I 25 12).toInt ∧ (I 25 12).toInt ≤ 44 ∧ (∀ k : Nat, (k : Int) < (I 25 12).toInt → I 28 k = I 81 k) ∧ I 26 = I 80 ∧ I 27 = I 82 ∧ (∀ k : Nat, k < 200 → I 26 k = Int32.ofInt (-1) ∨ (1 ≤ (I 26 k).toInt ∧ (I 26 k).toInt ≤ 60000)) ∧ (I 25 8).toInt = zlen (I 26) (I 23) m (I 22 2).toInt.toNat)
theorem z_sd_ge (k : Nat) : 118 ≤ z_sd k := by
  have e : z_sd k = if k = 0 then 118 else 119 + k := by cases k <;> rfl
  rw [e]
  split <;> omega
theorem z_sd_inj {j k : Nat} (h : z_sd j = z_sd k) : j = k := by
  have e : ∀ k, z_sd k = if k = 0 then 118 else 119 + k := by
    intro k
    cases k <;> rfl
  rw [e, e] at h
  split at h <;> split at h <;> omega
theorem z_beq_n {a b : Nat} (h : a ≠ b) : Nat.beq a b = false := by
  cases e : Nat.beq a b
  · rfl
  · exact absurd (Nat.eq_of_beq_eq_true e) h
theorem z_up_st {α : Type} (f : Nat → Nat → α) (k j a : Nat) (v : α) (h : a < 118) : z_up f (z_sd k) j v a = f a := by
  funext b
  exact z_up_a f (z_sd k) j a b v (z_beq_n (by have := z_sd_ge k; omega))
theorem z_up_r {α : Type} (f : Nat → Nat → α) (a k b : Nat) (v : α) (h : b ≠ a) : z_up f a k v b = f b := by
  funext j
  exact z_up_a f a k b j v (z_beq_n h)
theorem zg_L_fr {p : Nat} {I J : Nat → Nat → Int32} (h : zg_L p I) (h2 : J 2 2 = I 2 2) (h3 : J 3 = I 3) (h4 : J 4 = I 4) (h5 : J 55 13 = I 55 13) (h67 : J 67 = I 67) (h68 : J 68 = I 68) : zg_L p J := by
  unfold zg_L zd zf at *
  rw [h2, h3, h4, h5, h67, h68]
  exact h
theorem zg_S1_fr {C D : Nat} {I J : Nat → Nat → Int32} {k : Nat} (h : zg_S1 C I k) (hC : C ≤ D) (hs : J (z_sd k) 0 = I (z_sd k) 0 ∧ J (z_sd k) 1 = I (z_sd k) 1 ∧ J (z_sd k) 2 = I (z_sd k) 2 ∧ J (z_sd k) 3 = I (z_sd k) 3 ∧ J (z_sd k) 4 = I (z_sd k) 4 ∧ J (z_sd k) 5 = I (z_sd k) 5 ∧ J (z_sd k) 6 = I (z_sd k) 6 ∧ J (z_sd k) 7 = I (z_sd k) 7 ∧ J (z_sd k) 8 = I (z_sd k) 8 ∧ J (z_sd k) 9 = I (z_sd k) 9 ∧ J (z_sd k) 10 = I (z_sd k) 10) (h0 : ∀ a, 56 ≤ a → a ≤ 66 → J a k = I a k) : zg_S1 D J k := by
  unfold zg_S1 at *
  obtain ⟨s0, s1, s2, s3, s4, s5, s6, s7, s8, s9, s10⟩ := hs
  rw [s0, s1, s2, s3, s4, s5, s6, s7, s8, s9, s10, h0 56 (by omega) (by omega), h0 57 (by omega) (by omega), h0 58 (by omega) (by omega), h0 59 (by omega) (by omega), h0 60 (by omega) (by omega), h0 61 (by omega) (by omega), h0 62 (by omega) (by omega), h0 63 (by omega) (by omega), h0 64 (by omega) (by omega), h0 65 (by omega) (by omega), h0 66 (by omega) (by omega)]
  refine ⟨h.1, ?_⟩
  omega
theorem zg_S_fr {C D m : Nat} {I J : Nat → Nat → Int32} (h : zg_S C m I) (hC : C ≤ D) (hs : ∀ k < 5, J (z_sd k) = I (z_sd k)) (h5 : J 5 2 = I 5 2) (h55 : J 55 1 = I 55 1) (h0 : ∀ a, 56 ≤ a → a ≤ 66 → J a = I a) : zg_S D m J := by
  obtain ⟨a1, a2, a3, a4, a5⟩ := h
  refine ⟨a1, by rw [h5, a2], by rw [h55, a3], ?_, ?_⟩
  · intro k hk
    have e := hs k (by omega)
    exact zg_S1_fr (a4 k hk) hC (by rw [e]; exact ⟨rfl, rfl, rfl, rfl, rfl, rfl, rfl, rfl, rfl, rfl, rfl⟩) (fun a g1 g2 => by rw [h0 a g1 g2])
  · intro k k1 k2 j
    rw [hs k k2]
    exact a5 k k1 k2 j
