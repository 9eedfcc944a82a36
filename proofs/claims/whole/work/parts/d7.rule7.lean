/-! RULES, 10: the model's words -/
theorem zpk_s : ((Int32.ofInt 5).toInt64 &&& 63 : Int64).toBitVec.smod 64 = 5#64 := by decide +kernel
theorem zpk_e (v : Int64) (y : Int64) : ((v <<< ((Int32.ofInt 5).toInt64 &&& 63)) ||| y).toBitVec = (v.toBitVec <<< (5#64)) ||| y.toBitVec := by
  rw [Int64.toBitVec_or, Int64.toBitVec_shiftLeft, zpk_s]
theorem zpk_n (a b : BitVec 64) (ha : a.toNat < 2251799813685248) (hb : b.toNat < 32) : ((a <<< (5#64)) ||| b).toNat = a.toNat * 32 + b.toNat := by
  have e5 : (5#64).toNat = 5 := rfl
  have h1 : (a <<< (5#64)).toNat = a.toNat * 2 ^ 5 := by
    rw [BitVec.shiftLeft_eq', BitVec.toNat_shiftLeft, e5, Nat.shiftLeft_eq, Nat.mod_eq_of_lt]
    omega
  rw [BitVec.toNat_or, h1, ← Nat.shiftLeft_eq, ← Nat.shiftLeft_add_eq_or_of_lt (by omega), Nat.shiftLeft_eq]
theorem zpk_p (a : BitVec 64) (h : 0 ≤ a.toInt) : a.toInt = (a.toNat : Int) := by
  have := a.isLt
  rw [BitVec.toInt_eq_toNat_cond] at h ⊢
  by_cases c : 2 * a.toNat < 2 ^ 64
  · rw [if_pos c]
  · rw [if_neg c] at h
    omega
theorem zpk_b (a b : BitVec 64) (h0 : 0 ≤ a.toInt) (h1 : a.toInt < 2251799813685248) (h2 : 0 ≤ b.toInt) (h3 : b.toInt < 32) : ((a <<< (5#64)) ||| b).toInt = a.toInt * 32 + b.toInt := by
  have ha := zpk_p a h0
  have hb := zpk_p b h2
  have hn := zpk_n a b (by omega) (by omega)
  rw [BitVec.toInt_eq_toNat_cond, hn, if_pos (by omega), ha, hb]
  omega
theorem zpk_i (v : Int64) : v.toBitVec.toInt = v.toInt := rfl
theorem zpk_v {v : Int64} {x : Int32} (h0 : 0 ≤ v.toInt) (h1 : v.toInt < 2251799813685248) (h2 : 0 ≤ x.toInt) (h3 : x.toInt < 32) : ((v <<< ((Int32.ofInt 5).toInt64 &&& 63)) ||| x.toInt64).toInt = v.toInt * 32 + x.toInt := by
  have ex : x.toInt64.toBitVec.toInt = x.toInt := (zpk_i _).trans (y_il x)
  have ev : v.toBitVec.toInt = v.toInt := zpk_i v
  rw [← zpk_i, zpk_e, zpk_b _ _ (by rw [ev]; exact h0) (by rw [ev]; exact h1) (by rw [ex]; exact h2) (by rw [ex]; exact h3), ev, ex]
/-- letters, five bits each -/
def zpkn (F : Nat → Int) (a : Nat) : Nat → Int
  | 0 => 0
  | k + 1 => zpkn F a k * 32 + (F (a + k) - 96)
theorem zpkn_p {F : Nat → Int} {a : Nat} : ∀ n, (∀ j, j < n → zltr (F (a + j)) = true) → 0 ≤ zpkn F a n ∧ (0 < n → 1 ≤ zpkn F a n) ∧ zpkn F a n < 32 ^ n := by
  intro n
  induction n with
  | zero => intro _; exact ⟨Int.le_refl _, fun h => by omega, by show (0 : Int) < 1; omega⟩
  | succ n ih =>
    intro h
    obtain ⟨a1, a2, a3⟩ := ih (fun j hj => h j (by omega))
    have a4 := h n (by omega)
    unfold zltr at a4
    have a5 : 97 ≤ F (a + n) ∧ F (a + n) ≤ 122 := by simpa using a4
    show 0 ≤ zpkn F a n * 32 + (F (a + n) - 96) ∧ (0 < n + 1 → 1 ≤ zpkn F a n * 32 + (F (a + n) - 96)) ∧ zpkn F a n * 32 + (F (a + n) - 96) < 32 ^ (n + 1)
    rw [Int.pow_succ]
    omega
theorem zpkn_inj {F G : Nat → Int} {a b : Nat} : ∀ n m, (∀ j, j < n → zltr (F (a + j)) = true) → (∀ j, j < m → zltr (G (b + j)) = true) → zpkn F a n = zpkn G b m → n = m ∧ ∀ j, j < n → F (a + j) = G (b + j) := by
  intro n
  induction n with
  | zero =>
    intro m _ hG e
    cases m with
    | zero => exact ⟨rfl, fun j hj => by omega⟩
    | succ m =>
      have := (zpkn_p (m + 1) hG).2.1 (by omega)
      have e' : (0 : Int) = zpkn G b (m + 1) := e
      omega
  | succ n ih =>
    intro m hF hG e
    cases m with
    | zero =>
      have := (zpkn_p (n + 1) hF).2.1 (by omega)
      have e' : zpkn F a (n + 1) = (0 : Int) := e
      omega
    | succ m =>
      have f1 := hF n (by omega)
      have g1 := hG m (by omega)
      unfold zltr at f1 g1
      have f2 : 97 ≤ F (a + n) ∧ F (a + n) ≤ 122 := by simpa using f1
      have g2 : 97 ≤ G (b + m) ∧ G (b + m) ≤ 122 := by simpa using g1
      have e' : zpkn F a n * 32 + (F (a + n) - 96) = zpkn G b m * 32 + (G (b + m) - 96) := e
      have e2 : F (a + n) = G (b + m) := by omega
      have e3 : zpkn F a n = zpkn G b m := by omega
      obtain ⟨i1, i2⟩ := ih m (fun j hj => hF j (by omega)) (fun j hj => hG j (by omega)) e3
      subst i1
      refine ⟨rfl, fun j hj => ?_⟩
      by_cases c : j = n
      · rw [c]; exact e2
      · exact i2 j (by omega)
/-- which of the model's words is one of the class's, and back -/
def zcm (k : Nat) : Nat := [14, 15, 16, 17, 18, 13, 11, 12, 10, 0, 1, 2, 3, 4, 5, 6, 7, 8, 9].getD k 0
def zmow (k : Nat) : Nat := [9, 10, 11, 12, 13, 14, 15, 16, 17, 18, 8, 6, 7, 5, 0, 1, 2, 3, 4].getD k 0
def zkw (k : Int) : Int := if 100 ≤ k ∧ k ≤ 118 then (zmow (k - 100).toNat : Int) else -1
def zlw (k : Nat) : Int64 := [z_p_M_spelled (Int32.ofInt 115) (Int32.ofInt 116) (Int32.ofInt 97) (Int32.ofInt 110) (Int32.ofInt 100) (Int32.ofInt 0),
  z_p_M_spelled (Int32.ofInt 108) (Int32.ofInt 97) (Int32.ofInt 116) (Int32.ofInt 101) (Int32.ofInt 0) (Int32.ofInt 0),
  z_p_M_spelled (Int32.ofInt 100) (Int32.ofInt 114) (Int32.ofInt 105) (Int32.ofInt 102) (Int32.ofInt 116) (Int32.ofInt 0),
  z_p_M_spelled (Int32.ofInt 116) (Int32.ofInt 101) (Int32.ofInt 97) (Int32.ofInt 114) (Int32.ofInt 0) (Int32.ofInt 0),
  z_p_M_spelled (Int32.ofInt 108) (Int32.ofInt 111) (Int32.ofInt 111) (Int32.ofInt 112) (Int32.ofInt 0) (Int32.ofInt 0),
  z_p_M_spelled (Int32.ofInt 117) (Int32.ofInt 110) (Int32.ofInt 108) (Int32.ofInt 101) (Int32.ofInt 115) (Int32.ofInt 115),
  z_p_M_spelled (Int32.ofInt 97) (Int32.ofInt 110) (Int32.ofInt 100) (Int32.ofInt 0) (Int32.ofInt 0) (Int32.ofInt 0),
  z_p_M_spelled (Int32.ofInt 111) (Int32.ofInt 114) (Int32.ofInt 0) (Int32.ofInt 0) (Int32.ofInt 0) (Int32.ofInt 0),
  z_p_M_spelled (Int32.ofInt 110) (Int32.ofInt 111) (Int32.ofInt 116) (Int32.ofInt 0) (Int32.ofInt 0) (Int32.ofInt 0),
  z_p_M_spelled (Int32.ofInt 103) (Int32.ofInt 97) (Int32.ofInt 112) (Int32.ofInt 0) (Int32.ofInt 0) (Int32.ofInt 0),
  z_p_M_spelled (Int32.ofInt 105) (Int32.ofInt 110) (Int32.ofInt 0) (Int32.ofInt 0) (Int32.ofInt 0) (Int32.ofInt 0),
  z_p_M_spelled (Int32.ofInt 111) (Int32.ofInt 117) (Int32.ofInt 116) (Int32.ofInt 0) (Int32.ofInt 0) (Int32.ofInt 0),
  z_p_M_spelled (Int32.ofInt 112) (Int32.ofInt 114) (Int32.ofInt 101) (Int32.ofInt 115) (Int32.ofInt 115) (Int32.ofInt 0),
  z_p_M_spelled (Int32.ofInt 103) (Int32.ofInt 97) (Int32.ofInt 117) (Int32.ofInt 103) (Int32.ofInt 101) (Int32.ofInt 0),
  z_p_M_spelled (Int32.ofInt 97) (Int32.ofInt 105) (Int32.ofInt 109) (Int32.ofInt 0) (Int32.ofInt 0) (Int32.ofInt 0),
  z_p_M_spelled (Int32.ofInt 116) (Int32.ofInt 105) (Int32.ofInt 99) (Int32.ofInt 107) (Int32.ofInt 0) (Int32.ofInt 0),
  z_p_M_spelled (Int32.ofInt 119) (Int32.ofInt 101) (Int32.ofInt 97) (Int32.ofInt 114) (Int32.ofInt 0) (Int32.ofInt 0),
  z_p_M_spelled (Int32.ofInt 112) (Int32.ofInt 117) (Int32.ofInt 108) (Int32.ofInt 108) (Int32.ofInt 0) (Int32.ofInt 0),
  z_p_M_spelled (Int32.ofInt 104) (Int32.ofInt 97) (Int32.ofInt 114) (Int32.ofInt 100) (Int32.ofInt 0) (Int32.ofInt 0)].getD k 0
theorem zlw_c : ∀ k, k < 19 → (zlw k).toInt = zpkn (fun j => (zww (zcm k)).getD j 0) 0 (zww (zcm k)).length ∧ zcm k < 19 ∧ zmow (zcm k) = k ∧ (∀ j, j < (zww (zcm k)).length → zltr ((zww (zcm k)).getD j 0) = true) ∧ zwd (zww (zcm k)) = 100 + (zcm k : Int) := by decide +kernel
theorem zww_l : ∀ k, k < 19 → (zww k).length ≤ 8 ∧ zcm (zmow k) = k ∧ zmow k < 19 := by decide +kernel
theorem zwfd_k (l : List Int) : ∀ i k : Nat, k + i = 19 → zwfd (zwtab.drop k) l (100 + k) ≠ 119 → ∃ j, j < 19 ∧ zww j = l ∧ zwfd (zwtab.drop k) l (100 + k) = 100 + j := by
  intro i
  induction i with
  | zero =>
    intro k e h
    have ek : k = 19 := by omega
    subst ek
    exact absurd rfl h
  | succ i ih =>
    intro k e h
    have hw : zwfd (zwtab.drop k) l (100 + k) = if zww k = l then 100 + (k : Int) else zwfd (zwtab.drop (k + 1)) l (100 + ((k + 1 : Nat) : Int)) := by
      rw [zww_d k (by omega), show (100 : Int) + ((k + 1 : Nat) : Int) = 100 + (k : Int) + 1 by omega]
      rfl
    rw [hw] at h ⊢
    by_cases c : zww k = l
    · rw [if_pos c]
      exact ⟨k, by omega, c, rfl⟩
    · rw [if_neg c] at h ⊢
      exact ih (k + 1) (by omega) h
/-- what the model finds of letters is the class's word -/
theorem zlw_iff {F : Nat → Int} {a n : Nat} (hl : ∀ j, j < n → zltr (F (a + j)) = true) {k : Nat} (hk : k < 19) : (zlw k).toInt = zpkn F a n ↔ zwd (zls F a n) = 100 + (zcm k : Int) := by
  obtain ⟨c1, c2, c3, c4, c5⟩ := zlw_c k hk
  constructor
  · intro h
    rw [c1] at h
    obtain ⟨i1, i2⟩ := zpkn_inj (F := fun j => (zww (zcm k)).getD j 0) (G := F) (a := 0) (b := a) _ n (fun j hj => by rw [Nat.zero_add]; exact c4 j hj) hl h
    have e : zww (zcm k) = zls F a n := (zls_eq i1).mp (fun j hj => by
      have := i2 j (by omega)
      rw [Nat.zero_add] at this
      exact this)
    rw [← e]
    exact c5
  · intro h
    have h19 : zwfd (zwtab.drop 0) (zls F a n) (100 + (0 : Nat)) ≠ 119 := by
      intro e
      have e' : zwd (zls F a n) = 119 := e
      omega
    obtain ⟨j, j1, j2, j3⟩ := zwfd_k (zls F a n) 19 0 rfl h19
    have j3' : zwd (zls F a n) = 100 + (j : Int) := j3
    have ej : j = zcm k := by omega
    rw [ej] at j2
    have hn : (zww (zcm k)).length = n := by rw [j2, zls_len]
    have g := (zls_eq (F := F) (a := a) hn).mpr j2
    rw [c1, hn]
    have : ∀ i, i ≤ n → zpkn (fun j => (zww (zcm k)).getD j 0) 0 i = zpkn F a i := by
      intro i
      induction i with
      | zero => intro _; rfl
      | succ i ih =>
        intro hi
        show zpkn (fun j => (zww (zcm k)).getD j 0) 0 i * 32 + ((zww (zcm k)).getD (0 + i) 0 - 96) = zpkn F a i * 32 + (F (a + i) - 96)
        rw [ih (by omega), Nat.zero_add, g i (by omega)]
    exact this n (Nat.le_refl _)
theorem zwd_long {F : Nat → Int} {a n : Nat} (h : 8 < n) : zwd (zls F a n) = 119 := by
  have r := zwd_r (zls F a n)
  by_cases e : zwd (zls F a n) = 119
  · exact e
  · obtain ⟨j, j1, j2, j3⟩ := zwfd_k (zls F a n) 19 0 rfl e
    have := (zww_l j j1).1
    rw [j2, zls_len] at this
    omega
