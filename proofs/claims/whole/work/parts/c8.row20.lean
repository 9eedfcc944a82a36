/-! ROW, 20: the key's places -/
def zUS (y : Int64) (s : Int32) : Int64 := (y.toUInt64 >>> (s.toInt64.toUInt64 &&& Int64.toUInt64 63)).toInt64
theorem zUS_s : ∀ k, k < 64 → ((Int32.ofNat k).toInt64.toUInt64 &&& Int64.toUInt64 63).toNat = k := by decide +kernel
theorem zUS_is {y : Int64} {k : Nat} (h : 0 ≤ y.toInt) (hk : k < 64) : (zUS y (Int32.ofNat k)).toInt = y.toInt / 2 ^ k := by
  have e := zUS_s k hk
  unfold zUS
  have hy : (y.toUInt64.toNat : Int) = y.toInt := by
    have h1 : y.toUInt64.toNat = y.toBitVec.toNat := rfl
    have h2 : y.toInt = y.toBitVec.toInt := rfl
    rw [h1, h2]
    rw [h2] at h
    rw [BitVec.toInt_eq_toNat_cond] at h ⊢
    have := y.toBitVec.isLt
    split at h
    · rename_i c
      rw [if_pos c]
    · omega
  have hlt : y.toUInt64.toNat < 9223372036854775808 := by
    have := y.toInt_lt
    omega
  have hn : (y.toUInt64 >>> ((Int32.ofNat k).toInt64.toUInt64 &&& Int64.toUInt64 63)).toNat = y.toUInt64.toNat / 2 ^ k := by
    rw [UInt64.toNat_shiftRight, e, Nat.mod_eq_of_lt hk, Nat.shiftRight_eq_div_pow]
  generalize (y.toUInt64 >>> ((Int32.ofNat k).toInt64.toUInt64 &&& Int64.toUInt64 63)) = w at hn
  have hle : y.toUInt64.toNat / 2 ^ k ≤ y.toUInt64.toNat := Nat.div_le_self _ _
  have hw : w.toInt64.toInt = (w.toNat : Int) := by
    have h1 : w.toInt64.toInt = w.toBitVec.toInt := rfl
    have h2 : w.toNat = w.toBitVec.toNat := rfl
    rw [h1, BitVec.toInt_eq_toNat_cond, if_pos (by omega), h2]
  rw [hw, hn, ← hy]
  rw [Int.natCast_ediv, Int.natCast_pow]
  rfl
theorem zUS_32 {z : Int64} {v : Int} (h : z.toInt = v) (h0 : 0 ≤ v) (h1 : v ≤ 2147483647) : z.toInt32.toInt = v := by rw [y_li _ (by omega) (by omega), h]
theorem zUS_15 (z : Int64) : (z.toInt32 &&& Int32.ofInt 15).toInt = z.toInt % 16 := by
  have h1 : (z.toInt32 &&& Int32.ofInt 15).toInt = (z.toBitVec.signExtend 32 &&& 15#32).toInt := rfl
  have h2 : z.toInt = z.toBitVec.toInt := rfl
  rw [h1, h2]
  generalize z.toBitVec = x
  have e1 : (x.signExtend 32 &&& 15#32).toNat = x.toNat % 16 := by
    rw [BitVec.toNat_and, BitVec.signExtend_eq_setWidth_of_le _ (by omega), BitVec.toNat_setWidth]
    have : (15#32).toNat = 2 ^ 4 - 1 := rfl
    rw [this, Nat.and_two_pow_sub_one_eq_mod]
    omega
  rw [BitVec.toInt_eq_toNat_cond, e1, if_pos (by omega), BitVec.toInt_eq_toNat_cond]
  split <;> omega
theorem zUS_1 (z : Int64) : (z &&& Int64.ofInt 1).toInt = z.toInt % 2 := by
  have h1 : (z &&& Int64.ofInt 1).toInt = (z.toBitVec &&& 1#64).toInt := rfl
  have h2 : z.toInt = z.toBitVec.toInt := rfl
  rw [h1, h2]
  generalize z.toBitVec = x
  have e1 : (x &&& 1#64).toNat = x.toNat % 2 := by
    rw [BitVec.toNat_and]
    have : (1#64).toNat = 2 ^ 1 - 1 := rfl
    rw [this, Nat.and_two_pow_sub_one_eq_mod]
  rw [BitVec.toInt_eq_toNat_cond, e1, if_pos (by omega), BitVec.toInt_eq_toNat_cond]
  split <;> omega
theorem zdivm {v w Z r : Int} (hZ : 0 < Z) (h : v = w * Z + r) (h0 : 0 ≤ r) (h1 : r < Z) : v / Z = w := by
  rw [h, Int.add_comm, Int.add_mul_ediv_right _ _ (by omega), Int.ediv_eq_zero_of_lt h0 h1]
  omega
theorem zoP_d : ∀ q, q < 9 → ∀ p, p < q → zoP p = (zoP p / (16 * zoP q)) * (16 * zoP q) := by decide +kernel
theorem zcP_d : ∀ q, q < 9 → ∀ p, p < q → zcP p = (zcP p / (2 * zcP q)) * (2 * zcP q) := by decide +kernel
theorem zdig_d (w : Nat → Int) (B : Int) (hw : ∀ q, q < 9 → ∀ p, p < q → w p = (w p / (B * w q)) * (B * w q)) (l : List Nat) : ∀ p, p + l.length < 9 → ∃ m : Int, zdig w l p = m * (B * w (p + l.length)) := by
  induction l with
  | nil => intro p _; exact ⟨0, by rw [Int.zero_mul]; rfl⟩
  | cons x l ih =>
    intro p hp
    have hl : (x :: l).length = l.length + 1 := rfl
    obtain ⟨m, hm⟩ := ih (p + 1) (by omega)
    have e := hw (p + (x :: l).length) hp p (by omega)
    refine ⟨(x : Int) * (w p / (B * w (p + (x :: l).length))) + m, ?_⟩
    show (x : Int) * w p + zdig w l (p + 1) = _
    rw [hm, Int.add_mul, Int.mul_assoc, ← e, hl, show p + 1 + l.length = p + (l.length + 1) by omega]
theorem zgetD_split (l : List Nat) : ∀ i, i < l.length → ∃ a r, l = a ++ l.getD i 0 :: r ∧ a.length = i := by
  intro i hi
  refine ⟨l.take i, l.drop (i + 1), ?_, by rw [List.length_take]; omega⟩
  rw [List.getD_eq_getElem?_getD, List.getElem?_eq_getElem hi]
  show l = l.take i ++ l[i] :: l.drop (i + 1)
  rw [← List.drop_eq_getElem_cons hi, List.take_append_drop]
theorem zdig_256 : ∀ p, p < 9 → zoP p = zoP p / 256 * 256 := by decide +kernel
theorem zdig_m256 (l : List Nat) : ∀ p, p + l.length ≤ 9 → ∃ m : Int, zdig zoP l p = m * 256 := by
  induction l with
  | nil => intro p _; exact ⟨0, rfl⟩
  | cons x l ih =>
    intro p hp
    have hl : (x :: l).length = l.length + 1 := rfl
    obtain ⟨m, hm⟩ := ih (p + 1) (by omega)
    have e := zdig_256 p (by omega)
    refine ⟨(x : Int) * (zoP p / 256) + m, ?_⟩
    show (x : Int) * zoP p + zdig zoP l (p + 1) = _
    rw [hm, Int.add_mul, Int.mul_assoc, ← e]
theorem zoP_44 : ∀ q, q < 9 → (17592186044416 : Int) = 17592186044416 / (16 * zoP q) * (16 * zoP q) ∧ (281474976710656 : Int) = 281474976710656 / (16 * zoP q) * (16 * zoP q) := by decide +kernel
theorem zcP_44 : ∀ q, q < 9 → 0 < q → (17592186044416 : Int) = 17592186044416 / (2 * zcP q) * (2 * zcP q) ∧ (281474976710656 : Int) = 281474976710656 / (2 * zcP q) * (2 * zcP q) ∧ (256 : Int) = 256 / (2 * zcP q) * (2 * zcP q) := by decide +kernel
theorem zky_o {n k0 : Nat} {a : zPl2} {coin : Int} {c i : Nat} (hn : n ≤ 9) (h : zFull n k0 a) (hi : i < n) : zky coin c k0 a / zoP i % 16 = (((k0 :: a.map Prod.fst).getD i 0 : Nat) : Int) := by
  have hl := (zFull_is hn h).1
  have hr := zky_r hn h
  obtain ⟨m1, m2⟩ := zwok_m a _ h.2.1
  have hk := h.1
  have hall : ∀ x, x ∈ (k0 :: a.map Prod.fst) → x < 9 := by
    intro x hx
    rcases List.mem_cons.mp hx with w | w
    · omega
    · have := m1 x w
      omega
  have hlen : (k0 :: a.map Prod.fst).length = n := by rw [List.length_cons, List.length_map]; omega
  unfold zky
  generalize (k0 :: a.map Prod.fst) = os at *
  obtain ⟨l, r, e1, e2⟩ := zgetD_split os i (by omega)
  obtain ⟨x, hx⟩ : ∃ x, x = os.getD i 0 := ⟨_, rfl⟩
  rw [← hx] at e1
  rw [← hx]
  have x9 := hall x (by rw [e1]; exact List.mem_append_right _ List.mem_cons_self)
  have lens := congrArg List.length e1
  rw [List.length_append, List.length_cons] at lens
  obtain ⟨m, hm⟩ := zdig_d zoP 16 zoP_d l 0 (by omega)
  have hro := zdig_o r i (by omega) (fun z hz => hall z (by rw [e1]; exact List.mem_append_right _ (List.mem_cons_of_mem _ hz)))
  have hz := zoP_r i (by omega)
  obtain ⟨q1, q2⟩ := zoP_44 i (by omega)
  have ed : zdig zoP os 0 = zdig zoP l 0 + ((x : Int) * zoP i + zdig zoP r (i + 1)) := by
    rw [e1, zdig_a, Nat.zero_add, e2]
    rfl
  rw [Nat.zero_add, e2] at hm
  have e : coin * 281474976710656 + (c : Int) * 17592186044416 + zdig zoP os 0 + zdig zcP (a.map Prod.snd) 1 = ((coin * (281474976710656 / (16 * zoP i)) + (c : Int) * (17592186044416 / (16 * zoP i)) + m) * 16 + x) * zoP i + (zdig zoP r (i + 1) + zdig zcP (a.map Prod.snd) 1) := by
    rw [ed, hm]
    have w1 : coin * 281474976710656 = coin * (281474976710656 / (16 * zoP i)) * (16 * zoP i) := by rw [Int.mul_assoc, ← q2]
    have w2 : (c : Int) * 17592186044416 = (c : Int) * (17592186044416 / (16 * zoP i)) * (16 * zoP i) := by rw [Int.mul_assoc, ← q1]
    rw [w1, w2, Int.add_mul, Int.mul_assoc (coin * (281474976710656 / (16 * zoP i)) + (c : Int) * (17592186044416 / (16 * zoP i)) + m) 16, Int.add_mul, Int.add_mul]
    omega
  rw [zdivm (by omega) e (by omega) (by omega)]
  omega
theorem zky_f {n k0 : Nat} {a : zPl2} {coin : Int} {c i : Nat} (hn : n ≤ 9) (h : zFull n k0 a) (hi : i + 1 < n) : zky coin c k0 a / zcP (i + 1) % 2 = (((a.map Prod.snd).getD i 0 : Nat) : Int) := by
  have hl := (zFull_is hn h).1
  obtain ⟨m1, m2⟩ := zwok_m a _ h.2.1
  have hlen : (a.map Prod.snd).length + 1 = n := by rw [List.length_map]; omega
  have hlen2 : (k0 :: a.map Prod.fst).length = n := by rw [List.length_cons, List.length_map]; omega
  unfold zky
  generalize (k0 :: a.map Prod.fst) = os at *
  generalize a.map Prod.snd = fs at *
  obtain ⟨l, r, e1, e2⟩ := zgetD_split fs i (by omega)
  obtain ⟨x, hx⟩ : ∃ x, x = fs.getD i 0 := ⟨_, rfl⟩
  rw [← hx] at e1
  rw [← hx]
  have x9 := m2 x (by rw [e1]; exact List.mem_append_right _ List.mem_cons_self)
  have lens := congrArg List.length e1
  rw [List.length_append, List.length_cons] at lens
  obtain ⟨m, hm⟩ := zdig_d zcP 2 zcP_d l 1 (by omega)
  obtain ⟨m', hm'⟩ := zdig_m256 os 0 (by omega)
  have hro := zdig_c r (i + 1) (by omega) (fun z hz => m2 z (by rw [e1]; exact List.mem_append_right _ (List.mem_cons_of_mem _ hz)))
  have hz := zcP_r (i + 1) (by omega)
  obtain ⟨q1, q2, q3⟩ := zcP_44 (i + 1) (by omega) (by omega)
  have ed : zdig zcP fs 1 = zdig zcP l 1 + ((x : Int) * zcP (i + 1) + zdig zcP r (i + 1 + 1)) := by
    rw [e1, zdig_a, e2, Nat.add_comm 1 i]
    rfl
  rw [e2, Nat.add_comm 1 i] at hm
  have e : coin * 281474976710656 + (c : Int) * 17592186044416 + zdig zoP os 0 + zdig zcP fs 1 = ((coin * (281474976710656 / (2 * zcP (i + 1))) + (c : Int) * (17592186044416 / (2 * zcP (i + 1))) + m' * (256 / (2 * zcP (i + 1))) + m) * 2 + x) * zcP (i + 1) + zdig zcP r (i + 1 + 1) := by
    rw [ed, hm, hm']
    have w1 : coin * 281474976710656 = coin * (281474976710656 / (2 * zcP (i + 1))) * (2 * zcP (i + 1)) := by rw [Int.mul_assoc, ← q2]
    have w2 : (c : Int) * 17592186044416 = (c : Int) * (17592186044416 / (2 * zcP (i + 1))) * (2 * zcP (i + 1)) := by rw [Int.mul_assoc, ← q1]
    have w3 : m' * 256 = m' * (256 / (2 * zcP (i + 1))) * (2 * zcP (i + 1)) := by rw [Int.mul_assoc, ← q3]
    rw [w1, w2, w3, Int.add_mul, Int.mul_assoc (coin * (281474976710656 / (2 * zcP (i + 1))) + (c : Int) * (17592186044416 / (2 * zcP (i + 1))) + m' * (256 / (2 * zcP (i + 1))) + m) 2, Int.add_mul, Int.add_mul, Int.add_mul]
    omega
  rw [zdivm (by omega) e (by omega) (by omega)]
  omega
theorem zky_coin {n k0 : Nat} {a : zPl2} {coin : Int} (hn : n ≤ 9) (h : zFull n k0 a) : zky coin (zwc a 0) k0 a / 281474976710656 = coin := by
  have hl := zFull_is hn h
  have hr := zky_r hn h
  unfold zky
  omega
