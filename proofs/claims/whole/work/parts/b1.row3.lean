/-! ROW, 3: a row goes on by one order -/
theorem zks_48a : ∀ a, a < 64 → ∀ b, b < 64 → ((Int32.ofNat (64 * a + b)).toInt64 <<< ((Int32.ofInt 48).toInt64 &&& 63)).toInt = ((64 * a + b : Nat) : Int) * 281474976710656 := by decide +kernel
theorem zks_48 (v : Nat) (h : v < 4096) : ((Int32.ofNat v).toInt64 <<< ((Int32.ofInt 48).toInt64 &&& 63)).toInt = (v : Int) * 281474976710656 := by
  have e : v = 64 * (v / 64) + v % 64 := by omega
  have := zks_48a (v / 64) (by omega) (v % 64) (by omega)
  rw [← e] at this
  exact this
theorem zks_o : ∀ p, p < 9 → ∀ j, j < 9 → ((Int32.ofNat j).toInt64 <<< ((z_p_Orders_orderShift (Int32.ofNat p)).toInt64 &&& 63)).toInt = (j : Int) * zoP p := by decide +kernel
theorem zks_c : ∀ p, p < 9 → (Int64.ofInt 7054466603810816 + (Int64.ofInt 1 <<< ((z_p_Orders_changeShift (Int32.ofNat p)).toInt64 &&& 63))).toInt = 7054466603810816 + zcP p := by decide +kernel
theorem y_nat {x : Int32} {v : Nat} (h : x.toInt = v) : x = Int32.ofNat v := by
  have := y_hi x
  rw [y_i_eq, y_on (by omega), h]
theorem zks_48' {x : Int32} (h0 : 0 ≤ x.toInt) (h1 : x.toInt < 4096) : (x.toInt64 <<< ((Int32.ofInt 48).toInt64 &&& 63)).toInt = x.toInt * 281474976710656 := by
  obtain ⟨v, hv⟩ : ∃ v : Nat, x.toInt = v := ⟨x.toInt.toNat, by omega⟩
  rw [y_nat hv, zks_48 v (by omega), y_on (by omega)]
theorem y_mnl (x y : Int64) : (z_mnl x y).toInt = min x.toInt y.toInt := by
  unfold z_mnl
  by_cases c : y < x
  · rw [if_pos c]
    rw [y_l_lt] at c
    omega
  · rw [if_neg c]
    rw [y_l_lt] at c
    omega
theorem y_abi {x : Int32} (h : -2147483647 ≤ x.toInt) : (z_abi x).toInt = if 0 ≤ x.toInt then x.toInt else -x.toInt := by
  have h0 : (0 : Int32).toInt = 0 := rfl
  unfold z_abi
  by_cases c : 0 ≤ x
  · rw [if_pos c]
    rw [y_i_le, h0] at c
    rw [if_pos c]
  · rw [if_neg c]
    rw [y_i_le, h0] at c
    have := y_hi x
    rw [if_neg c, y_sb (by omega) (by omega), h0]
    omega
theorem y_l8 (x : Int64) : x.toInt ≤ 9223372036854775807 := by
  have := Int64.toInt_lt x
  omega
/-- one more that has been gone on from -/
def zDp (D : Nat → Nat → Nat → Prop) (S l j : Nat) : Nat → Nat → Nat → Prop := fun a b d => D a b d ∨ (a = S ∧ b = l ∧ d = j)
theorem zRD2_skip {I : Nat → Nat → Int32} {n c S l j : Nat} {D : Nat → Nat → Nat → Prop} {A B : Nat → Int64} (h : zRD2 I n c D A B) (hn : (∀ m key, ¬ zPR I n m S l c key) ∨ zbt2 S j ≠ 0) : zRD2 I n c (zDp D S l j) A B := by
  refine ⟨fun S1 l1 h1 h2 => zIsM_c (h.1 S1 l1 h1 h2) (fun key => ⟨fun x => ?_, fun x => ?_⟩), fun S1 l1 h1 h2 => zIsM_c (h.2 S1 l1 h1 h2) (fun key => ⟨fun x => ?_, fun x => ?_⟩)⟩
  · rcases x with x | ⟨m, S0, l0, c0, f, key0, a1, a2, a3, a4, a5, a6, a7, a8⟩
    · exact Or.inl x
    · exact Or.inr ⟨m, S0, l0, c0, f, key0, a1, a2, a3, a4, a5, a6, a7, a8.elim Or.inl (fun y => Or.inr (Or.inl y))⟩
  · rcases x with x | ⟨m, S0, l0, c0, f, key0, a1, a2, a3, a4, a5, a6, a7, a8⟩
    · exact Or.inl x
    · refine Or.inr ⟨m, S0, l0, c0, f, key0, a1, a2, a3, a4, a5, a6, a7, ?_⟩
      rcases a8 with a8 | a8 | ⟨b1, b2, b3⟩
      · exact Or.inl a8
      · exact Or.inr a8
      · subst b1
        subst b2
        subst b3
        by_cases cf : f = 1
        · exact Or.inl cf
        · have e : c0 = c := by omega
          rw [e] at a1
          rcases hn with hn | hn
          · exact absurd a1 (hn _ _)
          · exact absurd a3 hn
  · obtain ⟨m, S0, l0, key0, a1, a2, a3, a5, a7, a8⟩ := x
    exact ⟨m, S0, l0, key0, a1, a2, a3, a5, a7, Or.inl a8⟩
  · obtain ⟨m, S0, l0, key0, a1, a2, a3, a5, a7, a8⟩ := x
    refine ⟨m, S0, l0, key0, a1, a2, a3, a5, a7, ?_⟩
    rcases a8 with a8 | ⟨b1, b2, b3⟩
    · exact a8
    · subst b1
      subst b2
      subst b3
      rcases hn with hn | hn
      · exact absurd a1 (hn _ _)
      · exact absurd a3 hn
theorem zRD2_step {I : Nat → Nat → Int32} {n c S l j : Nat} {D : Nat → Nat → Nat → Prop} {A B A' B' : Nat → Int64} (hO : zOr I n) (h : zRD2 I n c D A B) (hj : j < n) (hb : zbt2 S j = 0) (hS : S < 2 ^ n) {V : Int} (hV : ∃ m, zPR I n m S l c V) (hm : ∀ m key, zPR I n m S l c key → V ≤ key) (hA : ∀ y, y ≠ 9 * (S + 2 ^ j) + j → A' y = A y) (hB : ∀ y, y ≠ 9 * (S + 2 ^ j) + j → B' y = B y) (hA1 : (A' (9 * (S + 2 ^ j) + j)).toInt = min (A (9 * (S + 2 ^ j) + j)).toInt (V + zkst I n S l j 0 c)) (hB1 : (B' (9 * (S + 2 ^ j) + j)).toInt = min (B (9 * (S + 2 ^ j) + j)).toInt (V + zkst I n S l j 1 c)) : zRD2 I n c (zDp D S l j) A' B' := by
  have hM : zMX = 9223372036854775807 := rfl
  have hn := hO.1
  obtain ⟨mV, hV⟩ := hV
  have new : ∀ f, f < 2 → V + zkst I n S l j f c ≤ zMX := by
    intro f hf
    have hk : zPR I n (mV + 1) (S + 2 ^ j) j (c + f) (V + zkst I n S l j f c) := ⟨S, l, c, f, V, hV, hj, hb, hf, rfl, rfl, rfl⟩
    obtain ⟨a1, a2, a3, a4, a5, a6, a7, a8⟩ := zPR_is hO _ _ _ _ _ hk
    have : ((mV + 1 : Nat) : Int) ≤ 8 := by omega
    omega
  refine ⟨fun S1 l1 h1 h2 => ?_, fun S1 l1 h1 h2 => ?_⟩
  · by_cases e : S1 = S + 2 ^ j ∧ l1 = j
    · obtain ⟨e1, e2⟩ := e
      subst e1
      subst e2
      rw [hA1]
      have g : zIsM (fun key => ∃ m key0, zPR I n m S l c key0 ∧ key = key0 + zkst I n S l l1 0 c) (V + zkst I n S l l1 0 c) := by
        refine ⟨fun key hk => ?_, Or.inr ⟨mV, V, hV, rfl⟩⟩
        obtain ⟨m, key0, k1, k2⟩ := hk
        have := hm m key0 k1
        omega
      refine zIsM_c (zIsM_or (h.1 _ l1 h1 h2) g (y_l8 _) (new 0 (by omega))) (fun key => ⟨fun x => ?_, fun x => ?_⟩)
      · rcases x with x | ⟨m, key0, k1, k2⟩
        · rcases x with x | ⟨m, S0, l0, c0, f, key0, a1, a2, a3, a4, a5, a6, a7, a8⟩
          · exact Or.inl x
          · exact Or.inr ⟨m, S0, l0, c0, f, key0, a1, a2, a3, a4, a5, a6, a7, a8.elim Or.inl (fun y => Or.inr (Or.inl y))⟩
        · exact Or.inr ⟨m, S, l, c, 0, key0, k1, hj, hb, by omega, rfl, rfl, k2, Or.inr (Or.inr ⟨rfl, rfl, rfl⟩)⟩
      · rcases x with x | ⟨m, S0, l0, c0, f, key0, a1, a2, a3, a4, a5, a6, a7, a8⟩
        · exact Or.inl (Or.inl x)
        · by_cases cf : f = 1
          · exact Or.inl (Or.inr ⟨m, S0, l0, c0, f, key0, a1, a2, a3, a4, a5, a6, a7, Or.inl cf⟩)
          · rcases a8 with a8 | a8 | ⟨b1, b2, b3⟩
            · exact absurd a8 cf
            · exact Or.inl (Or.inr ⟨m, S0, l0, c0, f, key0, a1, a2, a3, a4, a5, a6, a7, Or.inr a8⟩)
            · subst b1
              subst b2
              have ef : f = 0 := by omega
              have ec : c0 = c := by omega
              subst ef
              subst ec
              exact Or.inr ⟨m, key0, a1, a7⟩
    · rw [hA _ (by omega)]
      refine zIsM_c (h.1 S1 l1 h1 h2) (fun key => ⟨fun x => ?_, fun x => ?_⟩)
      · rcases x with x | ⟨m, S0, l0, c0, f, key0, a1, a2, a3, a4, a5, a6, a7, a8⟩
        · exact Or.inl x
        · exact Or.inr ⟨m, S0, l0, c0, f, key0, a1, a2, a3, a4, a5, a6, a7, a8.elim Or.inl (fun y => Or.inr (Or.inl y))⟩
      · rcases x with x | ⟨m, S0, l0, c0, f, key0, a1, a2, a3, a4, a5, a6, a7, a8⟩
        · exact Or.inl x
        · refine Or.inr ⟨m, S0, l0, c0, f, key0, a1, a2, a3, a4, a5, a6, a7, ?_⟩
          rcases a8 with a8 | a8 | ⟨b1, b2, b3⟩
          · exact Or.inl a8
          · exact Or.inr a8
          · subst b1
            subst b3
            exact absurd ⟨a5, rfl⟩ e
  · by_cases e : S1 = S + 2 ^ j ∧ l1 = j
    · obtain ⟨e1, e2⟩ := e
      subst e1
      subst e2
      rw [hB1]
      have g : zIsM (fun key => ∃ m key0, zPR I n m S l c key0 ∧ key = key0 + zkst I n S l l1 1 c) (V + zkst I n S l l1 1 c) := by
        refine ⟨fun key hk => ?_, Or.inr ⟨mV, V, hV, rfl⟩⟩
        obtain ⟨m, key0, k1, k2⟩ := hk
        have := hm m key0 k1
        omega
      refine zIsM_c (zIsM_or (h.2 _ l1 h1 h2) g (y_l8 _) (new 1 (by omega))) (fun key => ⟨fun x => ?_, fun x => ?_⟩)
      · rcases x with x | ⟨m, key0, k1, k2⟩
        · obtain ⟨m, S0, l0, key0, a1, a2, a3, a5, a7, a8⟩ := x
          exact ⟨m, S0, l0, key0, a1, a2, a3, a5, a7, Or.inl a8⟩
        · exact ⟨m, S, l, key0, k1, hj, hb, rfl, k2, Or.inr ⟨rfl, rfl, rfl⟩⟩
      · obtain ⟨m, S0, l0, key0, a1, a2, a3, a5, a7, a8⟩ := x
        rcases a8 with a8 | ⟨b1, b2, b3⟩
        · exact Or.inl ⟨m, S0, l0, key0, a1, a2, a3, a5, a7, a8⟩
        · subst b1
          subst b2
          exact Or.inr ⟨m, key0, a1, a7⟩
    · rw [hB _ (by omega)]
      refine zIsM_c (h.2 S1 l1 h1 h2) (fun key => ⟨fun x => ?_, fun x => ?_⟩)
      · obtain ⟨m, S0, l0, key0, a1, a2, a3, a5, a7, a8⟩ := x
        exact ⟨m, S0, l0, key0, a1, a2, a3, a5, a7, Or.inl a8⟩
      · obtain ⟨m, S0, l0, key0, a1, a2, a3, a5, a7, a8⟩ := x
        refine ⟨m, S0, l0, key0, a1, a2, a3, a5, a7, ?_⟩
        rcases a8 with a8 | ⟨b1, b2, b3⟩
        · exact a8
        · subst b1
          subst b3
          exact absurd ⟨a5, rfl⟩ e
theorem zRD2_D {I : Nat → Nat → Int32} {n c : Nat} {D E : Nat → Nat → Nat → Prop} {A B : Nat → Int64} (h : zRD2 I n c D A B) (e : ∀ a b d, D a b d ↔ E a b d) : zRD2 I n c E A B := by
  have : D = E := by
    funext a b d
    exact propext (e a b d)
  rw [← this]
  exact h
