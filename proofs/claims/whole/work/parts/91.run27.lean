/-! CALLS, 42: run: a tick as a whole, in both -/
def zg_V8 (l : List zcl) (I : Nat → Nat → Int32) : Prop := zVC8 l I ∧ zVM l I ∧ l.length ≤ 12 ∧ I 8 8 = zpaM I 0 ∧ I 8 9 = zpaM I 1 ∧ I 8 10 = zpaM I 2 ∧ I 8 11 = zpaM I 3 ∧ 0 ≤ (zpaM I 0).toInt ∧ (zpaM I 0).toInt ≤ 99999
def zg_V15 (l : List zcl) (I : Nat → Nat → Int32) : Prop := zVC15 l I ∧ zVM l I ∧ l.length ≤ 12 ∧ I 15 8 = zpaM I 0 ∧ I 15 9 = zpaM I 1 ∧ I 15 10 = zpaM I 2 ∧ I 15 11 = zpaM I 3 ∧ 0 ≤ (zpaM I 0).toInt ∧ (zpaM I 0).toInt ≤ 99999
theorem zpaM_c {I J : Nat → Nat → Int32} (h28 : J 55 28 = I 55 28) (h29 : J 55 29 = I 55 29) (h70 : J 70 = I 70) (w : Nat) : zpaM J w = zpaM I w := by
  unfold zpaM
  rw [h28, h29, h70]
/-- what still holds of both while a run goes on -/
theorem zB_of {m c C p : Nat} {I0 K0 Ic Im : Nat → Nat → Int32} (hB : zBs m c C p I0 K0) (h1 : zR1 m I0 Ic) (h2 : zR2 K0 Im) : Ic 5 2 = Int32.ofNat m ∧ Im 55 1 = Int32.ofNat m ∧ (∀ w, zpaM Im w = zpaM I0 w) ∧ (Ic 22 2).toInt = c ∧ (Im 55 42).toInt = c ∧ c ≤ 40 ∧ m ≤ 5 ∧ Im 55 29 = I0 55 29 ∧ Ic 8 = I0 8 ∧ Ic 15 = I0 15 := by
  obtain ⟨⟨b1, b2, b3, b4, b5⟩, b6, ⟨c1, c2, c3, c4, c5, c6⟩, c7, c8, c9, d1, d2, d3, d4, d5⟩ := hB
  have hC : ∀ a, a < 118 → (a < 25 ∨ 29 < a) → (a ≠ 10 ∧ a ≠ 17) → Ic a = I0 a := fun a a1 a2 a3 => h1.1 a a1 (by omega) (by omega) (by omega) (by omega) a3
  refine ⟨?_, ?_, ?_, ?_, ?_, by omega, b1, ?_, hC 8 (by omega) (by omega) (by omega), hC 15 (by omega) (by omega) (by omega)⟩
  · rw [hC 5 (by omega) (by omega) (by omega), b2]
  · rw [h2.2 1 (by omega) (by omega), d1, b3]
  · intro w
    exact zpaM_c (by rw [h2.2 28 (by omega) (by omega), d4]) (by rw [h2.2 29 (by omega) (by omega), d5]) (by rw [h2.1 70 (by omega) (by omega) (by omega) (by omega)]; exact c9 70 (by omega) (by omega) (by omega) (by omega)) w
  · rw [hC 22 (by omega) (by omega) (by omega), c7]
  · rw [h2.2 42 (by omega) (by omega), d3, ← c1, c7]
  · rw [h2.2 29 (by omega) (by omega), d5]
/-- ready for tick T -/
def zRD (m c : Nat) (aim : Int32) (I0 K0 Ic Im : Nat → Nat → Int32) (T : Nat) : Prop := Ic 25 4 = Im 55 43 ∧ zR1 m I0 Ic ∧ zR2 K0 Im ∧ ∀ K : Nat → Nat → Int32, (∀ a, a ≠ 55 → (a < 83 ∨ 87 < a) → K a = Im a) → (∀ i, i ≠ 43 → K 55 i = Im 55 i) → K 55 43 = Im 55 43 + Int32.ofInt 1 → (∀ k, k < m → K 83 k = 0 ∧ K 84 k = 0 ∧ K 85 k = 0 ∧ K 86 k = 0 ∧ K 87 k = 0) → zRR m c aim I0 K0 (z_up Ic 25 4 (Ic 25 4 + Int32.ofInt 1)) K T 0 T
theorem zRD_next {m c : Nat} {aim : Int32} {I0 K0 Ic Im : Nat → Nat → Int32} {T : Nat} (h : zRR m c aim I0 K0 Ic Im T m (T + 1)) : zRD m c aim I0 K0 Ic Im (T + 1) := by
  have e : Ic 25 4 = Im 55 43 := h.2.2.2.2.2.1.2.2.1
  refine ⟨e, h.1, h.2.1, ?_⟩
  intro K k1 k2 k3 k4
  rw [e]
  exact zRR_next h k1 k2 k3 k4
theorem z_up_nj {α : Type} (f : Nat → Nat → α) (a k b j : Nat) (v : α) (h : j ≠ k) : z_up f a k v b j = f b j := by
  by_cases c : b = a
  · subst c
    exact z_up_j _ _ _ _ _ h
  · rw [z_up_r _ _ _ _ _ c]
theorem zr_clear (X : ZX) (call : ZC) (n2 ce sl : Nat) (L : Nat → Nat → Int64) (t u r q g : Nat) (st : Nat → Option Nat) {m : Nat} (h5 : m ≤ 5) (x1 : Int32) (n : Nat) : ∀ (k : Nat) (I : Nat → Nat → Int32) (x : Int32), k + n = m → x.toInt = k → I 55 1 = Int32.ofNat m → (∀ i, i < k → I 83 i = 0 ∧ I 84 i = 0 ∧ I 85 i = 0 ∧ I 86 i = 0 ∧ I 87 i = 0) → ∃ K : Nat → Nat → Int32,
    (∀ a, (a < 83 ∨ 87 < a) → K a = I a) ∧ (∀ i, i < m → K 83 i = 0 ∧ K 84 i = 0 ∧ K 85 i = 0 ∧ K 86 i = 0 ∧ K 87 i = 0) ∧
    ∀ N, z_loop X z_cf z_ff (z_pu call) 209 (N + n + 1) 12 [(0, .ref 55), (1, .int x1), (2, .int x)] [] (118, n2, ce, sl, I, L, z_rr t u r q g st) = z_loop X z_cf z_ff (z_pu call) 209 N 63 [(0, .ref 55), (1, .int x1), (2, .int (Int32.ofInt 0))] [] (118, n2, ce, sl, K, L, z_rr t u r q g st) := by
  induction n with
  | zero =>
    intro k I x h1 h2 h3 h4
    have e : k = m := by omega
    subst e
    refine ⟨I, fun _ _ => rfl, h4, fun N => ?_⟩
    rw [show N + 0 + 1 = N + 1 by omega, zb_M_tick_12, if_pos (by rw [h3, y_i_le, y_on (by omega)]; omega)]
  | succ n ih =>
    intro k I x h1 h2 h3 h4
    have hxn : x.toNatClampNeg = k := by rw [y_tn, h2]; rfl
    have hin : z_in x 5 = true := y_in_t (by omega) (by omega)
    obtain ⟨K, g1, g2, g3⟩ := ih (k + 1) (z_up (z_up (z_up (z_up (z_up I 83 k (Int32.ofInt 0)) 84 k (Int32.ofInt 0)) 85 k (Int32.ofInt 0)) 86 k (Int32.ofInt 0)) 87 k (Int32.ofInt 0)) (x + Int32.ofInt 1) (by omega) (by rw [y_adl (by omega) (by omega) (by omega) (by omega)]; omega)
      (by rw [z_up_r _ _ _ _ _ (show (55 : Nat) ≠ 87 by omega), z_up_r _ _ _ _ _ (show (55 : Nat) ≠ 86 by omega), z_up_r _ _ _ _ _ (show (55 : Nat) ≠ 85 by omega), z_up_r _ _ _ _ _ (show (55 : Nat) ≠ 84 by omega), z_up_r _ _ _ _ _ (show (55 : Nat) ≠ 83 by omega)]; exact h3)
      (by
        intro i hi
        by_cases c : i = k
        · subst c
          rw [z_up_s, z_up_r _ _ _ _ _ (show (83 : Nat) ≠ 87 by omega), z_up_r _ _ _ _ _ (show (83 : Nat) ≠ 86 by omega), z_up_r _ _ _ _ _ (show (83 : Nat) ≠ 85 by omega), z_up_r _ _ _ _ _ (show (83 : Nat) ≠ 84 by omega), z_up_s, z_up_r _ _ _ _ _ (show (84 : Nat) ≠ 87 by omega), z_up_r _ _ _ _ _ (show (84 : Nat) ≠ 86 by omega), z_up_r _ _ _ _ _ (show (84 : Nat) ≠ 85 by omega), z_up_s, z_up_r _ _ _ _ _ (show (85 : Nat) ≠ 87 by omega), z_up_r _ _ _ _ _ (show (85 : Nat) ≠ 86 by omega), z_up_s, z_up_r _ _ _ _ _ (show (86 : Nat) ≠ 87 by omega), z_up_s]
          exact ⟨rfl, rfl, rfl, rfl, rfl⟩
        · have hh := h4 i (by omega)
          have e : ∀ b, z_up (z_up (z_up (z_up (z_up I 83 k (Int32.ofInt 0)) 84 k (Int32.ofInt 0)) 85 k (Int32.ofInt 0)) 86 k (Int32.ofInt 0)) 87 k (Int32.ofInt 0) b i = I b i := fun b => by rw [z_up_nj _ _ _ _ _ _ c, z_up_nj _ _ _ _ _ _ c, z_up_nj _ _ _ _ _ _ c, z_up_nj _ _ _ _ _ _ c, z_up_nj _ _ _ _ _ _ c]
          rw [e 83, e 84, e 85, e 86, e 87]
          exact hh)
    refine ⟨K, ?_, g2, fun N => ?_⟩
    · intro a ha
      rw [g1 a ha, z_up_r _ _ _ _ _ (show a ≠ 87 by omega), z_up_r _ _ _ _ _ (show a ≠ 86 by omega), z_up_r _ _ _ _ _ (show a ≠ 85 by omega), z_up_r _ _ _ _ _ (show a ≠ 84 by omega), z_up_r _ _ _ _ _ (show a ≠ 83 by omega)]
    · rw [show N + (n + 1) + 1 = (N + n + 1) + 1 by omega, zb_M_tick_12, if_neg (by rw [h3, y_i_le, y_on (by omega)]; omega), hin, hxn, z_gd_t, z_b1_0, z_gd_t, z_gd_t, z_gd_t, z_gd_t, z_gd_t]
      exact g3 N
/-- what the gauge told is written down -/
theorem zRR_told {m c : Nat} {aim : Int32} {I0 K0 Ic Im : Nat → Nat → Int32} {T : Nat} (h : zRR m c aim I0 K0 Ic Im T m T) (hT : T < 44) (v : Int32) : zRR m c aim I0 K0 (z_up (z_up Ic 28 T v) 25 12 (Ic 25 12 + Int32.ofInt 1)) (z_up (z_up Im 81 T v) 55 54 (Im 55 54 + Int32.ofInt 1)) T m (T + 1) := by
  obtain ⟨r1, r2, r3, r4, r5, r6, r7⟩ := h
  have hc : ∀ a, a ≠ 25 → a ≠ 28 → z_up (z_up Ic 28 T v) 25 12 (Ic 25 12 + Int32.ofInt 1) a = Ic a := fun a h1 h2 => by rw [z_up_r _ _ _ _ _ h1, z_up_r _ _ _ _ _ h2]
  have hm : ∀ a, a ≠ 55 → a ≠ 81 → z_up (z_up Im 81 T v) 55 54 (Im 55 54 + Int32.ofInt 1) a = Im a := fun a h1 h2 => by rw [z_up_r _ _ _ _ _ h1, z_up_r _ _ _ _ _ h2]
  have hsd : ∀ i, z_up (z_up Ic 28 T v) 25 12 (Ic 25 12 + Int32.ofInt 1) (z_sd i) = Ic (z_sd i) := fun i => hc _ (by have := z_sd_ge i; omega) (by have := z_sd_ge i; omega)
  have h25 : ∀ i, i ≠ 12 → z_up (z_up Ic 28 T v) 25 12 (Ic 25 12 + Int32.ofInt 1) 25 i = Ic 25 i := fun i hi => by rw [z_up_j _ _ _ _ _ hi, z_up_r _ _ _ _ _ (show (25 : Nat) ≠ 28 by omega)]
  have h55 : ∀ i, i ≠ 54 → z_up (z_up Im 81 T v) 55 54 (Im 55 54 + Int32.ofInt 1) 55 i = Im 55 i := fun i hi => by rw [z_up_j _ _ _ _ _ hi, z_up_r _ _ _ _ _ (show (55 : Nat) ≠ 81 by omega)]
  refine ⟨⟨?_, ?_, ?_⟩, ⟨?_, ?_⟩, ?_, ⟨?_, ?_⟩, ⟨?_, ?_, ?_, ?_, ?_⟩, ?_, ?_⟩
  · intro a b1 b2 b3 b4 b5 b6
    rw [hc a b2 b4.2]
    exact r1.1 a b1 b2 b3 b4 b5 b6
  · intro i j b1 b2
    rw [hsd]
    exact r1.2.1 i j b1 b2
  · intro i b1 b2
    rw [hsd]
    exact r1.2.2 i b1 b2
  · intro a b1 b2 b3 b4
    rw [hm a b1 (by omega)]
    exact r2.1 a b1 b2 b3 b4
  · intro j b1 b2
    rw [h55 j b2]
    exact r2.2 j b1 b2
  · intro i hi
    rw [hsd, hm 64 (by omega) (by omega), hm 65 (by omega) (by omega)]
    exact r3 i hi
  · intro i hi
    rw [hsd, hm 83 (by omega) (by omega), hm 84 (by omega) (by omega), hm 85 (by omega) (by omega), hm 86 (by omega) (by omega), hm 87 (by omega) (by omega)]
    exact r4.1 i hi
  · intro i b1 b2
    omega
  · rw [hc 26 (by omega) (by omega), hm 80 (by omega) (by omega)]
    exact r5.1
  · rw [hc 27 (by omega) (by omega), hm 82 (by omega) (by omega)]
    exact r5.2.1
  · rw [hm 80 (by omega) (by omega)]
    exact r5.2.2.1
  · intro i j b1 b2
    rw [hm 80 (by omega) (by omega)]
    exact r5.2.2.2.1 i j b1 b2
  · rw [h25 8 (by omega), hm 80 (by omega) (by omega)]
    exact r5.2.2.2.2
  · obtain ⟨q1, q2, q3, q4, q5, q6, q7, q8, q9⟩ := r6
    refine ⟨?_, ?_, ?_, ?_, ?_, ?_, ?_, ?_, ?_⟩
    · rw [h25 2 (by omega), q1]
    · rw [h25 3 (by omega), q2]
    · rw [h25 4 (by omega), h55 43 (by omega), q3]
    · rw [h25 5 (by omega), h55 44 (by omega), q4]
    · rw [h25 6 (by omega), h55 45 (by omega), q5]
    · rw [h25 7 (by omega), h55 46 (by omega), q6]
    · rw [z_up_s, z_up_s, q7]
    · rw [z_up_s, y_adl (by omega) (by omega) (by omega) (by omega)]
      omega
    · intro i hi
      rw [z_up_r _ _ _ _ _ (show (28 : Nat) ≠ 25 by omega), z_up_r _ _ _ _ _ (show (81 : Nat) ≠ 55 by omega)]
      by_cases c1 : i = T
      · subst c1
        rw [z_up_s, z_up_s]
      · rw [z_up_j _ _ _ _ _ c1, z_up_j _ _ _ _ _ c1]
        exact q9 i (by omega)
  · intro j hj
    rw [hm 88 (by omega) (by omega)]
    exact r7 j hj
/-- a pull ends the run -/
theorem zRe_end {m c : Nat} {aim : Int32} {I0 K0 Ic Im : Nat → Nat → Int32} {g : Nat} (h : zRe m c aim I0 K0 Ic Im g) (y : Int32) : zRe m c aim I0 K0 (z_up Ic 25 5 y) (z_up Im 55 44 y) g := by
  obtain ⟨r1, r2, r3, r4, r5, r6, r7, r8⟩ := h
  have hc : ∀ a, a ≠ 25 → z_up Ic 25 5 y a = Ic a := fun a h1 => z_up_r _ _ _ _ _ h1
  have hm : ∀ a, a ≠ 55 → z_up Im 55 44 y a = Im a := fun a h1 => z_up_r _ _ _ _ _ h1
  have hsd : ∀ i, z_up Ic 25 5 y (z_sd i) = Ic (z_sd i) := fun i => hc _ (by have := z_sd_ge i; omega)
  have h25 : ∀ i, i ≠ 5 → z_up Ic 25 5 y 25 i = Ic 25 i := fun i hi => z_up_j _ _ _ _ _ hi
  have h55 : ∀ i, i ≠ 44 → z_up Im 55 44 y 55 i = Im 55 i := fun i hi => z_up_j _ _ _ _ _ hi
  refine ⟨⟨?_, ?_, ?_⟩, ⟨?_, ?_⟩, ?_, ?_, ?_, ?_, ?_, ?_⟩
  · intro a b1 b2 b3 b4 b5 b6
    rw [hc a b2]
    exact r1.1 a b1 b2 b3 b4 b5 b6
  · intro i j b1 b2
    rw [hsd]
    exact r1.2.1 i j b1 b2
  · intro i b1 b2
    rw [hsd]
    exact r1.2.2 i b1 b2
  · intro a b1 b2 b3 b4
    rw [hm a b1]
    exact r2.1 a b1 b2 b3 b4
  · intro j b1 b2
    rw [h55 j (by omega)]
    exact r2.2 j b1 b2
  · intro i hi
    rw [hsd, hm 64 (by omega), hm 65 (by omega)]
    exact r3 i hi
  · rw [hc 26 (by omega), hm 80 (by omega)]
    exact r4
  · rw [hc 27 (by omega), hm 82 (by omega)]
    exact r5
  · rw [hm 80 (by omega)]
    exact r6
  · rw [h25 8 (by omega), hm 80 (by omega)]
    exact r7
  · obtain ⟨q1, q2, q3, q4, q5, q6, q7, q8, q9⟩ := r8
    refine ⟨?_, ?_, ?_, ?_, ?_, ?_, ?_, ?_, ?_⟩
    · rw [h25 2 (by omega), q1]
    · rw [h25 3 (by omega), q2]
    · rw [h25 4 (by omega), h55 43 (by omega), q3]
    · exact (z_up_s _ _ _ _).trans (z_up_s _ _ _ _).symm
    · rw [h25 6 (by omega), h55 45 (by omega), q5]
    · rw [h25 7 (by omega), h55 46 (by omega), q6]
    · rw [h25 12 (by omega), h55 54 (by omega), q7]
    · rw [h25 12 (by omega), q8]
    · rw [hc 28 (by omega), hm 81 (by omega)]
      exact q9
theorem zr_tick8 (X : ZX) (d d2 m ce sl ce2 sl2 : Nat) (L L2 : Nat → Nat → Int64) (t u r q : Nat) {c C p T : Nat} {aim : Int32} {I0 K0 Ic Im : Nat → Nat → Int32} (hB : zBs m c C p I0 K0) (h1m : 1 ≤ m) (ha : K0 55 55 = aim) (l : List zcl) (hV : zg_V8 l I0) (T1 x3 : Int32) (hT1 : T1.toInt = T) (hT44 : T < 44) (hx3 : T1.toInt < x3.toInt) (h : zRD m c aim I0 K0 Ic Im T) : ∃ J K : Nat → Nat → Int32,
    (zRR m c aim I0 K0 J K T m (T + 1) ∧
      (∀ M, z_loop X z_cf z_ff (z_pu (z_run X z_cf z_ff (d + 7))) 81 (M + 6) 52 [(0, .ref 25), (1, .ref 8), (3, .int x3), (4, .int T1)] [] (118, z_sd m, ce, sl, Ic, L, z_rr t u r q (z_gg m) (z_sf m)) = z_loop X z_cf z_ff (z_pu (z_run X z_cf z_ff (d + 7))) 81 M 52 [(0, .ref 25), (1, .ref 8), (3, .int x3), (4, .int (T1 + Int32.ofInt 1))] [] (118, z_sd m, ce, sl, J, L, z_rr t u r q (z_gg m) (z_sf m))) ∧
      z_pu (z_run X z_cf z_ff (d2 + 7)) 209 [.ref 55, .int T1] (118, z_sd m, ce2, sl2, Im, L2, z_rr t u r q (z_gg m) (z_sf m)) = some (.inl (some (.int (Int32.ofInt 0))), (118, z_sd m, ce2, sl2, K, L2, z_rr t u r q (z_gg m) (z_sf m)))) ∨
    (zRe m c aim I0 K0 J K T ∧ ∃ e : Int32, ¬ e = 0 ∧
      (∀ M, z_loop X z_cf z_ff (z_pu (z_run X z_cf z_ff (d + 7))) 81 (M + 6) 52 [(0, .ref 25), (1, .ref 8), (3, .int x3), (4, .int T1)] [] (118, z_sd m, ce, sl, Ic, L, z_rr t u r q (z_gg m) (z_sf m)) = some (.inl (some (.int e)), (118, z_sd m, ce, sl, J, L, z_rr t u r q (z_gg m) (z_sf m)))) ∧
      z_pu (z_run X z_cf z_ff (d2 + 7)) 209 [.ref 55, .int T1] (118, z_sd m, ce2, sl2, Im, L2, z_rr t u r q (z_gg m) (z_sf m)) = some (.inl (some (.int e)), (118, z_sd m, ce2, sl2, K, L2, z_rr t u r q (z_gg m) (z_sf m)))) := by
  obtain ⟨e4, q1, q2, q3⟩ := h
  obtain ⟨hVC, hVM, hl, v8, v9, v10, v11, v0, v99⟩ := hV
  obtain ⟨f1, f2, f3, f4, f5, f6, f7, f8, f9, f10⟩ := zB_of hB q1 q2
  have h44 : (Int32.ofInt 44).toInt = 44 := rfl
  have hT1n : T1.toNatClampNeg = T := by rw [y_tn, hT1]; rfl
  have n1 : ¬ (Int32.ofInt 1 : Int32) = 0 := by decide
  obtain ⟨K1, a1, a2, a3⟩ := zr_clear X (z_run X z_cf z_ff (d2 + 6)) (z_sd m) ce2 sl2 L2 t u r q (z_gg m) (z_sf m) f7 T1 m 0 (z_up Im 55 43 (Im 55 43 + Int32.ofInt 1)) (Int32.ofInt 0) (by omega) rfl (by rw [z_up_j _ _ _ _ _ (by omega)]; exact f2) (fun i hi => absurd hi (by omega))
  have hR := q3 K1 (fun a b1 b2 => by rw [a1 a b2, z_up_r _ _ _ _ _ b1]) (fun i hi => by rw [a1 55 (by omega), z_up_j _ _ _ _ _ hi]) (by rw [a1 55 (by omega), z_up_s]) a2
  obtain ⟨J2, K2, hJK⟩ := zr_turns X d d2 m ce sl ce2 sl2 L L2 t u r q hB T1 hT1 hT44 m 0 _ K1 (Int32.ofInt 0) (by omega) rfl hR
  have hmod : ∀ R, z_loop X z_cf z_ff (z_pu (z_run X z_cf z_ff (d2 + 6))) 209 (99999998 - 5 * m + 4 * m) 63 [(0, .ref 55), (1, .int T1), (2, .int (Int32.ofInt 0))] [] (118, z_sd m, ce2, sl2, K1, L2, z_rr t u r q (z_gg m) (z_sf m)) = R → z_pu (z_run X z_cf z_ff (d2 + 7)) 209 [.ref 55, .int T1] (118, z_sd m, ce2, sl2, Im, L2, z_rr t u r q (z_gg m) (z_sf m)) = R := by
    intro R hR'
    refine z_en X (d2 + 4) _ _ [(0, .ref 55), (1, .int T1)] _ _ rfl rfl rfl ?_
    have e := a3 (99999998 - 5 * m + 4 * m)
    rw [show 99999998 - 5 * m + 4 * m + m + 1 = 99999999 by omega] at e
    rw [show (100000000 : Nat) = 99999999 + 1 by omega, zb_M_tick_0, e]
    exact hR'
  have hroll : ∀ M, z_loop X z_cf z_ff (z_pu (z_run X z_cf z_ff (d + 7))) 81 (M + 6) 52 [(0, .ref 25), (1, .ref 8), (3, .int x3), (4, .int T1)] [] (118, z_sd m, ce, sl, Ic, L, z_rr t u r q (z_gg m) (z_sf m)) = z_bi (z_x [] 78) (z_pu (z_run X z_cf z_ff (d + 7)) 83 [.ref 25, .int T1] (118, z_sd m, ce, sl, z_up Ic 25 4 (Ic 25 4 + Int32.ofInt 1), L, z_rr t u r q (z_gg m) (z_sf m))) (fun v w => z_loop X z_cf z_ff (z_pu (z_run X z_cf z_ff (d + 7))) 81 (M + 5) 81 [(0, .ref 25), (1, .ref 8), (3, .int x3), (4, .int T1)] [.int v] w) := by
    intro M
    rw [show M + 6 = (M + 5) + 1 by omega, zb_Run_roll_25_8_52, if_neg (by rw [y_i_le]; omega), if_neg (by rw [y_i_le, h44]; omega)]
  have h83 : ∀ R, (∀ M, z_loop X z_cf z_ff (z_pu (z_run X z_cf z_ff (d + 6))) 83 (M + 8 * m + 4) 2 [(0, .ref 25), (1, .int T1), (2, .int (Int32.ofInt 0))] [] (118, z_sd m, ce, sl, z_up Ic 25 4 (Ic 25 4 + Int32.ofInt 1), L, z_rr t u r q (z_gg m) (z_sf m)) = R) → z_pu (z_run X z_cf z_ff (d + 7)) 83 [.ref 25, .int T1] (118, z_sd m, ce, sl, z_up Ic 25 4 (Ic 25 4 + Int32.ofInt 1), L, z_rr t u r q (z_gg m) (z_sf m)) = R := by
    intro R hR'
    refine z_en X (d + 4) _ _ [(0, .ref 25), (1, .int T1)] _ _ rfl rfl rfl ?_
    rw [show (100000000 : Nat) = (99999995 - 8 * m + 8 * m + 4) + 1 by omega, zb_Run_biteAll_0]
    exact hR' _
  rcases hJK with ⟨k1, k2, k3⟩ | ⟨k1, k2, k3⟩
  · obtain ⟨J3, K3, p1, p2, p3⟩ := zr_pulls X d m ce sl (z_sd m) ce2 sl2 L L2 t u r q t u r q (z_gg m) (z_sf m) (z_run X z_cf z_ff (d2 + 5)) hB (m - 1) 0 J2 K2 (Int32.ofInt 0) (by omega) rfl k1
    obtain ⟨F1, F2, F3, F4, F5, F6, F7, F8, F9, F10⟩ := zB_of hB p1.1 p1.2.1
    have hbk : zbk K3 := by
      unfold zbk
      rw [F8]
      exact hVM.1
    obtain ⟨e, y, w1, w2, w3⟩ := zr_ends8 X d m ce sl (d2 + 2) (z_sd m) ce2 sl2 J3 K3 L L2 t u r q t u r q (z_gg m) (z_sf m) F7 F1 F2 hbk (by rw [F3, F9, v10]) (by rw [F3, F9, v11]) p1.2.2.2.2.1.2.1 (m - 1) 0 (Int32.ofInt 0) (by omega) rfl
    have h89 : z_pu (z_run X z_cf z_ff (d + 7)) 89 [.ref 25] (118, z_sd m, ce, sl, J2, L, z_rr t u r q (z_gg m) (z_sf m)) = some (.inl none, (118, z_sd m, ce, sl, J3, L, z_rr t u r q (z_gg m) (z_sf m))) := by
      refine z_en X (d + 4) _ _ [(0, .ref 25)] _ _ rfl rfl rfl ?_
      rw [show (100000000 : Nat) = (99999997 - 6 * (m - 1) + 6 * (m - 1) + 2) + 1 by omega, zb_Run_movePulls_0]
      exact p2 _
    have h91 : z_pu (z_run X z_cf z_ff (d + 7)) 91 [.ref 25, .ref 8] (118, z_sd m, ce, sl, J3, L, z_rr t u r q (z_gg m) (z_sf m)) = some (.inl (some (.int e)), (118, z_sd m, ce, sl, (if e = 0 then J3 else z_up J3 25 5 y), L, z_rr t u r q (z_gg m) (z_sf m))) := by
      refine z_en X (d + 4) _ _ [(0, .ref 25), (1, .ref 8)] _ _ rfl rfl rfl ?_
      rw [show (100000000 : Nat) = (99999997 - 2 * (m - 1) + 2 * (m - 1) + 2) + 1 by omega, zb_Run_endByPull_25_8_0]
      exact w2 _
    have h213 : z_pu (z_run X z_cf z_ff (d2 + 6)) 213 [.ref 55] (118, z_sd m, ce2, sl2, K2, L2, z_rr t u r q (z_gg m) (z_sf m)) = some (.inl (some (.int e)), (118, z_sd m, ce2, sl2, (if e = 0 then K3 else z_up K3 55 44 y), L2, z_rr t u r q (z_gg m) (z_sf m))) := by
      refine z_en X (d2 + 3) _ _ [(0, .ref 55)] _ _ rfl rfl rfl ?_
      rw [show (100000000 : Nat) = (99999997 - 4 * (m - 1) + 3 * (m - 1) + 1) + (m - 1) + 1 + 1 by omega, zb_M_draws_0, p3]
      exact w3 _
    obtain ⟨N', y2, r1, r2, r3⟩ := k3 (99999998 - 5 * m)
    have h63 : z_loop X z_cf z_ff (z_pu (z_run X z_cf z_ff (d2 + 6))) 209 (99999998 - 5 * m + 4 * m) 63 [(0, .ref 55), (1, .int T1), (2, .int (Int32.ofInt 0))] [] (118, z_sd m, ce2, sl2, K1, L2, z_rr t u r q (z_gg m) (z_sf m)) = z_loop X z_cf z_ff (z_pu (z_run X z_cf z_ff (d2 + 6))) 209 (N' - 2 + 1) 138 [(0, .ref 55), (1, .int T1)] [.int e] (118, z_sd m, ce2, sl2, (if e = 0 then K3 else z_up K3 55 44 y), L2, z_rr t u r q (z_gg m) (z_sf m)) := by
      obtain ⟨G1, G2, _⟩ := zB_of hB k1.1 k1.2.1
      rw [r3, show N' = (N' - 2 + 1) + 1 by omega, zb_M_tick_63, if_pos (by rw [G2, y_i_le, y_on (by omega)]; omega), h213, z_bi_v]
      rfl
    by_cases hz : e = 0
    · rw [if_pos hz] at h91
      rw [if_pos hz] at h63
      obtain ⟨v, V1, V2⟩ := zr_gauge8 X d m ce sl d2 (z_sd m) ce2 sl2 J3 K3 L L2 t u r q t u r q (z_gg m) (z_sf m) h1m F7 F1 F2 F4 F5 F6 hbk (by rw [F3, F9, v8]) (by rw [F3, F9, v9]) (by rw [F3]; exact v0) (by rw [F3]; exact v99) p1.2.2.2.2.1.1 T1 (by omega) (by omega)
      have hT := zRR_told p1 hT44 v
      obtain ⟨J4, K4, m1, m2, m3⟩ := zr_movesB8 X d d2 m ce sl ce2 sl2 L L2 t u r q hB ha l hl hVC hVM rfl T1 hT1 hT44 m 0 _ _ (Int32.ofInt 0) (by omega) rfl hT
      refine ⟨J4, K4, Or.inl ⟨m1, fun M => ?_, hmod _ ?_⟩⟩
      · have h93 : z_pu (z_run X z_cf z_ff (d + 7)) 93 [.ref 25, .int T1, .ref 8] (118, z_sd m, ce, sl, z_up (z_up J3 28 T v) 25 12 (J3 25 12 + Int32.ofInt 1), L, z_rr t u r q (z_gg m) (z_sf m)) = some (.inl none, (118, z_sd m, ce, sl, J4, L, z_rr t u r q (z_gg m) (z_sf m))) := by
          refine z_en X (d + 4) _ _ [(0, .ref 25), (1, .int T1), (2, .ref 8)] _ _ rfl rfl rfl ?_
          rw [show (100000000 : Nat) = (99999997 - 15 * m + 15 * m + 2) + 1 by omega, zb_Run_moveGaps_25_8_0]
          exact m2 _
        rw [hroll, h83 _ k2, z_bi_v, zb_Run_roll_25_8_81, if_neg n1, h89, z_b0_v, zb_Run_roll_25_8_90, h91, z_bi_v, zb_Run_roll_25_8_95, if_pos hz, V1, z_bi_v, zb_Run_roll_25_8_118, y_in_t (by omega) (by omega), z_gd_t, hT1n, h93, z_b0_v, zb_Run_roll_25_8_136]
      · rw [h63, zb_M_tick_138, if_pos hz, V2, z_bi_v, show N' - 2 = (N' - 3 - 2 * m - 1 + 2 * m + 1) + 1 by omega, zb_M_tick_155, y_in_t (by omega) (by omega), z_gd_t, hT1n]
        exact m3 _
    · rw [if_neg hz] at h91
      rw [if_neg hz] at h63
      refine ⟨z_up J3 25 5 y, z_up K3 55 44 y, Or.inr ⟨zRe_end (zRe_of p1 F6) y, e, hz, fun M => ?_, hmod _ ?_⟩⟩
      · rw [hroll, h83 _ k2, z_bi_v, zb_Run_roll_25_8_81, if_neg n1, h89, z_b0_v, zb_Run_roll_25_8_90, h91, z_bi_v, zb_Run_roll_25_8_95, if_neg hz]
      · rw [h63, zb_M_tick_138, if_neg hz]
  · refine ⟨J2, K2, Or.inr ⟨k1, Int32.ofInt 1, n1, fun M => ?_, hmod _ (k3 _)⟩⟩
    rw [hroll, h83 _ k2, z_bi_v, zb_Run_roll_25_8_81, if_pos (show (Int32.ofInt 0 : Int32) = 0 from rfl)]
theorem zr_tick15 (X : ZX) (d d2 m ce sl ce2 sl2 : Nat) (L L2 : Nat → Nat → Int64) (t u r q : Nat) {c C p T : Nat} {aim : Int32} {I0 K0 Ic Im : Nat → Nat → Int32} (hB : zBs m c C p I0 K0) (h1m : 1 ≤ m) (ha : K0 55 55 = aim) (l : List zcl) (hV : zg_V15 l I0) (T1 x3 : Int32) (hT1 : T1.toInt = T) (hT44 : T < 44) (hx3 : T1.toInt < x3.toInt) (h : zRD m c aim I0 K0 Ic Im T) : ∃ J K : Nat → Nat → Int32,
    (zRR m c aim I0 K0 J K T m (T + 1) ∧
      (∀ M, z_loop X z_cf z_ff (z_pu (z_run X z_cf z_ff (d + 7))) 81 (M + 6) 52 [(0, .ref 25), (1, .ref 15), (3, .int x3), (4, .int T1)] [] (118, z_sd m, ce, sl, Ic, L, z_rr t u r q (z_gg m) (z_sf m)) = z_loop X z_cf z_ff (z_pu (z_run X z_cf z_ff (d + 7))) 81 M 52 [(0, .ref 25), (1, .ref 15), (3, .int x3), (4, .int (T1 + Int32.ofInt 1))] [] (118, z_sd m, ce, sl, J, L, z_rr t u r q (z_gg m) (z_sf m))) ∧
      z_pu (z_run X z_cf z_ff (d2 + 7)) 209 [.ref 55, .int T1] (118, z_sd m, ce2, sl2, Im, L2, z_rr t u r q (z_gg m) (z_sf m)) = some (.inl (some (.int (Int32.ofInt 0))), (118, z_sd m, ce2, sl2, K, L2, z_rr t u r q (z_gg m) (z_sf m)))) ∨
    (zRe m c aim I0 K0 J K T ∧ ∃ e : Int32, ¬ e = 0 ∧
      (∀ M, z_loop X z_cf z_ff (z_pu (z_run X z_cf z_ff (d + 7))) 81 (M + 6) 52 [(0, .ref 25), (1, .ref 15), (3, .int x3), (4, .int T1)] [] (118, z_sd m, ce, sl, Ic, L, z_rr t u r q (z_gg m) (z_sf m)) = some (.inl (some (.int e)), (118, z_sd m, ce, sl, J, L, z_rr t u r q (z_gg m) (z_sf m)))) ∧
      z_pu (z_run X z_cf z_ff (d2 + 7)) 209 [.ref 55, .int T1] (118, z_sd m, ce2, sl2, Im, L2, z_rr t u r q (z_gg m) (z_sf m)) = some (.inl (some (.int e)), (118, z_sd m, ce2, sl2, K, L2, z_rr t u r q (z_gg m) (z_sf m)))) := by
  obtain ⟨e4, q1, q2, q3⟩ := h
  obtain ⟨hVC, hVM, hl, v8, v9, v10, v11, v0, v99⟩ := hV
  obtain ⟨f1, f2, f3, f4, f5, f6, f7, f8, f9, f10⟩ := zB_of hB q1 q2
  have h44 : (Int32.ofInt 44).toInt = 44 := rfl
  have hT1n : T1.toNatClampNeg = T := by rw [y_tn, hT1]; rfl
  have n1 : ¬ (Int32.ofInt 1 : Int32) = 0 := by decide
  obtain ⟨K1, a1, a2, a3⟩ := zr_clear X (z_run X z_cf z_ff (d2 + 6)) (z_sd m) ce2 sl2 L2 t u r q (z_gg m) (z_sf m) f7 T1 m 0 (z_up Im 55 43 (Im 55 43 + Int32.ofInt 1)) (Int32.ofInt 0) (by omega) rfl (by rw [z_up_j _ _ _ _ _ (by omega)]; exact f2) (fun i hi => absurd hi (by omega))
  have hR := q3 K1 (fun a b1 b2 => by rw [a1 a b2, z_up_r _ _ _ _ _ b1]) (fun i hi => by rw [a1 55 (by omega), z_up_j _ _ _ _ _ hi]) (by rw [a1 55 (by omega), z_up_s]) a2
  obtain ⟨J2, K2, hJK⟩ := zr_turns X d d2 m ce sl ce2 sl2 L L2 t u r q hB T1 hT1 hT44 m 0 _ K1 (Int32.ofInt 0) (by omega) rfl hR
  have hmod : ∀ R, z_loop X z_cf z_ff (z_pu (z_run X z_cf z_ff (d2 + 6))) 209 (99999998 - 5 * m + 4 * m) 63 [(0, .ref 55), (1, .int T1), (2, .int (Int32.ofInt 0))] [] (118, z_sd m, ce2, sl2, K1, L2, z_rr t u r q (z_gg m) (z_sf m)) = R → z_pu (z_run X z_cf z_ff (d2 + 7)) 209 [.ref 55, .int T1] (118, z_sd m, ce2, sl2, Im, L2, z_rr t u r q (z_gg m) (z_sf m)) = R := by
    intro R hR'
    refine z_en X (d2 + 4) _ _ [(0, .ref 55), (1, .int T1)] _ _ rfl rfl rfl ?_
    have e := a3 (99999998 - 5 * m + 4 * m)
    rw [show 99999998 - 5 * m + 4 * m + m + 1 = 99999999 by omega] at e
    rw [show (100000000 : Nat) = 99999999 + 1 by omega, zb_M_tick_0, e]
    exact hR'
  have hroll : ∀ M, z_loop X z_cf z_ff (z_pu (z_run X z_cf z_ff (d + 7))) 81 (M + 6) 52 [(0, .ref 25), (1, .ref 15), (3, .int x3), (4, .int T1)] [] (118, z_sd m, ce, sl, Ic, L, z_rr t u r q (z_gg m) (z_sf m)) = z_bi (z_x [] 78) (z_pu (z_run X z_cf z_ff (d + 7)) 83 [.ref 25, .int T1] (118, z_sd m, ce, sl, z_up Ic 25 4 (Ic 25 4 + Int32.ofInt 1), L, z_rr t u r q (z_gg m) (z_sf m))) (fun v w => z_loop X z_cf z_ff (z_pu (z_run X z_cf z_ff (d + 7))) 81 (M + 5) 81 [(0, .ref 25), (1, .ref 15), (3, .int x3), (4, .int T1)] [.int v] w) := by
    intro M
    rw [show M + 6 = (M + 5) + 1 by omega, zb_Run_roll_25_15_52, if_neg (by rw [y_i_le]; omega), if_neg (by rw [y_i_le, h44]; omega)]
  have h83 : ∀ R, (∀ M, z_loop X z_cf z_ff (z_pu (z_run X z_cf z_ff (d + 6))) 83 (M + 8 * m + 4) 2 [(0, .ref 25), (1, .int T1), (2, .int (Int32.ofInt 0))] [] (118, z_sd m, ce, sl, z_up Ic 25 4 (Ic 25 4 + Int32.ofInt 1), L, z_rr t u r q (z_gg m) (z_sf m)) = R) → z_pu (z_run X z_cf z_ff (d + 7)) 83 [.ref 25, .int T1] (118, z_sd m, ce, sl, z_up Ic 25 4 (Ic 25 4 + Int32.ofInt 1), L, z_rr t u r q (z_gg m) (z_sf m)) = R := by
    intro R hR'
    refine z_en X (d + 4) _ _ [(0, .ref 25), (1, .int T1)] _ _ rfl rfl rfl ?_
    rw [show (100000000 : Nat) = (99999995 - 8 * m + 8 * m + 4) + 1 by omega, zb_Run_biteAll_0]
    exact hR' _
  rcases hJK with ⟨k1, k2, k3⟩ | ⟨k1, k2, k3⟩
  · obtain ⟨J3, K3, p1, p2, p3⟩ := zr_pulls X d m ce sl (z_sd m) ce2 sl2 L L2 t u r q t u r q (z_gg m) (z_sf m) (z_run X z_cf z_ff (d2 + 5)) hB (m - 1) 0 J2 K2 (Int32.ofInt 0) (by omega) rfl k1
    obtain ⟨F1, F2, F3, F4, F5, F6, F7, F8, F9, F10⟩ := zB_of hB p1.1 p1.2.1
    have hbk : zbk K3 := by
      unfold zbk
      rw [F8]
      exact hVM.1
    obtain ⟨e, y, w1, w2, w3⟩ := zr_ends15 X d m ce sl (d2 + 2) (z_sd m) ce2 sl2 J3 K3 L L2 t u r q t u r q (z_gg m) (z_sf m) F7 F1 F2 hbk (by rw [F3, F10, v10]) (by rw [F3, F10, v11]) p1.2.2.2.2.1.2.1 (m - 1) 0 (Int32.ofInt 0) (by omega) rfl
    have h89 : z_pu (z_run X z_cf z_ff (d + 7)) 89 [.ref 25] (118, z_sd m, ce, sl, J2, L, z_rr t u r q (z_gg m) (z_sf m)) = some (.inl none, (118, z_sd m, ce, sl, J3, L, z_rr t u r q (z_gg m) (z_sf m))) := by
      refine z_en X (d + 4) _ _ [(0, .ref 25)] _ _ rfl rfl rfl ?_
      rw [show (100000000 : Nat) = (99999997 - 6 * (m - 1) + 6 * (m - 1) + 2) + 1 by omega, zb_Run_movePulls_0]
      exact p2 _
    have h91 : z_pu (z_run X z_cf z_ff (d + 7)) 91 [.ref 25, .ref 15] (118, z_sd m, ce, sl, J3, L, z_rr t u r q (z_gg m) (z_sf m)) = some (.inl (some (.int e)), (118, z_sd m, ce, sl, (if e = 0 then J3 else z_up J3 25 5 y), L, z_rr t u r q (z_gg m) (z_sf m))) := by
      refine z_en X (d + 4) _ _ [(0, .ref 25), (1, .ref 15)] _ _ rfl rfl rfl ?_
      rw [show (100000000 : Nat) = (99999997 - 2 * (m - 1) + 2 * (m - 1) + 2) + 1 by omega, zb_Run_endByPull_25_15_0]
      exact w2 _
    have h213 : z_pu (z_run X z_cf z_ff (d2 + 6)) 213 [.ref 55] (118, z_sd m, ce2, sl2, K2, L2, z_rr t u r q (z_gg m) (z_sf m)) = some (.inl (some (.int e)), (118, z_sd m, ce2, sl2, (if e = 0 then K3 else z_up K3 55 44 y), L2, z_rr t u r q (z_gg m) (z_sf m))) := by
      refine z_en X (d2 + 3) _ _ [(0, .ref 55)] _ _ rfl rfl rfl ?_
      rw [show (100000000 : Nat) = (99999997 - 4 * (m - 1) + 3 * (m - 1) + 1) + (m - 1) + 1 + 1 by omega, zb_M_draws_0, p3]
      exact w3 _
    obtain ⟨N', y2, r1, r2, r3⟩ := k3 (99999998 - 5 * m)
    have h63 : z_loop X z_cf z_ff (z_pu (z_run X z_cf z_ff (d2 + 6))) 209 (99999998 - 5 * m + 4 * m) 63 [(0, .ref 55), (1, .int T1), (2, .int (Int32.ofInt 0))] [] (118, z_sd m, ce2, sl2, K1, L2, z_rr t u r q (z_gg m) (z_sf m)) = z_loop X z_cf z_ff (z_pu (z_run X z_cf z_ff (d2 + 6))) 209 (N' - 2 + 1) 138 [(0, .ref 55), (1, .int T1)] [.int e] (118, z_sd m, ce2, sl2, (if e = 0 then K3 else z_up K3 55 44 y), L2, z_rr t u r q (z_gg m) (z_sf m)) := by
      obtain ⟨G1, G2, _⟩ := zB_of hB k1.1 k1.2.1
      rw [r3, show N' = (N' - 2 + 1) + 1 by omega, zb_M_tick_63, if_pos (by rw [G2, y_i_le, y_on (by omega)]; omega), h213, z_bi_v]
      rfl
    by_cases hz : e = 0
    · rw [if_pos hz] at h91
      rw [if_pos hz] at h63
      obtain ⟨v, V1, V2⟩ := zr_gauge15 X d m ce sl d2 (z_sd m) ce2 sl2 J3 K3 L L2 t u r q t u r q (z_gg m) (z_sf m) h1m F7 F1 F2 F4 F5 F6 hbk (by rw [F3, F10, v8]) (by rw [F3, F10, v9]) (by rw [F3]; exact v0) (by rw [F3]; exact v99) p1.2.2.2.2.1.1 T1 (by omega) (by omega)
      have hT := zRR_told p1 hT44 v
      obtain ⟨J4, K4, m1, m2, m3⟩ := zr_movesB15 X d d2 m ce sl ce2 sl2 L L2 t u r q hB ha l hl hVC hVM rfl T1 hT1 hT44 m 0 _ _ (Int32.ofInt 0) (by omega) rfl hT
      refine ⟨J4, K4, Or.inl ⟨m1, fun M => ?_, hmod _ ?_⟩⟩
      · have h93 : z_pu (z_run X z_cf z_ff (d + 7)) 93 [.ref 25, .int T1, .ref 15] (118, z_sd m, ce, sl, z_up (z_up J3 28 T v) 25 12 (J3 25 12 + Int32.ofInt 1), L, z_rr t u r q (z_gg m) (z_sf m)) = some (.inl none, (118, z_sd m, ce, sl, J4, L, z_rr t u r q (z_gg m) (z_sf m))) := by
          refine z_en X (d + 4) _ _ [(0, .ref 25), (1, .int T1), (2, .ref 15)] _ _ rfl rfl rfl ?_
          rw [show (100000000 : Nat) = (99999997 - 15 * m + 15 * m + 2) + 1 by omega, zb_Run_moveGaps_25_15_0]
          exact m2 _
        rw [hroll, h83 _ k2, z_bi_v, zb_Run_roll_25_15_81, if_neg n1, h89, z_b0_v, zb_Run_roll_25_15_90, h91, z_bi_v, zb_Run_roll_25_15_95, if_pos hz, V1, z_bi_v, zb_Run_roll_25_15_118, y_in_t (by omega) (by omega), z_gd_t, hT1n, h93, z_b0_v, zb_Run_roll_25_15_136]
      · rw [h63, zb_M_tick_138, if_pos hz, V2, z_bi_v, show N' - 2 = (N' - 3 - 2 * m - 1 + 2 * m + 1) + 1 by omega, zb_M_tick_155, y_in_t (by omega) (by omega), z_gd_t, hT1n]
        exact m3 _
    · rw [if_neg hz] at h91
      rw [if_neg hz] at h63
      refine ⟨z_up J3 25 5 y, z_up K3 55 44 y, Or.inr ⟨zRe_end (zRe_of p1 F6) y, e, hz, fun M => ?_, hmod _ ?_⟩⟩
      · rw [hroll, h83 _ k2, z_bi_v, zb_Run_roll_25_15_81, if_neg n1, h89, z_b0_v, zb_Run_roll_25_15_90, h91, z_bi_v, zb_Run_roll_25_15_95, if_neg hz]
      · rw [h63, zb_M_tick_138, if_neg hz]
  · refine ⟨J2, K2, Or.inr ⟨k1, Int32.ofInt 1, n1, fun M => ?_, hmod _ (k3 _)⟩⟩
    rw [hroll, h83 _ k2, z_bi_v, zb_Run_roll_25_15_81, if_pos (show (Int32.ofInt 0 : Int32) = 0 from rfl)]
