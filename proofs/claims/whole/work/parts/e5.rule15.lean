/-! RULES, 18: the class's machine: clauses -/
theorem z_sheets (t u r q g : Nat) (st : Nat → Option Nat) : z_up (z_up (z_rr t u r q g st) 7 3 (some u)) 7 4 (some t) = z_rr u t r q g st := by
  funext b j
  by_cases hb : b = 7
  · subst hb
    by_cases h6 : j = 4
    · subst h6
      rfl
    · by_cases h5 : j = 3
      · subst h5
        rfl
      · have e5 := z_beq_n h5
        have e6 := z_beq_n h6
        rw [z_up_k _ _ _ _ _ e6, z_up_k _ _ _ _ _ e5]
        unfold z_rr z_rs z_dd
        simp only [e5, e6]
  · rw [z_up_r _ _ _ _ _ hb, z_up_r _ _ _ _ _ hb]
    have e := z_beq_n hb
    unfold z_rr z_rs z_dd
    simp only [e]
    rfl
def zFrC (D : Nat) (I J : Nat → Nat → Int32) : Prop := (∀ x, x ≠ 7 → x ≠ D → x ≠ D + 1 → (x < D + 3 ∨ D + 6 < x) → J x = I x) ∧ (∀ j, (j < 5 ∨ 11 < j) → J 7 j = I 7 j)
theorem zFrC_t {D : Nat} {I J K : Nat → Nat → Int32} (h1 : zFrC D I J) (h2 : zFrC D J K) : zFrC D I K := ⟨fun x a b c e => (h2.1 x a b c e).trans (h1.1 x a b c e), fun j h => (h2.2 j h).trans (h1.2 j h)⟩
theorem zFrC_m {D : Nat} {I J : Nat → Nat → Int32} (h : zFrm D I J) : zFrC D I J := ⟨fun x a b c _ => h.1 x a b c, h.2.1⟩
theorem zFrC_7 {D : Nat} {I J : Nat → Nat → Int32} (h1 : ∀ x, x ≠ 7 → J x = I x) (h2 : ∀ j, (j < 5 ∨ 11 < j) → J 7 j = I 7 j) : zFrC D I J := ⟨fun x a _ _ _ => h1 x a, h2⟩
/-- the class stands at a token, with these steps, clauses and numbers in its draft -/
def zKA (D : Nat) (F : Nat → Int) (N : Nat) (tk : zTk) (S : List Int) (P : List zcl) (qq : zPq) (I : Nat → Nat → Int32) : Prop := zCB F N tk I ∧ zCS D S I ∧ S.length ≤ tk.2.1 ∧ zPC D S.length I 0 P ∧ (I D 7).toInt = P.length ∧ (I D 8).toInt = qq.1 ∧ (I D 9).toInt = qq.2.1 ∧ (I D 10).toInt = qq.2.2.1 ∧ (I D 11).toInt = qq.2.2.2
theorem zKA_7 {D : Nat} {F : Nat → Int} {N : Nat} {tk tk' : zTk} {S : List Int} {P : List zcl} {qq : zPq} {I J : Nat → Nat → Int32} (hD : 7 < D) (h : zKA D F N tk S P qq I) (h1 : ∀ x, x ≠ 7 → J x = I x) (h2 : zCB F N tk' J) (h3 : tk.2.1 ≤ tk'.2.1) : zKA D F N tk' S P qq J := by
  obtain ⟨a1, a2, a3, a4, a5, a6, a7, a8, a9⟩ := h
  have e := h1 D (by omega)
  exact ⟨h2, zCS_r e (h1 (D + 1) (by omega)) a2, by omega, zPC_u (Nat.le_refl _) (fun j _ => by rw [h1 (D + 1) (by omega)]) P 0 (fun x x1 x2 j _ => by rw [h1 x (by omega)]) a4, by rw [e]; exact a5, by rw [e]; exact a6, by rw [e]; exact a7, by rw [e]; exact a8, by rw [e]; exact a9⟩
theorem zpNum_1 {lx : Nat → zTk} {most kind : Int} {tk : zTk} (h : tk.1 ≠ 2) : zpNum lx most kind tk = .inl (1, tk.2.1) := if_neg h
theorem zpNum_2 {lx : Nat → zTk} {most kind : Int} {tk : zTk} (h : tk.1 = 2) (h2 : ¬ tk.2.2.2.2 ≤ 5) : zpNum lx most kind tk = .inl (2, tk.2.1) := by
  unfold zpNum
  rw [if_pos h, if_neg h2]
theorem zpNum_3 {lx : Nat → zTk} {most kind : Int} {tk : zTk} (h : tk.1 = 2) (h2 : tk.2.2.2.2 ≤ 5) (h3 : ¬ tk.2.2.2.1 ≤ most) : zpNum lx most kind tk = .inl (kind, tk.2.1) := by
  unfold zpNum
  rw [if_pos h, if_pos h2, if_neg h3]
theorem zpNum_4 {lx : Nat → zTk} {most kind : Int} {tk : zTk} (h : tk.1 = 2) (h2 : tk.2.2.2.2 ≤ 5) (h3 : tk.2.2.2.1 ≤ most) : zpNum lx most kind tk = .inr (lx tk.2.2.1, tk.2.2.2.1) := by
  unfold zpNum
  rw [if_pos h, if_pos h2, if_pos h3]
/-- a clause is added -/
theorem zK_add_8 {F : Nat → Int} {N : Nat} {tk tk0 : zTk} {S s s2 : List Int} {P : List zcl} {qq : zPq} {I K : Nat → Nat → Int32} (hA : zKA 8 F N tk0 S P qq I) (hP : P.length < 12) (hN4 : N ≤ 400) (h1 : zCB F N tk K) (h2 : zCS 8 (S ++ s ++ s2) K) (h3 : (S ++ s ++ s2).length ≤ tk.2.1) (h4 : zFrm 8 I K) {v : Int} (x1 x2 x3 : Int32) (e1 : x1.toInt = v) (e2 : x2.toInt = S.length) (e3 : x3.toInt = ((S.length + s.length : Nat) : Int)) : zKA 8 F N tk (S ++ s ++ s2) (P ++ [(v, s, s2)]) qq (z_up (z_up (z_up (z_up (z_up K 11 (K 8 7).toNatClampNeg x1) 12 (K 8 7).toNatClampNeg x2) 13 (K 8 7).toNatClampNeg x3) 14 (K 8 7).toNatClampNeg (K 8 1)) 8 7 (K 8 7 + Int32.ofInt 1)) ∧ zFrC 8 I (z_up (z_up (z_up (z_up (z_up K 11 (K 8 7).toNatClampNeg x1) 12 (K 8 7).toNatClampNeg x2) 13 (K 8 7).toNatClampNeg x3) 14 (K 8 7).toNatClampNeg (K 8 1)) 8 7 (K 8 7 + Int32.ofInt 1)) ∧ (z_up (z_up (z_up (z_up (z_up K 11 (K 8 7).toNatClampNeg x1) 12 (K 8 7).toNatClampNeg x2) 13 (K 8 7).toNatClampNeg x3) 14 (K 8 7).toNatClampNeg (K 8 1)) 8 7 (K 8 7 + Int32.ofInt 1)) 7 = K 7 ∧ ¬ Int32.ofInt 12 ≤ K 8 7 ∧ z_in (K 8 7) 12 = true := by
  obtain ⟨a1, a2, a3, a4, a5, a6, a7, a8, a9⟩ := hA
  have k7 : (K 8 7).toInt = P.length := by rw [h4.2.2 7 (by omega)]; exact a5
  have n7 : (K 8 7).toNatClampNeg = P.length := by rw [y_tn, k7]; rfl
  have hl1 : (S ++ s ++ s2).length = S.length + s.length + s2.length := by rw [List.length_append, List.length_append]
  have hN := h1.2.1.1
  have f0 : ∀ x, x ≠ 8 → (x < 11 ∨ 14 < x) → (z_up (z_up (z_up (z_up (z_up K 11 (K 8 7).toNatClampNeg x1) 12 (K 8 7).toNatClampNeg x2) 13 (K 8 7).toNatClampNeg x3) 14 (K 8 7).toNatClampNeg (K 8 1)) 8 7 (K 8 7 + Int32.ofInt 1)) x = K x := fun x q1 q2 => by rw [z_up_r _ _ _ _ _ q1, z_up_r _ _ _ _ _ (by omega), z_up_r _ _ _ _ _ (by omega), z_up_r _ _ _ _ _ (by omega), z_up_r _ _ _ _ _ (by omega)]
  have fD : ∀ j, j ≠ 7 → (z_up (z_up (z_up (z_up (z_up K 11 (K 8 7).toNatClampNeg x1) 12 (K 8 7).toNatClampNeg x2) 13 (K 8 7).toNatClampNeg x3) 14 (K 8 7).toNatClampNeg (K 8 1)) 8 7 (K 8 7 + Int32.ofInt 1)) 8 j = K 8 j := fun j q1 => by rw [z_up_j _ _ _ _ _ q1, z_up_r _ _ _ _ _ (by omega), z_up_r _ _ _ _ _ (by omega), z_up_r _ _ _ _ _ (by omega), z_up_r _ _ _ _ _ (by omega)]
  have f3 : (z_up (z_up (z_up (z_up (z_up K 11 (K 8 7).toNatClampNeg x1) 12 (K 8 7).toNatClampNeg x2) 13 (K 8 7).toNatClampNeg x3) 14 (K 8 7).toNatClampNeg (K 8 1)) 8 7 (K 8 7 + Int32.ofInt 1)) 11 = z_up K 11 P.length x1 11 := by rw [z_up_r _ _ _ _ _ (by omega), z_up_r _ _ _ _ _ (by omega), z_up_r _ _ _ _ _ (by omega), z_up_r _ _ _ _ _ (by omega), n7]
  have f4 : (z_up (z_up (z_up (z_up (z_up K 11 (K 8 7).toNatClampNeg x1) 12 (K 8 7).toNatClampNeg x2) 13 (K 8 7).toNatClampNeg x3) 14 (K 8 7).toNatClampNeg (K 8 1)) 8 7 (K 8 7 + Int32.ofInt 1)) 12 = z_up K 12 P.length x2 12 := by
    rw [z_up_r _ _ _ _ _ (by omega), z_up_r _ _ _ _ _ (by omega), z_up_r _ _ _ _ _ (by omega), n7]
  have f5 : (z_up (z_up (z_up (z_up (z_up K 11 (K 8 7).toNatClampNeg x1) 12 (K 8 7).toNatClampNeg x2) 13 (K 8 7).toNatClampNeg x3) 14 (K 8 7).toNatClampNeg (K 8 1)) 8 7 (K 8 7 + Int32.ofInt 1)) 13 = z_up K 13 P.length x3 13 := by
    rw [z_up_r _ _ _ _ _ (by omega), z_up_r _ _ _ _ _ (by omega), n7]
  have f6 : (z_up (z_up (z_up (z_up (z_up K 11 (K 8 7).toNatClampNeg x1) 12 (K 8 7).toNatClampNeg x2) 13 (K 8 7).toNatClampNeg x3) 14 (K 8 7).toNatClampNeg (K 8 1)) 8 7 (K 8 7 + Int32.ofInt 1)) 14 = z_up K 14 P.length (K 8 1) 14 := by
    rw [z_up_r _ _ _ _ _ (by omega), n7]
  have f77 : ((z_up (z_up (z_up (z_up (z_up K 11 (K 8 7).toNatClampNeg x1) 12 (K 8 7).toNatClampNeg x2) 13 (K 8 7).toNatClampNeg x3) 14 (K 8 7).toNatClampNeg (K 8 1)) 8 7 (K 8 7 + Int32.ofInt 1)) 8 7).toInt = ((P.length + 1 : Nat) : Int) := by
    rw [z_up_s, y_adl (by omega) (by omega) (by omega) (by omega), k7]
    omega
  have fE : (z_up (z_up (z_up (z_up (z_up K 11 (K 8 7).toNatClampNeg x1) 12 (K 8 7).toNatClampNeg x2) 13 (K 8 7).toNatClampNeg x3) 14 (K 8 7).toNatClampNeg (K 8 1)) 8 7 (K 8 7 + Int32.ofInt 1)) 9 = K 9 := f0 9 (by omega) (by omega)
  have f07 : (z_up (z_up (z_up (z_up (z_up K 11 (K 8 7).toNatClampNeg x1) 12 (K 8 7).toNatClampNeg x2) 13 (K 8 7).toNatClampNeg x3) 14 (K 8 7).toNatClampNeg (K 8 1)) 8 7 (K 8 7 + Int32.ofInt 1)) 7 = K 7 := f0 7 (by omega) (by omega)
  have f06 : (z_up (z_up (z_up (z_up (z_up K 11 (K 8 7).toNatClampNeg x1) 12 (K 8 7).toNatClampNeg x2) 13 (K 8 7).toNatClampNeg x3) 14 (K 8 7).toNatClampNeg (K 8 1)) 8 7 (K 8 7 + Int32.ofInt 1)) 6 = K 6 := f0 6 (by omega) (by omega)
  have fr : zFrC 8 I (z_up (z_up (z_up (z_up (z_up K 11 (K 8 7).toNatClampNeg x1) 12 (K 8 7).toNatClampNeg x2) 13 (K 8 7).toNatClampNeg x3) 14 (K 8 7).toNatClampNeg (K 8 1)) 8 7 (K 8 7 + Int32.ofInt 1)) := ⟨fun x q1 q2 q3 q4 => by rw [f0 x q2 (by omega), h4.1 x q1 q2 q3], fun j hj => by rw [f07]; exact h4.2.1 j hj⟩
  generalize (z_up (z_up (z_up (z_up (z_up K 11 (K 8 7).toNatClampNeg x1) 12 (K 8 7).toNatClampNeg x2) 13 (K 8 7).toNatClampNeg x3) 14 (K 8 7).toNatClampNeg (K 8 1)) 8 7 (K 8 7 + Int32.ofInt 1)) = J at *
  have row : ∀ x, 11 ≤ x → x ≤ 14 → ∀ j, j < P.length → J x j = I x j := by
    intro x q1 q2 j hj
    have hx : K x = I x := h4.1 x (by omega) (by omega) (by omega)
    have hc : x = 11 ∨ x = 12 ∨ x = 13 ∨ x = 14 := by omega
    rcases hc with e | e | e | e <;> subst e
    · rw [f3, z_up_j _ _ _ _ _ (by omega), hx]
    · rw [f4, z_up_j _ _ _ _ _ (by omega), hx]
    · rw [f5, z_up_j _ _ _ _ _ (by omega), hx]
    · rw [f6, z_up_j _ _ _ _ _ (by omega), hx]
  have S2 : zCS 8 (S ++ s ++ s2) J := by
    refine ⟨by rw [fD 1 (by omega)]; exact h2.1, fun j hj => ?_⟩
    have := h2.2 j hj
    rw [← fE] at this
    exact this
  have st : ∀ j, j < S.length → J 9 j = I 9 j := by
    rw [List.append_assoc] at S2
    exact zCS_i a2 S2
  have c1 : zPC 8 (S ++ s ++ s2).length J (0 + P.length) [(v, s, s2)] := by
    rw [Nat.zero_add]
    refine ⟨⟨by rw [show 8 + 3 = 11 from rfl, f3, z_up_s]; exact e1, S.length, by rw [show 8 + 4 = 12 from rfl, f4, z_up_s]; exact e2, by rw [show 8 + 5 = 13 from rfl, f5, z_up_s, e3]; show _ = (S.length : Int) + (s.length : Int); omega, by rw [show 8 + 6 = 14 from rfl, f6, z_up_s, h2.1, hl1]; show _ = (S.length : Int) + (s.length : Int) + (s2.length : Int); omega, by rw [hl1]; exact Nat.le_refl _, ?_, ?_⟩, trivial⟩
    · exact zrow_S S2 s S.length (zget_m S s s2) (by rw [hl1]; omega)
    · have hz := zget_m (S ++ s) s2 []
      rw [List.append_nil, List.length_append] at hz
      exact zrow_S S2 s2 (S.length + s.length) hz (by rw [hl1]; exact Nat.le_refl _)
  refine ⟨⟨zCB_r f07 f06 h1, S2, h3, zPC_a _ _ _ (zPC_u (by rw [hl1]; omega) st P 0 (fun x q1 q2 j hj => row x q1 q2 j (by omega)) a4) c1, by rw [f77, List.length_append]; rfl, by rw [fD 8 (by omega), h4.2.2 8 (by omega)]; exact a6, by rw [fD 9 (by omega), h4.2.2 9 (by omega)]; exact a7, by rw [fD 10 (by omega), h4.2.2 10 (by omega)]; exact a8, by rw [fD 11 (by omega), h4.2.2 11 (by omega)]; exact a9⟩, fr, f07, ?_, y_in_t (by omega) (by omega)⟩
  rw [y_i_le, k7]
  show ¬ (12 : Int) ≤ _
  omega
theorem zC_std_8 (X : ZX) (d m ce sl : Nat) (I : Nat → Nat → Int32) (L : Nat → Nat → Int64) (t r q : Nat) {F : Nat → Int} {N : Nat} (hN4 : N ≤ 400) {nst : Nat} (h72 : (I 7 2).toInt = nst) {tk : zTk} {S : List Int} {P : List zcl} {qq : zPq} (hA : zKA 8 F N tk S P qq I) (hP : P.length < 12) :
    (∀ e, zpStd (zlx F N) nst tk = .inl e → ∃ J : Nat → Nat → Int32, zFrC 8 I J ∧ (J 7 10).toInt = e.1 ∧ (J 7 11).toInt = e.2 ∧ z_pu (z_run X z_cf z_ff (d + 81)) 65 [.ref 7] (118, z_sd m, ce, sl, I, L, z_rr t 8 r q (z_gg m) (z_sf m)) = some (.inl (some (.int (Int32.ofInt 0))), (118, z_sd m, ce, sl, J, L, z_rr t 8 r q (z_gg m) (z_sf m)))) ∧
    (∀ tt cc, zpStd (zlx F N) nst tk = .inr (tt, cc) → tt.1 ≠ 59 → ∃ J : Nat → Nat → Int32, zFrC 8 I J ∧ (J 7 10).toInt = 1 ∧ (J 7 11).toInt = tt.2.1 ∧ z_pu (z_run X z_cf z_ff (d + 81)) 65 [.ref 7] (118, z_sd m, ce, sl, I, L, z_rr t 8 r q (z_gg m) (z_sf m)) = some (.inl (some (.int (Int32.ofInt 0))), (118, z_sd m, ce, sl, J, L, z_rr t 8 r q (z_gg m) (z_sf m)))) ∧
    (∀ tt cc, zpStd (zlx F N) nst tk = .inr (tt, cc) → tt.1 = 59 → ∃ (J : Nat → Nat → Int32) (S' : List Int), zFrC 8 I J ∧ J 7 10 = I 7 10 ∧ J 7 11 = I 7 11 ∧ zKA 8 F N (zlx F N tt.2.2.1) S' (P ++ [cc]) qq J ∧ z_pu (z_run X z_cf z_ff (d + 81)) 65 [.ref 7] (118, z_sd m, ce, sl, I, L, z_rr t 8 r q (z_gg m) (z_sf m)) = some (.inl (some (.int (Int32.ofInt 1))), (118, z_sd m, ce, sl, J, L, z_rr t 8 r q (z_gg m) (z_sf m)))) := by
  have en : ∀ rr : ZR, (∀ M, z_loop X z_cf z_ff (z_pu (z_run X z_cf z_ff (d + 76 + 4))) 65 (M + 30) 0 [(0, .ref 7)] [] (118, z_sd m, ce, sl, I, L, z_rr t 8 r q (z_gg m) (z_sf m)) = rr) → z_pu (z_run X z_cf z_ff (d + 81)) 65 [.ref 7] (118, z_sd m, ce, sl, I, L, z_rr t 8 r q (z_gg m) (z_sf m)) = rr := fun rr h => z_en X (d + 78) _ _ [(0, .ref 7)] _ _ rfl rfl rfl (h 99999970)
  have hB := hA.1
  have k5 : (I 7 5).toInt = tk.1 := hB.1.1
  have k6 : (I 7 6).toInt = tk.2.1 := hB.1.2.1
  have hS := hA.2.1
  have hSl := hA.2.2.1
  have bad : ∀ (v : Int), -2147483648 ≤ v → v ≤ 2147483647 → (∀ M, z_loop X z_cf z_ff (z_pu (z_run X z_cf z_ff (d + 76 + 4))) 65 (M + 30) 0 [(0, .ref 7)] [] (118, z_sd m, ce, sl, I, L, z_rr t 8 r q (z_gg m) (z_sf m)) = some (.inl (some (.int (Int32.ofInt 0))), (118, z_sd m, ce, sl, (z_up (z_up I 7 10 (Int32.ofInt v)) 7 11 (I 7 6)), L, z_rr t 8 r q (z_gg m) (z_sf m)))) → zpStd (zlx F N) nst tk = .inl (v, tk.2.1) → (∀ e, zpStd (zlx F N) nst tk = .inl e → ∃ J : Nat → Nat → Int32, zFrC 8 I J ∧ (J 7 10).toInt = e.1 ∧ (J 7 11).toInt = e.2 ∧ z_pu (z_run X z_cf z_ff (d + 81)) 65 [.ref 7] (118, z_sd m, ce, sl, I, L, z_rr t 8 r q (z_gg m) (z_sf m)) = some (.inl (some (.int (Int32.ofInt 0))), (118, z_sd m, ce, sl, J, L, z_rr t 8 r q (z_gg m) (z_sf m)))) ∧
      (∀ tt cc, zpStd (zlx F N) nst tk = .inr (tt, cc) → tt.1 ≠ 59 → ∃ J : Nat → Nat → Int32, zFrC 8 I J ∧ (J 7 10).toInt = 1 ∧ (J 7 11).toInt = tt.2.1 ∧ z_pu (z_run X z_cf z_ff (d + 81)) 65 [.ref 7] (118, z_sd m, ce, sl, I, L, z_rr t 8 r q (z_gg m) (z_sf m)) = some (.inl (some (.int (Int32.ofInt 0))), (118, z_sd m, ce, sl, J, L, z_rr t 8 r q (z_gg m) (z_sf m)))) ∧
      (∀ tt cc, zpStd (zlx F N) nst tk = .inr (tt, cc) → tt.1 = 59 → ∃ (J : Nat → Nat → Int32) (S' : List Int), zFrC 8 I J ∧ J 7 10 = I 7 10 ∧ J 7 11 = I 7 11 ∧ zKA 8 F N (zlx F N tt.2.2.1) S' (P ++ [cc]) qq J ∧ z_pu (z_run X z_cf z_ff (d + 81)) 65 [.ref 7] (118, z_sd m, ce, sl, I, L, z_rr t 8 r q (z_gg m) (z_sf m)) = some (.inl (some (.int (Int32.ofInt 1))), (118, z_sd m, ce, sl, J, L, z_rr t 8 r q (z_gg m) (z_sf m)))) := by
    intro v v1 v2 h hp
    rw [hp]
    refine ⟨fun e he => ?_, fun tt cc he => absurd he (by simp), fun tt cc he => absurd he (by simp)⟩
    injection he with he
    subst he
    exact ⟨z_up (z_up I 7 10 (Int32.ofInt v)) 7 11 (I 7 6), zFrC_m (zFrm_f (by omega) I _ _), by rw [z_up_j _ _ _ _ _ (by omega), z_up_s]; exact y_oi v1 v2, by rw [z_up_s]; exact k6, en _ h⟩
  by_cases c2 : tk.1 = 2
  · have i2 : I 7 5 = Int32.ofInt 2 := y_eqi (by rw [k5, c2])
    obtain ⟨q1, q2⟩ := hB.1.2.2.2 c2
    by_cases c5 : tk.2.2.2.2 ≤ 5
    · have i5 : I 7 9 ≤ Int32.ofInt 5 := by rw [y_i_le, q2]; show _ ≤ (5 : Int); omega
      by_cases cn : tk.2.2.2.1 ≤ (nst : Int) - 1
      · have lt : I 7 8 < I 7 2 := by rw [y_i_lt, q1, h72]; omega
        have hnum : zpNum (zlx F N) ((nst : Int) - 1) 4 tk = .inr (zlx F N tk.2.2.1, tk.2.2.2.1) := zpNum_4 c2 c5 cn
        have hE0 : zpStd (zlx F N) nst tk = if (zlx F N tk.2.2.1).1 = 100 then match zpExpr (zlx F N) 6 (zlx F N (zlx F N tk.2.2.1).2.2.1) with
              | .inl e => .inl e
              | .inr (t2, s) => if t2.1 = 113 then match zpExpr (zlx F N) 6 (zlx F N t2.2.2.1) with
                  | .inl e => .inl e
                  | .inr (t3, s2) => .inr (t3, (tk.2.2.2.1, s, s2))
                else .inr (t2, (tk.2.2.2.1, s, []))
            else .inl (1, (zlx F N tk.2.2.1).2.1) := by
          unfold zpStd
          rw [hnum]
          rfl
        obtain ⟨J1, a1, a2, a3, a4⟩ := zC_tok X (d + 74) m ce sl I L t 8 r q hN4 hB (by omega)
        obtain ⟨n1, n2⟩ := zTO_nx (zlx_ok F N) hB.2.1 (by omega)
        generalize zlx F N tk.2.2.1 = t1 at *
        have S1 : zCS 8 S J1 := zCS_r (a1 8 (by omega)) (a1 9 (by omega)) hS
        have F1 : zFrm 8 I J1 := zFrm_7 (by omega) a1 (fun j hj => a2 j (by omega))
        have x2e : (J1 8 1).toInt = S.length := S1.1
        have st1 : ∀ M, z_loop X z_cf z_ff (z_pu (z_run X z_cf z_ff (d + 76 + 4))) 65 (M + 30) 0 [(0, .ref 7)] [] (118, z_sd m, ce, sl, I, L, z_rr t 8 r q (z_gg m) (z_sf m)) = z_bi (z_x [] 46) (z_pu (z_run X z_cf z_ff (d + 76 + 4)) 67 [.ref 7, .int (Int32.ofInt 100)] (118, z_sd m, ce, sl, J1, L, z_rr t 8 r q (z_gg m) (z_sf m))) (fun v w => z_loop X z_cf z_ff (z_pu (z_run X z_cf z_ff (d + 76 + 4))) 65 (M + 27) 49 [(0, .ref 7), (1, .int (I 7 8)), (2, .int (J1 8 1))] [.int v] w) := by
          intro M
          rw [zt_Reader_readStandClause_0, if_pos i2, if_pos i5, if_pos lt, a4, z_b0_v, zb_Reader_readStandClause_35_8]
        by_cases c100 : t1.1 = 100
        · rw [if_pos c100] at hE0
          obtain ⟨J2, b1, b2, b3, b4⟩ := zC_take1 X (d + 73) m ce sl J1 L t 8 r q hN4 a3 (Int32.ofInt 100) c100 (by omega)
          obtain ⟨n3, n4⟩ := zTO_nx (zlx_ok F N) n1 (by omega)
          generalize zlx F N t1.2.2.1 = t2 at *
          have S2 : zCS 8 S J2 := zCS_r (b1 8 (by omega)) (b1 9 (by omega)) S1
          have F2 : zFrm 8 J1 J2 := zFrm_7 (by omega) b1 (fun j hj => b2 j (by omega))
          obtain ⟨e1, e2⟩ := zC_expr_8 (X := X) hN4 6 (Int32.ofInt 0) (Nat.le_refl _) rfl d m ce sl J2 L t r q t2 S b3 S2 (by omega)
          rw [show d + (12 * 6 + 8) = d + 76 + 4 by omega] at e1 e2
          have st2 : ∀ M, z_loop X z_cf z_ff (z_pu (z_run X z_cf z_ff (d + 76 + 4))) 65 (M + 30) 0 [(0, .ref 7)] [] (118, z_sd m, ce, sl, I, L, z_rr t 8 r q (z_gg m) (z_sf m)) = z_bi (z_x [] 54) (z_pu (z_run X z_cf z_ff (d + 76 + 4)) 68 [.ref 7, .int (Int32.ofInt 0)] (118, z_sd m, ce, sl, J2, L, z_rr t 8 r q (z_gg m) (z_sf m))) (fun v w => z_loop X z_cf z_ff (z_pu (z_run X z_cf z_ff (d + 76 + 4))) 65 (M + 26) 57 [(0, .ref 7), (1, .int (I 7 8)), (2, .int (J1 8 1))] [.int v] w) := by
            intro M
            rw [st1, b4, z_bi_v, zb_Reader_readStandClause_49, if_neg (by decide)]
          cases hx : zpExpr (zlx F N) 6 t2 with
          | inl y0 =>
            rw [hx] at hE0
            have hE1 : zpStd (zlx F N) nst tk = .inl y0 := hE0
            rw [hE1]
            refine ⟨fun e he => ?_, fun tt cc he => absurd he (by simp), fun tt cc he => absurd he (by simp)⟩
            injection he with he
            subst he
            obtain ⟨J3, g1, g2, g3, g4⟩ := e1 y0 hx
            exact ⟨J3, zFrC_m (zFrm_t F1 (zFrm_t F2 g1)), g2, g3, en _ (fun M => by rw [st2, g4, z_bi_v, show M + 26 = (M + 24) + 2 by omega, zt_Reader_readStandClause_57_8, if_pos (by decide)])⟩
          | inr y0 =>
            obtain ⟨t3, s⟩ := y0
            rw [hx] at hE0
            have hE1 : zpStd (zlx F N) nst tk = if t3.1 = 113 then match zpExpr (zlx F N) 6 (zlx F N t3.2.2.1) with
                  | .inl e => .inl e
                  | .inr (t4, s2) => .inr (t4, (tk.2.2.2.1, s, s2))
                else .inr (t3, (tk.2.2.2.1, s, [])) := hE0
            obtain ⟨J3, g1, g2, g3, g4, g5, g6⟩ := e2 t3 s hx
            obtain ⟨A1, A2, A3⟩ := zAdv_expr (zlx_ok F N) 6 _ n3 _ _ hx
            have hls : (S ++ s).length = S.length + s.length := List.length_append
            have F3 : zFrm 8 I J3 := zFrm_t F1 (zFrm_t F2 g1)
            have j10 : J3 7 10 = I 7 10 := by rw [g2, b2 10 (by omega), a2 10 (by omega)]
            have j11 : J3 7 11 = I 7 11 := by rw [g3, b2 11 (by omega), a2 11 (by omega)]
            -- the end: ';'
            have tl : ∀ (K : Nat → Nat → Int32) (tt : zTk) (s2 : List Int) (x3 : Int32), zCB F N tt K → zCS 8 (S ++ s ++ s2) K → (S ++ s ++ s2).length ≤ tt.2.1 → zFrm 8 I K → K 7 10 = I 7 10 → K 7 11 = I 7 11 → x3.toInt = ((S.length + s.length : Nat) : Int) → (∀ M, ∃ M', z_loop X z_cf z_ff (z_pu (z_run X z_cf z_ff (d + 76 + 4))) 65 (M + 30) 0 [(0, .ref 7)] [] (118, z_sd m, ce, sl, I, L, z_rr t 8 r q (z_gg m) (z_sf m)) = z_bi (z_x [] 106) (z_pu (z_run X z_cf z_ff (d + 76 + 4)) 67 [.ref 7, .int (Int32.ofInt 59)] (118, z_sd m, ce, sl, (z_up (z_up (z_up (z_up (z_up K 11 (K 8 7).toNatClampNeg (I 7 8)) 12 (K 8 7).toNatClampNeg (J1 8 1)) 13 (K 8 7).toNatClampNeg x3) 14 (K 8 7).toNatClampNeg (K 8 1)) 8 7 (K 8 7 + Int32.ofInt 1)), L, z_rr t 8 r q (z_gg m) (z_sf m))) (fun v w => z_loop X z_cf z_ff (z_pu (z_run X z_cf z_ff (d + 76 + 4))) 65 (M' + 1) 109 [] [.int v] w)) → zpStd (zlx F N) nst tk = .inr (tt, (tk.2.2.2.1, s, s2)) →
                (∀ e, zpStd (zlx F N) nst tk = .inl e → ∃ J : Nat → Nat → Int32, zFrC 8 I J ∧ (J 7 10).toInt = e.1 ∧ (J 7 11).toInt = e.2 ∧ z_pu (z_run X z_cf z_ff (d + 81)) 65 [.ref 7] (118, z_sd m, ce, sl, I, L, z_rr t 8 r q (z_gg m) (z_sf m)) = some (.inl (some (.int (Int32.ofInt 0))), (118, z_sd m, ce, sl, J, L, z_rr t 8 r q (z_gg m) (z_sf m)))) ∧
                (∀ tt cc, zpStd (zlx F N) nst tk = .inr (tt, cc) → tt.1 ≠ 59 → ∃ J : Nat → Nat → Int32, zFrC 8 I J ∧ (J 7 10).toInt = 1 ∧ (J 7 11).toInt = tt.2.1 ∧ z_pu (z_run X z_cf z_ff (d + 81)) 65 [.ref 7] (118, z_sd m, ce, sl, I, L, z_rr t 8 r q (z_gg m) (z_sf m)) = some (.inl (some (.int (Int32.ofInt 0))), (118, z_sd m, ce, sl, J, L, z_rr t 8 r q (z_gg m) (z_sf m)))) ∧
                (∀ tt cc, zpStd (zlx F N) nst tk = .inr (tt, cc) → tt.1 = 59 → ∃ (J : Nat → Nat → Int32) (S' : List Int), zFrC 8 I J ∧ J 7 10 = I 7 10 ∧ J 7 11 = I 7 11 ∧ zKA 8 F N (zlx F N tt.2.2.1) S' (P ++ [cc]) qq J ∧ z_pu (z_run X z_cf z_ff (d + 81)) 65 [.ref 7] (118, z_sd m, ce, sl, I, L, z_rr t 8 r q (z_gg m) (z_sf m)) = some (.inl (some (.int (Int32.ofInt 1))), (118, z_sd m, ce, sl, J, L, z_rr t 8 r q (z_gg m) (z_sf m)))) := by
              intro K tt s2 x3 w1 w2 w3 w4 w5 w6 w7 w8 w9
              obtain ⟨v1, v2, v3, v4, v5⟩ := zK_add_8 (tk := tt) (s := s) (s2 := s2) hA hP hN4 w1 w2 w3 w4 (I 7 8) (J1 8 1) x3 q1 x2e w7
              rw [w9]
              refine ⟨fun e he => absurd he (by simp), fun tt' cc he hne => ?_, fun tt' cc he heq => ?_⟩
              · injection he with he
                injection he with u1 u2
                subst u1
                have t4 := zC_take0 X (d + 73) m ce sl (z_up (z_up (z_up (z_up (z_up K 11 (K 8 7).toNatClampNeg (I 7 8)) 12 (K 8 7).toNatClampNeg (J1 8 1)) 13 (K 8 7).toNatClampNeg x3) 14 (K 8 7).toNatClampNeg (K 8 1)) 8 7 (K 8 7 + Int32.ofInt 1)) L t 8 r q v1.1 (Int32.ofInt 59) hne
                refine ⟨_, zFrC_t v2 (zFrC_m (zFrm_f (by omega) (z_up (z_up (z_up (z_up (z_up K 11 (K 8 7).toNatClampNeg (I 7 8)) 12 (K 8 7).toNatClampNeg (J1 8 1)) 13 (K 8 7).toNatClampNeg x3) 14 (K 8 7).toNatClampNeg (K 8 1)) 8 7 (K 8 7 + Int32.ofInt 1)) (Int32.ofInt 1) ((z_up (z_up (z_up (z_up (z_up K 11 (K 8 7).toNatClampNeg (I 7 8)) 12 (K 8 7).toNatClampNeg (J1 8 1)) 13 (K 8 7).toNatClampNeg x3) 14 (K 8 7).toNatClampNeg (K 8 1)) 8 7 (K 8 7 + Int32.ofInt 1)) 7 6))), ?_, ?_, en _ (fun M => ?_)⟩
                · rw [z_up_j _ _ _ _ _ (by omega), z_up_s]
                  rfl
                · rw [z_up_s]
                  exact v1.1.1.2.1
                · obtain ⟨M', hM⟩ := w8 M
                  rw [hM, t4, z_bi_v, zb_Reader_readStandClause_109, z_b1_0, z_gd_t]
              · injection he with he
                injection he with u1 u2
                subst u1
                subst u2
                obtain ⟨J5, l1, l2, l3, l4⟩ := zC_take1 X (d + 73) m ce sl (z_up (z_up (z_up (z_up (z_up K 11 (K 8 7).toNatClampNeg (I 7 8)) 12 (K 8 7).toNatClampNeg (J1 8 1)) 13 (K 8 7).toNatClampNeg x3) 14 (K 8 7).toNatClampNeg (K 8 1)) 8 7 (K 8 7 + Int32.ofInt 1)) L t 8 r q hN4 v1.1 (Int32.ofInt 59) heq (by omega)
                obtain ⟨n7, n8⟩ := zTO_nx (zlx_ok F N) w1.2.1 (by omega)
                refine ⟨J5, S ++ s ++ s2, zFrC_t v2 (zFrC_7 l1 (fun j hj => l2 j (by omega))), by rw [l2 10 (by omega), v3, w5], by rw [l2 11 (by omega), v3, w6], zKA_7 (by omega) v1 l1 l3 (by omega), en _ (fun M => ?_)⟩
                obtain ⟨M', hM⟩ := w8 M
                rw [hM, l4, z_bi_v, zb_Reader_readStandClause_109, z_b1_1, z_gd_t]
            by_cases c113 : t3.1 = 113
            · rw [if_pos c113] at hE1
              have i113 : J3 7 5 = Int32.ofInt 113 := y_eqi (by rw [g4.1.1, c113])
              obtain ⟨J4, l1, l2, l3, l4⟩ := zC_tok X (d + 74) m ce sl J3 L t 8 r q hN4 g4 (by omega)
              obtain ⟨n5, n6⟩ := zTO_nx (zlx_ok F N) g4.2.1 (by omega)
              generalize zlx F N t3.2.2.1 = t4 at *
              have S4 : zCS 8 (S ++ s) J4 := zCS_r (l1 8 (by omega)) (l1 9 (by omega)) g5
              have F4 : zFrm 8 J3 J4 := zFrm_7 (by omega) l1 (fun j hj => l2 j (by omega))
              obtain ⟨p1, p2⟩ := zC_expr_8 (X := X) hN4 6 (Int32.ofInt 0) (Nat.le_refl _) rfl d m ce sl J4 L t r q t4 (S ++ s) l3 S4 (by omega)
              rw [show d + (12 * 6 + 8) = d + 76 + 4 by omega] at p1 p2
              have st3 : ∀ M, z_loop X z_cf z_ff (z_pu (z_run X z_cf z_ff (d + 76 + 4))) 65 (M + 30) 0 [(0, .ref 7)] [] (118, z_sd m, ce, sl, I, L, z_rr t 8 r q (z_gg m) (z_sf m)) = z_bi (z_x [] 85) (z_pu (z_run X z_cf z_ff (d + 76 + 4)) 68 [.ref 7, .int (Int32.ofInt 0)] (118, z_sd m, ce, sl, J4, L, z_rr t 8 r q (z_gg m) (z_sf m))) (fun v w => z_loop X z_cf z_ff (z_pu (z_run X z_cf z_ff (d + 76 + 4))) 65 (M + 24) 88 [(0, .ref 7), (1, .int (I 7 8)), (2, .int (J1 8 1)), (3, .int (J3 8 1))] [.int v] w) := by
                intro M
                rw [st2, g6, z_bi_v, show M + 26 = (M + 24) + 2 by omega, zt_Reader_readStandClause_57_8, if_neg (by decide), if_pos i113, l4, z_b0_v, zb_Reader_readStandClause_83]
              cases hy : zpExpr (zlx F N) 6 t4 with
              | inl y0 =>
                rw [hy] at hE1
                have hE2 : zpStd (zlx F N) nst tk = .inl y0 := hE1
                rw [hE2]
                refine ⟨fun e he => ?_, fun tt cc he => absurd he (by simp), fun tt cc he => absurd he (by simp)⟩
                injection he with he
                subst he
                obtain ⟨J5, m1, m2, m3, m4⟩ := p1 y0 hy
                exact ⟨J5, zFrC_m (zFrm_t F3 (zFrm_t F4 m1)), m2, m3, en _ (fun M => by rw [st3, m4, z_bi_v, show M + 24 = (M + 22) + 2 by omega, zt_Reader_readStandClause_88_8, if_pos (by decide)])⟩
              | inr y0 =>
                obtain ⟨t5, s2⟩ := y0
                rw [hy] at hE1
                have hE2 : zpStd (zlx F N) nst tk = .inr (t5, (tk.2.2.2.1, s, s2)) := hE1
                obtain ⟨J5, m1, m2, m3, m4, m5, m6⟩ := p2 t5 s2 hy
                obtain ⟨B1, B2, B3⟩ := zAdv_expr (zlx_ok F N) 6 _ n5 _ _ hy
                have hls2 : (S ++ s ++ s2).length = (S ++ s).length + s2.length := List.length_append
                refine tl J5 t5 s2 (J3 8 1) m4 m5 (by omega) (zFrm_t F3 (zFrm_t F4 m1)) (by rw [m2, l2 10 (by omega), j10]) (by rw [m3, l2 11 (by omega), j11]) (by rw [g5.1, hls]) (fun M => ⟨M + 21, ?_⟩) hE2
                obtain ⟨v1, v2, v3, v4, v5⟩ := zK_add_8 (tk := t5) (s := s) (s2 := s2) hA hP hN4 m4 m5 (by omega) (zFrm_t F3 (zFrm_t F4 m1)) (I 7 8) (J1 8 1) (J3 8 1) q1 x2e (by rw [g5.1, hls])
                rw [st3, m6, z_bi_v, show M + 24 = (M + 22) + 2 by omega, zt_Reader_readStandClause_88_8, if_neg (by decide), if_neg v4, v5, z_gd_t, z_gd_t, z_gd_t, z_gd_t]
            · rw [if_neg c113] at hE1
              have n113 : ¬ J3 7 5 = Int32.ofInt 113 := y_lit (by rw [g4.1.1]; exact c113) (by omega) (by omega)
              have g5' : zCS 8 (S ++ s ++ []) J3 := by rw [List.append_nil]; exact g5
              have hl5 : (S ++ s ++ []).length ≤ t3.2.1 := by rw [List.append_nil]; omega
              refine tl J3 t3 [] (J3 8 1) g4 g5' hl5 F3 j10 j11 (by rw [g5.1, hls]) (fun M => ⟨M + 23, ?_⟩) hE1
              obtain ⟨v1, v2, v3, v4, v5⟩ := zK_add_8 (tk := t3) (s := s) (s2 := []) hA hP hN4 g4 g5' hl5 F3 (I 7 8) (J1 8 1) (J3 8 1) q1 x2e (by rw [g5.1, hls])
              rw [st2, g6, z_bi_v, show M + 26 = (M + 24) + 2 by omega, zt_Reader_readStandClause_57_8, if_neg (by decide), if_neg n113, if_neg v4, v5, z_gd_t, z_gd_t, z_gd_t, z_gd_t]
        · rw [if_neg c100] at hE0
          rw [hE0]
          refine ⟨fun e he => ?_, fun tt cc he => absurd he (by simp), fun tt cc he => absurd he (by simp)⟩
          injection he with he
          subst he
          have t4 := zC_take0 X (d + 73) m ce sl J1 L t 8 r q a3 (Int32.ofInt 100) c100
          refine ⟨z_up (z_up J1 7 10 (Int32.ofInt 1)) 7 11 (J1 7 6), zFrC_m (zFrm_t F1 (zFrm_f (by omega) J1 (Int32.ofInt 1) (J1 7 6))), ?_, ?_, en _ (fun M => ?_)⟩
          · rw [z_up_j _ _ _ _ _ (by omega), z_up_s]
            rfl
          · rw [z_up_s]
            exact a3.1.2.1
          · rw [st1, t4, z_bi_v, zb_Reader_readStandClause_49, if_pos (by decide), z_b1_0, z_gd_t]
      · refine bad 4 (by omega) (by omega) (fun M => ?_) ?_
        · rw [zt_Reader_readStandClause_0, if_pos i2, if_pos i5, if_neg (by rw [y_i_lt, q1, h72]; omega)]
        · unfold zpStd
          rw [zpNum_3 c2 c5 cn]
    · refine bad 2 (by omega) (by omega) (fun M => ?_) ?_
      · rw [zt_Reader_readStandClause_0, if_pos i2, if_neg (by rw [y_i_le, q2]; show ¬ _ ≤ (5 : Int); omega)]
      · unfold zpStd
        rw [zpNum_2 c2 c5]
  · refine bad 1 (by omega) (by omega) (fun M => ?_) ?_
    · rw [zt_Reader_readStandClause_0, if_neg (y_lit (by rw [k5]; exact c2) (by omega) (by omega))]
    · unfold zpStd
      rw [zpNum_1 c2]
/-- a clause is added -/
theorem zK_add_15 {F : Nat → Int} {N : Nat} {tk tk0 : zTk} {S s s2 : List Int} {P : List zcl} {qq : zPq} {I K : Nat → Nat → Int32} (hA : zKA 15 F N tk0 S P qq I) (hP : P.length < 12) (hN4 : N ≤ 400) (h1 : zCB F N tk K) (h2 : zCS 15 (S ++ s ++ s2) K) (h3 : (S ++ s ++ s2).length ≤ tk.2.1) (h4 : zFrm 15 I K) {v : Int} (x1 x2 x3 : Int32) (e1 : x1.toInt = v) (e2 : x2.toInt = S.length) (e3 : x3.toInt = ((S.length + s.length : Nat) : Int)) : zKA 15 F N tk (S ++ s ++ s2) (P ++ [(v, s, s2)]) qq (z_up (z_up (z_up (z_up (z_up K 18 (K 15 7).toNatClampNeg x1) 19 (K 15 7).toNatClampNeg x2) 20 (K 15 7).toNatClampNeg x3) 21 (K 15 7).toNatClampNeg (K 15 1)) 15 7 (K 15 7 + Int32.ofInt 1)) ∧ zFrC 15 I (z_up (z_up (z_up (z_up (z_up K 18 (K 15 7).toNatClampNeg x1) 19 (K 15 7).toNatClampNeg x2) 20 (K 15 7).toNatClampNeg x3) 21 (K 15 7).toNatClampNeg (K 15 1)) 15 7 (K 15 7 + Int32.ofInt 1)) ∧ (z_up (z_up (z_up (z_up (z_up K 18 (K 15 7).toNatClampNeg x1) 19 (K 15 7).toNatClampNeg x2) 20 (K 15 7).toNatClampNeg x3) 21 (K 15 7).toNatClampNeg (K 15 1)) 15 7 (K 15 7 + Int32.ofInt 1)) 7 = K 7 ∧ ¬ Int32.ofInt 12 ≤ K 15 7 ∧ z_in (K 15 7) 12 = true := by
  obtain ⟨a1, a2, a3, a4, a5, a6, a7, a8, a9⟩ := hA
  have k7 : (K 15 7).toInt = P.length := by rw [h4.2.2 7 (by omega)]; exact a5
  have n7 : (K 15 7).toNatClampNeg = P.length := by rw [y_tn, k7]; rfl
  have hl1 : (S ++ s ++ s2).length = S.length + s.length + s2.length := by rw [List.length_append, List.length_append]
  have hN := h1.2.1.1
  have f0 : ∀ x, x ≠ 15 → (x < 18 ∨ 21 < x) → (z_up (z_up (z_up (z_up (z_up K 18 (K 15 7).toNatClampNeg x1) 19 (K 15 7).toNatClampNeg x2) 20 (K 15 7).toNatClampNeg x3) 21 (K 15 7).toNatClampNeg (K 15 1)) 15 7 (K 15 7 + Int32.ofInt 1)) x = K x := fun x q1 q2 => by rw [z_up_r _ _ _ _ _ q1, z_up_r _ _ _ _ _ (by omega), z_up_r _ _ _ _ _ (by omega), z_up_r _ _ _ _ _ (by omega), z_up_r _ _ _ _ _ (by omega)]
  have fD : ∀ j, j ≠ 7 → (z_up (z_up (z_up (z_up (z_up K 18 (K 15 7).toNatClampNeg x1) 19 (K 15 7).toNatClampNeg x2) 20 (K 15 7).toNatClampNeg x3) 21 (K 15 7).toNatClampNeg (K 15 1)) 15 7 (K 15 7 + Int32.ofInt 1)) 15 j = K 15 j := fun j q1 => by rw [z_up_j _ _ _ _ _ q1, z_up_r _ _ _ _ _ (by omega), z_up_r _ _ _ _ _ (by omega), z_up_r _ _ _ _ _ (by omega), z_up_r _ _ _ _ _ (by omega)]
  have f3 : (z_up (z_up (z_up (z_up (z_up K 18 (K 15 7).toNatClampNeg x1) 19 (K 15 7).toNatClampNeg x2) 20 (K 15 7).toNatClampNeg x3) 21 (K 15 7).toNatClampNeg (K 15 1)) 15 7 (K 15 7 + Int32.ofInt 1)) 18 = z_up K 18 P.length x1 18 := by rw [z_up_r _ _ _ _ _ (by omega), z_up_r _ _ _ _ _ (by omega), z_up_r _ _ _ _ _ (by omega), z_up_r _ _ _ _ _ (by omega), n7]
  have f4 : (z_up (z_up (z_up (z_up (z_up K 18 (K 15 7).toNatClampNeg x1) 19 (K 15 7).toNatClampNeg x2) 20 (K 15 7).toNatClampNeg x3) 21 (K 15 7).toNatClampNeg (K 15 1)) 15 7 (K 15 7 + Int32.ofInt 1)) 19 = z_up K 19 P.length x2 19 := by
    rw [z_up_r _ _ _ _ _ (by omega), z_up_r _ _ _ _ _ (by omega), z_up_r _ _ _ _ _ (by omega), n7]
  have f5 : (z_up (z_up (z_up (z_up (z_up K 18 (K 15 7).toNatClampNeg x1) 19 (K 15 7).toNatClampNeg x2) 20 (K 15 7).toNatClampNeg x3) 21 (K 15 7).toNatClampNeg (K 15 1)) 15 7 (K 15 7 + Int32.ofInt 1)) 20 = z_up K 20 P.length x3 20 := by
    rw [z_up_r _ _ _ _ _ (by omega), z_up_r _ _ _ _ _ (by omega), n7]
  have f6 : (z_up (z_up (z_up (z_up (z_up K 18 (K 15 7).toNatClampNeg x1) 19 (K 15 7).toNatClampNeg x2) 20 (K 15 7).toNatClampNeg x3) 21 (K 15 7).toNatClampNeg (K 15 1)) 15 7 (K 15 7 + Int32.ofInt 1)) 21 = z_up K 21 P.length (K 15 1) 21 := by
    rw [z_up_r _ _ _ _ _ (by omega), n7]
  have f77 : ((z_up (z_up (z_up (z_up (z_up K 18 (K 15 7).toNatClampNeg x1) 19 (K 15 7).toNatClampNeg x2) 20 (K 15 7).toNatClampNeg x3) 21 (K 15 7).toNatClampNeg (K 15 1)) 15 7 (K 15 7 + Int32.ofInt 1)) 15 7).toInt = ((P.length + 1 : Nat) : Int) := by
    rw [z_up_s, y_adl (by omega) (by omega) (by omega) (by omega), k7]
    omega
  have fE : (z_up (z_up (z_up (z_up (z_up K 18 (K 15 7).toNatClampNeg x1) 19 (K 15 7).toNatClampNeg x2) 20 (K 15 7).toNatClampNeg x3) 21 (K 15 7).toNatClampNeg (K 15 1)) 15 7 (K 15 7 + Int32.ofInt 1)) 16 = K 16 := f0 16 (by omega) (by omega)
  have f07 : (z_up (z_up (z_up (z_up (z_up K 18 (K 15 7).toNatClampNeg x1) 19 (K 15 7).toNatClampNeg x2) 20 (K 15 7).toNatClampNeg x3) 21 (K 15 7).toNatClampNeg (K 15 1)) 15 7 (K 15 7 + Int32.ofInt 1)) 7 = K 7 := f0 7 (by omega) (by omega)
  have f06 : (z_up (z_up (z_up (z_up (z_up K 18 (K 15 7).toNatClampNeg x1) 19 (K 15 7).toNatClampNeg x2) 20 (K 15 7).toNatClampNeg x3) 21 (K 15 7).toNatClampNeg (K 15 1)) 15 7 (K 15 7 + Int32.ofInt 1)) 6 = K 6 := f0 6 (by omega) (by omega)
  have fr : zFrC 15 I (z_up (z_up (z_up (z_up (z_up K 18 (K 15 7).toNatClampNeg x1) 19 (K 15 7).toNatClampNeg x2) 20 (K 15 7).toNatClampNeg x3) 21 (K 15 7).toNatClampNeg (K 15 1)) 15 7 (K 15 7 + Int32.ofInt 1)) := ⟨fun x q1 q2 q3 q4 => by rw [f0 x q2 (by omega), h4.1 x q1 q2 q3], fun j hj => by rw [f07]; exact h4.2.1 j hj⟩
  generalize (z_up (z_up (z_up (z_up (z_up K 18 (K 15 7).toNatClampNeg x1) 19 (K 15 7).toNatClampNeg x2) 20 (K 15 7).toNatClampNeg x3) 21 (K 15 7).toNatClampNeg (K 15 1)) 15 7 (K 15 7 + Int32.ofInt 1)) = J at *
  have row : ∀ x, 18 ≤ x → x ≤ 21 → ∀ j, j < P.length → J x j = I x j := by
    intro x q1 q2 j hj
    have hx : K x = I x := h4.1 x (by omega) (by omega) (by omega)
    have hc : x = 18 ∨ x = 19 ∨ x = 20 ∨ x = 21 := by omega
    rcases hc with e | e | e | e <;> subst e
    · rw [f3, z_up_j _ _ _ _ _ (by omega), hx]
    · rw [f4, z_up_j _ _ _ _ _ (by omega), hx]
    · rw [f5, z_up_j _ _ _ _ _ (by omega), hx]
    · rw [f6, z_up_j _ _ _ _ _ (by omega), hx]
  have S2 : zCS 15 (S ++ s ++ s2) J := by
    refine ⟨by rw [fD 1 (by omega)]; exact h2.1, fun j hj => ?_⟩
    have := h2.2 j hj
    rw [← fE] at this
    exact this
  have st : ∀ j, j < S.length → J 16 j = I 16 j := by
    rw [List.append_assoc] at S2
    exact zCS_i a2 S2
  have c1 : zPC 15 (S ++ s ++ s2).length J (0 + P.length) [(v, s, s2)] := by
    rw [Nat.zero_add]
    refine ⟨⟨by rw [show 15 + 3 = 18 from rfl, f3, z_up_s]; exact e1, S.length, by rw [show 15 + 4 = 19 from rfl, f4, z_up_s]; exact e2, by rw [show 15 + 5 = 20 from rfl, f5, z_up_s, e3]; show _ = (S.length : Int) + (s.length : Int); omega, by rw [show 15 + 6 = 21 from rfl, f6, z_up_s, h2.1, hl1]; show _ = (S.length : Int) + (s.length : Int) + (s2.length : Int); omega, by rw [hl1]; exact Nat.le_refl _, ?_, ?_⟩, trivial⟩
    · exact zrow_S S2 s S.length (zget_m S s s2) (by rw [hl1]; omega)
    · have hz := zget_m (S ++ s) s2 []
      rw [List.append_nil, List.length_append] at hz
      exact zrow_S S2 s2 (S.length + s.length) hz (by rw [hl1]; exact Nat.le_refl _)
  refine ⟨⟨zCB_r f07 f06 h1, S2, h3, zPC_a _ _ _ (zPC_u (by rw [hl1]; omega) st P 0 (fun x q1 q2 j hj => row x q1 q2 j (by omega)) a4) c1, by rw [f77, List.length_append]; rfl, by rw [fD 8 (by omega), h4.2.2 8 (by omega)]; exact a6, by rw [fD 9 (by omega), h4.2.2 9 (by omega)]; exact a7, by rw [fD 10 (by omega), h4.2.2 10 (by omega)]; exact a8, by rw [fD 11 (by omega), h4.2.2 11 (by omega)]; exact a9⟩, fr, f07, ?_, y_in_t (by omega) (by omega)⟩
  rw [y_i_le, k7]
  show ¬ (12 : Int) ≤ _
  omega
theorem zC_std_15 (X : ZX) (d m ce sl : Nat) (I : Nat → Nat → Int32) (L : Nat → Nat → Int64) (t r q : Nat) {F : Nat → Int} {N : Nat} (hN4 : N ≤ 400) {nst : Nat} (h72 : (I 7 2).toInt = nst) {tk : zTk} {S : List Int} {P : List zcl} {qq : zPq} (hA : zKA 15 F N tk S P qq I) (hP : P.length < 12) :
    (∀ e, zpStd (zlx F N) nst tk = .inl e → ∃ J : Nat → Nat → Int32, zFrC 15 I J ∧ (J 7 10).toInt = e.1 ∧ (J 7 11).toInt = e.2 ∧ z_pu (z_run X z_cf z_ff (d + 81)) 65 [.ref 7] (118, z_sd m, ce, sl, I, L, z_rr t 15 r q (z_gg m) (z_sf m)) = some (.inl (some (.int (Int32.ofInt 0))), (118, z_sd m, ce, sl, J, L, z_rr t 15 r q (z_gg m) (z_sf m)))) ∧
    (∀ tt cc, zpStd (zlx F N) nst tk = .inr (tt, cc) → tt.1 ≠ 59 → ∃ J : Nat → Nat → Int32, zFrC 15 I J ∧ (J 7 10).toInt = 1 ∧ (J 7 11).toInt = tt.2.1 ∧ z_pu (z_run X z_cf z_ff (d + 81)) 65 [.ref 7] (118, z_sd m, ce, sl, I, L, z_rr t 15 r q (z_gg m) (z_sf m)) = some (.inl (some (.int (Int32.ofInt 0))), (118, z_sd m, ce, sl, J, L, z_rr t 15 r q (z_gg m) (z_sf m)))) ∧
    (∀ tt cc, zpStd (zlx F N) nst tk = .inr (tt, cc) → tt.1 = 59 → ∃ (J : Nat → Nat → Int32) (S' : List Int), zFrC 15 I J ∧ J 7 10 = I 7 10 ∧ J 7 11 = I 7 11 ∧ zKA 15 F N (zlx F N tt.2.2.1) S' (P ++ [cc]) qq J ∧ z_pu (z_run X z_cf z_ff (d + 81)) 65 [.ref 7] (118, z_sd m, ce, sl, I, L, z_rr t 15 r q (z_gg m) (z_sf m)) = some (.inl (some (.int (Int32.ofInt 1))), (118, z_sd m, ce, sl, J, L, z_rr t 15 r q (z_gg m) (z_sf m)))) := by
  have en : ∀ rr : ZR, (∀ M, z_loop X z_cf z_ff (z_pu (z_run X z_cf z_ff (d + 76 + 4))) 65 (M + 30) 0 [(0, .ref 7)] [] (118, z_sd m, ce, sl, I, L, z_rr t 15 r q (z_gg m) (z_sf m)) = rr) → z_pu (z_run X z_cf z_ff (d + 81)) 65 [.ref 7] (118, z_sd m, ce, sl, I, L, z_rr t 15 r q (z_gg m) (z_sf m)) = rr := fun rr h => z_en X (d + 78) _ _ [(0, .ref 7)] _ _ rfl rfl rfl (h 99999970)
  have hB := hA.1
  have k5 : (I 7 5).toInt = tk.1 := hB.1.1
  have k6 : (I 7 6).toInt = tk.2.1 := hB.1.2.1
  have hS := hA.2.1
  have hSl := hA.2.2.1
  have bad : ∀ (v : Int), -2147483648 ≤ v → v ≤ 2147483647 → (∀ M, z_loop X z_cf z_ff (z_pu (z_run X z_cf z_ff (d + 76 + 4))) 65 (M + 30) 0 [(0, .ref 7)] [] (118, z_sd m, ce, sl, I, L, z_rr t 15 r q (z_gg m) (z_sf m)) = some (.inl (some (.int (Int32.ofInt 0))), (118, z_sd m, ce, sl, (z_up (z_up I 7 10 (Int32.ofInt v)) 7 11 (I 7 6)), L, z_rr t 15 r q (z_gg m) (z_sf m)))) → zpStd (zlx F N) nst tk = .inl (v, tk.2.1) → (∀ e, zpStd (zlx F N) nst tk = .inl e → ∃ J : Nat → Nat → Int32, zFrC 15 I J ∧ (J 7 10).toInt = e.1 ∧ (J 7 11).toInt = e.2 ∧ z_pu (z_run X z_cf z_ff (d + 81)) 65 [.ref 7] (118, z_sd m, ce, sl, I, L, z_rr t 15 r q (z_gg m) (z_sf m)) = some (.inl (some (.int (Int32.ofInt 0))), (118, z_sd m, ce, sl, J, L, z_rr t 15 r q (z_gg m) (z_sf m)))) ∧
      (∀ tt cc, zpStd (zlx F N) nst tk = .inr (tt, cc) → tt.1 ≠ 59 → ∃ J : Nat → Nat → Int32, zFrC 15 I J ∧ (J 7 10).toInt = 1 ∧ (J 7 11).toInt = tt.2.1 ∧ z_pu (z_run X z_cf z_ff (d + 81)) 65 [.ref 7] (118, z_sd m, ce, sl, I, L, z_rr t 15 r q (z_gg m) (z_sf m)) = some (.inl (some (.int (Int32.ofInt 0))), (118, z_sd m, ce, sl, J, L, z_rr t 15 r q (z_gg m) (z_sf m)))) ∧
      (∀ tt cc, zpStd (zlx F N) nst tk = .inr (tt, cc) → tt.1 = 59 → ∃ (J : Nat → Nat → Int32) (S' : List Int), zFrC 15 I J ∧ J 7 10 = I 7 10 ∧ J 7 11 = I 7 11 ∧ zKA 15 F N (zlx F N tt.2.2.1) S' (P ++ [cc]) qq J ∧ z_pu (z_run X z_cf z_ff (d + 81)) 65 [.ref 7] (118, z_sd m, ce, sl, I, L, z_rr t 15 r q (z_gg m) (z_sf m)) = some (.inl (some (.int (Int32.ofInt 1))), (118, z_sd m, ce, sl, J, L, z_rr t 15 r q (z_gg m) (z_sf m)))) := by
    intro v v1 v2 h hp
    rw [hp]
    refine ⟨fun e he => ?_, fun tt cc he => absurd he (by simp), fun tt cc he => absurd he (by simp)⟩
    injection he with he
    subst he
    exact ⟨z_up (z_up I 7 10 (Int32.ofInt v)) 7 11 (I 7 6), zFrC_m (zFrm_f (by omega) I _ _), by rw [z_up_j _ _ _ _ _ (by omega), z_up_s]; exact y_oi v1 v2, by rw [z_up_s]; exact k6, en _ h⟩
  by_cases c2 : tk.1 = 2
  · have i2 : I 7 5 = Int32.ofInt 2 := y_eqi (by rw [k5, c2])
    obtain ⟨q1, q2⟩ := hB.1.2.2.2 c2
    by_cases c5 : tk.2.2.2.2 ≤ 5
    · have i5 : I 7 9 ≤ Int32.ofInt 5 := by rw [y_i_le, q2]; show _ ≤ (5 : Int); omega
      by_cases cn : tk.2.2.2.1 ≤ (nst : Int) - 1
      · have lt : I 7 8 < I 7 2 := by rw [y_i_lt, q1, h72]; omega
        have hnum : zpNum (zlx F N) ((nst : Int) - 1) 4 tk = .inr (zlx F N tk.2.2.1, tk.2.2.2.1) := zpNum_4 c2 c5 cn
        have hE0 : zpStd (zlx F N) nst tk = if (zlx F N tk.2.2.1).1 = 100 then match zpExpr (zlx F N) 6 (zlx F N (zlx F N tk.2.2.1).2.2.1) with
              | .inl e => .inl e
              | .inr (t2, s) => if t2.1 = 113 then match zpExpr (zlx F N) 6 (zlx F N t2.2.2.1) with
                  | .inl e => .inl e
                  | .inr (t3, s2) => .inr (t3, (tk.2.2.2.1, s, s2))
                else .inr (t2, (tk.2.2.2.1, s, []))
            else .inl (1, (zlx F N tk.2.2.1).2.1) := by
          unfold zpStd
          rw [hnum]
          rfl
        obtain ⟨J1, a1, a2, a3, a4⟩ := zC_tok X (d + 74) m ce sl I L t 15 r q hN4 hB (by omega)
        obtain ⟨n1, n2⟩ := zTO_nx (zlx_ok F N) hB.2.1 (by omega)
        generalize zlx F N tk.2.2.1 = t1 at *
        have S1 : zCS 15 S J1 := zCS_r (a1 15 (by omega)) (a1 16 (by omega)) hS
        have F1 : zFrm 15 I J1 := zFrm_7 (by omega) a1 (fun j hj => a2 j (by omega))
        have x2e : (J1 15 1).toInt = S.length := S1.1
        have st1 : ∀ M, z_loop X z_cf z_ff (z_pu (z_run X z_cf z_ff (d + 76 + 4))) 65 (M + 30) 0 [(0, .ref 7)] [] (118, z_sd m, ce, sl, I, L, z_rr t 15 r q (z_gg m) (z_sf m)) = z_bi (z_x [] 46) (z_pu (z_run X z_cf z_ff (d + 76 + 4)) 67 [.ref 7, .int (Int32.ofInt 100)] (118, z_sd m, ce, sl, J1, L, z_rr t 15 r q (z_gg m) (z_sf m))) (fun v w => z_loop X z_cf z_ff (z_pu (z_run X z_cf z_ff (d + 76 + 4))) 65 (M + 27) 49 [(0, .ref 7), (1, .int (I 7 8)), (2, .int (J1 15 1))] [.int v] w) := by
          intro M
          rw [zt_Reader_readStandClause_0, if_pos i2, if_pos i5, if_pos lt, a4, z_b0_v, zb_Reader_readStandClause_35_15]
        by_cases c100 : t1.1 = 100
        · rw [if_pos c100] at hE0
          obtain ⟨J2, b1, b2, b3, b4⟩ := zC_take1 X (d + 73) m ce sl J1 L t 15 r q hN4 a3 (Int32.ofInt 100) c100 (by omega)
          obtain ⟨n3, n4⟩ := zTO_nx (zlx_ok F N) n1 (by omega)
          generalize zlx F N t1.2.2.1 = t2 at *
          have S2 : zCS 15 S J2 := zCS_r (b1 15 (by omega)) (b1 16 (by omega)) S1
          have F2 : zFrm 15 J1 J2 := zFrm_7 (by omega) b1 (fun j hj => b2 j (by omega))
          obtain ⟨e1, e2⟩ := zC_expr_15 (X := X) hN4 6 (Int32.ofInt 0) (Nat.le_refl _) rfl d m ce sl J2 L t r q t2 S b3 S2 (by omega)
          rw [show d + (12 * 6 + 8) = d + 76 + 4 by omega] at e1 e2
          have st2 : ∀ M, z_loop X z_cf z_ff (z_pu (z_run X z_cf z_ff (d + 76 + 4))) 65 (M + 30) 0 [(0, .ref 7)] [] (118, z_sd m, ce, sl, I, L, z_rr t 15 r q (z_gg m) (z_sf m)) = z_bi (z_x [] 54) (z_pu (z_run X z_cf z_ff (d + 76 + 4)) 68 [.ref 7, .int (Int32.ofInt 0)] (118, z_sd m, ce, sl, J2, L, z_rr t 15 r q (z_gg m) (z_sf m))) (fun v w => z_loop X z_cf z_ff (z_pu (z_run X z_cf z_ff (d + 76 + 4))) 65 (M + 26) 57 [(0, .ref 7), (1, .int (I 7 8)), (2, .int (J1 15 1))] [.int v] w) := by
            intro M
            rw [st1, b4, z_bi_v, zb_Reader_readStandClause_49, if_neg (by decide)]
          cases hx : zpExpr (zlx F N) 6 t2 with
          | inl y0 =>
            rw [hx] at hE0
            have hE1 : zpStd (zlx F N) nst tk = .inl y0 := hE0
            rw [hE1]
            refine ⟨fun e he => ?_, fun tt cc he => absurd he (by simp), fun tt cc he => absurd he (by simp)⟩
            injection he with he
            subst he
            obtain ⟨J3, g1, g2, g3, g4⟩ := e1 y0 hx
            exact ⟨J3, zFrC_m (zFrm_t F1 (zFrm_t F2 g1)), g2, g3, en _ (fun M => by rw [st2, g4, z_bi_v, show M + 26 = (M + 24) + 2 by omega, zt_Reader_readStandClause_57_15, if_pos (by decide)])⟩
          | inr y0 =>
            obtain ⟨t3, s⟩ := y0
            rw [hx] at hE0
            have hE1 : zpStd (zlx F N) nst tk = if t3.1 = 113 then match zpExpr (zlx F N) 6 (zlx F N t3.2.2.1) with
                  | .inl e => .inl e
                  | .inr (t4, s2) => .inr (t4, (tk.2.2.2.1, s, s2))
                else .inr (t3, (tk.2.2.2.1, s, [])) := hE0
            obtain ⟨J3, g1, g2, g3, g4, g5, g6⟩ := e2 t3 s hx
            obtain ⟨A1, A2, A3⟩ := zAdv_expr (zlx_ok F N) 6 _ n3 _ _ hx
            have hls : (S ++ s).length = S.length + s.length := List.length_append
            have F3 : zFrm 15 I J3 := zFrm_t F1 (zFrm_t F2 g1)
            have j10 : J3 7 10 = I 7 10 := by rw [g2, b2 10 (by omega), a2 10 (by omega)]
            have j11 : J3 7 11 = I 7 11 := by rw [g3, b2 11 (by omega), a2 11 (by omega)]
            -- the end: ';'
            have tl : ∀ (K : Nat → Nat → Int32) (tt : zTk) (s2 : List Int) (x3 : Int32), zCB F N tt K → zCS 15 (S ++ s ++ s2) K → (S ++ s ++ s2).length ≤ tt.2.1 → zFrm 15 I K → K 7 10 = I 7 10 → K 7 11 = I 7 11 → x3.toInt = ((S.length + s.length : Nat) : Int) → (∀ M, ∃ M', z_loop X z_cf z_ff (z_pu (z_run X z_cf z_ff (d + 76 + 4))) 65 (M + 30) 0 [(0, .ref 7)] [] (118, z_sd m, ce, sl, I, L, z_rr t 15 r q (z_gg m) (z_sf m)) = z_bi (z_x [] 106) (z_pu (z_run X z_cf z_ff (d + 76 + 4)) 67 [.ref 7, .int (Int32.ofInt 59)] (118, z_sd m, ce, sl, (z_up (z_up (z_up (z_up (z_up K 18 (K 15 7).toNatClampNeg (I 7 8)) 19 (K 15 7).toNatClampNeg (J1 15 1)) 20 (K 15 7).toNatClampNeg x3) 21 (K 15 7).toNatClampNeg (K 15 1)) 15 7 (K 15 7 + Int32.ofInt 1)), L, z_rr t 15 r q (z_gg m) (z_sf m))) (fun v w => z_loop X z_cf z_ff (z_pu (z_run X z_cf z_ff (d + 76 + 4))) 65 (M' + 1) 109 [] [.int v] w)) → zpStd (zlx F N) nst tk = .inr (tt, (tk.2.2.2.1, s, s2)) →
                (∀ e, zpStd (zlx F N) nst tk = .inl e → ∃ J : Nat → Nat → Int32, zFrC 15 I J ∧ (J 7 10).toInt = e.1 ∧ (J 7 11).toInt = e.2 ∧ z_pu (z_run X z_cf z_ff (d + 81)) 65 [.ref 7] (118, z_sd m, ce, sl, I, L, z_rr t 15 r q (z_gg m) (z_sf m)) = some (.inl (some (.int (Int32.ofInt 0))), (118, z_sd m, ce, sl, J, L, z_rr t 15 r q (z_gg m) (z_sf m)))) ∧
                (∀ tt cc, zpStd (zlx F N) nst tk = .inr (tt, cc) → tt.1 ≠ 59 → ∃ J : Nat → Nat → Int32, zFrC 15 I J ∧ (J 7 10).toInt = 1 ∧ (J 7 11).toInt = tt.2.1 ∧ z_pu (z_run X z_cf z_ff (d + 81)) 65 [.ref 7] (118, z_sd m, ce, sl, I, L, z_rr t 15 r q (z_gg m) (z_sf m)) = some (.inl (some (.int (Int32.ofInt 0))), (118, z_sd m, ce, sl, J, L, z_rr t 15 r q (z_gg m) (z_sf m)))) ∧
                (∀ tt cc, zpStd (zlx F N) nst tk = .inr (tt, cc) → tt.1 = 59 → ∃ (J : Nat → Nat → Int32) (S' : List Int), zFrC 15 I J ∧ J 7 10 = I 7 10 ∧ J 7 11 = I 7 11 ∧ zKA 15 F N (zlx F N tt.2.2.1) S' (P ++ [cc]) qq J ∧ z_pu (z_run X z_cf z_ff (d + 81)) 65 [.ref 7] (118, z_sd m, ce, sl, I, L, z_rr t 15 r q (z_gg m) (z_sf m)) = some (.inl (some (.int (Int32.ofInt 1))), (118, z_sd m, ce, sl, J, L, z_rr t 15 r q (z_gg m) (z_sf m)))) := by
              intro K tt s2 x3 w1 w2 w3 w4 w5 w6 w7 w8 w9
              obtain ⟨v1, v2, v3, v4, v5⟩ := zK_add_15 (tk := tt) (s := s) (s2 := s2) hA hP hN4 w1 w2 w3 w4 (I 7 8) (J1 15 1) x3 q1 x2e w7
              rw [w9]
              refine ⟨fun e he => absurd he (by simp), fun tt' cc he hne => ?_, fun tt' cc he heq => ?_⟩
              · injection he with he
                injection he with u1 u2
                subst u1
                have t4 := zC_take0 X (d + 73) m ce sl (z_up (z_up (z_up (z_up (z_up K 18 (K 15 7).toNatClampNeg (I 7 8)) 19 (K 15 7).toNatClampNeg (J1 15 1)) 20 (K 15 7).toNatClampNeg x3) 21 (K 15 7).toNatClampNeg (K 15 1)) 15 7 (K 15 7 + Int32.ofInt 1)) L t 15 r q v1.1 (Int32.ofInt 59) hne
                refine ⟨_, zFrC_t v2 (zFrC_m (zFrm_f (by omega) (z_up (z_up (z_up (z_up (z_up K 18 (K 15 7).toNatClampNeg (I 7 8)) 19 (K 15 7).toNatClampNeg (J1 15 1)) 20 (K 15 7).toNatClampNeg x3) 21 (K 15 7).toNatClampNeg (K 15 1)) 15 7 (K 15 7 + Int32.ofInt 1)) (Int32.ofInt 1) ((z_up (z_up (z_up (z_up (z_up K 18 (K 15 7).toNatClampNeg (I 7 8)) 19 (K 15 7).toNatClampNeg (J1 15 1)) 20 (K 15 7).toNatClampNeg x3) 21 (K 15 7).toNatClampNeg (K 15 1)) 15 7 (K 15 7 + Int32.ofInt 1)) 7 6))), ?_, ?_, en _ (fun M => ?_)⟩
                · rw [z_up_j _ _ _ _ _ (by omega), z_up_s]
                  rfl
                · rw [z_up_s]
                  exact v1.1.1.2.1
                · obtain ⟨M', hM⟩ := w8 M
                  rw [hM, t4, z_bi_v, zb_Reader_readStandClause_109, z_b1_0, z_gd_t]
              · injection he with he
                injection he with u1 u2
                subst u1
                subst u2
                obtain ⟨J5, l1, l2, l3, l4⟩ := zC_take1 X (d + 73) m ce sl (z_up (z_up (z_up (z_up (z_up K 18 (K 15 7).toNatClampNeg (I 7 8)) 19 (K 15 7).toNatClampNeg (J1 15 1)) 20 (K 15 7).toNatClampNeg x3) 21 (K 15 7).toNatClampNeg (K 15 1)) 15 7 (K 15 7 + Int32.ofInt 1)) L t 15 r q hN4 v1.1 (Int32.ofInt 59) heq (by omega)
                obtain ⟨n7, n8⟩ := zTO_nx (zlx_ok F N) w1.2.1 (by omega)
                refine ⟨J5, S ++ s ++ s2, zFrC_t v2 (zFrC_7 l1 (fun j hj => l2 j (by omega))), by rw [l2 10 (by omega), v3, w5], by rw [l2 11 (by omega), v3, w6], zKA_7 (by omega) v1 l1 l3 (by omega), en _ (fun M => ?_)⟩
                obtain ⟨M', hM⟩ := w8 M
                rw [hM, l4, z_bi_v, zb_Reader_readStandClause_109, z_b1_1, z_gd_t]
            by_cases c113 : t3.1 = 113
            · rw [if_pos c113] at hE1
              have i113 : J3 7 5 = Int32.ofInt 113 := y_eqi (by rw [g4.1.1, c113])
              obtain ⟨J4, l1, l2, l3, l4⟩ := zC_tok X (d + 74) m ce sl J3 L t 15 r q hN4 g4 (by omega)
              obtain ⟨n5, n6⟩ := zTO_nx (zlx_ok F N) g4.2.1 (by omega)
              generalize zlx F N t3.2.2.1 = t4 at *
              have S4 : zCS 15 (S ++ s) J4 := zCS_r (l1 15 (by omega)) (l1 16 (by omega)) g5
              have F4 : zFrm 15 J3 J4 := zFrm_7 (by omega) l1 (fun j hj => l2 j (by omega))
              obtain ⟨p1, p2⟩ := zC_expr_15 (X := X) hN4 6 (Int32.ofInt 0) (Nat.le_refl _) rfl d m ce sl J4 L t r q t4 (S ++ s) l3 S4 (by omega)
              rw [show d + (12 * 6 + 8) = d + 76 + 4 by omega] at p1 p2
              have st3 : ∀ M, z_loop X z_cf z_ff (z_pu (z_run X z_cf z_ff (d + 76 + 4))) 65 (M + 30) 0 [(0, .ref 7)] [] (118, z_sd m, ce, sl, I, L, z_rr t 15 r q (z_gg m) (z_sf m)) = z_bi (z_x [] 85) (z_pu (z_run X z_cf z_ff (d + 76 + 4)) 68 [.ref 7, .int (Int32.ofInt 0)] (118, z_sd m, ce, sl, J4, L, z_rr t 15 r q (z_gg m) (z_sf m))) (fun v w => z_loop X z_cf z_ff (z_pu (z_run X z_cf z_ff (d + 76 + 4))) 65 (M + 24) 88 [(0, .ref 7), (1, .int (I 7 8)), (2, .int (J1 15 1)), (3, .int (J3 15 1))] [.int v] w) := by
                intro M
                rw [st2, g6, z_bi_v, show M + 26 = (M + 24) + 2 by omega, zt_Reader_readStandClause_57_15, if_neg (by decide), if_pos i113, l4, z_b0_v, zb_Reader_readStandClause_83]
              cases hy : zpExpr (zlx F N) 6 t4 with
              | inl y0 =>
                rw [hy] at hE1
                have hE2 : zpStd (zlx F N) nst tk = .inl y0 := hE1
                rw [hE2]
                refine ⟨fun e he => ?_, fun tt cc he => absurd he (by simp), fun tt cc he => absurd he (by simp)⟩
                injection he with he
                subst he
                obtain ⟨J5, m1, m2, m3, m4⟩ := p1 y0 hy
                exact ⟨J5, zFrC_m (zFrm_t F3 (zFrm_t F4 m1)), m2, m3, en _ (fun M => by rw [st3, m4, z_bi_v, show M + 24 = (M + 22) + 2 by omega, zt_Reader_readStandClause_88_15, if_pos (by decide)])⟩
              | inr y0 =>
                obtain ⟨t5, s2⟩ := y0
                rw [hy] at hE1
                have hE2 : zpStd (zlx F N) nst tk = .inr (t5, (tk.2.2.2.1, s, s2)) := hE1
                obtain ⟨J5, m1, m2, m3, m4, m5, m6⟩ := p2 t5 s2 hy
                obtain ⟨B1, B2, B3⟩ := zAdv_expr (zlx_ok F N) 6 _ n5 _ _ hy
                have hls2 : (S ++ s ++ s2).length = (S ++ s).length + s2.length := List.length_append
                refine tl J5 t5 s2 (J3 15 1) m4 m5 (by omega) (zFrm_t F3 (zFrm_t F4 m1)) (by rw [m2, l2 10 (by omega), j10]) (by rw [m3, l2 11 (by omega), j11]) (by rw [g5.1, hls]) (fun M => ⟨M + 21, ?_⟩) hE2
                obtain ⟨v1, v2, v3, v4, v5⟩ := zK_add_15 (tk := t5) (s := s) (s2 := s2) hA hP hN4 m4 m5 (by omega) (zFrm_t F3 (zFrm_t F4 m1)) (I 7 8) (J1 15 1) (J3 15 1) q1 x2e (by rw [g5.1, hls])
                rw [st3, m6, z_bi_v, show M + 24 = (M + 22) + 2 by omega, zt_Reader_readStandClause_88_15, if_neg (by decide), if_neg v4, v5, z_gd_t, z_gd_t, z_gd_t, z_gd_t]
            · rw [if_neg c113] at hE1
              have n113 : ¬ J3 7 5 = Int32.ofInt 113 := y_lit (by rw [g4.1.1]; exact c113) (by omega) (by omega)
              have g5' : zCS 15 (S ++ s ++ []) J3 := by rw [List.append_nil]; exact g5
              have hl5 : (S ++ s ++ []).length ≤ t3.2.1 := by rw [List.append_nil]; omega
              refine tl J3 t3 [] (J3 15 1) g4 g5' hl5 F3 j10 j11 (by rw [g5.1, hls]) (fun M => ⟨M + 23, ?_⟩) hE1
              obtain ⟨v1, v2, v3, v4, v5⟩ := zK_add_15 (tk := t3) (s := s) (s2 := []) hA hP hN4 g4 g5' hl5 F3 (I 7 8) (J1 15 1) (J3 15 1) q1 x2e (by rw [g5.1, hls])
              rw [st2, g6, z_bi_v, show M + 26 = (M + 24) + 2 by omega, zt_Reader_readStandClause_57_15, if_neg (by decide), if_neg n113, if_neg v4, v5, z_gd_t, z_gd_t, z_gd_t, z_gd_t]
        · rw [if_neg c100] at hE0
          rw [hE0]
          refine ⟨fun e he => ?_, fun tt cc he => absurd he (by simp), fun tt cc he => absurd he (by simp)⟩
          injection he with he
          subst he
          have t4 := zC_take0 X (d + 73) m ce sl J1 L t 15 r q a3 (Int32.ofInt 100) c100
          refine ⟨z_up (z_up J1 7 10 (Int32.ofInt 1)) 7 11 (J1 7 6), zFrC_m (zFrm_t F1 (zFrm_f (by omega) J1 (Int32.ofInt 1) (J1 7 6))), ?_, ?_, en _ (fun M => ?_)⟩
          · rw [z_up_j _ _ _ _ _ (by omega), z_up_s]
            rfl
          · rw [z_up_s]
            exact a3.1.2.1
          · rw [st1, t4, z_bi_v, zb_Reader_readStandClause_49, if_pos (by decide), z_b1_0, z_gd_t]
      · refine bad 4 (by omega) (by omega) (fun M => ?_) ?_
        · rw [zt_Reader_readStandClause_0, if_pos i2, if_pos i5, if_neg (by rw [y_i_lt, q1, h72]; omega)]
        · unfold zpStd
          rw [zpNum_3 c2 c5 cn]
    · refine bad 2 (by omega) (by omega) (fun M => ?_) ?_
      · rw [zt_Reader_readStandClause_0, if_pos i2, if_neg (by rw [y_i_le, q2]; show ¬ _ ≤ (5 : Int); omega)]
      · unfold zpStd
        rw [zpNum_2 c2 c5]
  · refine bad 1 (by omega) (by omega) (fun M => ?_) ?_
    · rw [zt_Reader_readStandClause_0, if_neg (y_lit (by rw [k5]; exact c2) (by omega) (by omega))]
    · unfold zpStd
      rw [zpNum_1 c2]
