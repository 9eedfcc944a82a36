/-! RULES, 19: the class's machine: the rules as a whole -/
theorem zsetp_8 (v : Int) (q : zPq) : zsetp 115 v q = (v, q.2) := rfl
theorem zsetp_9 (v : Int) (q : zPq) : zsetp 116 v q = (q.1, v, q.2.2) := rfl
theorem zsetp_10 (v : Int) (q : zPq) : zsetp 117 v q = (q.1, q.2.1, v, q.2.2.2) := rfl
theorem zsetp_11 (v : Int) (q : zPq) : zsetp 118 v q = (q.1, q.2.1, q.2.2.1, v) := rfl
/-- a number is told -/
theorem zK_set_8 (X : ZX) (d m ce sl : Nat) (I : Nat → Nat → Int32) (L : Nat → Nat → Int64) (t r q : Nat) {F : Nat → Int} {N : Nat} {tk : zTk} {S : List Int} {P : List zcl} {qq : zPq} (hA : zKA 8 F N tk S P qq I) {k : Int} (h1 : 115 ≤ k) (h2 : k ≤ 118) (x1 x2 : Int32) (hx : x1.toInt = k) : ∃ J : Nat → Nat → Int32, zFrC 8 I J ∧ J 7 = I 7 ∧ zKA 8 F N tk S P (zsetp k x2.toInt qq) J ∧ z_pu (z_run X z_cf z_ff (d + 3)) 80 [.ref 8, .int x1, .int x2] (118, z_sd m, ce, sl, I, L, z_rr t 8 r q (z_gg m) (z_sf m)) = some (.inl none, (118, z_sd m, ce, sl, J, L, z_rr t 8 r q (z_gg m) (z_sf m))) := by
  obtain ⟨a1, a2, a3, a4, a5, a6, a7, a8, a9⟩ := hA
  have fr : ∀ j, zFrC 8 I (z_up I 8 j x2) ∧ (z_up I 8 j x2) 7 = I 7 ∧ (z_up I 8 j x2) 6 = I 6 ∧ (z_up I 8 j x2) 9 = I 9 ∧ (∀ x, 8 + 3 ≤ x → (z_up I 8 j x2) x = I x) := fun j => ⟨⟨fun x b1 b2 b3 b4 => z_up_r _ _ _ _ _ b2, fun i hi => by rw [z_up_r _ _ _ _ _ (by omega)]⟩, z_up_r _ _ _ _ _ (by omega), z_up_r _ _ _ _ _ (by omega), z_up_r _ _ _ _ _ (by omega), fun x hx => z_up_r _ _ _ _ _ (by omega)⟩
  have com : ∀ j, 8 ≤ j → zCB F N tk (z_up I 8 j x2) ∧ zCS 8 S (z_up I 8 j x2) ∧ zPC 8 S.length (z_up I 8 j x2) 0 P ∧ ((z_up I 8 j x2) 8 7).toInt = P.length := by
    intro j hj
    obtain ⟨b1, b2, b3, b4, b5⟩ := fr j
    refine ⟨zCB_r b2 b3 a1, ⟨by rw [z_up_j _ _ _ _ _ (by omega)]; exact a2.1, fun i hi => ?_⟩, zPC_u (Nat.le_refl _) (fun i hi => by rw [show 8 + 1 = 9 from rfl, b4]) P 0 (fun x q1 q2 i hi => by rw [b5 x (by omega)]) a4, by rw [z_up_j _ _ _ _ _ (by omega)]; exact a5⟩
    have := a2.2 i hi
    rw [show 8 + 1 = 9 from rfl] at this ⊢
    rw [b4]
    exact this
  have hk : k = 115 ∨ k = 116 ∨ k = 117 ∨ k = 118 := by omega
  rcases hk with e | e | e | e <;> subst e
  · obtain ⟨c1, c2, c3, c4⟩ := com 8 (by omega)
    refine ⟨z_up I 8 8 x2, (fr 8).1, (fr 8).2.1, ⟨c1, c2, a3, c3, c4, by rw [z_up_s]; rfl, by rw [z_up_j _ _ _ _ _ (by omega)]; exact a7, by rw [z_up_j _ _ _ _ _ (by omega)]; exact a8, by rw [z_up_j _ _ _ _ _ (by omega)]; exact a9⟩, ?_⟩
    rw [zk_Rules_setNumber_8_0, if_pos (y_eqi hx)]
  · obtain ⟨c1, c2, c3, c4⟩ := com 9 (by omega)
    refine ⟨z_up I 8 9 x2, (fr 9).1, (fr 9).2.1, ⟨c1, c2, a3, c3, c4, by rw [z_up_j _ _ _ _ _ (by omega)]; exact a6, by rw [z_up_s]; rfl, by rw [z_up_j _ _ _ _ _ (by omega)]; exact a8, by rw [z_up_j _ _ _ _ _ (by omega)]; exact a9⟩, ?_⟩
    rw [zk_Rules_setNumber_8_0, if_neg (y_lit (by rw [hx]; omega) (by omega) (by omega)), if_pos (y_eqi hx)]
  · obtain ⟨c1, c2, c3, c4⟩ := com 10 (by omega)
    refine ⟨z_up I 8 10 x2, (fr 10).1, (fr 10).2.1, ⟨c1, c2, a3, c3, c4, by rw [z_up_j _ _ _ _ _ (by omega)]; exact a6, by rw [z_up_j _ _ _ _ _ (by omega)]; exact a7, by rw [z_up_s]; rfl, by rw [z_up_j _ _ _ _ _ (by omega)]; exact a9⟩, ?_⟩
    rw [zk_Rules_setNumber_8_0, if_neg (y_lit (by rw [hx]; omega) (by omega) (by omega)), if_neg (y_lit (by rw [hx]; omega) (by omega) (by omega)), if_pos (y_eqi hx)]
  · obtain ⟨c1, c2, c3, c4⟩ := com 11 (by omega)
    refine ⟨z_up I 8 11 x2, (fr 11).1, (fr 11).2.1, ⟨c1, c2, a3, c3, c4, by rw [z_up_j _ _ _ _ _ (by omega)]; exact a6, by rw [z_up_j _ _ _ _ _ (by omega)]; exact a7, by rw [z_up_j _ _ _ _ _ (by omega)]; exact a8, by rw [z_up_s]; rfl⟩, ?_⟩
    rw [zk_Rules_setNumber_8_0, if_neg (y_lit (by rw [hx]; omega) (by omega) (by omega)), if_neg (y_lit (by rw [hx]; omega) (by omega) (by omega)), if_neg (y_lit (by rw [hx]; omega) (by omega) (by omega))]
theorem zC_num_8 (X : ZX) (d m ce sl : Nat) (I : Nat → Nat → Int32) (L : Nat → Nat → Int64) (t r q : Nat) {F : Nat → Int} {N : Nat} (hN4 : N ≤ 400) {tk : zTk} {S : List Int} {P : List zcl} {qq : zPq} (hA : zKA 8 F N tk S P qq I) {k : Int} (h1 : 115 ≤ k) (h2 : k ≤ 118) (x1 : Int32) (hx : x1.toInt = k) :
    (∀ e, zpNum (zlx F N) (if k = 115 then 9 else 99999) 2 tk = .inl e → ∃ J : Nat → Nat → Int32, zFrC 8 I J ∧ (J 7 10).toInt = e.1 ∧ (J 7 11).toInt = e.2 ∧ z_pu (z_run X z_cf z_ff (d + 81)) 79 [.ref 7, .int x1] (118, z_sd m, ce, sl, I, L, z_rr t 8 r q (z_gg m) (z_sf m)) = some (.inl (some (.int (Int32.ofInt 0))), (118, z_sd m, ce, sl, J, L, z_rr t 8 r q (z_gg m) (z_sf m)))) ∧
    (∀ tt v, zpNum (zlx F N) (if k = 115 then 9 else 99999) 2 tk = .inr (tt, v) → tt.1 ≠ 59 → ∃ J : Nat → Nat → Int32, zFrC 8 I J ∧ (J 7 10).toInt = 1 ∧ (J 7 11).toInt = tt.2.1 ∧ z_pu (z_run X z_cf z_ff (d + 81)) 79 [.ref 7, .int x1] (118, z_sd m, ce, sl, I, L, z_rr t 8 r q (z_gg m) (z_sf m)) = some (.inl (some (.int (Int32.ofInt 0))), (118, z_sd m, ce, sl, J, L, z_rr t 8 r q (z_gg m) (z_sf m)))) ∧
    (∀ tt v, zpNum (zlx F N) (if k = 115 then 9 else 99999) 2 tk = .inr (tt, v) → tt.1 = 59 → ∃ J : Nat → Nat → Int32, zFrC 8 I J ∧ J 7 10 = I 7 10 ∧ J 7 11 = I 7 11 ∧ zKA 8 F N (zlx F N tt.2.2.1) S P (zsetp k v qq) J ∧ z_pu (z_run X z_cf z_ff (d + 81)) 79 [.ref 7, .int x1] (118, z_sd m, ce, sl, I, L, z_rr t 8 r q (z_gg m) (z_sf m)) = some (.inl (some (.int (Int32.ofInt 1))), (118, z_sd m, ce, sl, J, L, z_rr t 8 r q (z_gg m) (z_sf m)))) := by
  have en : ∀ rr : ZR, (∀ M, z_loop X z_cf z_ff (z_pu (z_run X z_cf z_ff (d + 76 + 4))) 79 (M + 30) 0 [(0, .ref 7), (1, .int x1)] [] (118, z_sd m, ce, sl, I, L, z_rr t 8 r q (z_gg m) (z_sf m)) = rr) → z_pu (z_run X z_cf z_ff (d + 81)) 79 [.ref 7, .int x1] (118, z_sd m, ce, sl, I, L, z_rr t 8 r q (z_gg m) (z_sf m)) = rr := fun rr h => z_en X (d + 78) _ _ [(0, .ref 7), (1, .int x1)] _ _ rfl rfl rfl (h 99999970)
  have hB := hA.1
  have k5 : (I 7 5).toInt = tk.1 := hB.1.1
  have k6 : (I 7 6).toInt = tk.2.1 := hB.1.2.1
  have fJ : ∀ v : Int, -2147483648 ≤ v → v ≤ 2147483647 → zFrC 8 I (z_up (z_up I 7 10 (Int32.ofInt v)) 7 11 (I 7 6)) ∧ ((z_up (z_up I 7 10 (Int32.ofInt v)) 7 11 (I 7 6)) 7 10).toInt = v ∧ ((z_up (z_up I 7 10 (Int32.ofInt v)) 7 11 (I 7 6)) 7 11).toInt = tk.2.1 := fun v v1 v2 => ⟨zFrC_m (zFrm_f (by omega) I _ _), by rw [z_up_j _ _ _ _ _ (by omega), z_up_s]; exact y_oi v1 v2, by rw [z_up_s]; exact k6⟩
  by_cases c2 : tk.1 = 2
  · have i2 : I 7 5 = Int32.ofInt 2 := y_eqi (by rw [k5, c2])
    obtain ⟨q1, q2⟩ := hB.1.2.2.2 c2
    obtain ⟨o1, o2, o3⟩ := hB.2.1.2.2.2 c2
    by_cases c5 : tk.2.2.2.2 ≤ 5
    · have i5 : I 7 9 ≤ Int32.ofInt 5 := by rw [y_i_le, q2]; show _ ≤ (5 : Int); omega
      by_cases cm : tk.2.2.2.1 ≤ (if k = 115 then 9 else 99999)
      · have hnum : zpNum (zlx F N) (if k = 115 then 9 else 99999) 2 tk = .inr (zlx F N tk.2.2.1, tk.2.2.2.1) := zpNum_4 c2 c5 cm
        rw [hnum]
        obtain ⟨K, s1, s2, s3, s4⟩ := zK_set_8 X (d + 76 + 1) m ce sl I L t r q hA h1 h2 x1 (I 7 8) hx
        obtain ⟨J1, a1, a2, a3, a4⟩ := zC_tok X (d + 74) m ce sl K L t 8 r q hN4 s3.1 (by omega)
        obtain ⟨n1, n2⟩ := zTO_nx (zlx_ok F N) hB.2.1 (by omega)
        generalize zlx F N tk.2.2.1 = t1 at *
        have A1 : zKA 8 F N t1 S P (zsetp k (I 7 8).toInt qq) J1 := zKA_7 (by omega) s3 a1 a3 (by omega)
        have F1 : zFrC 8 I J1 := zFrC_t s1 (zFrC_7 a1 (fun j hj => a2 j (by omega)))
        have st : ∀ M, z_loop X z_cf z_ff (z_pu (z_run X z_cf z_ff (d + 76 + 4))) 79 (M + 30) 0 [(0, .ref 7), (1, .int x1)] [] (118, z_sd m, ce, sl, I, L, z_rr t 8 r q (z_gg m) (z_sf m)) = z_bi (z_x [] 49) (z_pu (z_run X z_cf z_ff (d + 76 + 4)) 67 [.ref 7, .int (Int32.ofInt 59)] (118, z_sd m, ce, sl, J1, L, z_rr t 8 r q (z_gg m) (z_sf m))) (fun v w => z_loop X z_cf z_ff (z_pu (z_run X z_cf z_ff (d + 76 + 4))) 79 (M + 26) 52 [] [.int v] w) := by
          intro M
          rw [zb_Reader_readNumberClause_0, zk_Reader_isNumber_0, if_pos i2, if_pos i5, z_bi_v, zb_Reader_readNumberClause_4_8, if_neg (by decide)]
          by_cases c115 : k = 115
          · rw [if_pos c115] at cm
            rw [if_pos (y_i_eq.mpr (by rw [hx, c115]; rfl)), if_pos (by rw [y_i_le, q1]; show _ ≤ (9 : Int); omega), s4, z_b0_v, zb_Reader_readNumberClause_42, a4, z_b0_v, zb_Reader_readNumberClause_46]
          · rw [if_neg (y_lit (by rw [hx]; exact c115) (by omega) (by omega)), s4, z_b0_v, zb_Reader_readNumberClause_42, a4, z_b0_v, zb_Reader_readNumberClause_46]
        refine ⟨fun e he => absurd he (by simp), fun tt v he hne => ?_, fun tt v he heq => ?_⟩
        · injection he with he
          injection he with u1 u2
          subst u1
          have t4 := zC_take0 X (d + 73) m ce sl J1 L t 8 r q a3 (Int32.ofInt 59) hne
          refine ⟨z_up (z_up J1 7 10 (Int32.ofInt 1)) 7 11 (J1 7 6), zFrC_t F1 (zFrC_m (zFrm_f (by omega) J1 (Int32.ofInt 1) (J1 7 6))), ?_, ?_, en _ (fun M => ?_)⟩
          · rw [z_up_j _ _ _ _ _ (by omega), z_up_s]
            rfl
          · rw [z_up_s]
            exact a3.1.2.1
          · rw [st, t4, z_bi_v, zb_Reader_readNumberClause_52, z_b1_0, z_gd_t]
        · injection he with he
          injection he with u1 u2
          subst u1
          subst u2
          obtain ⟨J5, l1, l2, l3, l4⟩ := zC_take1 X (d + 73) m ce sl J1 L t 8 r q hN4 a3 (Int32.ofInt 59) heq (by omega)
          obtain ⟨n7, n8⟩ := zTO_nx (zlx_ok F N) n1 (by omega)
          rw [q1] at A1
          refine ⟨J5, zFrC_t F1 (zFrC_7 l1 (fun j hj => l2 j (by omega))), by rw [l2 10 (by omega), a2 10 (by omega), s2], by rw [l2 11 (by omega), a2 11 (by omega), s2], zKA_7 (by omega) A1 l1 l3 (by omega), en _ (fun M => ?_)⟩
          rw [st, l4, z_bi_v, zb_Reader_readNumberClause_52, z_b1_1, z_gd_t]
      · have c115 : k = 115 := by
          by_cases e : k = 115
          · exact e
          · rw [if_neg e] at cm
            omega
        have hnum := zpNum_3 (lx := zlx F N) (kind := 2) c2 c5 cm
        rw [if_pos c115] at cm
        rw [hnum]
        refine ⟨fun e he => ?_, fun tt v he => absurd he (by simp), fun tt v he => absurd he (by simp)⟩
        injection he with he
        subst he
        obtain ⟨f1, f2, f3⟩ := fJ 2 (by omega) (by omega)
        refine ⟨_, f1, f2, f3, en _ (fun M => ?_)⟩
        rw [zb_Reader_readNumberClause_0, zk_Reader_isNumber_0, if_pos i2, if_pos i5, z_bi_v, zb_Reader_readNumberClause_4_8, if_neg (by decide), if_pos (y_i_eq.mpr (by rw [hx, c115]; rfl)), if_neg (by rw [y_i_le, q1]; show ¬ _ ≤ (9 : Int); omega), zk_Reader_refuse_0 X (d + 77), z_bi_v, zb_Reader_readNumberClause_29, z_b1_0, z_gd_t]
    · rw [zpNum_2 c2 c5]
      refine ⟨fun e he => ?_, fun tt v he => absurd he (by simp), fun tt v he => absurd he (by simp)⟩
      injection he with he
      subst he
      obtain ⟨f1, f2, f3⟩ := fJ 2 (by omega) (by omega)
      refine ⟨_, f1, f2, f3, en _ (fun M => ?_)⟩
      rw [zb_Reader_readNumberClause_0, zk_Reader_isNumber_0, if_pos i2, if_neg (by rw [y_i_le, q2]; show ¬ _ ≤ (5 : Int); omega), z_bi_v, zb_Reader_readNumberClause_4_8, if_pos (by decide), z_b1_0, z_gd_t]
  · rw [zpNum_1 c2]
    refine ⟨fun e he => ?_, fun tt v he => absurd he (by simp), fun tt v he => absurd he (by simp)⟩
    injection he with he
    subst he
    obtain ⟨f1, f2, f3⟩ := fJ 1 (by omega) (by omega)
    refine ⟨_, f1, f2, f3, en _ (fun M => ?_)⟩
    rw [zb_Reader_readNumberClause_0, zk_Reader_isNumber_0, if_neg (y_lit (by rw [k5]; exact c2) (by omega) (by omega)), z_bi_v, zb_Reader_readNumberClause_4_8, if_pos (by decide), z_b1_0, z_gd_t]
/-- one clause -/
theorem zC_cla_8 (X : ZX) (d m ce sl : Nat) (I : Nat → Nat → Int32) (L : Nat → Nat → Int64) (t r q : Nat) {F : Nat → Int} {N : Nat} (hN4 : N ≤ 400) {nst : Nat} (h72 : (I 7 2).toInt = nst) {tk : zTk} {S : List Int} {P : List zcl} {qq : zPq} (hA : zKA 8 F N tk S P qq I) {i : Nat} (hP : P.length ≤ i) (x1 : Int32) (hx : x1.toInt = i) :
    (∀ e, zpCla (zlx F N) nst i tk P qq = .inl e → ∃ J : Nat → Nat → Int32, zFrC 8 I J ∧ (J 7 10).toInt = e.1 ∧ (J 7 11).toInt = e.2 ∧ z_pu (z_run X z_cf z_ff (d + 82)) 63 [.ref 7, .int x1] (118, z_sd m, ce, sl, I, L, z_rr t 8 r q (z_gg m) (z_sf m)) = some (.inl (some (.int (Int32.ofInt 0))), (118, z_sd m, ce, sl, J, L, z_rr t 8 r q (z_gg m) (z_sf m)))) ∧
    (∀ tk' P' q', zpCla (zlx F N) nst i tk P qq = .inr (tk', P', q') → P'.length ≤ i + 1 ∧ ∃ (J : Nat → Nat → Int32) (S' : List Int), zFrC 8 I J ∧ J 7 10 = I 7 10 ∧ J 7 11 = I 7 11 ∧ zKA 8 F N tk' S' P' q' J ∧ z_pu (z_run X z_cf z_ff (d + 82)) 63 [.ref 7, .int x1] (118, z_sd m, ce, sl, I, L, z_rr t 8 r q (z_gg m) (z_sf m)) = some (.inl (some (.int (Int32.ofInt 1))), (118, z_sd m, ce, sl, J, L, z_rr t 8 r q (z_gg m) (z_sf m)))) := by
  have en : ∀ rr : ZR, (∀ M, z_loop X z_cf z_ff (z_pu (z_run X z_cf z_ff (d + 78 + 3))) 63 (M + 30) 0 [(0, .ref 7), (1, .int x1)] [] (118, z_sd m, ce, sl, I, L, z_rr t 8 r q (z_gg m) (z_sf m)) = rr) → z_pu (z_run X z_cf z_ff (d + 82)) 63 [.ref 7, .int x1] (118, z_sd m, ce, sl, I, L, z_rr t 8 r q (z_gg m) (z_sf m)) = rr := fun rr h => z_en X (d + 79) _ _ [(0, .ref 7), (1, .int x1)] _ _ rfl rfl rfl (h 99999970)
  have hB := hA.1
  have k5 : (I 7 5).toInt = tk.1 := hB.1.1
  have k6 : (I 7 6).toInt = tk.2.1 := hB.1.2.1
  have fJ : ∀ v : Int, -2147483648 ≤ v → v ≤ 2147483647 → zFrC 8 I (z_up (z_up I 7 10 (Int32.ofInt v)) 7 11 (I 7 6)) ∧ ((z_up (z_up I 7 10 (Int32.ofInt v)) 7 11 (I 7 6)) 7 10).toInt = v ∧ ((z_up (z_up I 7 10 (Int32.ofInt v)) 7 11 (I 7 6)) 7 11).toInt = tk.2.1 := fun v v1 v2 => ⟨zFrC_m (zFrm_f (by omega) I _ _), by rw [z_up_j _ _ _ _ _ (by omega), z_up_s]; exact y_oi v1 v2, by rw [z_up_s]; exact k6⟩
  have e114 : (Int32.ofInt 114).toInt = 114 := rfl
  have e118 : (Int32.ofInt 118).toInt = 118 := rfl
  by_cases c1 : 114 ≤ tk.1 ∧ tk.1 ≤ 118
  · have w1 : ¬ z_p_X_within (I 7 5) (Int32.ofInt 114) (Int32.ofInt 118) = 0 := by rw [y_wi0]; omega
    by_cases c12 : i < 12
    · have w2 : x1 < Int32.ofInt 12 := by rw [y_i_lt, hx]; show _ < (12 : Int); omega
      obtain ⟨J1, a1, a2, a3, a4⟩ := zC_tok X (d + 75) m ce sl I L t 8 r q hN4 hB (by omega)
      obtain ⟨n1, n2⟩ := zTO_nx (zlx_ok F N) hB.2.1 (by omega)
      have A1 := zKA_7 (tk' := zlx F N tk.2.2.1) (by omega) hA a1 a3 (by omega)
      have F1 : zFrC 8 I J1 := zFrC_7 a1 (fun j hj => a2 j (by omega))
      have j72 : (J1 7 2).toInt = nst := by rw [a2 2 (by omega)]; exact h72
      by_cases c114 : tk.1 = 114
      · have hC : zpCla (zlx F N) nst i tk P qq = match zpStd (zlx F N) nst (zlx F N tk.2.2.1) with
            | .inl e => .inl e
            | .inr (t, c) => if t.1 = 59 then .inr (zlx F N t.2.2.1, P ++ [c], qq) else .inl (1, t.2.1) := by
          unfold zpCla
          rw [if_pos c1, if_pos c12, if_pos c114]
          rfl
        obtain ⟨s1, s2, s3⟩ := zC_std_8 X d m ce sl J1 L t r q hN4 j72 A1 (by omega)
        have st : ∀ M, z_loop X z_cf z_ff (z_pu (z_run X z_cf z_ff (d + 78 + 3))) 63 (M + 30) 0 [(0, .ref 7), (1, .int x1)] [] (118, z_sd m, ce, sl, I, L, z_rr t 8 r q (z_gg m) (z_sf m)) = z_bi (z_x [] 45) (z_pu (z_run X z_cf z_ff (d + 78 + 3)) 65 [.ref 7] (118, z_sd m, ce, sl, J1, L, z_rr t 8 r q (z_gg m) (z_sf m))) (fun v w => z_loop X z_cf z_ff (z_pu (z_run X z_cf z_ff (d + 78 + 3))) 63 (M + 28) 48 [] [.int v] w) := by
          intro M
          rw [show M + 30 = (M + 28) + 2 by omega, zt_Reader_readClause_0, if_neg w1, if_pos w2, a4, z_b0_v, zb_Reader_readClause_38, if_pos (y_i_eq.mpr (by rw [k5, c114]; rfl))]
        cases hz : zpStd (zlx F N) nst (zlx F N tk.2.2.1) with
        | inl y0 =>
          rw [hz] at hC
          have hC' : zpCla (zlx F N) nst i tk P qq = .inl y0 := hC
          rw [hC']
          refine ⟨fun e he => ?_, fun tk' P' q' he => absurd he (by simp)⟩
          injection he with he
          subst he
          obtain ⟨J, b1, b2, b3, b4⟩ := s1 y0 hz
          exact ⟨J, zFrC_t F1 b1, b2, b3, en _ (fun M => by rw [st, b4, z_bi_v, zb_Reader_readClause_48, zb_Reader_readClause_56, z_b1_0, z_gd_t])⟩
        | inr y0 =>
          obtain ⟨tt, cc⟩ := y0
          rw [hz] at hC
          have hC' : zpCla (zlx F N) nst i tk P qq = if tt.1 = 59 then .inr (zlx F N tt.2.2.1, P ++ [cc], qq) else .inl (1, tt.2.1) := hC
          by_cases c59 : tt.1 = 59
          · rw [if_pos c59] at hC'
            rw [hC']
            refine ⟨fun e he => absurd he (by simp), fun tk' P' q' he => ?_⟩
            injection he with he
            injection he with u1 u2
            injection u2 with u2 u3
            subst u1
            subst u2
            subst u3
            obtain ⟨J, S', b1, b2, b3, b4, b5⟩ := s3 tt cc hz c59
            exact ⟨by rw [List.length_append]; show P.length + 1 ≤ i + 1; omega, J, S', zFrC_t F1 b1, by rw [b2, a2 10 (by omega)], by rw [b3, a2 11 (by omega)], b4, en _ (fun M => by rw [st, b5, z_bi_v, zb_Reader_readClause_48, zb_Reader_readClause_56, z_b1_1, z_gd_t])⟩
          · rw [if_neg c59] at hC'
            rw [hC']
            refine ⟨fun e he => ?_, fun tk' P' q' he => absurd he (by simp)⟩
            injection he with he
            subst he
            obtain ⟨J, b1, b2, b3, b4⟩ := s2 tt cc hz c59
            exact ⟨J, zFrC_t F1 b1, b2, b3, en _ (fun M => by rw [st, b4, z_bi_v, zb_Reader_readClause_48, zb_Reader_readClause_56, z_b1_0, z_gd_t])⟩
      · have hC : zpCla (zlx F N) nst i tk P qq = match zpNum (zlx F N) (if tk.1 = 115 then 9 else 99999) 2 (zlx F N tk.2.2.1) with
            | .inl e => .inl e
            | .inr (t, v) => if t.1 = 59 then .inr (zlx F N t.2.2.1, P, zsetp tk.1 v qq) else .inl (1, t.2.1) := by
          unfold zpCla
          rw [if_pos c1, if_pos c12, if_neg c114]
          rfl
        obtain ⟨s1, s2, s3⟩ := zC_num_8 X d m ce sl J1 L t r q hN4 A1 (k := tk.1) (by omega) c1.2 (I 7 5) k5
        have st : ∀ M, z_loop X z_cf z_ff (z_pu (z_run X z_cf z_ff (d + 78 + 3))) 63 (M + 30) 0 [(0, .ref 7), (1, .int x1)] [] (118, z_sd m, ce, sl, I, L, z_rr t 8 r q (z_gg m) (z_sf m)) = z_bi (z_x [] 53) (z_pu (z_run X z_cf z_ff (d + 78 + 3)) 79 [.ref 7, .int (I 7 5)] (118, z_sd m, ce, sl, J1, L, z_rr t 8 r q (z_gg m) (z_sf m))) (fun v w => z_loop X z_cf z_ff (z_pu (z_run X z_cf z_ff (d + 78 + 3))) 63 (M + 28) 56 [] [.int v] w) := by
          intro M
          rw [show M + 30 = (M + 28) + 2 by omega, zt_Reader_readClause_0, if_neg w1, if_pos w2, a4, z_b0_v, zb_Reader_readClause_38, if_neg (y_lit (by rw [k5]; exact c114) (by omega) (by omega))]
        cases hz : zpNum (zlx F N) (if tk.1 = 115 then 9 else 99999) 2 (zlx F N tk.2.2.1) with
        | inl y0 =>
          rw [hz] at hC
          have hC' : zpCla (zlx F N) nst i tk P qq = .inl y0 := hC
          rw [hC']
          refine ⟨fun e he => ?_, fun tk' P' q' he => absurd he (by simp)⟩
          injection he with he
          subst he
          obtain ⟨J, b1, b2, b3, b4⟩ := s1 y0 hz
          exact ⟨J, zFrC_t F1 b1, b2, b3, en _ (fun M => by rw [st, b4, z_bi_v, zb_Reader_readClause_56, z_b1_0, z_gd_t])⟩
        | inr y0 =>
          obtain ⟨tt, v⟩ := y0
          rw [hz] at hC
          have hC' : zpCla (zlx F N) nst i tk P qq = if tt.1 = 59 then .inr (zlx F N tt.2.2.1, P, zsetp tk.1 v qq) else .inl (1, tt.2.1) := hC
          by_cases c59 : tt.1 = 59
          · rw [if_pos c59] at hC'
            rw [hC']
            refine ⟨fun e he => absurd he (by simp), fun tk' P' q' he => ?_⟩
            injection he with he
            injection he with u1 u2
            injection u2 with u2 u3
            subst u1
            subst u2
            subst u3
            obtain ⟨J, b1, b2, b3, b4, b5⟩ := s3 tt v hz c59
            exact ⟨by omega, J, S, zFrC_t F1 b1, by rw [b2, a2 10 (by omega)], by rw [b3, a2 11 (by omega)], b4, en _ (fun M => by rw [st, b5, z_bi_v, zb_Reader_readClause_56, z_b1_1, z_gd_t])⟩
          · rw [if_neg c59] at hC'
            rw [hC']
            refine ⟨fun e he => ?_, fun tk' P' q' he => absurd he (by simp)⟩
            injection he with he
            subst he
            obtain ⟨J, b1, b2, b3, b4⟩ := s2 tt v hz c59
            exact ⟨J, zFrC_t F1 b1, b2, b3, en _ (fun M => by rw [st, b4, z_bi_v, zb_Reader_readClause_56, z_b1_0, z_gd_t])⟩
    · have hC : zpCla (zlx F N) nst i tk P qq = .inl (2, tk.2.1) := by
        unfold zpCla
        rw [if_pos c1, if_neg c12]
      rw [hC]
      refine ⟨fun e he => ?_, fun tk' P' q' he => absurd he (by simp)⟩
      injection he with he
      subst he
      obtain ⟨f1, f2, f3⟩ := fJ 2 (by omega) (by omega)
      refine ⟨_, f1, f2, f3, en _ (fun M => ?_)⟩
      rw [show M + 30 = (M + 28) + 2 by omega, zt_Reader_readClause_0, if_neg w1, if_neg (by rw [y_i_lt, hx]; show ¬ _ < (12 : Int); omega)]
  · have hC : zpCla (zlx F N) nst i tk P qq = .inl (1, tk.2.1) := by
      unfold zpCla
      rw [if_neg c1]
    rw [hC]
    refine ⟨fun e he => ?_, fun tk' P' q' he => absurd he (by simp)⟩
    injection he with he
    subst he
    obtain ⟨f1, f2, f3⟩ := fJ 1 (by omega) (by omega)
    refine ⟨_, f1, f2, f3, en _ (fun M => ?_)⟩
    rw [show M + 30 = (M + 28) + 2 by omega, zt_Reader_readClause_0, if_pos (by rw [y_wi0]; omega)]
/-- all clauses -/
theorem zC_all_8 (X : ZX) (d m ce sl : Nat) (I : Nat → Nat → Int32) (L : Nat → Nat → Int64) (r q : Nat) {F : Nat → Int} (hF : ∀ i, (I 6 i).toInt = F i) {N nst : Nat} (hN4 : N ≤ 400) (x1 x2 : Int32) (hx1 : x1.toInt = N) (hx2 : x2.toInt = nst) :
    (∀ e, zpAll (zlx F N) nst 13 0 (zlx F N 0) [] (0, 0, 99999, 99999) = .inl e → ∃ (J : Nat → Nat → Int32) (y : Int32), (∀ x, x ≠ 7 → x ≠ 8 → x ≠ 8 + 1 → (x < 8 + 3 ∨ 8 + 6 < x) → J x = I x) ∧ y.toInt = e.1 ∧ (J 7 11).toInt = e.2 ∧ z_pu (z_run X z_cf z_ff (d + 83)) 54 [.ref 7, .int x1, .int x2] (118, z_sd m, ce, sl, I, L, z_rr 15 8 r q (z_gg m) (z_sf m)) = some (.inl (some (.int y)), (118, z_sd m, ce, sl, J, L, z_rr 15 8 r q (z_gg m) (z_sf m)))) ∧
    (∀ P' q', zpAll (zlx F N) nst 13 0 (zlx F N 0) [] (0, 0, 99999, 99999) = .inr (P', q') → ∃ (J : Nat → Nat → Int32) (n : Nat), (∀ x, x ≠ 7 → x ≠ 8 → x ≠ 8 + 1 → (x < 8 + 3 ∨ 8 + 6 < x) → J x = I x) ∧ n ≤ 400 ∧ zPC 8 n J 0 P' ∧ (J 8 7).toInt = P'.length ∧ (J 8 8).toInt = q'.1 ∧ (J 8 9).toInt = q'.2.1 ∧ (J 8 10).toInt = q'.2.2.1 ∧ (J 8 11).toInt = q'.2.2.2 ∧ J 7 11 = Int32.ofInt (-1) ∧ z_pu (z_run X z_cf z_ff (d + 83)) 54 [.ref 7, .int x1, .int x2] (118, z_sd m, ce, sl, I, L, z_rr 15 8 r q (z_gg m) (z_sf m)) = some (.inl (some (.int (Int32.ofInt 0))), (118, z_sd m, ce, sl, J, L, z_rr 8 15 r q (z_gg m) (z_sf m)))) := by
  have lp : ∀ (f i : Nat) (x4 : Int32) (tk : zTk) (S : List Int) (P : List zcl) (qq : zPq) (K : Nat → Nat → Int32), i + f = 13 → x4.toInt = i → zKA 8 F N tk S P qq K → P.length ≤ i → (K 7 2).toInt = nst → K 7 10 = Int32.ofInt 0 → K 7 11 = Int32.ofInt (-1) →
      (∀ e, zpAll (zlx F N) nst f i tk P qq = .inl e → ∃ (J : Nat → Nat → Int32), zFrC 8 K J ∧ (J 7 10).toInt = e.1 ∧ (J 7 11).toInt = e.2 ∧ ∀ M, z_loop X z_cf z_ff (z_pu (z_run X z_cf z_ff (d + 82))) 54 (M + 2 * f + 3) 49 [(0, .ref 7), (3, .int (Int32.ofInt 1)), (4, .int x4)] [] (118, z_sd m, ce, sl, K, L, z_rr 15 8 r q (z_gg m) (z_sf m)) = some (.inl (some (.int (J 7 10))), (118, z_sd m, ce, sl, J, L, z_rr 15 8 r q (z_gg m) (z_sf m)))) ∧
      (∀ P' q', zpAll (zlx F N) nst f i tk P qq = .inr (P', q') → ∃ (J : Nat → Nat → Int32) (S' : List Int) (tk' : zTk), zFrC 8 K J ∧ zKA 8 F N tk' S' P' q' J ∧ J 7 10 = Int32.ofInt 0 ∧ J 7 11 = Int32.ofInt (-1) ∧ ∀ M, z_loop X z_cf z_ff (z_pu (z_run X z_cf z_ff (d + 82))) 54 (M + 2 * f + 3) 49 [(0, .ref 7), (3, .int (Int32.ofInt 1)), (4, .int x4)] [] (118, z_sd m, ce, sl, K, L, z_rr 15 8 r q (z_gg m) (z_sf m)) = some (.inl (some (.int (Int32.ofInt 0))), (118, z_sd m, ce, sl, J, L, z_rr 8 15 r q (z_gg m) (z_sf m)))) := by
    intro f
    have fin : ∀ (x4 : Int32) (tk : zTk) (S : List Int) (P : List zcl) (qq : zPq) (K : Nat → Nat → Int32) (f : Nat), zKA 8 F N tk S P qq K → K 7 10 = Int32.ofInt 0 → K 7 11 = Int32.ofInt (-1) → (Int32.ofInt 12 < x4 ∨ tk.1 = 0) →
        (∀ e, (.inr (P, qq) : zFl ⊕ (List zcl × zPq)) = .inl e → ∃ (J : Nat → Nat → Int32), zFrC 8 K J ∧ (J 7 10).toInt = e.1 ∧ (J 7 11).toInt = e.2 ∧ ∀ M, z_loop X z_cf z_ff (z_pu (z_run X z_cf z_ff (d + 82))) 54 (M + 2 * f + 3) 49 [(0, .ref 7), (3, .int (Int32.ofInt 1)), (4, .int x4)] [] (118, z_sd m, ce, sl, K, L, z_rr 15 8 r q (z_gg m) (z_sf m)) = some (.inl (some (.int (J 7 10))), (118, z_sd m, ce, sl, J, L, z_rr 15 8 r q (z_gg m) (z_sf m)))) ∧
        (∀ P' q', (.inr (P, qq) : zFl ⊕ (List zcl × zPq)) = .inr (P', q') → ∃ (J : Nat → Nat → Int32) (S' : List Int) (tk' : zTk), zFrC 8 K J ∧ zKA 8 F N tk' S' P' q' J ∧ J 7 10 = Int32.ofInt 0 ∧ J 7 11 = Int32.ofInt (-1) ∧ ∀ M, z_loop X z_cf z_ff (z_pu (z_run X z_cf z_ff (d + 82))) 54 (M + 2 * f + 3) 49 [(0, .ref 7), (3, .int (Int32.ofInt 1)), (4, .int x4)] [] (118, z_sd m, ce, sl, K, L, z_rr 15 8 r q (z_gg m) (z_sf m)) = some (.inl (some (.int (Int32.ofInt 0))), (118, z_sd m, ce, sl, J, L, z_rr 8 15 r q (z_gg m) (z_sf m)))) := by
      intro x4 tk S P qq K f h1 h2 h3 h4
      refine ⟨fun e he => absurd he (by simp), fun P' q' he => ?_⟩
      injection he with he
      injection he with u1 u2
      subst u1
      subst u2
      refine ⟨K, S, tk, ⟨fun _ _ _ _ _ => rfl, fun _ _ => rfl⟩, h1, h2, h3, fun M => ?_⟩
      rw [show M + 2 * f + 3 = (M + 2 * f + 2) + 1 by omega, zb_Reader_readRules_49_15_8, if_neg (show ¬ (Int32.ofInt 1 : Int32) = 0 by decide), if_neg (show ¬ (Int32.ofInt 1 : Int32) = 0 by decide), z_sheets, h2]
      by_cases c : Int32.ofInt 12 < x4
      · rw [if_pos c]
      · rw [if_neg c]
        have c0 : tk.1 = 0 := by
          rcases h4 with h4 | h4
          · exact absurd h4 c
          · exact h4
        rw [if_pos (show K 7 5 = 0 by rw [y_i_eq, h1.1.1.1, c0]; rfl)]
    induction f with
    | zero =>
      intro i x4 tk S P qq K g1 g2 g3 g4 g5 g6 g7
      exact fin x4 tk S P qq K 0 g3 g6 g7 (Or.inl (by rw [y_i_lt, g2]; show (12 : Int) < _; omega))
    | succ f ih =>
      intro i x4 tk S P qq K g1 g2 g3 g4 g5 g6 g7
      by_cases c0 : tk.1 = 0
      · have hA : zpAll (zlx F N) nst (f + 1) i tk P qq = .inr (P, qq) := if_pos c0
        rw [hA]
        exact fin x4 tk S P qq K (f + 1) g3 g6 g7 (Or.inr c0)
      · have hA : zpAll (zlx F N) nst (f + 1) i tk P qq = match zpCla (zlx F N) nst i tk P qq with
            | .inl e => .inl e
            | .inr (tk', P', q') => zpAll (zlx F N) nst f (i + 1) tk' P' q' := by
          show (if tk.1 = 0 then _ else _) = _
          rw [if_neg c0]
          rfl
        obtain ⟨s1, s2⟩ := zC_cla_8 X d m ce sl K L 15 r q hN4 g5 g3 g4 x4 g2
        have n12 : ¬ Int32.ofInt 12 < x4 := by rw [y_i_lt, g2]; show ¬ (12 : Int) < _; omega
        have nt : ¬ K 7 5 = 0 := by
          rw [y_i_eq, g3.1.1.1]
          exact c0
        cases hz : zpCla (zlx F N) nst i tk P qq with
        | inl y0 =>
          rw [hz] at hA
          have hA' : zpAll (zlx F N) nst (f + 1) i tk P qq = .inl y0 := hA
          rw [hA']
          refine ⟨fun e he => ?_, fun P' q' he => absurd he (by simp)⟩
          injection he with he
          subst he
          obtain ⟨J, b1, b2, b3, b4⟩ := s1 y0 hz
          refine ⟨J, b1, b2, b3, fun M => ?_⟩
          rw [show M + 2 * (f + 1) + 3 = (M + 2 * f + 2) + 1 + 1 + 1 by omega, zb_Reader_readRules_49_15_8, if_neg n12, if_neg (show ¬ (Int32.ofInt 1 : Int32) = 0 by decide), if_neg nt, b4, z_bi_v, zb_Reader_readRules_73, zb_Reader_readRules_49_15_8, if_pos (show (Int32.ofInt 0 : Int32) = 0 by decide), if_pos (show (Int32.ofInt 0 : Int32) = 0 by decide)]
          split <;> rfl
        | inr y0 =>
          obtain ⟨tk2, P2, q2⟩ := y0
          rw [hz] at hA
          have hA' : zpAll (zlx F N) nst (f + 1) i tk P qq = zpAll (zlx F N) nst f (i + 1) tk2 P2 q2 := hA
          rw [hA']
          obtain ⟨b0, J, S', b1, b2, b3, b4, b5⟩ := s2 tk2 P2 q2 hz
          obtain ⟨m1, m2⟩ := ih (i + 1) (x4 + Int32.ofInt 1) tk2 S' P2 q2 J (by omega) (by rw [y_adl (by omega) (by omega) (by omega) (by omega)]; omega) b4 b0 (by rw [b1.2 2 (by omega)]; exact g5) (by rw [b2, g6]) (by rw [b3, g7])
          have st : ∀ M, z_loop X z_cf z_ff (z_pu (z_run X z_cf z_ff (d + 82))) 54 (M + 2 * (f + 1) + 3) 49 [(0, .ref 7), (3, .int (Int32.ofInt 1)), (4, .int x4)] [] (118, z_sd m, ce, sl, K, L, z_rr 15 8 r q (z_gg m) (z_sf m)) = z_loop X z_cf z_ff (z_pu (z_run X z_cf z_ff (d + 82))) 54 (M + 2 * f + 3) 49 [(0, .ref 7), (3, .int (Int32.ofInt 1)), (4, .int (x4 + Int32.ofInt 1))] [] (118, z_sd m, ce, sl, J, L, z_rr 15 8 r q (z_gg m) (z_sf m)) := by
            intro M
            rw [show M + 2 * (f + 1) + 3 = (M + 2 * f + 3) + 1 + 1 by omega, zb_Reader_readRules_49_15_8, if_neg n12, if_neg (show ¬ (Int32.ofInt 1 : Int32) = 0 by decide), if_neg nt, b5, z_bi_v, zb_Reader_readRules_73]
          refine ⟨fun e he => ?_, fun P' q' he => ?_⟩
          · obtain ⟨J2, d1, d2, d3, d4⟩ := m1 e he
            exact ⟨J2, zFrC_t b1 d1, d2, d3, fun M => by rw [st, d4]⟩
          · obtain ⟨J2, S2, tk3, d1, d2, d3, d4, d5⟩ := m2 P' q' he
            exact ⟨J2, S2, tk3, zFrC_t b1 d1, d2, d3, d4, fun M => by rw [st, d5]⟩
  have k1 : (z_mni x1 (Int32.ofNat 400)).toInt = N := by
    rw [y_mni, hx1, y_on (by omega)]
    omega
  have f0 : ∀ x, x ≠ 7 → x ≠ 8 → (z_up (z_up (z_up (z_up (z_up (z_up (z_up (z_up (z_up (z_up (z_up I 7 1 (z_mni x1 (Int32.ofNat 400))) 7 2 x2) 8 1 (Int32.ofInt 0)) 8 7 (Int32.ofInt 0)) 8 8 (Int32.ofInt 0)) 8 9 (Int32.ofInt 0)) 8 10 (Int32.ofInt 99999)) 8 11 (Int32.ofInt 99999)) 7 10 (Int32.ofInt 0)) 7 11 (Int32.ofInt (-1))) 7 7 (Int32.ofInt 0)) x = I x := fun x h1 h2 => by rw [z_up_r _ _ _ _ _ h1, z_up_r _ _ _ _ _ h1, z_up_r _ _ _ _ _ h1, z_up_r _ _ _ _ _ h2, z_up_r _ _ _ _ _ h2, z_up_r _ _ _ _ _ h2, z_up_r _ _ _ _ _ h2, z_up_r _ _ _ _ _ h2, z_up_r _ _ _ _ _ h2, z_up_r _ _ _ _ _ h1, z_up_r _ _ _ _ _ h1]
  generalize hK : (z_up (z_up (z_up (z_up (z_up (z_up (z_up (z_up (z_up (z_up (z_up I 7 1 (z_mni x1 (Int32.ofNat 400))) 7 2 x2) 8 1 (Int32.ofInt 0)) 8 7 (Int32.ofInt 0)) 8 8 (Int32.ofInt 0)) 8 9 (Int32.ofInt 0)) 8 10 (Int32.ofInt 99999)) 8 11 (Int32.ofInt 99999)) 7 10 (Int32.ofInt 0)) 7 11 (Int32.ofInt (-1))) 7 7 (Int32.ofInt 0)) = K0 at f0
  have v71 : (K0 7 1).toInt = N := by rw [← hK]; exact k1
  have v72 : (K0 7 2).toInt = nst := by rw [← hK]; exact hx2
  have v77 : (K0 7 7).toInt = (0 : Nat) := by rw [← hK]; rfl
  have v710 : K0 7 10 = Int32.ofInt 0 := by rw [← hK]
  have v711 : K0 7 11 = Int32.ofInt (-1) := by rw [← hK]
  have vD1 : K0 8 1 = Int32.ofInt 0 := by rw [← hK]
  have vD7 : K0 8 7 = Int32.ofInt 0 := by rw [← hK]
  have vD8 : K0 8 8 = Int32.ofInt 0 := by rw [← hK]
  have vD9 : K0 8 9 = Int32.ofInt 0 := by rw [← hK]
  have vD10 : K0 8 10 = Int32.ofInt 99999 := by rw [← hK]
  have vD11 : K0 8 11 = Int32.ofInt 99999 := by rw [← hK]
  obtain ⟨J0, j1, j2, j3, j4⟩ := zr_readToken X (d + 76) (z_sd m) ce sl K0 L 15 8 r q (z_gg m) (z_sf m) (F := F) (fun i => by rw [f0 6 (by omega) (by omega)]; exact hF i) v71 hN4 (Nat.zero_le N) v77
  have hO := (zlx_ok F N 0 (Nat.zero_le N)).1
  have A0 : zKA 8 F N (zlx F N 0) [] [] (0, 0, 99999, 99999) J0 := by
    refine ⟨⟨j3, hO, by rw [j2 1 (by omega)]; exact v71, fun i => by rw [j1 6 (by omega), f0 6 (by omega) (by omega)]; exact hF i⟩, ⟨by rw [j1 8 (by omega), vD1]; rfl, fun j hj => absurd hj (by show ¬ j < 0; omega)⟩, Nat.zero_le _, trivial, by rw [j1 8 (by omega), vD7]; rfl, by rw [j1 8 (by omega), vD8]; rfl, by rw [j1 8 (by omega), vD9]; rfl, by rw [j1 8 (by omega), vD10]; rfl, by rw [j1 8 (by omega), vD11]; rfl⟩
  obtain ⟨m1, m2⟩ := lp 13 0 (Int32.ofInt 0) (zlx F N 0) [] [] (0, 0, 99999, 99999) J0 rfl rfl A0 (Nat.le_refl _) (by rw [j2 2 (by omega)]; exact v72) (by rw [j2 10 (by omega)]; exact v710) (by rw [j2 11 (by omega)]; exact v711)
  have en : ∀ rr : ZR, (∀ M, z_loop X z_cf z_ff (z_pu (z_run X z_cf z_ff (d + 82))) 54 (M + 2 * 13 + 3) 49 [(0, .ref 7), (3, .int (Int32.ofInt 1)), (4, .int (Int32.ofInt 0))] [] (118, z_sd m, ce, sl, J0, L, z_rr 15 8 r q (z_gg m) (z_sf m)) = rr) → z_pu (z_run X z_cf z_ff (d + 83)) 54 [.ref 7, .int x1, .int x2] (118, z_sd m, ce, sl, I, L, z_rr 15 8 r q (z_gg m) (z_sf m)) = rr := by
    intro rr h
    refine z_en X (d + 80) _ _ [(0, .ref 7), (1, .int x1), (2, .int x2)] _ _ rfl rfl rfl ?_
    rw [show (100000000 : Nat) = (99999968 + 2 * 13 + 3) + 1 + 1 + 1 by omega, zb_Reader_readRules_0_8, zk_Rules_clear_8_0 X (d + 79), z_b0_v, zb_Reader_readRules_25, hK, j4, z_b0_v, zb_Reader_readRules_44, h]
  have fr : ∀ J, zFrC 8 J0 J → ∀ x, x ≠ 7 → x ≠ 8 → x ≠ 8 + 1 → (x < 8 + 3 ∨ 8 + 6 < x) → J x = I x := fun J hJ x h1 h2 h3 h4 => by rw [hJ.1 x h1 h2 h3 h4, j1 x h1, f0 x h1 h2]
  refine ⟨fun e he => ?_, fun P' q' he => ?_⟩
  · obtain ⟨J, d1, d2, d3, d4⟩ := m1 e he
    exact ⟨J, J 7 10, fr J d1, d2, d3, en _ d4⟩
  · obtain ⟨J, S', tk', d1, d2, d3, d4, d5⟩ := m2 P' q' he
    obtain ⟨a1, a2, a3, a4, a5, a6, a7, a8, a9⟩ := d2
    have := a1.2.1.1
    exact ⟨J, S'.length, fr J d1, by omega, a4, a5, a6, a7, a8, a9, d4, en _ d5⟩
/-- a number is told -/
theorem zK_set_15 (X : ZX) (d m ce sl : Nat) (I : Nat → Nat → Int32) (L : Nat → Nat → Int64) (t r q : Nat) {F : Nat → Int} {N : Nat} {tk : zTk} {S : List Int} {P : List zcl} {qq : zPq} (hA : zKA 15 F N tk S P qq I) {k : Int} (h1 : 115 ≤ k) (h2 : k ≤ 118) (x1 x2 : Int32) (hx : x1.toInt = k) : ∃ J : Nat → Nat → Int32, zFrC 15 I J ∧ J 7 = I 7 ∧ zKA 15 F N tk S P (zsetp k x2.toInt qq) J ∧ z_pu (z_run X z_cf z_ff (d + 3)) 80 [.ref 15, .int x1, .int x2] (118, z_sd m, ce, sl, I, L, z_rr t 15 r q (z_gg m) (z_sf m)) = some (.inl none, (118, z_sd m, ce, sl, J, L, z_rr t 15 r q (z_gg m) (z_sf m))) := by
  obtain ⟨a1, a2, a3, a4, a5, a6, a7, a8, a9⟩ := hA
  have fr : ∀ j, zFrC 15 I (z_up I 15 j x2) ∧ (z_up I 15 j x2) 7 = I 7 ∧ (z_up I 15 j x2) 6 = I 6 ∧ (z_up I 15 j x2) 16 = I 16 ∧ (∀ x, 15 + 3 ≤ x → (z_up I 15 j x2) x = I x) := fun j => ⟨⟨fun x b1 b2 b3 b4 => z_up_r _ _ _ _ _ b2, fun i hi => by rw [z_up_r _ _ _ _ _ (by omega)]⟩, z_up_r _ _ _ _ _ (by omega), z_up_r _ _ _ _ _ (by omega), z_up_r _ _ _ _ _ (by omega), fun x hx => z_up_r _ _ _ _ _ (by omega)⟩
  have com : ∀ j, 8 ≤ j → zCB F N tk (z_up I 15 j x2) ∧ zCS 15 S (z_up I 15 j x2) ∧ zPC 15 S.length (z_up I 15 j x2) 0 P ∧ ((z_up I 15 j x2) 15 7).toInt = P.length := by
    intro j hj
    obtain ⟨b1, b2, b3, b4, b5⟩ := fr j
    refine ⟨zCB_r b2 b3 a1, ⟨by rw [z_up_j _ _ _ _ _ (by omega)]; exact a2.1, fun i hi => ?_⟩, zPC_u (Nat.le_refl _) (fun i hi => by rw [show 15 + 1 = 16 from rfl, b4]) P 0 (fun x q1 q2 i hi => by rw [b5 x (by omega)]) a4, by rw [z_up_j _ _ _ _ _ (by omega)]; exact a5⟩
    have := a2.2 i hi
    rw [show 15 + 1 = 16 from rfl] at this ⊢
    rw [b4]
    exact this
  have hk : k = 115 ∨ k = 116 ∨ k = 117 ∨ k = 118 := by omega
  rcases hk with e | e | e | e <;> subst e
  · obtain ⟨c1, c2, c3, c4⟩ := com 8 (by omega)
    refine ⟨z_up I 15 8 x2, (fr 8).1, (fr 8).2.1, ⟨c1, c2, a3, c3, c4, by rw [z_up_s]; rfl, by rw [z_up_j _ _ _ _ _ (by omega)]; exact a7, by rw [z_up_j _ _ _ _ _ (by omega)]; exact a8, by rw [z_up_j _ _ _ _ _ (by omega)]; exact a9⟩, ?_⟩
    rw [zk_Rules_setNumber_15_0, if_pos (y_eqi hx)]
  · obtain ⟨c1, c2, c3, c4⟩ := com 9 (by omega)
    refine ⟨z_up I 15 9 x2, (fr 9).1, (fr 9).2.1, ⟨c1, c2, a3, c3, c4, by rw [z_up_j _ _ _ _ _ (by omega)]; exact a6, by rw [z_up_s]; rfl, by rw [z_up_j _ _ _ _ _ (by omega)]; exact a8, by rw [z_up_j _ _ _ _ _ (by omega)]; exact a9⟩, ?_⟩
    rw [zk_Rules_setNumber_15_0, if_neg (y_lit (by rw [hx]; omega) (by omega) (by omega)), if_pos (y_eqi hx)]
  · obtain ⟨c1, c2, c3, c4⟩ := com 10 (by omega)
    refine ⟨z_up I 15 10 x2, (fr 10).1, (fr 10).2.1, ⟨c1, c2, a3, c3, c4, by rw [z_up_j _ _ _ _ _ (by omega)]; exact a6, by rw [z_up_j _ _ _ _ _ (by omega)]; exact a7, by rw [z_up_s]; rfl, by rw [z_up_j _ _ _ _ _ (by omega)]; exact a9⟩, ?_⟩
    rw [zk_Rules_setNumber_15_0, if_neg (y_lit (by rw [hx]; omega) (by omega) (by omega)), if_neg (y_lit (by rw [hx]; omega) (by omega) (by omega)), if_pos (y_eqi hx)]
  · obtain ⟨c1, c2, c3, c4⟩ := com 11 (by omega)
    refine ⟨z_up I 15 11 x2, (fr 11).1, (fr 11).2.1, ⟨c1, c2, a3, c3, c4, by rw [z_up_j _ _ _ _ _ (by omega)]; exact a6, by rw [z_up_j _ _ _ _ _ (by omega)]; exact a7, by rw [z_up_j _ _ _ _ _ (by omega)]; exact a8, by rw [z_up_s]; rfl⟩, ?_⟩
    rw [zk_Rules_setNumber_15_0, if_neg (y_lit (by rw [hx]; omega) (by omega) (by omega)), if_neg (y_lit (by rw [hx]; omega) (by omega) (by omega)), if_neg (y_lit (by rw [hx]; omega) (by omega) (by omega))]
theorem zC_num_15 (X : ZX) (d m ce sl : Nat) (I : Nat → Nat → Int32) (L : Nat → Nat → Int64) (t r q : Nat) {F : Nat → Int} {N : Nat} (hN4 : N ≤ 400) {tk : zTk} {S : List Int} {P : List zcl} {qq : zPq} (hA : zKA 15 F N tk S P qq I) {k : Int} (h1 : 115 ≤ k) (h2 : k ≤ 118) (x1 : Int32) (hx : x1.toInt = k) :
    (∀ e, zpNum (zlx F N) (if k = 115 then 9 else 99999) 2 tk = .inl e → ∃ J : Nat → Nat → Int32, zFrC 15 I J ∧ (J 7 10).toInt = e.1 ∧ (J 7 11).toInt = e.2 ∧ z_pu (z_run X z_cf z_ff (d + 81)) 79 [.ref 7, .int x1] (118, z_sd m, ce, sl, I, L, z_rr t 15 r q (z_gg m) (z_sf m)) = some (.inl (some (.int (Int32.ofInt 0))), (118, z_sd m, ce, sl, J, L, z_rr t 15 r q (z_gg m) (z_sf m)))) ∧
    (∀ tt v, zpNum (zlx F N) (if k = 115 then 9 else 99999) 2 tk = .inr (tt, v) → tt.1 ≠ 59 → ∃ J : Nat → Nat → Int32, zFrC 15 I J ∧ (J 7 10).toInt = 1 ∧ (J 7 11).toInt = tt.2.1 ∧ z_pu (z_run X z_cf z_ff (d + 81)) 79 [.ref 7, .int x1] (118, z_sd m, ce, sl, I, L, z_rr t 15 r q (z_gg m) (z_sf m)) = some (.inl (some (.int (Int32.ofInt 0))), (118, z_sd m, ce, sl, J, L, z_rr t 15 r q (z_gg m) (z_sf m)))) ∧
    (∀ tt v, zpNum (zlx F N) (if k = 115 then 9 else 99999) 2 tk = .inr (tt, v) → tt.1 = 59 → ∃ J : Nat → Nat → Int32, zFrC 15 I J ∧ J 7 10 = I 7 10 ∧ J 7 11 = I 7 11 ∧ zKA 15 F N (zlx F N tt.2.2.1) S P (zsetp k v qq) J ∧ z_pu (z_run X z_cf z_ff (d + 81)) 79 [.ref 7, .int x1] (118, z_sd m, ce, sl, I, L, z_rr t 15 r q (z_gg m) (z_sf m)) = some (.inl (some (.int (Int32.ofInt 1))), (118, z_sd m, ce, sl, J, L, z_rr t 15 r q (z_gg m) (z_sf m)))) := by
  have en : ∀ rr : ZR, (∀ M, z_loop X z_cf z_ff (z_pu (z_run X z_cf z_ff (d + 76 + 4))) 79 (M + 30) 0 [(0, .ref 7), (1, .int x1)] [] (118, z_sd m, ce, sl, I, L, z_rr t 15 r q (z_gg m) (z_sf m)) = rr) → z_pu (z_run X z_cf z_ff (d + 81)) 79 [.ref 7, .int x1] (118, z_sd m, ce, sl, I, L, z_rr t 15 r q (z_gg m) (z_sf m)) = rr := fun rr h => z_en X (d + 78) _ _ [(0, .ref 7), (1, .int x1)] _ _ rfl rfl rfl (h 99999970)
  have hB := hA.1
  have k5 : (I 7 5).toInt = tk.1 := hB.1.1
  have k6 : (I 7 6).toInt = tk.2.1 := hB.1.2.1
  have fJ : ∀ v : Int, -2147483648 ≤ v → v ≤ 2147483647 → zFrC 15 I (z_up (z_up I 7 10 (Int32.ofInt v)) 7 11 (I 7 6)) ∧ ((z_up (z_up I 7 10 (Int32.ofInt v)) 7 11 (I 7 6)) 7 10).toInt = v ∧ ((z_up (z_up I 7 10 (Int32.ofInt v)) 7 11 (I 7 6)) 7 11).toInt = tk.2.1 := fun v v1 v2 => ⟨zFrC_m (zFrm_f (by omega) I _ _), by rw [z_up_j _ _ _ _ _ (by omega), z_up_s]; exact y_oi v1 v2, by rw [z_up_s]; exact k6⟩
  by_cases c2 : tk.1 = 2
  · have i2 : I 7 5 = Int32.ofInt 2 := y_eqi (by rw [k5, c2])
    obtain ⟨q1, q2⟩ := hB.1.2.2.2 c2
    obtain ⟨o1, o2, o3⟩ := hB.2.1.2.2.2 c2
    by_cases c5 : tk.2.2.2.2 ≤ 5
    · have i5 : I 7 9 ≤ Int32.ofInt 5 := by rw [y_i_le, q2]; show _ ≤ (5 : Int); omega
      by_cases cm : tk.2.2.2.1 ≤ (if k = 115 then 9 else 99999)
      · have hnum : zpNum (zlx F N) (if k = 115 then 9 else 99999) 2 tk = .inr (zlx F N tk.2.2.1, tk.2.2.2.1) := zpNum_4 c2 c5 cm
        rw [hnum]
        obtain ⟨K, s1, s2, s3, s4⟩ := zK_set_15 X (d + 76 + 1) m ce sl I L t r q hA h1 h2 x1 (I 7 8) hx
        obtain ⟨J1, a1, a2, a3, a4⟩ := zC_tok X (d + 74) m ce sl K L t 15 r q hN4 s3.1 (by omega)
        obtain ⟨n1, n2⟩ := zTO_nx (zlx_ok F N) hB.2.1 (by omega)
        generalize zlx F N tk.2.2.1 = t1 at *
        have A1 : zKA 15 F N t1 S P (zsetp k (I 7 8).toInt qq) J1 := zKA_7 (by omega) s3 a1 a3 (by omega)
        have F1 : zFrC 15 I J1 := zFrC_t s1 (zFrC_7 a1 (fun j hj => a2 j (by omega)))
        have st : ∀ M, z_loop X z_cf z_ff (z_pu (z_run X z_cf z_ff (d + 76 + 4))) 79 (M + 30) 0 [(0, .ref 7), (1, .int x1)] [] (118, z_sd m, ce, sl, I, L, z_rr t 15 r q (z_gg m) (z_sf m)) = z_bi (z_x [] 49) (z_pu (z_run X z_cf z_ff (d + 76 + 4)) 67 [.ref 7, .int (Int32.ofInt 59)] (118, z_sd m, ce, sl, J1, L, z_rr t 15 r q (z_gg m) (z_sf m))) (fun v w => z_loop X z_cf z_ff (z_pu (z_run X z_cf z_ff (d + 76 + 4))) 79 (M + 26) 52 [] [.int v] w) := by
          intro M
          rw [zb_Reader_readNumberClause_0, zk_Reader_isNumber_0, if_pos i2, if_pos i5, z_bi_v, zb_Reader_readNumberClause_4_15, if_neg (by decide)]
          by_cases c115 : k = 115
          · rw [if_pos c115] at cm
            rw [if_pos (y_i_eq.mpr (by rw [hx, c115]; rfl)), if_pos (by rw [y_i_le, q1]; show _ ≤ (9 : Int); omega), s4, z_b0_v, zb_Reader_readNumberClause_42, a4, z_b0_v, zb_Reader_readNumberClause_46]
          · rw [if_neg (y_lit (by rw [hx]; exact c115) (by omega) (by omega)), s4, z_b0_v, zb_Reader_readNumberClause_42, a4, z_b0_v, zb_Reader_readNumberClause_46]
        refine ⟨fun e he => absurd he (by simp), fun tt v he hne => ?_, fun tt v he heq => ?_⟩
        · injection he with he
          injection he with u1 u2
          subst u1
          have t4 := zC_take0 X (d + 73) m ce sl J1 L t 15 r q a3 (Int32.ofInt 59) hne
          refine ⟨z_up (z_up J1 7 10 (Int32.ofInt 1)) 7 11 (J1 7 6), zFrC_t F1 (zFrC_m (zFrm_f (by omega) J1 (Int32.ofInt 1) (J1 7 6))), ?_, ?_, en _ (fun M => ?_)⟩
          · rw [z_up_j _ _ _ _ _ (by omega), z_up_s]
            rfl
          · rw [z_up_s]
            exact a3.1.2.1
          · rw [st, t4, z_bi_v, zb_Reader_readNumberClause_52, z_b1_0, z_gd_t]
        · injection he with he
          injection he with u1 u2
          subst u1
          subst u2
          obtain ⟨J5, l1, l2, l3, l4⟩ := zC_take1 X (d + 73) m ce sl J1 L t 15 r q hN4 a3 (Int32.ofInt 59) heq (by omega)
          obtain ⟨n7, n8⟩ := zTO_nx (zlx_ok F N) n1 (by omega)
          rw [q1] at A1
          refine ⟨J5, zFrC_t F1 (zFrC_7 l1 (fun j hj => l2 j (by omega))), by rw [l2 10 (by omega), a2 10 (by omega), s2], by rw [l2 11 (by omega), a2 11 (by omega), s2], zKA_7 (by omega) A1 l1 l3 (by omega), en _ (fun M => ?_)⟩
          rw [st, l4, z_bi_v, zb_Reader_readNumberClause_52, z_b1_1, z_gd_t]
      · have c115 : k = 115 := by
          by_cases e : k = 115
          · exact e
          · rw [if_neg e] at cm
            omega
        have hnum := zpNum_3 (lx := zlx F N) (kind := 2) c2 c5 cm
        rw [if_pos c115] at cm
        rw [hnum]
        refine ⟨fun e he => ?_, fun tt v he => absurd he (by simp), fun tt v he => absurd he (by simp)⟩
        injection he with he
        subst he
        obtain ⟨f1, f2, f3⟩ := fJ 2 (by omega) (by omega)
        refine ⟨_, f1, f2, f3, en _ (fun M => ?_)⟩
        rw [zb_Reader_readNumberClause_0, zk_Reader_isNumber_0, if_pos i2, if_pos i5, z_bi_v, zb_Reader_readNumberClause_4_15, if_neg (by decide), if_pos (y_i_eq.mpr (by rw [hx, c115]; rfl)), if_neg (by rw [y_i_le, q1]; show ¬ _ ≤ (9 : Int); omega), zk_Reader_refuse_0 X (d + 77), z_bi_v, zb_Reader_readNumberClause_29, z_b1_0, z_gd_t]
    · rw [zpNum_2 c2 c5]
      refine ⟨fun e he => ?_, fun tt v he => absurd he (by simp), fun tt v he => absurd he (by simp)⟩
      injection he with he
      subst he
      obtain ⟨f1, f2, f3⟩ := fJ 2 (by omega) (by omega)
      refine ⟨_, f1, f2, f3, en _ (fun M => ?_)⟩
      rw [zb_Reader_readNumberClause_0, zk_Reader_isNumber_0, if_pos i2, if_neg (by rw [y_i_le, q2]; show ¬ _ ≤ (5 : Int); omega), z_bi_v, zb_Reader_readNumberClause_4_15, if_pos (by decide), z_b1_0, z_gd_t]
  · rw [zpNum_1 c2]
    refine ⟨fun e he => ?_, fun tt v he => absurd he (by simp), fun tt v he => absurd he (by simp)⟩
    injection he with he
    subst he
    obtain ⟨f1, f2, f3⟩ := fJ 1 (by omega) (by omega)
    refine ⟨_, f1, f2, f3, en _ (fun M => ?_)⟩
    rw [zb_Reader_readNumberClause_0, zk_Reader_isNumber_0, if_neg (y_lit (by rw [k5]; exact c2) (by omega) (by omega)), z_bi_v, zb_Reader_readNumberClause_4_15, if_pos (by decide), z_b1_0, z_gd_t]
/-- one clause -/
theorem zC_cla_15 (X : ZX) (d m ce sl : Nat) (I : Nat → Nat → Int32) (L : Nat → Nat → Int64) (t r q : Nat) {F : Nat → Int} {N : Nat} (hN4 : N ≤ 400) {nst : Nat} (h72 : (I 7 2).toInt = nst) {tk : zTk} {S : List Int} {P : List zcl} {qq : zPq} (hA : zKA 15 F N tk S P qq I) {i : Nat} (hP : P.length ≤ i) (x1 : Int32) (hx : x1.toInt = i) :
    (∀ e, zpCla (zlx F N) nst i tk P qq = .inl e → ∃ J : Nat → Nat → Int32, zFrC 15 I J ∧ (J 7 10).toInt = e.1 ∧ (J 7 11).toInt = e.2 ∧ z_pu (z_run X z_cf z_ff (d + 82)) 63 [.ref 7, .int x1] (118, z_sd m, ce, sl, I, L, z_rr t 15 r q (z_gg m) (z_sf m)) = some (.inl (some (.int (Int32.ofInt 0))), (118, z_sd m, ce, sl, J, L, z_rr t 15 r q (z_gg m) (z_sf m)))) ∧
    (∀ tk' P' q', zpCla (zlx F N) nst i tk P qq = .inr (tk', P', q') → P'.length ≤ i + 1 ∧ ∃ (J : Nat → Nat → Int32) (S' : List Int), zFrC 15 I J ∧ J 7 10 = I 7 10 ∧ J 7 11 = I 7 11 ∧ zKA 15 F N tk' S' P' q' J ∧ z_pu (z_run X z_cf z_ff (d + 82)) 63 [.ref 7, .int x1] (118, z_sd m, ce, sl, I, L, z_rr t 15 r q (z_gg m) (z_sf m)) = some (.inl (some (.int (Int32.ofInt 1))), (118, z_sd m, ce, sl, J, L, z_rr t 15 r q (z_gg m) (z_sf m)))) := by
  have en : ∀ rr : ZR, (∀ M, z_loop X z_cf z_ff (z_pu (z_run X z_cf z_ff (d + 78 + 3))) 63 (M + 30) 0 [(0, .ref 7), (1, .int x1)] [] (118, z_sd m, ce, sl, I, L, z_rr t 15 r q (z_gg m) (z_sf m)) = rr) → z_pu (z_run X z_cf z_ff (d + 82)) 63 [.ref 7, .int x1] (118, z_sd m, ce, sl, I, L, z_rr t 15 r q (z_gg m) (z_sf m)) = rr := fun rr h => z_en X (d + 79) _ _ [(0, .ref 7), (1, .int x1)] _ _ rfl rfl rfl (h 99999970)
  have hB := hA.1
  have k5 : (I 7 5).toInt = tk.1 := hB.1.1
  have k6 : (I 7 6).toInt = tk.2.1 := hB.1.2.1
  have fJ : ∀ v : Int, -2147483648 ≤ v → v ≤ 2147483647 → zFrC 15 I (z_up (z_up I 7 10 (Int32.ofInt v)) 7 11 (I 7 6)) ∧ ((z_up (z_up I 7 10 (Int32.ofInt v)) 7 11 (I 7 6)) 7 10).toInt = v ∧ ((z_up (z_up I 7 10 (Int32.ofInt v)) 7 11 (I 7 6)) 7 11).toInt = tk.2.1 := fun v v1 v2 => ⟨zFrC_m (zFrm_f (by omega) I _ _), by rw [z_up_j _ _ _ _ _ (by omega), z_up_s]; exact y_oi v1 v2, by rw [z_up_s]; exact k6⟩
  have e114 : (Int32.ofInt 114).toInt = 114 := rfl
  have e118 : (Int32.ofInt 118).toInt = 118 := rfl
  by_cases c1 : 114 ≤ tk.1 ∧ tk.1 ≤ 118
  · have w1 : ¬ z_p_X_within (I 7 5) (Int32.ofInt 114) (Int32.ofInt 118) = 0 := by rw [y_wi0]; omega
    by_cases c12 : i < 12
    · have w2 : x1 < Int32.ofInt 12 := by rw [y_i_lt, hx]; show _ < (12 : Int); omega
      obtain ⟨J1, a1, a2, a3, a4⟩ := zC_tok X (d + 75) m ce sl I L t 15 r q hN4 hB (by omega)
      obtain ⟨n1, n2⟩ := zTO_nx (zlx_ok F N) hB.2.1 (by omega)
      have A1 := zKA_7 (tk' := zlx F N tk.2.2.1) (by omega) hA a1 a3 (by omega)
      have F1 : zFrC 15 I J1 := zFrC_7 a1 (fun j hj => a2 j (by omega))
      have j72 : (J1 7 2).toInt = nst := by rw [a2 2 (by omega)]; exact h72
      by_cases c114 : tk.1 = 114
      · have hC : zpCla (zlx F N) nst i tk P qq = match zpStd (zlx F N) nst (zlx F N tk.2.2.1) with
            | .inl e => .inl e
            | .inr (t, c) => if t.1 = 59 then .inr (zlx F N t.2.2.1, P ++ [c], qq) else .inl (1, t.2.1) := by
          unfold zpCla
          rw [if_pos c1, if_pos c12, if_pos c114]
          rfl
        obtain ⟨s1, s2, s3⟩ := zC_std_15 X d m ce sl J1 L t r q hN4 j72 A1 (by omega)
        have st : ∀ M, z_loop X z_cf z_ff (z_pu (z_run X z_cf z_ff (d + 78 + 3))) 63 (M + 30) 0 [(0, .ref 7), (1, .int x1)] [] (118, z_sd m, ce, sl, I, L, z_rr t 15 r q (z_gg m) (z_sf m)) = z_bi (z_x [] 45) (z_pu (z_run X z_cf z_ff (d + 78 + 3)) 65 [.ref 7] (118, z_sd m, ce, sl, J1, L, z_rr t 15 r q (z_gg m) (z_sf m))) (fun v w => z_loop X z_cf z_ff (z_pu (z_run X z_cf z_ff (d + 78 + 3))) 63 (M + 28) 48 [] [.int v] w) := by
          intro M
          rw [show M + 30 = (M + 28) + 2 by omega, zt_Reader_readClause_0, if_neg w1, if_pos w2, a4, z_b0_v, zb_Reader_readClause_38, if_pos (y_i_eq.mpr (by rw [k5, c114]; rfl))]
        cases hz : zpStd (zlx F N) nst (zlx F N tk.2.2.1) with
        | inl y0 =>
          rw [hz] at hC
          have hC' : zpCla (zlx F N) nst i tk P qq = .inl y0 := hC
          rw [hC']
          refine ⟨fun e he => ?_, fun tk' P' q' he => absurd he (by simp)⟩
          injection he with he
          subst he
          obtain ⟨J, b1, b2, b3, b4⟩ := s1 y0 hz
          exact ⟨J, zFrC_t F1 b1, b2, b3, en _ (fun M => by rw [st, b4, z_bi_v, zb_Reader_readClause_48, zb_Reader_readClause_56, z_b1_0, z_gd_t])⟩
        | inr y0 =>
          obtain ⟨tt, cc⟩ := y0
          rw [hz] at hC
          have hC' : zpCla (zlx F N) nst i tk P qq = if tt.1 = 59 then .inr (zlx F N tt.2.2.1, P ++ [cc], qq) else .inl (1, tt.2.1) := hC
          by_cases c59 : tt.1 = 59
          · rw [if_pos c59] at hC'
            rw [hC']
            refine ⟨fun e he => absurd he (by simp), fun tk' P' q' he => ?_⟩
            injection he with he
            injection he with u1 u2
            injection u2 with u2 u3
            subst u1
            subst u2
            subst u3
            obtain ⟨J, S', b1, b2, b3, b4, b5⟩ := s3 tt cc hz c59
            exact ⟨by rw [List.length_append]; show P.length + 1 ≤ i + 1; omega, J, S', zFrC_t F1 b1, by rw [b2, a2 10 (by omega)], by rw [b3, a2 11 (by omega)], b4, en _ (fun M => by rw [st, b5, z_bi_v, zb_Reader_readClause_48, zb_Reader_readClause_56, z_b1_1, z_gd_t])⟩
          · rw [if_neg c59] at hC'
            rw [hC']
            refine ⟨fun e he => ?_, fun tk' P' q' he => absurd he (by simp)⟩
            injection he with he
            subst he
            obtain ⟨J, b1, b2, b3, b4⟩ := s2 tt cc hz c59
            exact ⟨J, zFrC_t F1 b1, b2, b3, en _ (fun M => by rw [st, b4, z_bi_v, zb_Reader_readClause_48, zb_Reader_readClause_56, z_b1_0, z_gd_t])⟩
      · have hC : zpCla (zlx F N) nst i tk P qq = match zpNum (zlx F N) (if tk.1 = 115 then 9 else 99999) 2 (zlx F N tk.2.2.1) with
            | .inl e => .inl e
            | .inr (t, v) => if t.1 = 59 then .inr (zlx F N t.2.2.1, P, zsetp tk.1 v qq) else .inl (1, t.2.1) := by
          unfold zpCla
          rw [if_pos c1, if_pos c12, if_neg c114]
          rfl
        obtain ⟨s1, s2, s3⟩ := zC_num_15 X d m ce sl J1 L t r q hN4 A1 (k := tk.1) (by omega) c1.2 (I 7 5) k5
        have st : ∀ M, z_loop X z_cf z_ff (z_pu (z_run X z_cf z_ff (d + 78 + 3))) 63 (M + 30) 0 [(0, .ref 7), (1, .int x1)] [] (118, z_sd m, ce, sl, I, L, z_rr t 15 r q (z_gg m) (z_sf m)) = z_bi (z_x [] 53) (z_pu (z_run X z_cf z_ff (d + 78 + 3)) 79 [.ref 7, .int (I 7 5)] (118, z_sd m, ce, sl, J1, L, z_rr t 15 r q (z_gg m) (z_sf m))) (fun v w => z_loop X z_cf z_ff (z_pu (z_run X z_cf z_ff (d + 78 + 3))) 63 (M + 28) 56 [] [.int v] w) := by
          intro M
          rw [show M + 30 = (M + 28) + 2 by omega, zt_Reader_readClause_0, if_neg w1, if_pos w2, a4, z_b0_v, zb_Reader_readClause_38, if_neg (y_lit (by rw [k5]; exact c114) (by omega) (by omega))]
        cases hz : zpNum (zlx F N) (if tk.1 = 115 then 9 else 99999) 2 (zlx F N tk.2.2.1) with
        | inl y0 =>
          rw [hz] at hC
          have hC' : zpCla (zlx F N) nst i tk P qq = .inl y0 := hC
          rw [hC']
          refine ⟨fun e he => ?_, fun tk' P' q' he => absurd he (by simp)⟩
          injection he with he
          subst he
          obtain ⟨J, b1, b2, b3, b4⟩ := s1 y0 hz
          exact ⟨J, zFrC_t F1 b1, b2, b3, en _ (fun M => by rw [st, b4, z_bi_v, zb_Reader_readClause_56, z_b1_0, z_gd_t])⟩
        | inr y0 =>
          obtain ⟨tt, v⟩ := y0
          rw [hz] at hC
          have hC' : zpCla (zlx F N) nst i tk P qq = if tt.1 = 59 then .inr (zlx F N tt.2.2.1, P, zsetp tk.1 v qq) else .inl (1, tt.2.1) := hC
          by_cases c59 : tt.1 = 59
          · rw [if_pos c59] at hC'
            rw [hC']
            refine ⟨fun e he => absurd he (by simp), fun tk' P' q' he => ?_⟩
            injection he with he
            injection he with u1 u2
            injection u2 with u2 u3
            subst u1
            subst u2
            subst u3
            obtain ⟨J, b1, b2, b3, b4, b5⟩ := s3 tt v hz c59
            exact ⟨by omega, J, S, zFrC_t F1 b1, by rw [b2, a2 10 (by omega)], by rw [b3, a2 11 (by omega)], b4, en _ (fun M => by rw [st, b5, z_bi_v, zb_Reader_readClause_56, z_b1_1, z_gd_t])⟩
          · rw [if_neg c59] at hC'
            rw [hC']
            refine ⟨fun e he => ?_, fun tk' P' q' he => absurd he (by simp)⟩
            injection he with he
            subst he
            obtain ⟨J, b1, b2, b3, b4⟩ := s2 tt v hz c59
            exact ⟨J, zFrC_t F1 b1, b2, b3, en _ (fun M => by rw [st, b4, z_bi_v, zb_Reader_readClause_56, z_b1_0, z_gd_t])⟩
    · have hC : zpCla (zlx F N) nst i tk P qq = .inl (2, tk.2.1) := by
        unfold zpCla
        rw [if_pos c1, if_neg c12]
      rw [hC]
      refine ⟨fun e he => ?_, fun tk' P' q' he => absurd he (by simp)⟩
      injection he with he
      subst he
      obtain ⟨f1, f2, f3⟩ := fJ 2 (by omega) (by omega)
      refine ⟨_, f1, f2, f3, en _ (fun M => ?_)⟩
      rw [show M + 30 = (M + 28) + 2 by omega, zt_Reader_readClause_0, if_neg w1, if_neg (by rw [y_i_lt, hx]; show ¬ _ < (12 : Int); omega)]
  · have hC : zpCla (zlx F N) nst i tk P qq = .inl (1, tk.2.1) := by
      unfold zpCla
      rw [if_neg c1]
    rw [hC]
    refine ⟨fun e he => ?_, fun tk' P' q' he => absurd he (by simp)⟩
    injection he with he
    subst he
    obtain ⟨f1, f2, f3⟩ := fJ 1 (by omega) (by omega)
    refine ⟨_, f1, f2, f3, en _ (fun M => ?_)⟩
    rw [show M + 30 = (M + 28) + 2 by omega, zt_Reader_readClause_0, if_pos (by rw [y_wi0]; omega)]
/-- all clauses -/
theorem zC_all_15 (X : ZX) (d m ce sl : Nat) (I : Nat → Nat → Int32) (L : Nat → Nat → Int64) (r q : Nat) {F : Nat → Int} (hF : ∀ i, (I 6 i).toInt = F i) {N nst : Nat} (hN4 : N ≤ 400) (x1 x2 : Int32) (hx1 : x1.toInt = N) (hx2 : x2.toInt = nst) :
    (∀ e, zpAll (zlx F N) nst 13 0 (zlx F N 0) [] (0, 0, 99999, 99999) = .inl e → ∃ (J : Nat → Nat → Int32) (y : Int32), (∀ x, x ≠ 7 → x ≠ 15 → x ≠ 15 + 1 → (x < 15 + 3 ∨ 15 + 6 < x) → J x = I x) ∧ y.toInt = e.1 ∧ (J 7 11).toInt = e.2 ∧ z_pu (z_run X z_cf z_ff (d + 83)) 54 [.ref 7, .int x1, .int x2] (118, z_sd m, ce, sl, I, L, z_rr 8 15 r q (z_gg m) (z_sf m)) = some (.inl (some (.int y)), (118, z_sd m, ce, sl, J, L, z_rr 8 15 r q (z_gg m) (z_sf m)))) ∧
    (∀ P' q', zpAll (zlx F N) nst 13 0 (zlx F N 0) [] (0, 0, 99999, 99999) = .inr (P', q') → ∃ (J : Nat → Nat → Int32) (n : Nat), (∀ x, x ≠ 7 → x ≠ 15 → x ≠ 15 + 1 → (x < 15 + 3 ∨ 15 + 6 < x) → J x = I x) ∧ n ≤ 400 ∧ zPC 15 n J 0 P' ∧ (J 15 7).toInt = P'.length ∧ (J 15 8).toInt = q'.1 ∧ (J 15 9).toInt = q'.2.1 ∧ (J 15 10).toInt = q'.2.2.1 ∧ (J 15 11).toInt = q'.2.2.2 ∧ J 7 11 = Int32.ofInt (-1) ∧ z_pu (z_run X z_cf z_ff (d + 83)) 54 [.ref 7, .int x1, .int x2] (118, z_sd m, ce, sl, I, L, z_rr 8 15 r q (z_gg m) (z_sf m)) = some (.inl (some (.int (Int32.ofInt 0))), (118, z_sd m, ce, sl, J, L, z_rr 15 8 r q (z_gg m) (z_sf m)))) := by
  have lp : ∀ (f i : Nat) (x4 : Int32) (tk : zTk) (S : List Int) (P : List zcl) (qq : zPq) (K : Nat → Nat → Int32), i + f = 13 → x4.toInt = i → zKA 15 F N tk S P qq K → P.length ≤ i → (K 7 2).toInt = nst → K 7 10 = Int32.ofInt 0 → K 7 11 = Int32.ofInt (-1) →
      (∀ e, zpAll (zlx F N) nst f i tk P qq = .inl e → ∃ (J : Nat → Nat → Int32), zFrC 15 K J ∧ (J 7 10).toInt = e.1 ∧ (J 7 11).toInt = e.2 ∧ ∀ M, z_loop X z_cf z_ff (z_pu (z_run X z_cf z_ff (d + 82))) 54 (M + 2 * f + 3) 49 [(0, .ref 7), (3, .int (Int32.ofInt 1)), (4, .int x4)] [] (118, z_sd m, ce, sl, K, L, z_rr 8 15 r q (z_gg m) (z_sf m)) = some (.inl (some (.int (J 7 10))), (118, z_sd m, ce, sl, J, L, z_rr 8 15 r q (z_gg m) (z_sf m)))) ∧
      (∀ P' q', zpAll (zlx F N) nst f i tk P qq = .inr (P', q') → ∃ (J : Nat → Nat → Int32) (S' : List Int) (tk' : zTk), zFrC 15 K J ∧ zKA 15 F N tk' S' P' q' J ∧ J 7 10 = Int32.ofInt 0 ∧ J 7 11 = Int32.ofInt (-1) ∧ ∀ M, z_loop X z_cf z_ff (z_pu (z_run X z_cf z_ff (d + 82))) 54 (M + 2 * f + 3) 49 [(0, .ref 7), (3, .int (Int32.ofInt 1)), (4, .int x4)] [] (118, z_sd m, ce, sl, K, L, z_rr 8 15 r q (z_gg m) (z_sf m)) = some (.inl (some (.int (Int32.ofInt 0))), (118, z_sd m, ce, sl, J, L, z_rr 15 8 r q (z_gg m) (z_sf m)))) := by
    intro f
    have fin : ∀ (x4 : Int32) (tk : zTk) (S : List Int) (P : List zcl) (qq : zPq) (K : Nat → Nat → Int32) (f : Nat), zKA 15 F N tk S P qq K → K 7 10 = Int32.ofInt 0 → K 7 11 = Int32.ofInt (-1) → (Int32.ofInt 12 < x4 ∨ tk.1 = 0) →
        (∀ e, (.inr (P, qq) : zFl ⊕ (List zcl × zPq)) = .inl e → ∃ (J : Nat → Nat → Int32), zFrC 15 K J ∧ (J 7 10).toInt = e.1 ∧ (J 7 11).toInt = e.2 ∧ ∀ M, z_loop X z_cf z_ff (z_pu (z_run X z_cf z_ff (d + 82))) 54 (M + 2 * f + 3) 49 [(0, .ref 7), (3, .int (Int32.ofInt 1)), (4, .int x4)] [] (118, z_sd m, ce, sl, K, L, z_rr 8 15 r q (z_gg m) (z_sf m)) = some (.inl (some (.int (J 7 10))), (118, z_sd m, ce, sl, J, L, z_rr 8 15 r q (z_gg m) (z_sf m)))) ∧
        (∀ P' q', (.inr (P, qq) : zFl ⊕ (List zcl × zPq)) = .inr (P', q') → ∃ (J : Nat → Nat → Int32) (S' : List Int) (tk' : zTk), zFrC 15 K J ∧ zKA 15 F N tk' S' P' q' J ∧ J 7 10 = Int32.ofInt 0 ∧ J 7 11 = Int32.ofInt (-1) ∧ ∀ M, z_loop X z_cf z_ff (z_pu (z_run X z_cf z_ff (d + 82))) 54 (M + 2 * f + 3) 49 [(0, .ref 7), (3, .int (Int32.ofInt 1)), (4, .int x4)] [] (118, z_sd m, ce, sl, K, L, z_rr 8 15 r q (z_gg m) (z_sf m)) = some (.inl (some (.int (Int32.ofInt 0))), (118, z_sd m, ce, sl, J, L, z_rr 15 8 r q (z_gg m) (z_sf m)))) := by
      intro x4 tk S P qq K f h1 h2 h3 h4
      refine ⟨fun e he => absurd he (by simp), fun P' q' he => ?_⟩
      injection he with he
      injection he with u1 u2
      subst u1
      subst u2
      refine ⟨K, S, tk, ⟨fun _ _ _ _ _ => rfl, fun _ _ => rfl⟩, h1, h2, h3, fun M => ?_⟩
      rw [show M + 2 * f + 3 = (M + 2 * f + 2) + 1 by omega, zb_Reader_readRules_49_8_15, if_neg (show ¬ (Int32.ofInt 1 : Int32) = 0 by decide), if_neg (show ¬ (Int32.ofInt 1 : Int32) = 0 by decide), z_sheets, h2]
      by_cases c : Int32.ofInt 12 < x4
      · rw [if_pos c]
      · rw [if_neg c]
        have c0 : tk.1 = 0 := by
          rcases h4 with h4 | h4
          · exact absurd h4 c
          · exact h4
        rw [if_pos (show K 7 5 = 0 by rw [y_i_eq, h1.1.1.1, c0]; rfl)]
    induction f with
    | zero =>
      intro i x4 tk S P qq K g1 g2 g3 g4 g5 g6 g7
      exact fin x4 tk S P qq K 0 g3 g6 g7 (Or.inl (by rw [y_i_lt, g2]; show (12 : Int) < _; omega))
    | succ f ih =>
      intro i x4 tk S P qq K g1 g2 g3 g4 g5 g6 g7
      by_cases c0 : tk.1 = 0
      · have hA : zpAll (zlx F N) nst (f + 1) i tk P qq = .inr (P, qq) := if_pos c0
        rw [hA]
        exact fin x4 tk S P qq K (f + 1) g3 g6 g7 (Or.inr c0)
      · have hA : zpAll (zlx F N) nst (f + 1) i tk P qq = match zpCla (zlx F N) nst i tk P qq with
            | .inl e => .inl e
            | .inr (tk', P', q') => zpAll (zlx F N) nst f (i + 1) tk' P' q' := by
          show (if tk.1 = 0 then _ else _) = _
          rw [if_neg c0]
          rfl
        obtain ⟨s1, s2⟩ := zC_cla_15 X d m ce sl K L 8 r q hN4 g5 g3 g4 x4 g2
        have n12 : ¬ Int32.ofInt 12 < x4 := by rw [y_i_lt, g2]; show ¬ (12 : Int) < _; omega
        have nt : ¬ K 7 5 = 0 := by
          rw [y_i_eq, g3.1.1.1]
          exact c0
        cases hz : zpCla (zlx F N) nst i tk P qq with
        | inl y0 =>
          rw [hz] at hA
          have hA' : zpAll (zlx F N) nst (f + 1) i tk P qq = .inl y0 := hA
          rw [hA']
          refine ⟨fun e he => ?_, fun P' q' he => absurd he (by simp)⟩
          injection he with he
          subst he
          obtain ⟨J, b1, b2, b3, b4⟩ := s1 y0 hz
          refine ⟨J, b1, b2, b3, fun M => ?_⟩
          rw [show M + 2 * (f + 1) + 3 = (M + 2 * f + 2) + 1 + 1 + 1 by omega, zb_Reader_readRules_49_8_15, if_neg n12, if_neg (show ¬ (Int32.ofInt 1 : Int32) = 0 by decide), if_neg nt, b4, z_bi_v, zb_Reader_readRules_73, zb_Reader_readRules_49_8_15, if_pos (show (Int32.ofInt 0 : Int32) = 0 by decide), if_pos (show (Int32.ofInt 0 : Int32) = 0 by decide)]
          split <;> rfl
        | inr y0 =>
          obtain ⟨tk2, P2, q2⟩ := y0
          rw [hz] at hA
          have hA' : zpAll (zlx F N) nst (f + 1) i tk P qq = zpAll (zlx F N) nst f (i + 1) tk2 P2 q2 := hA
          rw [hA']
          obtain ⟨b0, J, S', b1, b2, b3, b4, b5⟩ := s2 tk2 P2 q2 hz
          obtain ⟨m1, m2⟩ := ih (i + 1) (x4 + Int32.ofInt 1) tk2 S' P2 q2 J (by omega) (by rw [y_adl (by omega) (by omega) (by omega) (by omega)]; omega) b4 b0 (by rw [b1.2 2 (by omega)]; exact g5) (by rw [b2, g6]) (by rw [b3, g7])
          have st : ∀ M, z_loop X z_cf z_ff (z_pu (z_run X z_cf z_ff (d + 82))) 54 (M + 2 * (f + 1) + 3) 49 [(0, .ref 7), (3, .int (Int32.ofInt 1)), (4, .int x4)] [] (118, z_sd m, ce, sl, K, L, z_rr 8 15 r q (z_gg m) (z_sf m)) = z_loop X z_cf z_ff (z_pu (z_run X z_cf z_ff (d + 82))) 54 (M + 2 * f + 3) 49 [(0, .ref 7), (3, .int (Int32.ofInt 1)), (4, .int (x4 + Int32.ofInt 1))] [] (118, z_sd m, ce, sl, J, L, z_rr 8 15 r q (z_gg m) (z_sf m)) := by
            intro M
            rw [show M + 2 * (f + 1) + 3 = (M + 2 * f + 3) + 1 + 1 by omega, zb_Reader_readRules_49_8_15, if_neg n12, if_neg (show ¬ (Int32.ofInt 1 : Int32) = 0 by decide), if_neg nt, b5, z_bi_v, zb_Reader_readRules_73]
          refine ⟨fun e he => ?_, fun P' q' he => ?_⟩
          · obtain ⟨J2, d1, d2, d3, d4⟩ := m1 e he
            exact ⟨J2, zFrC_t b1 d1, d2, d3, fun M => by rw [st, d4]⟩
          · obtain ⟨J2, S2, tk3, d1, d2, d3, d4, d5⟩ := m2 P' q' he
            exact ⟨J2, S2, tk3, zFrC_t b1 d1, d2, d3, d4, fun M => by rw [st, d5]⟩
  have k1 : (z_mni x1 (Int32.ofNat 400)).toInt = N := by
    rw [y_mni, hx1, y_on (by omega)]
    omega
  have f0 : ∀ x, x ≠ 7 → x ≠ 15 → (z_up (z_up (z_up (z_up (z_up (z_up (z_up (z_up (z_up (z_up (z_up I 7 1 (z_mni x1 (Int32.ofNat 400))) 7 2 x2) 15 1 (Int32.ofInt 0)) 15 7 (Int32.ofInt 0)) 15 8 (Int32.ofInt 0)) 15 9 (Int32.ofInt 0)) 15 10 (Int32.ofInt 99999)) 15 11 (Int32.ofInt 99999)) 7 10 (Int32.ofInt 0)) 7 11 (Int32.ofInt (-1))) 7 7 (Int32.ofInt 0)) x = I x := fun x h1 h2 => by rw [z_up_r _ _ _ _ _ h1, z_up_r _ _ _ _ _ h1, z_up_r _ _ _ _ _ h1, z_up_r _ _ _ _ _ h2, z_up_r _ _ _ _ _ h2, z_up_r _ _ _ _ _ h2, z_up_r _ _ _ _ _ h2, z_up_r _ _ _ _ _ h2, z_up_r _ _ _ _ _ h2, z_up_r _ _ _ _ _ h1, z_up_r _ _ _ _ _ h1]
  generalize hK : (z_up (z_up (z_up (z_up (z_up (z_up (z_up (z_up (z_up (z_up (z_up I 7 1 (z_mni x1 (Int32.ofNat 400))) 7 2 x2) 15 1 (Int32.ofInt 0)) 15 7 (Int32.ofInt 0)) 15 8 (Int32.ofInt 0)) 15 9 (Int32.ofInt 0)) 15 10 (Int32.ofInt 99999)) 15 11 (Int32.ofInt 99999)) 7 10 (Int32.ofInt 0)) 7 11 (Int32.ofInt (-1))) 7 7 (Int32.ofInt 0)) = K0 at f0
  have v71 : (K0 7 1).toInt = N := by rw [← hK]; exact k1
  have v72 : (K0 7 2).toInt = nst := by rw [← hK]; exact hx2
  have v77 : (K0 7 7).toInt = (0 : Nat) := by rw [← hK]; rfl
  have v710 : K0 7 10 = Int32.ofInt 0 := by rw [← hK]
  have v711 : K0 7 11 = Int32.ofInt (-1) := by rw [← hK]
  have vD1 : K0 15 1 = Int32.ofInt 0 := by rw [← hK]
  have vD7 : K0 15 7 = Int32.ofInt 0 := by rw [← hK]
  have vD8 : K0 15 8 = Int32.ofInt 0 := by rw [← hK]
  have vD9 : K0 15 9 = Int32.ofInt 0 := by rw [← hK]
  have vD10 : K0 15 10 = Int32.ofInt 99999 := by rw [← hK]
  have vD11 : K0 15 11 = Int32.ofInt 99999 := by rw [← hK]
  obtain ⟨J0, j1, j2, j3, j4⟩ := zr_readToken X (d + 76) (z_sd m) ce sl K0 L 8 15 r q (z_gg m) (z_sf m) (F := F) (fun i => by rw [f0 6 (by omega) (by omega)]; exact hF i) v71 hN4 (Nat.zero_le N) v77
  have hO := (zlx_ok F N 0 (Nat.zero_le N)).1
  have A0 : zKA 15 F N (zlx F N 0) [] [] (0, 0, 99999, 99999) J0 := by
    refine ⟨⟨j3, hO, by rw [j2 1 (by omega)]; exact v71, fun i => by rw [j1 6 (by omega), f0 6 (by omega) (by omega)]; exact hF i⟩, ⟨by rw [j1 15 (by omega), vD1]; rfl, fun j hj => absurd hj (by show ¬ j < 0; omega)⟩, Nat.zero_le _, trivial, by rw [j1 15 (by omega), vD7]; rfl, by rw [j1 15 (by omega), vD8]; rfl, by rw [j1 15 (by omega), vD9]; rfl, by rw [j1 15 (by omega), vD10]; rfl, by rw [j1 15 (by omega), vD11]; rfl⟩
  obtain ⟨m1, m2⟩ := lp 13 0 (Int32.ofInt 0) (zlx F N 0) [] [] (0, 0, 99999, 99999) J0 rfl rfl A0 (Nat.le_refl _) (by rw [j2 2 (by omega)]; exact v72) (by rw [j2 10 (by omega)]; exact v710) (by rw [j2 11 (by omega)]; exact v711)
  have en : ∀ rr : ZR, (∀ M, z_loop X z_cf z_ff (z_pu (z_run X z_cf z_ff (d + 82))) 54 (M + 2 * 13 + 3) 49 [(0, .ref 7), (3, .int (Int32.ofInt 1)), (4, .int (Int32.ofInt 0))] [] (118, z_sd m, ce, sl, J0, L, z_rr 8 15 r q (z_gg m) (z_sf m)) = rr) → z_pu (z_run X z_cf z_ff (d + 83)) 54 [.ref 7, .int x1, .int x2] (118, z_sd m, ce, sl, I, L, z_rr 8 15 r q (z_gg m) (z_sf m)) = rr := by
    intro rr h
    refine z_en X (d + 80) _ _ [(0, .ref 7), (1, .int x1), (2, .int x2)] _ _ rfl rfl rfl ?_
    rw [show (100000000 : Nat) = (99999968 + 2 * 13 + 3) + 1 + 1 + 1 by omega, zb_Reader_readRules_0_15, zk_Rules_clear_15_0 X (d + 79), z_b0_v, zb_Reader_readRules_25, hK, j4, z_b0_v, zb_Reader_readRules_44, h]
  have fr : ∀ J, zFrC 15 J0 J → ∀ x, x ≠ 7 → x ≠ 15 → x ≠ 15 + 1 → (x < 15 + 3 ∨ 15 + 6 < x) → J x = I x := fun J hJ x h1 h2 h3 h4 => by rw [hJ.1 x h1 h2 h3 h4, j1 x h1, f0 x h1 h2]
  refine ⟨fun e he => ?_, fun P' q' he => ?_⟩
  · obtain ⟨J, d1, d2, d3, d4⟩ := m1 e he
    exact ⟨J, J 7 10, fr J d1, d2, d3, en _ d4⟩
  · obtain ⟨J, S', tk', d1, d2, d3, d4, d5⟩ := m2 P' q' he
    obtain ⟨a1, a2, a3, a4, a5, a6, a7, a8, a9⟩ := d2
    have := a1.2.1.1
    exact ⟨J, S'.length, fr J d1, by omega, a4, a5, a6, a7, a8, a9, d4, en _ d5⟩
