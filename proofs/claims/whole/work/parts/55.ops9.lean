/-! CALLS, 9: coil, known -/
theorem zo_coil (X : ZX) (d m ce sl : Nat) (I : Nat → Nat → Int32) (L : Nat → Nat → Int64) (t u r q : Nat) : ∃ w1 w2 : ZW, z_pu (z_run X z_cf z_ff (d + 200)) 127 [.ref 0] (118, z_sd m, ce, sl, I, L, z_rr t u r q (z_gg m) (z_sf m)) = some (.inl none, w1) ∧ z_pu (z_run X z_cf z_ff (d + 200)) 206 [.ref 55] w1 = some (.inl none, w2) ∧ zQ m t u r q ce sl I L [22, 25] [42, 48] (fun J => (J 22 2 = Int32.ofInt 0 ∧ J 55 42 = Int32.ofInt 0) ∧ zg_U m J ∧ zFs I J) w2 := by
  refine ⟨_, _, zk_X_coil_0 X (d + 196) m ce sl I L t u r q, zk_M_coil_0 X (d + 197) m ce sl _ L t u r q, ⟨ce, sl, _, L, rfl, by omega, by omega, ⟨?_, ?_⟩, fun _ _ => rfl, ⟨rfl, rfl⟩, zg_U_no rfl rfl, ?_⟩⟩
  · intro a a1 a2 a3
    simp only [List.mem_cons, List.not_mem_nil, or_false, not_or] at a3
    rw [z_up_r _ _ _ _ _ (by omega), z_up_r _ _ _ _ _ (by omega), z_up_r _ _ _ _ _ (by omega), z_up_r _ _ _ _ _ (by omega), z_up_r _ _ _ _ _ (by omega)]
  · intro j j1 j2
    simp only [List.mem_cons, List.not_mem_nil, or_false, not_or] at j2
    rw [z_up_j _ _ _ _ _ (by omega), z_up_j _ _ _ _ _ (by omega), z_up_j _ _ _ _ _ (by omega), z_up_rj _ _ _ _ _ _ (by omega), z_up_rj _ _ _ _ _ _ (by omega)]
  · intro k _
    have hge := z_sd_ge k
    rw [z_up_r _ _ _ _ _ (by omega), z_up_r _ _ _ _ _ (by omega), z_up_r _ _ _ _ _ (by omega), z_up_r _ _ _ _ _ (by omega), z_up_r _ _ _ _ _ (by omega)]
/-- a row filled: what fills the first so many places -/
theorem zr_fill54 (X : ZX) (call : ZC) (n0 ce sl : Nat) (L : Nat → Nat → Int64) (t u r q g : Nat) (st : Nat → Option Nat) (v : Int32) (n : Nat) : ∀ (I : Nat → Nat → Int32) (i M : Nat), i + n = 40 → n < M →
    ∃ J : Nat → Nat → Int32, z_loop X z_cf z_ff (z_pu call) 18 M 5 [(0, .ref 54), (1, .int v), (2, .int (Int32.ofNat i)), (3, .int (Int32.ofNat 40))] [] (118, n0, ce, sl, I, L, z_rr t u r q g st) = some (.inl none, (118, n0, ce, sl, J, L, z_rr t u r q g st)) ∧ (∀ a, a ≠ 54 → J a = I a) ∧ (∀ j, j < 40 → J 54 j = if j < i then I 54 j else v) := by
  induction n with
  | zero =>
    intro I i M h1 h2
    obtain ⟨M, rfl⟩ : ∃ N, M = N + 1 := ⟨M - 1, by omega⟩
    refine ⟨I, ?_, fun _ _ => rfl, fun j hj => by rw [if_pos (by omega)]⟩
    rw [zb_Arrays_fill2_54_5, if_pos (by rw [y_i_le, y_on (by omega), y_on (by omega)]; omega)]
  | succ n ih =>
    intro I i M h1 h2
    obtain ⟨M, rfl⟩ : ∃ N, M = N + 1 := ⟨M - 1, by omega⟩
    obtain ⟨J, g1, g2, g3⟩ := ih (z_up I 54 i v) (i + 1) M (by omega) (by omega)
    refine ⟨J, ?_, ?_, ?_⟩
    · rw [zb_Arrays_fill2_54_5, if_neg (by rw [y_i_le, y_on (by omega), y_on (by omega)]; omega), z_in_n (by omega) (by omega), z_gd_t, z_onn (by omega), z_ofa (by omega), g1]
    · intro a ha
      rw [g2 a ha, z_up_r _ _ _ _ _ ha]
    · intro j hj
      rw [g3 j hj, y_at]
      by_cases h3 : j < i
      · rw [if_pos (by omega), if_neg (by omega), if_pos h3]
      · rw [if_neg h3]
        by_cases h4 : j = i
        · rw [if_pos (by omega), if_pos h4]
        · rw [if_neg (by omega)]
/-- is a reading known on an evening? -/
def zhit (I : Nat → Nat → Int32) (a0 a3 a4 : Nat) (c ev : Int32) (i : Nat) : Prop := I a0 i = c ∧ ¬ ev < I a3 i ∧ (I a4 i = Int32.ofInt (-1) ∨ ev < I a4 i)
/-- the rows of class and model, place by place -/
def zkn (F G : Nat → Int32) : Prop := ∀ j, j < 40 → (F j = Int32.ofInt 0 ∧ G j = Int32.ofInt (-1)) ∨ (F j = G j ∧ 1 ≤ (F j).toInt ∧ (F j).toInt ≤ 60000)
theorem zr_recall (X : ZX) (call : ZC) (n0 ce sl : Nat) (L : Nat → Nat → Int64) (t u r q g : Nat) (st : Nat → Option Nat) (c ev : Int32) {N : Nat} (hN : N ≤ 100) (n : Nat) : ∀ (I : Nat → Nat → Int32) (i M : Nat), (I 48 6).toInt = N → (∀ k : Nat, k < N → 0 ≤ (I 50 k).toInt ∧ (I 50 k).toInt ≤ 39) → i + n = N → n < M →
    ∃ J : Nat → Nat → Int32, z_loop X z_cf z_ff (z_pu call) 112 M 10 [(0, .ref 48), (1, .int c), (2, .int ev), (3, .int (Int32.ofNat i))] [] (118, n0, ce, sl, I, L, z_rr t u r q g st) = some (.inl none, (118, n0, ce, sl, J, L, z_rr t u r q g st)) ∧ (∀ a, a ≠ 54 → J a = I a) ∧
      (∀ (K : Nat → Nat → Int32) (M2 : Nat) (a b e x6 : Int32) (n2 ce2 sl2 : Nat) (L2 : Nat → Nat → Int64) (call2 : ZC) (t2 u2 r2 q2 g2 : Nat) (st2 : Nat → Option Nat), n < M2 → (K 55 90).toInt = N → K 111 = I 49 → K 112 = I 50 → K 113 = I 51 → K 114 = I 52 → K 115 = I 53 → (∀ k : Nat, k < N → 1 ≤ (I 51 k).toInt ∧ (I 51 k).toInt ≤ 60000) → zkn (I 54) (K 116) →
        ∃ (K2 : Nat → Nat → Int32) (M3 : Nat), M3 + n = M2 ∧ z_loop X z_cf z_ff (z_pu call2) 250 M2 97 [(0, .ref 55), (1, .int c), (2, .int a), (3, .int b), (4, .int e), (5, .int ev), (6, .int (Int32.ofNat i))] [] (118, n2, ce2, sl2, K, L2, z_rr t2 u2 r2 q2 g2 st2) = z_loop X z_cf z_ff (z_pu call2) 250 M3 97 [(0, .ref 55), (1, .int c), (2, .int a), (3, .int b), (4, .int e), (5, .int ev), (6, .int (Int32.ofNat N))] [] (118, n2, ce2, sl2, K2, L2, z_rr t2 u2 r2 q2 g2 st2) ∧ (∀ a, a ≠ 116 → K2 a = K a) ∧ zkn (J 54) (K2 116)) := by
  induction n with
  | zero =>
    intro I i M h0 hp h1 h2
    obtain ⟨M, rfl⟩ : ∃ N, M = N + 1 := ⟨M - 1, by omega⟩
    refine ⟨I, ?_, fun _ _ => rfl, ?_⟩
    · rw [zb_Readings_recall_10, if_pos (by rw [y_i_le, h0, y_on (by omega)]; omega)]
    · intro K M2 a b e x6 n2 ce2 sl2 L2 call2 t2 u2 r2 q2 g2 st2 _ _ _ _ _ _ _ _ hz
      have hi : i = N := by omega
      rw [hi]
      exact ⟨K, M2, rfl, rfl, fun _ _ => rfl, hz⟩
  | succ n ih =>
    intro I i M h0 hp h1 h2
    obtain ⟨M, rfl⟩ : ∃ N, M = N + 1 := ⟨M - 1, by omega⟩
    have hpi := hp i (by omega)
    have hin : z_in (Int32.ofNat i) 100 = true := z_in_n (by omega) (by omega)
    have hoi : (Int32.ofNat i).toNatClampNeg = i := z_onn (by omega)
    have hlt : ¬ I 48 6 ≤ Int32.ofNat i := by rw [y_i_le, h0, y_on (by omega)]; omega
    have hpl : z_in (I 50 i) 40 = true := y_in_t (by omega) (by omega)
    by_cases hh : zhit I 49 52 53 c ev i
    · obtain ⟨b1, b2, b3⟩ := hh
      obtain ⟨J, g1, g2, g3⟩ := ih (z_up I 54 (I 50 i).toNatClampNeg (I 51 i)) (i + 1) M h0 hp (by omega) (by omega)
      refine ⟨J, ?_, ?_, ?_⟩
      · rw [zb_Readings_recall_10, if_neg hlt, hin, z_gd_t, hoi, z_ofa (by omega)]
        have fin : (z_gd true (z_gd true (z_gd (z_in (I 50 i) 40) (z_loop X z_cf z_ff (z_pu call) 112 M 10 [(0, .ref 48), (1, .int c), (2, .int ev), (3, .int (Int32.ofNat (i + 1)))] [] (118, n0, ce, sl, (z_up I 54 ((I 50 i).toNatClampNeg) (I 51 i)), L, (z_rr t u r q g st)))))) = some (.inl none, (118, n0, ce, sl, J, L, z_rr t u r q g st)) := by
          rw [z_gd_t, z_gd_t, hpl, z_gd_t, g1]
        by_cases b4 : I 53 i = Int32.ofInt (-1)
        · rw [if_pos b4, z_gd_t, if_pos b1, z_gd_t, if_neg b2, if_pos rfl]
          exact fin
        · rw [if_neg b4, z_gd_t, if_pos (b3.resolve_left b4), z_gd_t, if_pos b1, z_gd_t, if_neg b2, if_pos rfl]
          exact fin
      · intro a ha
        rw [g2 a ha, z_up_r _ _ _ _ _ ha]
      · intro K M2 a b e x6 n2 ce2 sl2 L2 call2 t2 u2 r2 q2 gg2 st2 k0 k1 k2 k3 k4 k5 k6 k7 hz
        obtain ⟨M2, rfl⟩ : ∃ N, M2 = N + 1 := ⟨M2 - 1, by omega⟩
        have hz2 : zkn ((z_up I 54 (I 50 i).toNatClampNeg (I 51 i)) 54) ((z_up K 116 (I 50 i).toNatClampNeg (I 51 i)) 116) := by
          intro j hj
          rw [y_at, y_at]
          by_cases hj2 : j = (I 50 i).toNatClampNeg
          · rw [if_pos hj2, if_pos hj2]
            exact Or.inr ⟨rfl, k7 i (by omega)⟩
          · rw [if_neg hj2, if_neg hj2]
            exact hz j hj
        obtain ⟨K2, M3, g4, g5, g6, g7⟩ := g3 (z_up K 116 (I 50 i).toNatClampNeg (I 51 i)) M2 a b e x6 n2 ce2 sl2 L2 call2 t2 u2 r2 q2 gg2 st2 (by omega) k1 k2 k3 k4 k5 k6 k7 hz2
        refine ⟨K2, M3, by omega, ?_, ?_, g7⟩
        · rw [zb_M_known_97, if_neg (by rw [y_i_le, k1, y_on (by omega)]; omega), hin, z_gd_t, hoi, z_ofa (by omega), k2, if_pos b1, k5, if_neg b2, k6, k3, k4]
          have fin : (z_gd true (z_gd true (z_gd (z_in (I 50 i) 40) (z_loop X z_cf z_ff (z_pu call2) 250 M2 97 [(0, .ref 55), (1, .int c), (2, .int a), (3, .int b), (4, .int e), (5, .int ev), (6, .int (Int32.ofNat (i + 1)))] [] (118, n2, ce2, sl2, (z_up K 116 ((I 50 i).toNatClampNeg) (I 51 i)), L2, (z_rr t2 u2 r2 q2 gg2 st2)))))) = z_loop X z_cf z_ff (z_pu call2) 250 M3 97 [(0, .ref 55), (1, .int c), (2, .int a), (3, .int b), (4, .int e), (5, .int ev), (6, .int (Int32.ofNat N))] [] (118, n2, ce2, sl2, K2, L2, z_rr t2 u2 r2 q2 gg2 st2) := by
            rw [z_gd_t, z_gd_t, hpl, z_gd_t, g5]
          by_cases b4 : I 53 i = Int32.ofInt (-1)
          · rw [z_gd_t, z_gd_t, if_pos b4]
            exact fin
          · have b5 : ¬ I 53 i ≤ ev := by
              have := b3.resolve_left b4
              rw [y_i_lt] at this
              rw [y_i_le]
              omega
            rw [z_gd_t, z_gd_t, if_neg b4, z_gd_t, if_neg b5]
            exact fin
        · intro x hx
          rw [g6 x hx, z_up_r _ _ _ _ _ hx]
    · obtain ⟨J, g1, g2, g3⟩ := ih I (i + 1) M h0 hp (by omega) (by omega)
      refine ⟨J, ?_, g2, ?_⟩
      · rw [zb_Readings_recall_10, if_neg hlt, hin, z_gd_t, hoi, z_ofa (by omega)]
        by_cases b4 : I 53 i = Int32.ofInt (-1)
        · rw [if_pos b4, z_gd_t]
          by_cases b1 : I 49 i = c
          · rw [if_pos b1, z_gd_t]
            have b2 : ev < I 52 i := by
              by_cases b2 : ev < I 52 i
              · exact b2
              · exact absurd ⟨b1, b2, Or.inl b4⟩ hh
            rw [if_pos b2, g1]
          · rw [if_neg b1, g1]
        · rw [if_neg b4, z_gd_t]
          by_cases b3 : ev < I 53 i
          · rw [if_pos b3, z_gd_t]
            by_cases b1 : I 49 i = c
            · rw [if_pos b1, z_gd_t]
              have b2 : ev < I 52 i := by
                by_cases b2 : ev < I 52 i
                · exact b2
                · exact absurd ⟨b1, b2, Or.inr b3⟩ hh
              rw [if_pos b2, g1]
            · rw [if_neg b1, g1]
          · rw [if_neg b3, z_gd_t]
            by_cases b1 : I 49 i = c
            · rw [if_pos b1, z_gd_t]
              by_cases b2 : ev < I 52 i
              · rw [if_pos b2, g1]
              · rw [if_neg b2, if_neg (by decide), g1]
            · rw [if_neg b1, g1]
      · intro K M2 a b e x6 n2 ce2 sl2 L2 call2 t2 u2 r2 q2 gg2 st2 k0 k1 k2 k3 k4 k5 k6 k7 hz
        obtain ⟨M2, rfl⟩ : ∃ N, M2 = N + 1 := ⟨M2 - 1, by omega⟩
        obtain ⟨K2, M3, g4, g5, g6, g7⟩ := g3 K M2 a b e x6 n2 ce2 sl2 L2 call2 t2 u2 r2 q2 gg2 st2 (by omega) k1 k2 k3 k4 k5 k6 k7 hz
        refine ⟨K2, M3, by omega, ?_, g6, g7⟩
        rw [zb_M_known_97, if_neg (by rw [y_i_le, k1, y_on (by omega)]; omega), hin, z_gd_t, hoi, z_ofa (by omega), k2]
        by_cases b1 : I 49 i = c
        · rw [if_pos b1, z_gd_t, k5]
          by_cases b2 : ev < I 52 i
          · rw [if_pos b2, g5]
          · rw [if_neg b2, z_gd_t, k6]
            have b4 : ¬ I 53 i = Int32.ofInt (-1) := fun b4 => hh ⟨b1, b2, Or.inl b4⟩
            have b5 : I 53 i ≤ ev := by
              by_cases b5 : ev < I 53 i
              · exact absurd ⟨b1, b2, Or.inr b5⟩ hh
              · rw [y_i_lt] at b5
                rw [y_i_le]
                omega
            rw [if_neg b4, z_gd_t, if_pos b5, g5]
        · rw [if_neg b1, g5]
