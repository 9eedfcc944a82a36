/-! CALLS, 9: coil, known -/
theorem zo_coil (X : ZX) (d m ce sl : Nat) (I : Nat → Nat → Int32) (L : Nat → Nat → Int64) (t u r q : Nat) : ∃ w1 w2 : ZW, z_pu (z_run X z_cf z_ff (d + 200)) 127 [.ref 0] (118, z_sd m, ce, sl, I, L, z_rr t u r q (z_gg m) (z_sf m)) = some (.inl none, w1) ∧ z_pu (z_run X z_cf z_ff (d + 200)) 206 [.ref 55] w1 = some (.inl none, w2) ∧ zQ m t u r q ce sl I L [22, 25] [42, 48] (fun J => (J 22 2 = Int32.ofInt 0 ∧ J 55 42 = Int32.ofInt 0) ∧ zg_U m J ∧ zFs I J) w2 := by
  refine ⟨_, _, zk_X_coil_0 X (d + 196) m ce sl I L t u r q, zk_M_coil_0 X (d + 197) m ce sl _ L t u r q, ⟨ce, sl, _, L, rfl, by omega, by omega, ⟨?_, ?_⟩, fun _ _ => rfl, ⟨rfl, rfl⟩, zg_U_no rfl rfl, ?_⟩⟩
  · intro a a1 a2 a3
    simp only [List.mem_cons, List.not_mem_nil, or_false, not_or] at a3
    rw [z_up_r _ _ _ _ _ (by omega), z_up_r _ _ _ _ _ (by omega), z_up_r _ _ _ _ _ (by omega), z_up_r _ _ _ _ _ (by omega), z_up_r _ _ _ _ _ (by omega)]
  · intro j j1 j2
    simp only [List.mem_cons, List.not_mem_nil, or_false, not_or] at j2
    rw [z_up_j _ _ _ _ _ (by omega), z_up_j _ _ _ _ _ (by omega), z_up_j _ _ _ _ _ (by omega), z_up_rj _ _ _ _ _ _ (by omega), z_up_rj _ _ _ _ _ _ (by omega)]
  · intro k _
    have hge := z_sd_ge k
    rw [z_up_r _ _ _ _ _ (by omega), z_up_r _ _ _ _ _ (by omega), z_up_r _ _ _ _ _ (by omega), z_up_r _ _ _ _ _ (by omega), z_up_r _ _ _ _ _ (by omega)]
/-- a row filled: what fills the first so many places -/
theorem zr_fill54 (X : ZX) (call : ZC) (n0 ce sl : Nat) (L : Nat → Nat → Int64) (t u r q g : Nat) (st : Nat → Option Nat) (v : Int32) (n : Nat) : ∀ (I : Nat → Nat → Int32) (i M : Nat), i + n = 40 → n < M →
    ∃ J : Nat → Nat → Int32, z_loop X z_cf z_ff (z_pu call) 18 M 5 [(0, .ref 54), (1, .int v), (2, .int (Int32.ofNat i)), (3, .int (Int32.ofNat 40))] [] (118, n0, ce, sl, I, L, z_rr t u r q g st) = some (.inl none, (118, n0, ce, sl, J, L, z_rr t u r q g st)) ∧ (∀ a, a ≠ 54 → J a = I a) ∧ (∀ j, j < 40 → J 54 j = if j < i then I 54 j else v) := by
  induction n with
  | zero =>
    intro I i M h1 h2
    obtain ⟨M, rfl⟩ : ∃ N, M = N + 1 := ⟨M - 1, by omega⟩
    refine ⟨I, ?_, fun _ _ => rfl, fun j hj => by rw [if_pos (by omega)]⟩
    rw [zb_Arrays_fill2_54_5, if_pos (by rw [y_i_le, y_on (by omega), y_on (by omega)]; omega)]
  | succ n ih =>
    intro I i M h1 h2
    obtain ⟨M, rfl⟩ : ∃ N, M = N + 1 := ⟨M - 1, by omega⟩
    obtain ⟨J, g1, g2, g3⟩ := ih (z_up I 54 i v) (i + 1) M (by omega) (by omega)
    refine ⟨J, ?_, ?_, ?_⟩
    · rw [zb_Arrays_fill2_54_5, if_neg (by rw [y_i_le, y_on (by omega), y_on (by omega)]; omega), z_in_n (by omega) (by omega), z_gd_t, z_onn (by omega), z_ofa (by omega), g1]
    · intro a ha
      rw [g2 a ha, z_up_r _ _ _ _ _ ha]
    · intro j hj
      rw [g3 j hj, y_at]
      by_cases h3 : j < i
      · rw [if_pos (by omega), if_neg (by omega), if_pos h3]
      · rw [if_neg h3]
        by_cases h4 : j = i
        · rw [if_pos (by omega), if_pos h4]
        · rw [if_neg (by omega)]
/-- is a reading known on an evening? -/
def zhit (I : Nat → Nat → Int32) (a0 a3 a4 : Nat) (c ev : Int32) (i : Nat) : Prop := I a0 i = c ∧ ¬ ev < I a3 i ∧ (I a4 i = Int32.ofInt (-1) ∨ ev < I a4 i)
/-- the rows of class and model, place by place -/
def zkn (F G : Nat → Int32) : Prop := ∀ j, j < 40 → (F j = Int32.ofInt 0 ∧ G j = Int32.ofInt (-1)) ∨ (F j = G j ∧ 1 ≤ (F j).toInt ∧ (F j).toInt ≤ 60000)
theorem zr_recall (X : ZX) (call : ZC) (n0 ce sl : Nat) (L : Nat → Nat → Int64) (t u r q g : Nat) (st : Nat → Option Nat) (c ev : Int32) {N : Nat} (hN : N ≤ 100) (n : Nat) : ∀ (I : Nat → Nat → Int32) (i M : Nat), (I 48 6).toInt = N → (∀ k : Nat, k < N → 0 ≤ (I 50 k).toInt ∧ (I 50 k).toInt ≤ 39) → i + n = N → n < M →
    ∃ J : Nat → Nat → Int32, z_loop X z_cf z_ff (z_pu call) 112 M 10 [(0, .ref 48), (1, .int c), (2, .int ev), (3, .int (Int32.ofNat i))] [] (118, n0, ce, sl, I, L, z_rr t u r q g st) = some (.inl none, (118, n0, ce, sl, J, L, z_rr t u r q g st)) ∧ (∀ a, a ≠ 54 → J a = I a) ∧
      (∀ (K : Nat → Nat → Int32) (M2 : Nat) (a b e x6 : Int32) (n2 ce2 sl2 : Nat) (L2 : Nat → Nat → Int64) (call2 : ZC) (t2 u2 r2 q2 g2 : Nat) (st2 : Nat → Option Nat), n < M2 → (K 55 90).toInt = N → K 111 = I 49 → K 112 = I 50 → K 113 = I 51 → K 114 = I 52 → K 115 = I 53 → (∀ k : Nat, k < N → 1 ≤ (I 51 k).toInt ∧ (I 51 k).toInt ≤ 60000) → zkn (I 54) (K 116) →
        ∃ (K2 : Nat → Nat → Int32) (M3 : Nat), M3 + n = M2 ∧ z_loop X z_cf z_ff (z_pu call2) 250 M2 97 [(0, .ref 55), (1, .int c), (2, .int a), (3, .int b), (4, .int e), (5, .int ev), (6, .int (Int32.ofNat i))] [] (118, n2, ce2, sl2, K, L2, z_rr t2 u2 r2 q2 g2 st2) = z_loop X z_cf z_ff (z_pu call2) 250 M3 97 [(0, .ref 55), (1, .int c), (2, .int a), (3, .int b), (4, .int e), (5, .int ev), (6, .int (Int32.ofNat N))] [] (118, n2, ce2, sl2, K2, L2, z_rr t2 u2 r2 q2 g2 st2) ∧ (∀ a, a ≠ 116 → K2 a = K a) ∧ zkn (J 54) (K2 116)) := by
  induction n with
  | zero =>
    intro I i M h0 hp h1 h2
    obtain ⟨M, rfl⟩ : ∃ N, M = N + 1 := ⟨M - 1, by omega⟩
    refine ⟨I, ?_, fun _ _ => rfl, ?_⟩
    · rw [zb_Readings_recall_10, if_pos (by rw [y_i_le, h0, y_on (by omega)]; omega)]
    · intro K M2 a b e x6 n2 ce2 sl2 L2 call2 t2 u2 r2 q2 g2 st2 _ _ _ _ _ _ _ _ hz
      have hi : i = N := by omega
      rw [hi]
      exact ⟨K, M2, rfl, rfl, fun _ _ => rfl, hz⟩
  | succ n ih =>
    intro I i M h0 hp h1 h2
    obtain ⟨M, rfl⟩ : ∃ N, M = N + 1 := ⟨M - 1, by omega⟩
    have hpi := hp i (by omega)
    have hin : z_in (Int32.ofNat i) 100 = true := z_in_n (by omega) (by omega)
    have hoi : (Int32.ofNat i).toNatClampNeg = i := z_onn (by omega)
    have hlt : ¬ I 48 6 ≤ Int32.ofNat i := by rw [y_i_le, h0, y_on (by omega)]; omega
    have hpl : z_in (I 50 i) 40 = true := y_in_t (by omega) (by omega)
    by_cases hh : zhit I 49 52 53 c ev i
    · obtain ⟨b1, b2, b3⟩ := hh
      obtain ⟨J, g1, g2, g3⟩ := ih (z_up I 54 (I 50 i).toNatClampNeg (I 51 i)) (i + 1) M h0 hp (by omega) (by omega)
      refine ⟨J, ?_, ?_, ?_⟩
      · rw [zb_Readings_recall_10, if_neg hlt, hin, z_gd_t, hoi, z_ofa (by omega)]
        have fin : (z_gd true (z_gd true (z_gd (z_in (I 50 i) 40) (z_loop X z_cf z_ff (z_pu call) 112 M 10 [(0, .ref 48), (1, .int c), (2, .int ev), (3, .int (Int32.ofNat (i + 1)))] [] (118, n0, ce, sl, (z_up I 54 ((I 50 i).toNatClampNeg) (I 51 i)), L, (z_rr t u r q g st)))))) = some (.inl none, (118, n0, ce, sl, J, L, z_rr t u r q g st)) := by
          rw [z_gd_t, z_gd_t, hpl, z_gd_t, g1]
        by_cases b4 : I 53 i = Int32.ofInt (-1)
        · rw [if_pos b4, z_gd_t, if_pos b1, z_gd_t, if_neg b2, if_pos (show (Int32.ofInt 0 : Int32) = 0 from rfl)]
          exact fin
        · rw [if_neg b4, z_gd_t, if_pos (b3.resolve_left b4), z_gd_t, if_pos b1, z_gd_t, if_neg b2, if_pos (show (Int32.ofInt 0 : Int32) = 0 from rfl)]
          exact fin
      · intro a ha
        rw [g2 a ha, z_up_r _ _ _ _ _ ha]
      · intro K M2 a b e x6 n2 ce2 sl2 L2 call2 t2 u2 r2 q2 gg2 st2 k0 k1 k2 k3 k4 k5 k6 k7 hz
        obtain ⟨M2, rfl⟩ : ∃ N, M2 = N + 1 := ⟨M2 - 1, by omega⟩
        have hz2 : zkn ((z_up I 54 (I 50 i).toNatClampNeg (I 51 i)) 54) ((z_up K 116 (I 50 i).toNatClampNeg (I 51 i)) 116) := by
          intro j hj
          rw [y_at, y_at]
          by_cases hj2 : j = (I 50 i).toNatClampNeg
          · rw [if_pos hj2, if_pos hj2]
            exact Or.inr ⟨rfl, k7 i (by omega)⟩
          · rw [if_neg hj2, if_neg hj2]
            exact hz j hj
        obtain ⟨K2, M3, g4, g5, g6, g7⟩ := g3 (z_up K 116 (I 50 i).toNatClampNeg (I 51 i)) M2 a b e x6 n2 ce2 sl2 L2 call2 t2 u2 r2 q2 gg2 st2 (by omega) k1 k2 k3 k4 k5 k6 k7 hz2
        refine ⟨K2, M3, by omega, ?_, ?_, g7⟩
        · rw [zb_M_known_97, if_neg (by rw [y_i_le, k1, y_on (by omega)]; omega), hin, z_gd_t, hoi, z_ofa (by omega), k2, if_pos b1, k5, if_neg b2, k6, k3, k4]
          have fin : (z_gd true (z_gd true (z_gd (z_in (I 50 i) 40) (z_loop X z_cf z_ff (z_pu call2) 250 M2 97 [(0, .ref 55), (1, .int c), (2, .int a), (3, .int b), (4, .int e), (5, .int ev), (6, .int (Int32.ofNat (i + 1)))] [] (118, n2, ce2, sl2, (z_up K 116 ((I 50 i).toNatClampNeg) (I 51 i)), L2, (z_rr t2 u2 r2 q2 gg2 st2)))))) = z_loop X z_cf z_ff (z_pu call2) 250 M3 97 [(0, .ref 55), (1, .int c), (2, .int a), (3, .int b), (4, .int e), (5, .int ev), (6, .int (Int32.ofNat N))] [] (118, n2, ce2, sl2, K2, L2, z_rr t2 u2 r2 q2 gg2 st2) := by
            rw [z_gd_t, z_gd_t, hpl, z_gd_t, g5]
          by_cases b4 : I 53 i = Int32.ofInt (-1)
          · rw [z_gd_t, z_gd_t, if_pos b4]
            exact fin
          · have b5 : ¬ I 53 i ≤ ev := by
              have := b3.resolve_left b4
              rw [y_i_lt] at this
              rw [y_i_le]
              omega
            rw [z_gd_t, z_gd_t, if_neg b4, z_gd_t, if_neg b5]
            exact fin
        · intro x hx
          rw [g6 x hx, z_up_r _ _ _ _ _ hx]
    · obtain ⟨J, g1, g2, g3⟩ := ih I (i + 1) M h0 hp (by omega) (by omega)
      refine ⟨J, ?_, g2, ?_⟩
      · rw [zb_Readings_recall_10, if_neg hlt, hin, z_gd_t, hoi, z_ofa (by omega)]
        by_cases b4 : I 53 i = Int32.ofInt (-1)
        · rw [if_pos b4, z_gd_t]
          by_cases b1 : I 49 i = c
          · rw [if_pos b1, z_gd_t]
            have b2 : ev < I 52 i := by
              by_cases b2 : ev < I 52 i
              · exact b2
              · exact absurd ⟨b1, b2, Or.inl b4⟩ hh
            rw [if_pos b2, g1]
          · rw [if_neg b1, g1]
        · rw [if_neg b4, z_gd_t]
          by_cases b3 : ev < I 53 i
          · rw [if_pos b3, z_gd_t]
            by_cases b1 : I 49 i = c
            · rw [if_pos b1, z_gd_t]
              have b2 : ev < I 52 i := by
                by_cases b2 : ev < I 52 i
                · exact b2
                · exact absurd ⟨b1, b2, Or.inr b3⟩ hh
              rw [if_pos b2, g1]
            · rw [if_neg b1, g1]
          · rw [if_neg b3, z_gd_t]
            by_cases b1 : I 49 i = c
            · rw [if_pos b1, z_gd_t]
              by_cases b2 : ev < I 52 i
              · rw [if_pos b2, g1]
              · rw [if_neg b2, if_neg (by decide), g1]
            · rw [if_neg b1, g1]
      · intro K M2 a b e x6 n2 ce2 sl2 L2 call2 t2 u2 r2 q2 gg2 st2 k0 k1 k2 k3 k4 k5 k6 k7 hz
        obtain ⟨M2, rfl⟩ : ∃ N, M2 = N + 1 := ⟨M2 - 1, by omega⟩
        obtain ⟨K2, M3, g4, g5, g6, g7⟩ := g3 K M2 a b e x6 n2 ce2 sl2 L2 call2 t2 u2 r2 q2 gg2 st2 (by omega) k1 k2 k3 k4 k5 k6 k7 hz
        refine ⟨K2, M3, by omega, ?_, g6, g7⟩
        rw [zb_M_known_97, if_neg (by rw [y_i_le, k1, y_on (by omega)]; omega), hin, z_gd_t, hoi, z_ofa (by omega), k2]
        by_cases b1 : I 49 i = c
        · rw [if_pos b1, z_gd_t, k5]
          by_cases b2 : ev < I 52 i
          · rw [if_pos b2, g5]
          · rw [if_neg b2, z_gd_t, k6]
            have b4 : ¬ I 53 i = Int32.ofInt (-1) := fun b4 => hh ⟨b1, b2, Or.inl b4⟩
            have b5 : I 53 i ≤ ev := by
              by_cases b5 : ev < I 53 i
              · exact absurd ⟨b1, b2, Or.inr b5⟩ hh
              · rw [y_i_lt] at b5
                rw [y_i_le]
                omega
            rw [if_neg b4, z_gd_t, if_pos b5, g5]
        · rw [if_neg b1, g5]
theorem z_lg_gt (x y : Int64) : (0 < lg_cmp x y) = (y.toInt < x.toInt) := by
  have h1 := z_lg_le x y
  have e : (0 < lg_cmp x y) ↔ ¬ (lg_cmp x y ≤ 0) := by
    rw [y_i_lt, y_i_le]
    omega
  rw [eq_iff_iff, e, h1]
  omega
def zkoff (F : Nat → Int32) (th e : Int) (j : Nat) : Bool := decide (0 < (F j).toInt ∧ (e < (F j).toInt - th ∨ e < th - (F j).toInt))
def zkm (F : Nat → Int32) : Nat → Nat → Int
  | 0, _ => 0
  | n + 1, i => (if 0 < (F i).toInt then 1 else 0) + zkm F n (i + 1)
def zks (F : Nat → Int32) : Nat → Nat → Int
  | 0, _ => 0
  | n + 1, i => (F i).toInt + zks F n (i + 1)
def zko (f : Nat → Bool) : Nat → Nat → Int
  | 0, _ => 0
  | n + 1, i => (if f i = true then 1 else 0) + zko f n (i + 1)
def zkf (f : Nat → Bool) : Nat → Nat → Int
  | 0, _ => -1
  | n + 1, i => if f i = true then i else zkf f n (i + 1)
theorem y_a0 (x : Int32) : x + Int32.ofInt 0 = x := by
  rw [y_i_eq, y_adl (by omega) (by omega) (by have := y_lo x; omega) (by have := y_hi x; omega)]
  omega
theorem zr_km (X : ZX) (call : ZC) (n0 ce sl : Nat) (I : Nat → Nat → Int32) (L : Nat → Nat → Int64) (t u r q g : Nat) (st : Nat → Option Nat) (n : Nat) : ∀ (i M : Nat) (a : Int32), i + n = 40 → n < M → 0 ≤ a.toInt → a.toInt ≤ i →
    ∃ V : Int32, V.toInt = a.toInt + zkm (I 54) n i ∧ z_loop X z_cf z_ff (z_pu call) 113 M 13 [(1, .int a), (2, .ref 54), (3, .int (Int32.ofNat 40)), (4, .int (Int32.ofNat i))] [] (118, n0, ce, sl, I, L, z_rr t u r q g st) = some (.inl (some (.int V)), (118, n0, ce, sl, I, L, z_rr t u r q g st)) := by
  induction n with
  | zero =>
    intro i M a h1 h2 h3 h4
    obtain ⟨M, rfl⟩ : ∃ N, M = N + 1 := ⟨M - 1, by omega⟩
    refine ⟨a, by unfold zkm; omega, ?_⟩
    rw [zb_Readings_placesKnown_13, if_pos (by rw [y_i_le, y_on (by omega), y_on (by omega)]; omega)]
  | succ n ih =>
    intro i M a h1 h2 h3 h4
    obtain ⟨M, rfl⟩ : ∃ N, M = N + 1 := ⟨M - 1, by omega⟩
    have ha := z_p1 (a := a) (by omega)
    rw [zb_Readings_placesKnown_13, if_neg (by rw [y_i_le, y_on (by omega), y_on (by omega)]; omega), z_in_n (by omega) (by omega), z_gd_t, z_onn (by omega), z_ofa (by omega)]
    unfold zkm
    by_cases h5 : 0 < (I 54 i).toInt
    · obtain ⟨V, v1, v2⟩ := ih (i + 1) M (a + Int32.ofInt 1) (by omega) (by omega) (by omega) (by omega)
      refine ⟨V, by rw [if_pos h5, v1]; omega, ?_⟩
      rw [if_neg (by rw [y_i_le, y_i0]; omega), v2]
    · obtain ⟨V, v1, v2⟩ := ih (i + 1) M a (by omega) (by omega) h3 (by omega)
      refine ⟨V, by rw [if_neg h5, v1]; omega, ?_⟩
      rw [if_pos (by rw [y_i_le, y_i0]; omega), y_a0, v2]
theorem zr_ks (X : ZX) (call : ZC) (n0 ce sl : Nat) (I : Nat → Nat → Int32) (L : Nat → Nat → Int64) (t u r q g : Nat) (st : Nat → Option Nat) (hF : ∀ j, j < 40 → 0 ≤ (I 54 j).toInt ∧ (I 54 j).toInt ≤ 60000) (n : Nat) : ∀ (i M : Nat) (a : Int32), i + n = 40 → n < M → 0 ≤ a.toInt → a.toInt ≤ 60000 * i →
    ∃ V : Int32, V.toInt = a.toInt + zks (I 54) n i ∧ z_loop X z_cf z_ff (z_pu call) 114 M 13 [(1, .int a), (2, .ref 54), (3, .int (Int32.ofNat 40)), (4, .int (Int32.ofNat i))] [] (118, n0, ce, sl, I, L, z_rr t u r q g st) = some (.inl (some (.int V)), (118, n0, ce, sl, I, L, z_rr t u r q g st)) := by
  induction n with
  | zero =>
    intro i M a h1 h2 h3 h4
    obtain ⟨M, rfl⟩ : ∃ N, M = N + 1 := ⟨M - 1, by omega⟩
    refine ⟨a, by unfold zks; omega, ?_⟩
    rw [zb_Readings_sumKnown_13, if_pos (by rw [y_i_le, y_on (by omega), y_on (by omega)]; omega)]
  | succ n ih =>
    intro i M a h1 h2 h3 h4
    obtain ⟨M, rfl⟩ : ∃ N, M = N + 1 := ⟨M - 1, by omega⟩
    have hf := hF i (by omega)
    have ha : (a + I 54 i).toInt = a.toInt + (I 54 i).toInt := y_ad (by omega) (by omega)
    obtain ⟨V, v1, v2⟩ := ih (i + 1) M (a + I 54 i) (by omega) (by omega) (by omega) (by omega)
    refine ⟨V, by unfold zks; rw [v1, ha]; omega, ?_⟩
    rw [zb_Readings_sumKnown_13, if_neg (by rw [y_i_le, y_on (by omega), y_on (by omega)]; omega), z_in_n (by omega) (by omega), z_gd_t, z_onn (by omega), z_ofa (by omega), v2]
theorem z_offc {f th e : Int32} (hf : (f.toInt) ≤ 60000) (hf0 : 0 < f.toInt) : (lg_cmp (z_abl (f.toInt64 - th.toInt64)) e.toInt64 ≤ 0) = ¬ (e.toInt < f.toInt - th.toInt ∨ e.toInt < th.toInt - f.toInt) := by
  have h1 := y_lo th
  have h2 := y_hi th
  have e1 : (f.toInt64 - th.toInt64).toInt = f.toInt - th.toInt := by rw [y_sb8 (by rw [y_il, y_il]; omega) (by rw [y_il, y_il]; omega), y_il, y_il]
  have e2 : (z_abl (f.toInt64 - th.toInt64)).toInt = max (f.toInt - th.toInt) (th.toInt - f.toInt) := by
    unfold z_abl
    split
    · rename_i g
      rw [y_l_lt, e1, y_l0] at g
      omega
    · rename_i g
      rw [y_l_lt, e1, y_l0] at g
      rw [Int64.toInt_neg, e1, y_bm8 _ (by omega) (by omega)]
      omega
  rw [z_lg_le, e2, y_il, eq_iff_iff]
  omega
theorem zr_isOffK (X : ZX) (d m ce sl : Nat) (I : Nat → Nat → Int32) (L : Nat → Nat → Int64) (t u r q : Nat) (th e : Int32) {i : Nat} (hi : i < 40) (hF : (I 54 i).toInt ≤ 60000) : z_pu (z_run X z_cf z_ff (d + 3)) 116 [.ref 48, .int (Int32.ofNat i), .int th, .int e] (118, z_sd m, ce, sl, I, L, z_rr t u r q (z_gg m) (z_sf m)) = some (.inl (some (.int (if zkoff (I 54) th.toInt e.toInt i = true then Int32.ofInt 1 else Int32.ofInt 0))), (118, z_sd m, ce, sl, I, L, z_rr t u r q (z_gg m) (z_sf m))) := by
  rw [zk_Readings_isOff_0 X d, z_in_n hi (by omega), z_gd_t, z_onn (by omega)]
  unfold zkoff
  by_cases h1 : 0 < (I 54 i).toInt
  · rw [if_neg (by rw [y_i_le, y_i0]; omega), z_gd_t]
    simp only [z_offc hF h1, h1, true_and]
    by_cases h2 : e.toInt < (I 54 i).toInt - th.toInt ∨ e.toInt < th.toInt - (I 54 i).toInt
    · rw [if_neg (fun g => g h2), if_pos (decide_eq_true h2)]
    · rw [if_pos h2, if_neg (fun g => h2 (of_decide_eq_true g))]
  · rw [if_pos (by rw [y_i_le, y_i0]; omega), if_neg (fun g => h1 (of_decide_eq_true g).1)]
theorem zr_ko (X : ZX) (d m ce sl : Nat) (I : Nat → Nat → Int32) (L : Nat → Nat → Int64) (t u r q : Nat) (th e : Int32) (hF : ∀ j, j < 40 → 0 ≤ (I 54 j).toInt ∧ (I 54 j).toInt ≤ 60000) (n : Nat) : ∀ (i M : Nat) (a : Int32), i + n = 40 → 2 * n < M → 0 ≤ a.toInt → a.toInt ≤ i →
    ∃ V : Int32, V.toInt = a.toInt + zko (zkoff (I 54) th.toInt e.toInt) n i ∧ z_loop X z_cf z_ff (z_pu (z_run X z_cf z_ff (d + 3))) 117 M 5 [(0, .ref 48), (1, .int th), (2, .int e), (3, .int a), (4, .int (Int32.ofNat i))] [] (118, z_sd m, ce, sl, I, L, z_rr t u r q (z_gg m) (z_sf m)) = some (.inl (some (.int V)), (118, z_sd m, ce, sl, I, L, z_rr t u r q (z_gg m) (z_sf m))) := by
  induction n with
  | zero =>
    intro i M a h1 h2 h3 h4
    obtain ⟨M, rfl⟩ : ∃ N, M = N + 1 := ⟨M - 1, by omega⟩
    refine ⟨a, by unfold zko; omega, ?_⟩
    rw [zb_Readings_manyOff_5, if_pos (by rw [y_i_le, y_on (by omega), y_oi (by omega) (by omega)]; omega)]
  | succ n ih =>
    intro i M a h1 h2 h3 h4
    obtain ⟨M, rfl⟩ : ∃ N, M = N + 1 + 1 := ⟨M - 2, by omega⟩
    have ha := z_p1 (a := a) (by omega)
    rw [zb_Readings_manyOff_5, if_neg (by rw [y_i_le, y_on (by omega), y_oi (by omega) (by omega)]; omega), zr_isOffK X d m ce sl I L t u r q th e (by omega) (hF i (by omega)).2, z_bi_v, zb_Readings_manyOff_21, z_ofa (by omega)]
    unfold zko
    by_cases hb : zkoff (I 54) th.toInt e.toInt i = true
    · obtain ⟨V, v1, v2⟩ := ih (i + 1) M (a + Int32.ofInt 1) (by omega) (by omega) (by omega) (by omega)
      refine ⟨V, by rw [if_pos hb, v1]; omega, ?_⟩
      rw [if_pos hb, if_neg (by decide), v2]
    · obtain ⟨V, v1, v2⟩ := ih (i + 1) M a (by omega) (by omega) h3 (by omega)
      refine ⟨V, by rw [if_neg hb, v1]; omega, ?_⟩
      rw [if_neg hb, if_pos (by decide), y_a0, v2]
theorem zr_kf (X : ZX) (d m ce sl : Nat) (I : Nat → Nat → Int32) (L : Nat → Nat → Int64) (t u r q : Nat) (th e : Int32) (hF : ∀ j, j < 40 → 0 ≤ (I 54 j).toInt ∧ (I 54 j).toInt ≤ 60000) (n : Nat) : ∀ (i M : Nat), i + n = 40 → 2 * n < M →
    ∃ V : Int32, V.toInt = zkf (zkoff (I 54) th.toInt e.toInt) n i ∧ z_loop X z_cf z_ff (z_pu (z_run X z_cf z_ff (d + 3))) 115 M 2 [(0, .ref 48), (1, .int th), (2, .int e), (3, .int (Int32.ofNat i))] [] (118, z_sd m, ce, sl, I, L, z_rr t u r q (z_gg m) (z_sf m)) = some (.inl (some (.int V)), (118, z_sd m, ce, sl, I, L, z_rr t u r q (z_gg m) (z_sf m))) := by
  induction n with
  | zero =>
    intro i M h1 h2
    obtain ⟨M, rfl⟩ : ∃ N, M = N + 1 := ⟨M - 1, by omega⟩
    refine ⟨Int32.ofInt (-1), rfl, ?_⟩
    rw [zb_Readings_leastOff_2, if_pos (by rw [y_i_le, y_on (by omega), y_oi (by omega) (by omega)]; omega)]
  | succ n ih =>
    intro i M h1 h2
    obtain ⟨M, rfl⟩ : ∃ N, M = N + 1 + 1 := ⟨M - 2, by omega⟩
    rw [zb_Readings_leastOff_2, if_neg (by rw [y_i_le, y_on (by omega), y_oi (by omega) (by omega)]; omega), zr_isOffK X d m ce sl I L t u r q th e (by omega) (hF i (by omega)).2, z_bi_v, zb_Readings_leastOff_15, z_ofa (by omega)]
    unfold zkf
    by_cases hb : zkoff (I 54) th.toInt e.toInt i = true
    · refine ⟨Int32.ofNat i, by rw [if_pos hb, y_on (by omega)], ?_⟩
      rw [if_pos hb, if_neg (by decide)]
    · obtain ⟨V, v1, v2⟩ := ih (i + 1) M (by omega) (by omega)
      refine ⟨V, by rw [if_neg hb, v1], ?_⟩
      rw [if_neg hb, if_pos (by decide), v2]
def zkres (F : Nat → Int32) (th e w a b f o : Int) (n i : Nat) : Int := if w = 0 then a + zkm F n i else if w = 1 then b + zks F n i else if w = 2 then (if f = -1 then zkf (zkoff F th e) n i else f) else o + zko (zkoff F th e) n i
/-- the model's one loop for all four -/
theorem zr_kall (X : ZX) (call : ZC) (n0 ce sl : Nat) (I : Nat → Nat → Int32) (L : Nat → Nat → Int64) (t u r q g : Nat) (st : Nat → Option Nat) (F : Nat → Int32) (hz : zkn F (I 116)) (w th e : Int32) (hw : w.toInt = 0 ∨ w.toInt = 1 ∨ w.toInt = 2 ∨ w.toInt = 3) (n : Nat) : ∀ (i M : Nat) (a b f o : Int32), i + n = 40 → n < M → 0 ≤ a.toInt → a.toInt ≤ i → 0 ≤ b.toInt → b.toInt ≤ 60000 * i → 0 ≤ o.toInt → o.toInt ≤ i →
    ∃ V : Int32, V.toInt = zkres F th.toInt e.toInt w.toInt a.toInt b.toInt f.toInt o.toInt n i ∧
      z_loop X z_cf z_ff (z_pu call) 250 M 192 [(0, .ref 55), (2, .int w), (3, .int th), (4, .int e), (6, .int a), (7, .int b), (8, .int f), (9, .int o), (10, .int (Int32.ofNat i))] [] (118, n0, ce, sl, I, L, z_rr t u r q g st) = some (.inl (some (.int V)), (118, n0, ce, sl, I, L, z_rr t u r q g st)) := by
  induction n with
  | zero =>
    intro i M a b f o h1 h2 h3 h4 h5 h6 h7 h8
    obtain ⟨M, rfl⟩ : ∃ N, M = N + 1 := ⟨M - 1, by omega⟩
    rw [zb_M_known_192, if_pos (by rw [y_i_le, y_on (by omega), y_oi (by omega) (by omega)]; omega)]
    by_cases c0 : w.toInt = 0
    · refine ⟨a, ?_, by rw [if_pos (by rw [y_i_eq, y_i0]; exact c0)]⟩
      unfold zkres
      rw [if_pos c0]
      show a.toInt = a.toInt + 0
      omega
    · rw [if_neg (show ¬ w = 0 by rw [y_i_eq, y_i0]; exact c0)]
      by_cases c1 : w.toInt = 1
      · refine ⟨b, ?_, by rw [if_pos (by rw [y_i_eq, y_oi1]; exact c1)]⟩
        unfold zkres
        rw [if_neg c0, if_pos c1]
        show b.toInt = b.toInt + 0
        omega
      · rw [if_neg (show ¬ w = Int32.ofInt 1 by rw [y_i_eq, y_oi1]; exact c1)]
        by_cases c2 : w.toInt = 2
        · refine ⟨f, ?_, by rw [if_pos (by rw [y_i_eq, y_oi (by omega) (by omega)]; exact c2)]⟩
          unfold zkres
          rw [if_neg c0, if_neg c1, if_pos c2]
          show f.toInt = if f.toInt = -1 then -1 else f.toInt
          split <;> omega
        · refine ⟨o, ?_, by rw [if_neg (by rw [y_i_eq, y_oi (by omega) (by omega)]; exact c2)]⟩
          unfold zkres
          rw [if_neg c0, if_neg c1, if_neg c2]
          show o.toInt = o.toInt + 0
          omega
  | succ n ih =>
    intro i M a b f o h1 h2 h3 h4 h5 h6 h7 h8
    obtain ⟨M, rfl⟩ : ∃ N, M = N + 1 := ⟨M - 1, by omega⟩
    have hzi := hz i (by omega)
    have hm1 : (Int32.ofInt (-1)).toInt = -1 := rfl
    rw [zb_M_known_192, if_neg (by rw [y_i_le, y_on (by omega), y_oi (by omega) (by omega)]; omega), z_in_n (by omega) (by omega), z_gd_t, z_gd_t, z_gd_t, z_onn (by omega), z_ofa (by omega)]
    by_cases hk : I 116 i = Int32.ofInt (-1)
    · have hF0 : (F i).toInt = 0 := by
        rcases hzi with ⟨z1, _⟩ | ⟨z1, z2, _⟩
        · rw [z1]; rfl
        · rw [z1, hk, hm1] at z2
          omega
      obtain ⟨V, v1, v2⟩ := ih (i + 1) M a b f o (by omega) (by omega) h3 (by omega) h5 (by omega) h7 (by omega)
      have hof : zkoff F th.toInt e.toInt i = false := decide_eq_false (by omega)
      refine ⟨V, ?_, by rw [if_pos hk, v2]⟩
      have e1 : zkm F (n + 1) i = zkm F n (i + 1) := by
        show (if 0 < (F i).toInt then 1 else 0) + zkm F n (i + 1) = _
        rw [if_neg (by omega), Int.zero_add]
      have e2 : zks F (n + 1) i = zks F n (i + 1) := by
        show (F i).toInt + zks F n (i + 1) = _
        rw [hF0, Int.zero_add]
      have e3 : zkf (zkoff F th.toInt e.toInt) (n + 1) i = zkf (zkoff F th.toInt e.toInt) n (i + 1) := by
        show (if zkoff F th.toInt e.toInt i = true then (i : Int) else _) = _
        rw [hof]
        rfl
      have e4 : zko (zkoff F th.toInt e.toInt) (n + 1) i = zko (zkoff F th.toInt e.toInt) n (i + 1) := by
        show (if zkoff F th.toInt e.toInt i = true then (1 : Int) else 0) + _ = _
        rw [hof]
        show (0 : Int) + _ = _
        rw [Int.zero_add]
      rw [v1]
      unfold zkres
      rw [e1, e2, e3, e4]
    · obtain ⟨z1, z2, z3⟩ : F i = I 116 i ∧ 1 ≤ (F i).toInt ∧ (F i).toInt ≤ 60000 := by
        rcases hzi with ⟨_, z1⟩ | z1
        · exact absurd z1 hk
        · exact z1
      have ha := z_p1 (a := a) (by omega)
      have ho := z_p1 (a := o) (by omega)
      have hb : (b + I 116 i).toInt = b.toInt + (F i).toInt := by rw [← z1]; exact y_ad (by omega) (by omega)
      have t1 := y_lo th
      have t2 := y_hi th
      have e1 : ((I 116 i).toInt64 - th.toInt64).toInt = (F i).toInt - th.toInt := by rw [← z1, y_sb8 (by rw [y_il, y_il]; omega) (by rw [y_il, y_il]; omega), y_il, y_il]
      have e2 : (-((I 116 i).toInt64 - th.toInt64)).toInt = th.toInt - (F i).toInt := by
        rw [Int64.toInt_neg, e1, y_bm8 _ (by omega) (by omega)]
        omega
      have c1 : (0 < lg_cmp ((I 116 i).toInt64 - th.toInt64) e.toInt64) = (e.toInt < (F i).toInt - th.toInt) := by rw [z_lg_gt, e1, y_il]
      have c2 : (0 < lg_cmp (-((I 116 i).toInt64 - th.toInt64)) e.toInt64) = (e.toInt < th.toInt - (F i).toInt) := by rw [z_lg_gt, e2, y_il]
      simp only [c1, c2, hk, if_false]
      have hon : ∀ f2 : Int32, (f.toInt = -1 → f2.toInt = i) → (f.toInt ≠ -1 → f2 = f) → zkoff F th.toInt e.toInt i = true → ∃ V : Int32, V.toInt = zkres F th.toInt e.toInt w.toInt a.toInt b.toInt f.toInt o.toInt (n + 1) i ∧
          z_loop X z_cf z_ff (z_pu call) 250 M 192 [(0, .ref 55), (2, .int w), (3, .int th), (4, .int e), (6, .int (a + Int32.ofInt 1)), (7, .int (b + I 116 i)), (8, .int f2), (9, .int (o + Int32.ofInt 1)), (10, .int (Int32.ofNat (i + 1)))] [] (118, n0, ce, sl, I, L, z_rr t u r q g st) = some (.inl (some (.int V)), (118, n0, ce, sl, I, L, z_rr t u r q g st)) := by
        intro f2 g1 g2 hof
        obtain ⟨V, v1, v2⟩ := ih (i + 1) M (a + Int32.ofInt 1) (b + I 116 i) f2 (o + Int32.ofInt 1) (by omega) (by omega) (by omega) (by omega) (by omega) (by omega) (by omega) (by omega)
        refine ⟨V, ?_, v2⟩
        have e1 : zkm F (n + 1) i = 1 + zkm F n (i + 1) := by
          show (if 0 < (F i).toInt then 1 else 0) + zkm F n (i + 1) = _
          rw [if_pos (by omega)]
        have e2 : zks F (n + 1) i = (F i).toInt + zks F n (i + 1) := rfl
        have e3 : zkf (zkoff F th.toInt e.toInt) (n + 1) i = i := by
          show (if zkoff F th.toInt e.toInt i = true then (i : Int) else _) = _
          rw [if_pos hof]
        have e4 : zko (zkoff F th.toInt e.toInt) (n + 1) i = 1 + zko (zkoff F th.toInt e.toInt) n (i + 1) := by
          show (if zkoff F th.toInt e.toInt i = true then (1 : Int) else 0) + _ = _
          rw [if_pos hof]
        rw [v1]
        unfold zkres
        rw [e1, e2, e3, e4, ha, hb, ho]
        by_cases c0 : w.toInt = 0
        · rw [if_pos c0, if_pos c0]
          omega
        · rw [if_neg c0, if_neg c0]
          by_cases c1 : w.toInt = 1
          · rw [if_pos c1, if_pos c1]
            omega
          · rw [if_neg c1, if_neg c1]
            by_cases c2 : w.toInt = 2
            · rw [if_pos c2, if_pos c2]
              by_cases c3 : f.toInt = -1
              · rw [if_pos c3, if_neg (by rw [g1 c3]; omega), g1 c3]
              · rw [if_neg c3, g2 c3, if_neg c3]
            · rw [if_neg c2, if_neg c2]
              omega
      by_cases d1 : e.toInt < (F i).toInt - th.toInt
      · have hof : zkoff F th.toInt e.toInt i = true := decide_eq_true ⟨by omega, Or.inl d1⟩
        rw [if_pos d1]
        by_cases d3 : f = Int32.ofInt (-1)
        · rw [if_pos d3]
          exact hon (Int32.ofNat i) (fun _ => by rw [y_on (by omega)]) (fun h => absurd (by rw [d3]; rfl) h) hof
        · rw [if_neg d3]
          exact hon f (fun h => absurd (y_i_eq.mpr (by rw [h]; rfl)) d3) (fun _ => rfl) hof
      · rw [if_neg d1]
        by_cases d2 : e.toInt < th.toInt - (F i).toInt
        · have hof : zkoff F th.toInt e.toInt i = true := decide_eq_true ⟨by omega, Or.inr d2⟩
          rw [if_pos d2]
          by_cases d3 : f = Int32.ofInt (-1)
          · rw [if_pos d3]
            exact hon (Int32.ofNat i) (fun _ => by rw [y_on (by omega)]) (fun h => absurd (by rw [d3]; rfl) h) hof
          · rw [if_neg d3]
            exact hon f (fun h => absurd (y_i_eq.mpr (by rw [h]; rfl)) d3) (fun _ => rfl) hof
        · have hof : zkoff F th.toInt e.toInt i = false := decide_eq_false (by omega)
          rw [if_neg d2]
          obtain ⟨V, v1, v2⟩ := ih (i + 1) M (a + Int32.ofInt 1) (b + I 116 i) f o (by omega) (by omega) (by omega) (by omega) (by omega) (by omega) h7 (by omega)
          refine ⟨V, ?_, v2⟩
          have e1 : zkm F (n + 1) i = 1 + zkm F n (i + 1) := by
            show (if 0 < (F i).toInt then 1 else 0) + zkm F n (i + 1) = _
            rw [if_pos (by omega)]
          have e2 : zks F (n + 1) i = (F i).toInt + zks F n (i + 1) := rfl
          have e3 : zkf (zkoff F th.toInt e.toInt) (n + 1) i = zkf (zkoff F th.toInt e.toInt) n (i + 1) := by
            show (if zkoff F th.toInt e.toInt i = true then (i : Int) else _) = _
            rw [hof]
            rfl
          have e4 : zko (zkoff F th.toInt e.toInt) (n + 1) i = zko (zkoff F th.toInt e.toInt) n (i + 1) := by
            show (if zkoff F th.toInt e.toInt i = true then (1 : Int) else 0) + _ = _
            rw [hof]
            show (0 : Int) + _ = _
            rw [Int.zero_add]
          rw [v1]
          unfold zkres
          rw [e1, e2, e3, e4, ha, hb]
          by_cases c0 : w.toInt = 0
          · rw [if_pos c0, if_pos c0]
            omega
          · rw [if_neg c0, if_neg c0]
            by_cases c1 : w.toInt = 1
            · rw [if_pos c1, if_pos c1]
              omega
            · rw [if_neg c1, if_neg c1]
