/-! PLAN, 6: all plans are tried, in the class -/
theorem zlt3_i (x y : zC3) : zlt3 x y ↔ x.1 < y.1 ∨ x.1 = y.1 ∧ x.2.1 < y.2.1 := Iff.rfl
theorem zpick_none (a : Option zC3) : zpick a none = a := by cases a <;> rfl
theorem zpick_assoc (a b c : Option zC3) : zpick (zpick a b) c = zpick a (zpick b c) := by
  cases a with
  | none => rfl
  | some a =>
    cases b with
    | none => rfl
    | some b =>
      cases c with
      | none =>
        rw [zpick_none, zpick_none]
      | some c =>
        show zpick (if zlt3 b a then some b else some a) (some c) = zpick (some a) (if zlt3 c b then some c else some b)
        by_cases h1 : zlt3 b a
        · rw [if_pos h1]
          by_cases h2 : zlt3 c b
          · rw [if_pos h2]
            show (if zlt3 c b then some c else some b) = if zlt3 c a then some c else some a
            rw [if_pos h2, if_pos (by rw [zlt3_i] at *; omega)]
          · rw [if_neg h2]
            show (if zlt3 c b then some c else some b) = if zlt3 b a then some b else some a
            rw [if_neg h2, if_pos h1]
        · rw [if_neg h1]
          by_cases h2 : zlt3 c b
          · rw [if_pos h2]
          · rw [if_neg h2]
            show (if zlt3 c a then some c else some a) = if zlt3 b a then some b else some a
            rw [if_neg h1, if_neg (by rw [zlt3_i] at *; omega)]
theorem zpick_map (f : zC3 → zC3) (hf : ∀ x y, zlt3 (f x) (f y) ↔ zlt3 x y) (a b : Option zC3) : (zpick a b).map f = zpick (a.map f) (b.map f) := by
  cases a with
  | none => rfl
  | some a =>
    cases b with
    | none => rfl
    | some b =>
      show (if zlt3 b a then some b else some a).map f = if zlt3 (f b) (f a) then some (f b) else some (f a)
      by_cases h : zlt3 b a
      · rw [if_pos h, if_pos ((hf b a).mpr h)]
        rfl
      · rw [if_neg h, if_neg (fun x => h ((hf b a).mp x))]
        rfl
theorem zpk_ext (F : Nat → Option zC3) (i n : Nat) (k : Nat) (h : ∀ j, i + n ≤ j → j < i + n + k → F j = none) : zpk F i (n + k) = zpk F i n := by
  induction k with
  | zero => rfl
  | succ k ih =>
    show zpick (zpk F i (n + k)) (F (i + (n + k))) = _
    rw [h (i + (n + k)) (by omega) (by omega), zpick_none, ih (fun j h1 h2 => h j h1 (by omega))]
theorem zpk_all (F : Nat → Option zC3) (i n : Nat) (h : ∀ j, i ≤ j → j < i + n → F j = none) : zpk F i n = none := by
  have := zpk_ext F i 0 n (fun j h1 h2 => h j (by omega) (by omega))
  rw [Nat.zero_add] at this
  rw [this]
  rfl
theorem zbe_off (p : Nat → Nat → Nat → Int) (N gl : Nat) : ∀ r j g, gl < j → zbe p N gl r j g = none := by
  intro r
  induction r with
  | zero =>
    intro j g h
    show (if j = gl then _ else _) = _
    rw [if_neg (by omega)]
  | succ r ih =>
    intro j g h
    refine zpk_all _ _ _ (fun k k1 k2 => ?_)
    show (if p r j k = -1 then none else _) = none
    by_cases c : p r j k = -1
    · rw [if_pos c]
    · rw [if_neg c, ih k _ (by omega)]
      rfl
/-- the best as the class keeps it -/
def zst (m : Nat) (I : Nat → Nat → Int32) : Option zC3 → Prop
  | none => I 30 8 = Int32.ofInt (-1)
  | some x => (I 30 8).toInt = x.1 ∧ 0 ≤ x.1 ∧ (I 30 9).toInt = x.2.1 ∧ x.2.2.length = m ∧ ∀ k, k < m → (I 35 k).toInt = ((x.2.2.getD k 0 : Nat) : Int)
theorem zst_c {m : Nat} {I J : Nat → Nat → Int32} {st : Option zC3} (h : zst m I st) (h30 : ∀ i, (i = 8 ∨ i = 9) → J 30 i = I 30 i) (h35 : J 35 = I 35) : zst m J st := by
  cases st with
  | none =>
    show J 30 8 = _
    rw [h30 8 (by omega)]
    exact h
  | some x =>
    show (J 30 8).toInt = _ ∧ _ ∧ (J 30 9).toInt = _ ∧ _ ∧ ∀ k, k < m → (J 35 k).toInt = _
    rw [h30 8 (by omega), h30 9 (by omega), h35]
    exact h
theorem zck5 : z_ck (Int32.ofInt 0) (Int32.ofInt 0) (Int32.ofInt 5) 5 5 = true := by
  rw [z_ck_eq]
  decide
/-- a plan is laid down as the best -/
theorem zst_put {m : Nat} (h5 : m ≤ 5) (I : Nat → Nat → Int32) (x4 x5 : Int32) (l : List Nat) (h0 : 0 ≤ x4.toInt) (hl : l.length = m) (h34 : ∀ k, k < m → (I 34 k).toInt = ((l.getD k 0 : Nat) : Int)) : zst m (fun b => cond (Nat.beq b 35) (va_cpy ((z_up (z_up I 30 8 x4) 30 9 x5) 34) ((z_up (z_up I 30 8 x4) 30 9 x5) 35) 0 0 5) ((z_up (z_up I 30 8 x4) 30 9 x5) b)) (some (x4.toInt, x5.toInt, l)) := by
  refine ⟨?_, h0, ?_, hl, ?_⟩
  · show (z_up (z_up I 30 8 x4) 30 9 x5 30 8).toInt = x4.toInt
    rw [z_up_j _ _ _ _ _ (by omega), z_up_s]
  · show (z_up (z_up I 30 8 x4) 30 9 x5 30 9).toInt = x5.toInt
    rw [z_up_s]
  · intro k hk
    show ((if 0 ≤ k ∧ k < 0 + 5 then z_up (z_up I 30 8 x4) 30 9 x5 34 (0 + (k - 0)) else z_up (z_up I 30 8 x4) 30 9 x5 35 k)).toInt = _
    rw [if_pos (by omega), show 0 + (k - 0) = k by omega, z_up_r _ _ _ _ _ (by omega), z_up_r _ _ _ _ _ (by omega)]
    exact h34 k hk
theorem zr_try (X : ZX) (d m ce sl : Nat) (L : Nat → Nat → Int64) (t u r' q : Nat) (h5 : m ≤ 5) (p : Nat → Nat → Nat → Int) (hp : ∀ r i j, p r i j = -1 ∨ 0 ≤ p r i j ∧ p r i j ≤ 9999999) (N gl : Nat) (hg : gl < N) (h13 : N ≤ 13) (x3 : Int32) (hx3 : x3.toInt = gl) : ∀ r, r ≤ m → ∀ (J : Nat → Nat → Int32) (i : Nat) (g sum : Int) (st : Option zC3) (pre : List Nat) (x1 x2 x4 x5 : Int32), J 5 2 = Int32.ofNat m →
    (∀ r, r < m → ∀ i, i < (if r = m - 1 then 1 else N) → ∀ j, i ≤ j → j < N → J 33 (169 * (m - 1 - r) + 13 * i + j) = Int32.ofInt (p r i j)) →
    i ≤ gl → (r = 0 → i = gl) → (r = m → i = 0) → x1.toInt = ((m - r : Nat) : Int) → x2.toInt = i → x4.toInt = g → 0 ≤ g → g ≤ 9999999 → x5.toInt = sum → 0 ≤ sum → sum ≤ 9999999 * ((m - r : Nat) : Int) → pre.length = m - r → (∀ k, k < m - r → (J 34 k).toInt = ((pre.getD k 0 : Nat) : Int)) → zst m J st →
    ∃ K : Nat → Nat → Int32, z_pu (z_run X z_cf z_ff (d + r + 5)) 108 [.ref 30, .int x1, .int x2, .int x3, .int x4, .int x5] (118, z_sd m, ce, sl, J, L, z_rr t u r' q (z_gg m) (z_sf m)) = some (.inl none, (118, z_sd m, ce, sl, K, L, z_rr t u r' q (z_gg m) (z_sf m))) ∧ (∀ a, a ≠ 30 → a ≠ 34 → a ≠ 35 → K a = J a) ∧ (∀ j, j ≠ 8 → j ≠ 9 → K 30 j = J 30 j) ∧ (∀ k, k < m - r → K 34 k = J 34 k) ∧ zst m K (zpick st ((zbe p N gl r i g).map (fun x => (x.1, sum + x.2.1, pre ++ x.2.2)))) := by
  have hp' : zpok p := fun r i j => by have := hp r i j; omega
  have hm1 : (Int32.ofInt (-1)).toInt = -1 := rfl
  intro r
  induction r with
  | zero =>
    intro _ J i g sum st pre x1 x2 x4 x5 hs hT hi hi0 him hx1 hx2 hx4 g0 g1 hx5 s0 s1 hl h34 hst
    have hs' : (J 5 2).toInt = m := by rw [hs, y_on (by omega)]
    have ei := hi0 rfl
    have ez : (zbe p N gl 0 i g).map (fun x => ((x.1, sum + x.2.1, pre ++ x.2.2) : zC3)) = some (x4.toInt, x5.toInt, pre) := by
      show (if i = gl then some (g, 0, []) else none).map _ = _
      rw [if_pos ei, hx4, hx5]
      show some ((g, sum + 0, pre ++ []) : zC3) = _
      rw [Int.add_zero, List.append_nil]
    have hput := zst_put h5 J x4 x5 pre (by omega) (by omega) (fun k hk => h34 k (by omega))
    obtain ⟨K, hK⟩ : ∃ K : Nat → Nat → Int32, K = fun b => cond (Nat.beq b 35) (va_cpy ((z_up (z_up J 30 8 x4) 30 9 x5) 34) ((z_up (z_up J 30 8 x4) 30 9 x5) 35) 0 0 5) ((z_up (z_up J 30 8 x4) 30 9 x5) b) := ⟨_, rfl⟩
    rw [← hK] at hput
    have fr : (∀ a, a ≠ 30 → a ≠ 34 → a ≠ 35 → K a = J a) ∧ (∀ j, j ≠ 8 → j ≠ 9 → K 30 j = J 30 j) ∧ (∀ k, k < m - 0 → K 34 k = J 34 k) := by
      rw [hK]
      refine ⟨?_, ?_, ?_⟩
      · intro a a1 a2 a3
        show cond (Nat.beq a 35) _ _ = _
        rw [z_beq_n a3]
        show z_up (z_up J 30 8 x4) 30 9 x5 a = J a
        rw [z_up_r _ _ _ _ _ a1, z_up_r _ _ _ _ _ a1]
      · intro j j1 j2
        show z_up (z_up J 30 8 x4) 30 9 x5 30 j = _
        rw [z_up_j _ _ _ _ _ j2, z_up_j _ _ _ _ _ j1]
      · intro k _
        show z_up (z_up J 30 8 x4) 30 9 x5 34 k = _
        rw [z_up_r _ _ _ _ _ (by omega), z_up_r _ _ _ _ _ (by omega)]
    have ent : ∀ R, (if J 30 8 = Int32.ofInt (-1) then some (.inl none, (118, z_sd m, ce, sl, K, L, z_rr t u r' q (z_gg m) (z_sf m))) else if x4 < J 30 8 then some (.inl none, (118, z_sd m, ce, sl, K, L, z_rr t u r' q (z_gg m) (z_sf m))) else if x4 = J 30 8 then if J 30 9 ≤ x5 then some (.inl none, (118, z_sd m, ce, sl, J, L, z_rr t u r' q (z_gg m) (z_sf m))) else some (.inl none, (118, z_sd m, ce, sl, K, L, z_rr t u r' q (z_gg m) (z_sf m))) else some (.inl none, (118, z_sd m, ce, sl, J, L, z_rr t u r' q (z_gg m) (z_sf m))) : ZR) = R → z_pu (z_run X z_cf z_ff (d + 0 + 5)) 108 [.ref 30, .int x1, .int x2, .int x3, .int x4, .int x5] (118, z_sd m, ce, sl, J, L, z_rr t u r' q (z_gg m) (z_sf m)) = R := by
      intro R hR
      refine z_en X (d + 2) _ _ [(0, .ref 30), (1, .int x1), (2, .int x2), (3, .int x3), (4, .int x4), (5, .int x5)] _ _ rfl rfl rfl ?_
      rw [show (100000000 : Nat) = 99999997 + 3 by omega, zt_Planner_tryFrom_0 X d, if_neg (by rw [y_i_lt]; omega), zck5, z_gd_t, ← hK]
      exact hR
    rw [ez]
    cases st with
    | none =>
      refine ⟨K, ent _ ?_, fr.1, fr.2.1, fr.2.2, hput⟩
      rw [if_pos (show J 30 8 = Int32.ofInt (-1) from hst)]
    | some b =>
      obtain ⟨t1, t2, t3, t4, t5⟩ := hst
      have nb : ¬ J 30 8 = Int32.ofInt (-1) := by rw [y_i_eq, hm1]; omega
      by_cases c : zlt3 (x4.toInt, x5.toInt, pre) b
      · refine ⟨K, ent _ ?_, fr.1, fr.2.1, fr.2.2, ?_⟩
        · rw [if_neg nb]
          have c' : x4.toInt < b.1 ∨ x4.toInt = b.1 ∧ x5.toInt < b.2.1 := c
          by_cases c1 : x4.toInt < b.1
          · rw [if_pos (by rw [y_i_lt]; omega)]
          · rw [if_neg (by rw [y_i_lt]; omega), if_pos (by rw [y_i_eq]; omega), if_neg (by rw [y_i_le]; omega)]
        · show zst m K (if zlt3 (x4.toInt, x5.toInt, pre) b then some (x4.toInt, x5.toInt, pre) else some b)
          rw [if_pos c]
          exact hput
      · refine ⟨J, ent _ ?_, fun _ _ _ _ => rfl, fun _ _ _ => rfl, fun _ _ => rfl, ?_⟩
        · rw [if_neg nb]
          have c' : ¬ (x4.toInt < b.1 ∨ x4.toInt = b.1 ∧ x5.toInt < b.2.1) := c
          rw [if_neg (by rw [y_i_lt]; omega)]
          by_cases c1 : x4.toInt = b.1
          · rw [if_pos (by rw [y_i_eq]; omega), if_pos (by rw [y_i_le]; omega)]
          · rw [if_neg (by rw [y_i_eq]; omega)]
        · show zst m J (if zlt3 (x4.toInt, x5.toInt, pre) b then some (x4.toInt, x5.toInt, pre) else some b)
          rw [if_neg c]
          exact ⟨t1, t2, t3, t4, t5⟩
  | succ r ih =>
    intro hr J i g sum st pre x1 x2 x4 x5 hs hT hi hi0 him hx1 hx2 hx4 g0 g1 hx5 s0 s1 hl h34 hst
    have hs' : (J 5 2).toInt = m := by rw [hs, y_on (by omega)]
    have hx1n : x1.toNatClampNeg = m - (r + 1) := by rw [y_tn, hx1]; rfl
    have hin1 : z_in x1 5 = true := y_in_t (by omega) (by omega)
    obtain ⟨F, hF⟩ : ∃ F : Nat → Option zC3, F = fun j => if p r i j = -1 then none else (zbe p N gl r j (max g (p r i j))).map (fun x => (x.1, p r i j + x.2.1, j :: x.2.2)) := ⟨_, rfl⟩
    obtain ⟨f, hf⟩ : ∃ f : zC3 → zC3, f = fun x => (x.1, sum + x.2.1, pre ++ x.2.2) := ⟨_, rfl⟩
    have hfl : ∀ x y, zlt3 (f x) (f y) ↔ zlt3 x y := by
      intro x y
      rw [hf]
      show (x.1 < y.1 ∨ x.1 = y.1 ∧ sum + x.2.1 < sum + y.2.1) ↔ (x.1 < y.1 ∨ x.1 = y.1 ∧ x.2.1 < y.2.1)
      omega
    have lp : ∀ n, ∀ (tt : Nat) (J1 : Nat → Nat → Int32) (x6 : Int32), tt + n = gl + 1 → x6.toInt = tt → i ≤ tt → (r = 0 → gl ≤ tt) → (∀ a, a ≠ 30 → a ≠ 34 → a ≠ 35 → J1 a = J a) → (∀ j, j ≠ 8 → j ≠ 9 → J1 30 j = J 30 j) → (∀ k, k < m - (r + 1) → J1 34 k = J 34 k) → zst m J1 (zpick st ((zpk F i (tt - i)).map f)) →
        ∃ K : Nat → Nat → Int32, (∀ M, z_loop X z_cf z_ff (z_pu (z_run X z_cf z_ff (d + r + 5))) 108 (M + 2 * n + 1) 105 [(0, .ref 30), (1, .int x1), (2, .int x2), (3, .int x3), (4, .int x4), (5, .int x5), (6, .int x6)] [] (118, z_sd m, ce, sl, J1, L, z_rr t u r' q (z_gg m) (z_sf m)) = some (.inl none, (118, z_sd m, ce, sl, K, L, z_rr t u r' q (z_gg m) (z_sf m)))) ∧ (∀ a, a ≠ 30 → a ≠ 34 → a ≠ 35 → K a = J a) ∧ (∀ j, j ≠ 8 → j ≠ 9 → K 30 j = J 30 j) ∧ (∀ k, k < m - (r + 1) → K 34 k = J 34 k) ∧ zst m K (zpick st ((zpk F i (gl + 1 - i)).map f)) := by
      intro n
      induction n with
      | zero =>
        intro tt J1 x6 h1 h2 h3 hgt q1 q2 q3 q4
        refine ⟨J1, fun M => ?_, q1, q2, q3, ?_⟩
        · rw [show M + 2 * 0 + 1 = M + 1 by omega, zb_Planner_tryFrom_105, if_pos (by rw [y_i_lt]; omega)]
        · rw [show gl + 1 - i = tt - i by omega]
          exact q4
      | succ n ihn =>
        intro tt J1 x6 h1 h2 h3 hgt q1 q2 q3 q4
        have hpix := z_pix hx1 hx2 h2 (by omega) (by omega) (by omega)
        have hpn : (z_p_Planner_pressIndex x1 x2 x6).toNatClampNeg = 169 * (m - 1 - r) + 13 * i + tt := by rw [y_tn, hpix]; omega
        have hpi : z_in (z_p_Planner_pressIndex x1 x2 x6) 845 = true := y_in_t (by omega) (by omega)
        have hcell : J1 33 (169 * (m - 1 - r) + 13 * i + tt) = Int32.ofInt (p r i tt) := by
          rw [q1 33 (by omega) (by omega) (by omega)]
          refine hT r (by omega) i ?_ tt h3 (by omega)
          by_cases cr : r = m - 1
          · rw [if_pos cr]
            have := him (by omega)
            omega
          · rw [if_neg cr]
            omega
        have hpr := hp r i tt
        have hpe : (Int32.ofInt (p r i tt)).toInt = p r i tt := y_oi (by omega) (by omega)
        have hx6' : (x6 + Int32.ofInt 1).toInt = ((tt + 1 : Nat) : Int) := by rw [y_adl (by omega) (by omega) (by omega) (by omega)]; omega
        have hnext : zpick st ((zpk F i (tt + 1 - i)).map f) = zpick (zpick st ((zpk F i (tt - i)).map f)) ((F tt).map f) := by
          rw [show tt + 1 - i = (tt - i) + 1 by omega]
          show zpick st ((zpick (zpk F i (tt - i)) (F (i + (tt - i)))).map f) = _
          rw [show i + (tt - i) = tt by omega, zpick_map f hfl, zpick_assoc]
        -- what is passed over
        have skip : zpick (zpick st ((zpk F i (tt - i)).map f)) ((F tt).map f) = zpick st ((zpk F i (tt - i)).map f) → (∀ M, z_loop X z_cf z_ff (z_pu (z_run X z_cf z_ff (d + r + 5))) 108 (M + 1) 105 [(0, .ref 30), (1, .int x1), (2, .int x2), (3, .int x3), (4, .int x4), (5, .int x5), (6, .int x6)] [] (118, z_sd m, ce, sl, J1, L, z_rr t u r' q (z_gg m) (z_sf m)) = z_loop X z_cf z_ff (z_pu (z_run X z_cf z_ff (d + r + 5))) 108 M 178 [(0, .ref 30), (1, .int x1), (2, .int x2), (3, .int x3), (4, .int x4), (5, .int x5), (6, .int x6)] [] (118, z_sd m, ce, sl, J1, L, z_rr t u r' q (z_gg m) (z_sf m))) →
            ∃ K : Nat → Nat → Int32, (∀ M, z_loop X z_cf z_ff (z_pu (z_run X z_cf z_ff (d + r + 5))) 108 (M + 2 * (n + 1) + 1) 105 [(0, .ref 30), (1, .int x1), (2, .int x2), (3, .int x3), (4, .int x4), (5, .int x5), (6, .int x6)] [] (118, z_sd m, ce, sl, J1, L, z_rr t u r' q (z_gg m) (z_sf m)) = some (.inl none, (118, z_sd m, ce, sl, K, L, z_rr t u r' q (z_gg m) (z_sf m)))) ∧ (∀ a, a ≠ 30 → a ≠ 34 → a ≠ 35 → K a = J a) ∧ (∀ j, j ≠ 8 → j ≠ 9 → K 30 j = J 30 j) ∧ (∀ k, k < m - (r + 1) → K 34 k = J 34 k) ∧ zst m K (zpick st ((zpk F i (gl + 1 - i)).map f)) := by
          intro e1 e2
          obtain ⟨K, k1, k2, k3, k4, k5⟩ := ihn (tt + 1) J1 (x6 + Int32.ofInt 1) (by omega) hx6' (by omega) (fun r0 => by have := hgt r0; omega) q1 q2 q3 (by rw [hnext, e1]; exact q4)
          refine ⟨K, fun M => ?_, k2, k3, k4, k5⟩
          rw [show M + 2 * (n + 1) + 1 = (M + 2 * n + 1 + 1) + 1 by omega, e2, zb_Planner_tryFrom_178]
          exact k1 M
        by_cases c : p r i tt = -1
        · have eF : F tt = none := by
            rw [hF]
            show (if p r i tt = -1 then none else _) = _
            rw [if_pos c]
          refine skip (by rw [eF]; exact zpick_none _) (fun M => ?_)
          rw [zb_Planner_tryFrom_105, if_neg (by rw [y_i_lt]; omega), hpi, z_gd_t, hpn, hcell, if_pos (by rw [c])]
        · have nc : ¬ Int32.ofInt (p r i tt) = Int32.ofInt (-1) := by rw [y_i_eq, hpe, hm1]; exact c
          have eF : F tt = (zbe p N gl r tt (max g (p r i tt))).map (fun x => (x.1, p r i tt + x.2.1, tt :: x.2.2)) := by
            rw [hF]
            show (if p r i tt = -1 then none else _) = _
            rw [if_neg c]
          -- what is tried
          have go : (∀ M, z_loop X z_cf z_ff (z_pu (z_run X z_cf z_ff (d + r + 5))) 108 (M + 1) 105 [(0, .ref 30), (1, .int x1), (2, .int x2), (3, .int x3), (4, .int x4), (5, .int x5), (6, .int x6)] [] (118, z_sd m, ce, sl, J1, L, z_rr t u r' q (z_gg m) (z_sf m)) = z_b0 (z_x [] 175) (z_pu (z_run X z_cf z_ff (d + r + 5)) 108 [.ref 30, .int (x1 + Int32.ofInt 1), .int x6, .int x3, .int (z_mxi x4 (Int32.ofInt (p r i tt))), .int (x5 + Int32.ofInt (p r i tt))] (118, z_sd m, ce, sl, z_up J1 34 (m - (r + 1)) x6, L, z_rr t u r' q (z_gg m) (z_sf m))) (fun w => z_loop X z_cf z_ff (z_pu (z_run X z_cf z_ff (d + r + 5))) 108 M 178 [(0, .ref 30), (1, .int x1), (2, .int x2), (3, .int x3), (4, .int x4), (5, .int x5), (6, .int x6)] [] w)) →
              ∃ K : Nat → Nat → Int32, (∀ M, z_loop X z_cf z_ff (z_pu (z_run X z_cf z_ff (d + r + 5))) 108 (M + 2 * (n + 1) + 1) 105 [(0, .ref 30), (1, .int x1), (2, .int x2), (3, .int x3), (4, .int x4), (5, .int x5), (6, .int x6)] [] (118, z_sd m, ce, sl, J1, L, z_rr t u r' q (z_gg m) (z_sf m)) = some (.inl none, (118, z_sd m, ce, sl, K, L, z_rr t u r' q (z_gg m) (z_sf m)))) ∧ (∀ a, a ≠ 30 → a ≠ 34 → a ≠ 35 → K a = J a) ∧ (∀ j, j ≠ 8 → j ≠ 9 → K 30 j = J 30 j) ∧ (∀ k, k < m - (r + 1) → K 34 k = J 34 k) ∧ zst m K (zpick st ((zpk F i (gl + 1 - i)).map f)) := by
            intro e2
            have b1 : (x1 + Int32.ofInt 1).toInt = ((m - r : Nat) : Int) := by rw [y_adl (by omega) (by omega) (by omega) (by omega)]; omega
            have b4 : (z_mxi x4 (Int32.ofInt (p r i tt))).toInt = max g (p r i tt) := by rw [y_mxi, hx4, hpe]
            have b5 : (x5 + Int32.ofInt (p r i tt)).toInt = sum + p r i tt := by rw [y_ad (by omega) (by omega), hx5, hpe]
            obtain ⟨K1, k1, k2, k3, k4, k5⟩ := ih (by omega) (z_up J1 34 (m - (r + 1)) x6) tt (max g (p r i tt)) (sum + p r i tt) (zpick st ((zpk F i (tt - i)).map f)) (pre ++ [tt]) (x1 + Int32.ofInt 1) x6 (z_mxi x4 (Int32.ofInt (p r i tt))) (x5 + Int32.ofInt (p r i tt))
              (by rw [z_up_r _ _ _ _ _ (by omega), q1 5 (by omega) (by omega) (by omega)]; exact hs)
              (by rw [z_up_r _ _ _ _ _ (by omega), q1 33 (by omega) (by omega) (by omega)]; exact hT)
              (by omega) (fun r0 => by have := hgt r0; omega) (fun r0 => by omega) b1 h2 b4 (by omega) (by omega) b5 (by omega) (by omega) (by rw [List.length_append, hl]; show m - (r + 1) + 1 = m - r; omega)
              (by
                intro k hk
                by_cases ck : k = m - (r + 1)
                · subst ck
                  rw [z_up_s, h2, List.getD_eq_getElem?_getD, List.getElem?_append_right (by omega), hl, Nat.sub_self]
                  rfl
                · rw [z_up_j _ _ _ _ _ ck, q3 k (by omega), h34 k (by omega), List.getD_eq_getElem?_getD, List.getD_eq_getElem?_getD, List.getElem?_append_left (by omega)])
              (zst_c q4 (fun j hj => by rw [z_up_r _ _ _ _ _ (by omega)]) (z_up_r _ _ _ _ _ (by omega)))
            have eC : (zbe p N gl r tt (max g (p r i tt))).map (fun x => ((x.1, sum + p r i tt + x.2.1, pre ++ [tt] ++ x.2.2) : zC3)) = (F tt).map f := by
              rw [eF, hf, Option.map_map]
              congr 1
              funext x
              show ((x.1, sum + p r i tt + x.2.1, pre ++ [tt] ++ x.2.2) : zC3) = (x.1, sum + (p r i tt + x.2.1), pre ++ (tt :: x.2.2))
              rw [Int.add_assoc, List.append_assoc]
              rfl
            rw [eC] at k5
            obtain ⟨K, l1, l2, l3, l4, l5⟩ := ihn (tt + 1) K1 (x6 + Int32.ofInt 1) (by omega) hx6' (by omega) (fun r0 => by have := hgt r0; omega)
              (fun a a1 a2 a3 => by rw [k2 a a1 a2 a3, z_up_r _ _ _ _ _ a2, q1 a a1 a2 a3])
              (fun j j1 j2 => by rw [k3 j j1 j2, z_up_r _ _ _ _ _ (by omega), q2 j j1 j2])
              (fun k hk => by rw [k4 k (by omega), z_up_j _ _ _ _ _ (by omega), q3 k hk])
              (by rw [hnext]; exact k5)
            refine ⟨K, fun M => ?_, l2, l3, l4, l5⟩
            rw [show M + 2 * (n + 1) + 1 = (M + 2 * n + 1 + 1) + 1 by omega, e2, k1, z_b0_v, zb_Planner_tryFrom_178]
            exact l1 M
          by_cases c2 : J1 30 8 = Int32.ofInt (-1)
          · refine go (fun M => ?_)
            rw [zb_Planner_tryFrom_105, if_neg (by rw [y_i_lt]; omega), hpi, z_gd_t, hpn, hcell, if_neg nc, if_pos c2, hin1, z_gd_t, hx1n]
          · by_cases c3 : J1 30 8 < Int32.ofInt (p r i tt)
            · refine skip ?_ (fun M => ?_)
              · cases est : zpick st ((zpk F i (tt - i)).map f) with
                | none =>
                  rw [est] at q4
                  exact absurd q4 c2
                | some b =>
                  rw [est] at q4
                  have hb1 := q4.1
                  rw [y_i_lt, hpe, hb1] at c3
                  cases eFt : (F tt).map f with
                  | none => rfl
                  | some y =>
                    show (if zlt3 y b then some y else some b) = some b
                    rw [if_neg]
                    intro hy
                    obtain ⟨z1, z2⟩ := zbe_is hp' N gl r (by omega) tt (by omega) (max g (p r i tt)) (by omega) (by omega)
                    by_cases cw : zW p N gl r tt = zNV
                    · rw [eF, z1 cw] at eFt
                      exact absurd eFt (by simp)
                    · rw [eF, z2 cw, hf] at eFt
                      have ey : (max (max g (p r i tt)) (zW p N gl r tt)) = y.1 := congrArg Prod.fst (Option.some.inj eFt)
                      have hy' : y.1 < b.1 ∨ y.1 = b.1 ∧ y.2.1 < b.2.1 := hy
                      omega
              · rw [zb_Planner_tryFrom_105, if_neg (by rw [y_i_lt]; omega), hpi, z_gd_t, hpn, hcell, if_neg nc, if_neg c2, if_pos c3]
            · refine go (fun M => ?_)
              rw [zb_Planner_tryFrom_105, if_neg (by rw [y_i_lt]; omega), hpi, z_gd_t, hpn, hcell, if_neg nc, if_neg c2, if_neg c3, hin1, z_gd_t, hx1n]
    have hoff : ∀ j, i + (gl + 1 - i) ≤ j → j < i + (gl + 1 - i) + (N - (gl + 1)) → F j = none := by
      intro j j1 j2
      rw [hF]
      show (if p r i j = -1 then none else _) = none
      by_cases c : p r i j = -1
      · rw [if_pos c]
      · rw [if_neg c, zbe_off p N gl r j _ (by omega)]
        rfl
    have hall : zbe p N gl (r + 1) i g = zpk F i (gl + 1 - i) := by
      rw [← zpk_ext F i (gl + 1 - i) (N - (gl + 1)) hoff, hF, show gl + 1 - i + (N - (gl + 1)) = N - i by omega]
      rfl
    rw [hall, ← hf]
    by_cases cr : r = 0
    · have hno : zpk F i (gl - i) = none := by
        refine zpk_all F i (gl - i) (fun j j1 j2 => ?_)
        rw [hF]
        show (if p r i j = -1 then none else (zbe p N gl r j (max g (p r i j))).map _) = none
        by_cases c : p r i j = -1
        · rw [if_pos c]
        · rw [if_neg c, cr]
          show (if j = gl then some _ else none).map _ = none
          rw [if_neg (by omega)]
          rfl
      obtain ⟨K, k1, k2, k3, k4, k5⟩ := lp 1 gl J x3 (by omega) hx3 hi (fun _ => Nat.le_refl _) (fun _ _ _ _ => rfl) (fun _ _ _ => rfl) (fun _ _ => rfl) (by rw [hno]; show zst m J (zpick st none); rw [zpick_none]; exact hst)
      refine ⟨K, ?_, k2, k3, k4, k5⟩
      refine z_en X (d + r + 3) _ _ [(0, .ref 30), (1, .int x1), (2, .int x2), (3, .int x3), (4, .int x4), (5, .int x5)] _ _ rfl rfl rfl ?_
      rw [show (100000000 : Nat) = (99999994 + 2 * 1 + 1) + 3 by omega, zt_Planner_tryFrom_0 X (d + r + 1), if_pos (by rw [y_i_lt]; omega), if_pos (by rw [y_i_eq, y_sbl (by omega) (by omega) (by omega) (by omega)]; omega)]
      exact k1 _
    · obtain ⟨K, k1, k2, k3, k4, k5⟩ := lp (gl + 1 - i) i J x2 (by omega) hx2 (Nat.le_refl _) (fun r0 => absurd r0 cr) (fun _ _ _ _ => rfl) (fun _ _ _ => rfl) (fun _ _ => rfl) (by rw [Nat.sub_self]; show zst m J (zpick st none); rw [zpick_none]; exact hst)
      refine ⟨K, ?_, k2, k3, k4, k5⟩
      refine z_en X (d + r + 3) _ _ [(0, .ref 30), (1, .int x1), (2, .int x2), (3, .int x3), (4, .int x4), (5, .int x5)] _ _ rfl rfl rfl ?_
      rw [show (100000000 : Nat) = (99999996 - 2 * (gl + 1 - i) + 2 * (gl + 1 - i) + 1) + 3 by omega, zt_Planner_tryFrom_0 X (d + r + 1), if_pos (by rw [y_i_lt]; omega), if_neg (by rw [y_i_eq, y_sbl (by omega) (by omega) (by omega) (by omega)]; omega)]
      exact k1 _
