/-! RULES, 3: clauses -/
/-- a clause: its stand, what is wanted, unless (no steps: always) -/
abbrev zcl : Type := Int × List Int × List Int
def zwo (vals : Nat → Int32) (l : List Int) : Int32 := (zevs vals l []).headD 0
def zwant (vals : Nat → Int32) (s : Int) : List zcl → Option Int32
  | [] => none
  | c :: r => if c.1 = s ∧ (c.2.2 = [] ∨ zwo vals c.2.2 = 0) then some (zwo vals c.2.1) else zwant vals s r
def zcwf (c : zcl) : Prop := zwf c.2.1 0 ∧ (c.2.2 = [] ∨ zwf c.2.2 0) ∧ c.2.1.length ≤ 400 ∧ c.2.2.length ≤ 400
def zclC (F : Nat → Nat → Int32) (cs a b c e : Nat) (i : Nat) (x : zcl) : Prop := (F a i).toInt = x.1 ∧ ∃ p : Nat, (F b i).toInt = p ∧ (F c i).toInt = p + x.2.1.length ∧ (F e i).toInt = p + x.2.1.length + x.2.2.length ∧ p + x.2.1.length + x.2.2.length ≤ 400 ∧ zrow (F cs) p x.2.1 ∧ zrow (F cs) (p + x.2.1.length) x.2.2
def zclsC (F : Nat → Nat → Int32) (cs a b c e : Nat) : Nat → List zcl → Prop
  | _, [] => True
  | i, x :: l => (zclC F cs a b c e i x ∧ zcwf x) ∧ zclsC F cs a b c e (i + 1) l
def zclM (F : Nat → Nat → Int32) (k : Nat) (x : zcl) : Prop := (F 72 k).toInt = x.1 ∧ (∃ p : Nat, F 73 k = Int32.ofNat p ∧ p + 2 * x.2.1.length < 2000 ∧ zcd (F 75) p x.2.1) ∧ (x.2.2 = [] → F 74 k = Int32.ofInt (-1)) ∧ (x.2.2 ≠ [] → ∃ p : Nat, F 74 k = Int32.ofNat p ∧ p + 2 * x.2.2.length < 2000 ∧ zcd (F 75) p x.2.2)
def zclsM (F : Nat → Nat → Int32) : Nat → List zcl → Prop
  | _, [] => True
  | k, x :: l => (zclM F k x ∧ zcwf x) ∧ zclsM F (k + 1) l
theorem zclsC_c {F G : Nat → Nat → Int32} {cs a b c e : Nat} (h1 : G cs = F cs) (h2 : G a = F a) (h3 : G b = F b) (h4 : G c = F c) (h5 : G e = F e) (l : List zcl) : ∀ i, zclsC F cs a b c e i l → zclsC G cs a b c e i l := by
  induction l with
  | nil => intro _ _; trivial
  | cons x l ih =>
    intro i h
    refine ⟨⟨?_, h.1.2⟩, ih _ h.2⟩
    have := h.1.1
    unfold zclC at *
    rw [h1, h2, h3, h4, h5]
    exact this
theorem zclsM_c {F G : Nat → Nat → Int32} (h1 : G 72 = F 72) (h2 : G 73 = F 73) (h3 : G 74 = F 74) (h4 : G 75 = F 75) (l : List zcl) : ∀ i, zclsM F i l → zclsM G i l := by
  induction l with
  | nil => intro _ _; trivial
  | cons x l ih =>
    intro i h
    refine ⟨⟨?_, h.1.2⟩, ih _ h.2⟩
    have := h.1.1
    unfold zclM at *
    rw [h1, h2, h3, h4]
    exact this
theorem zr_wanted8_loop (X : ZX) (d m ce sl : Nat) (L : Nat → Nat → Int64) (t u r q : Nat) (s : Int32) (l : List zcl) : ∀ (I : Nat → Nat → Int32) (i M : Nat), zclsC I 9 11 12 13 14 i l → (I 8 7).toInt = i + l.length → i + l.length ≤ 12 →
    ∃ J : Nat → Nat → Int32, z_loop X z_cf z_ff (z_pu (z_run X z_cf z_ff (d + 4))) 95 (M + 2 * l.length + 1) 2 [(0, .ref 8), (1, .int s), (2, .ref 29), (3, .int (Int32.ofNat i))] [] (118, z_sd m, ce, sl, I, L, z_rr t u r q (z_gg m) (z_sf m)) = some (.inl (some (.int ((zwant (I 29) s.toInt l).getD (I 29 0)))), (118, z_sd m, ce, sl, J, L, z_rr t u r q (z_gg m) (z_sf m))) ∧ (∀ a, a ≠ 10 → J a = I a) := by
  induction l with
  | nil =>
    intro I i M h1 h2 h3
    refine ⟨I, ?_, fun _ _ => rfl⟩
    simp only [List.length_nil] at h2 h3
    rw [show M + 2 * ([] : List zcl).length + 1 = M + 1 from rfl, zb_Rules_wantedGap_8_29_2, if_pos (by rw [y_i_le, h2, y_on (by omega)]; omega), z_gd_inc (by omega) (by omega) (by omega)]
    rfl
  | cons x l ih =>
    intro I i M h1 h2 h3
    obtain ⟨⟨⟨a1, p, a2, a3, a4, a5, a6, a7⟩, w1, w2, w3, w4⟩, hl⟩ := h1
    simp only [List.length_cons] at h2 h3
    have hi : (Int32.ofNat i).toNatClampNeg = i := z_onn (by omega)
    have hin : z_in (Int32.ofNat i) 12 = true := z_in_n (by omega) (by omega)
    rw [show M + 2 * (x :: l).length + 1 = M + 2 * l.length + 2 + 1 by simp; omega, zb_Rules_wantedGap_8_29_2, if_neg (by rw [y_i_le, h2, y_on (by omega)]; omega), hin, z_gd_t, hi, z_ofa (by omega)]
    unfold zwant
    by_cases c1 : x.1 = s.toInt
    · rw [if_pos (y_i_eq.mpr (by rw [a1, c1])), z_gd_t, z_gd_t]
      have hun : ∃ J : Nat → Nat → Int32, z_pu (z_run X z_cf z_ff (d + 4)) 96 [.ref 8, .int (I 13 i), .int (I 14 i), .ref 29] (118, z_sd m, ce, sl, I, L, z_rr t u r q (z_gg m) (z_sf m)) = some (.inl (some (.int (if x.2.2 = [] then Int32.ofInt 0 else zwo (I 29) x.2.2))), (118, z_sd m, ce, sl, J, L, z_rr t u r q (z_gg m) (z_sf m))) ∧ (∀ a, a ≠ 10 → J a = I a) := by
        rcases w2 with w2 | w2
        · have ee : I 14 i = I 13 i := y_i_eq.mpr (by rw [a4, a3, w2]; simp)
          rw [ee, if_pos w2]
          exact ⟨I, zr_valueOf8_0 X d m ce sl L t u r q I _, fun _ _ => rfl⟩
        · have hne : x.2.2 ≠ [] := by
            intro h
            rw [h] at w2
            exact absurd (show (0 : Nat) = 1 from w2) (by decide)
          rw [if_neg hne]
          exact zr_valueOf8 X d m ce sl L t u r q x.2.2 I _ _ (p + x.2.1.length) a7 w2 (by rw [a3]; simp) (by rw [a4]; simp) a5
      obtain ⟨J, g1, g2⟩ := hun
      rw [g1, z_bi_v, show M + 2 * l.length + 2 = M + 2 * l.length + 1 + 1 by omega, zb_Rules_wantedGap_8_29_37]
      have hJ29 : J 29 = I 29 := g2 29 (by omega)
      by_cases c2 : x.2.2 = [] ∨ zwo (I 29) x.2.2 = 0
      · have c3 : (if x.2.2 = [] then Int32.ofInt 0 else zwo (I 29) x.2.2) = 0 := by
          by_cases c4 : x.2.2 = []
          · rw [if_pos c4]; rfl
          · rw [if_neg c4]; exact c2.resolve_left c4
        obtain ⟨K, g3, g4⟩ := zr_valueOf8 X d m ce sl L t u r q x.2.1 J (J 12 i) (J 13 i) p (by rw [g2 9 (by omega)]; exact a6) w1 (by rw [g2 12 (by omega)]; exact a2) (by rw [g2 13 (by omega)]; exact a3) (by omega)
        refine ⟨K, ?_, fun a ha => by rw [g4 a ha, g2 a ha]⟩
        rw [if_pos c3, hin, z_gd_t, z_gd_t, hi, g3, z_bi_v, zb_Rules_wantedGap_8_29_57, if_pos ⟨c1, c2⟩, hJ29]
        rfl
      · have c3 : ¬ (if x.2.2 = [] then Int32.ofInt 0 else zwo (I 29) x.2.2) = 0 := by
          rw [if_neg (fun h => c2 (Or.inl h))]
          exact fun h => c2 (Or.inr h)
        obtain ⟨K, g3, g4⟩ := ih J (i + 1) M (zclsC_c (g2 _ (by omega)) (g2 _ (by omega)) (g2 _ (by omega)) (g2 _ (by omega)) (g2 _ (by omega)) l _ hl) (by rw [g2 8 (by omega), h2]; omega) (by omega)
        refine ⟨K, ?_, fun a ha => by rw [g4 a ha, g2 a ha]⟩
        rw [if_neg c3, z_ofa (by omega), if_neg (fun h => c2 h.2), g3, hJ29]
    · obtain ⟨K, g3, g4⟩ := ih I (i + 1) (M + 1) hl (by rw [h2]; omega) (by omega)
      refine ⟨K, ?_, g4⟩
      rw [if_neg (fun h => c1 (by rw [← a1, h])), if_neg (fun h => c1 h.1), show M + 2 * l.length + 2 = M + 1 + 2 * l.length + 1 by omega, g3]
theorem zr_wanted8 (X : ZX) (d m ce sl : Nat) (L : Nat → Nat → Int64) (t u r q : Nat) (s : Int32) (l : List zcl) (I : Nat → Nat → Int32) (h1 : zclsC I 9 11 12 13 14 0 l) (h2 : (I 8 7).toInt = l.length) (h3 : l.length ≤ 12) :
    ∃ J : Nat → Nat → Int32, z_pu (z_run X z_cf z_ff (d + 5)) 95 [.ref 8, .int s, .ref 29] (118, z_sd m, ce, sl, I, L, z_rr t u r q (z_gg m) (z_sf m)) = some (.inl (some (.int ((zwant (I 29) s.toInt l).getD (I 29 0)))), (118, z_sd m, ce, sl, J, L, z_rr t u r q (z_gg m) (z_sf m))) ∧ (∀ a, a ≠ 10 → J a = I a) := by
  obtain ⟨J, g1, g2⟩ := zr_wanted8_loop X d m ce sl L t u r q s l I 0 (99999998 - 2 * l.length) h1 (by rw [h2]; simp) (by omega)
  refine ⟨J, ?_, g2⟩
  refine z_en X (d + 2) _ _ [(0, .ref 8), (1, .int s), (2, .ref 29)] _ _ rfl rfl rfl ?_
  rw [zb_Rules_wantedGap_8_29_0]
  rw [show 99999998 - 2 * l.length + 2 * l.length + 1 = 99999999 by omega] at g1
  exact g1
theorem zr_wanted15_loop (X : ZX) (d m ce sl : Nat) (L : Nat → Nat → Int64) (t u r q : Nat) (s : Int32) (l : List zcl) : ∀ (I : Nat → Nat → Int32) (i M : Nat), zclsC I 16 18 19 20 21 i l → (I 15 7).toInt = i + l.length → i + l.length ≤ 12 →
    ∃ J : Nat → Nat → Int32, z_loop X z_cf z_ff (z_pu (z_run X z_cf z_ff (d + 4))) 95 (M + 2 * l.length + 1) 2 [(0, .ref 15), (1, .int s), (2, .ref 29), (3, .int (Int32.ofNat i))] [] (118, z_sd m, ce, sl, I, L, z_rr t u r q (z_gg m) (z_sf m)) = some (.inl (some (.int ((zwant (I 29) s.toInt l).getD (I 29 0)))), (118, z_sd m, ce, sl, J, L, z_rr t u r q (z_gg m) (z_sf m))) ∧ (∀ a, a ≠ 17 → J a = I a) := by
  induction l with
  | nil =>
    intro I i M h1 h2 h3
    refine ⟨I, ?_, fun _ _ => rfl⟩
    simp only [List.length_nil] at h2 h3
    rw [show M + 2 * ([] : List zcl).length + 1 = M + 1 from rfl, zb_Rules_wantedGap_15_29_2, if_pos (by rw [y_i_le, h2, y_on (by omega)]; omega), z_gd_inc (by omega) (by omega) (by omega)]
    rfl
  | cons x l ih =>
    intro I i M h1 h2 h3
    obtain ⟨⟨⟨a1, p, a2, a3, a4, a5, a6, a7⟩, w1, w2, w3, w4⟩, hl⟩ := h1
    simp only [List.length_cons] at h2 h3
    have hi : (Int32.ofNat i).toNatClampNeg = i := z_onn (by omega)
    have hin : z_in (Int32.ofNat i) 12 = true := z_in_n (by omega) (by omega)
    rw [show M + 2 * (x :: l).length + 1 = M + 2 * l.length + 2 + 1 by simp; omega, zb_Rules_wantedGap_15_29_2, if_neg (by rw [y_i_le, h2, y_on (by omega)]; omega), hin, z_gd_t, hi, z_ofa (by omega)]
    unfold zwant
    by_cases c1 : x.1 = s.toInt
    · rw [if_pos (y_i_eq.mpr (by rw [a1, c1])), z_gd_t, z_gd_t]
      have hun : ∃ J : Nat → Nat → Int32, z_pu (z_run X z_cf z_ff (d + 4)) 96 [.ref 15, .int (I 20 i), .int (I 21 i), .ref 29] (118, z_sd m, ce, sl, I, L, z_rr t u r q (z_gg m) (z_sf m)) = some (.inl (some (.int (if x.2.2 = [] then Int32.ofInt 0 else zwo (I 29) x.2.2))), (118, z_sd m, ce, sl, J, L, z_rr t u r q (z_gg m) (z_sf m))) ∧ (∀ a, a ≠ 17 → J a = I a) := by
        rcases w2 with w2 | w2
        · have ee : I 21 i = I 20 i := y_i_eq.mpr (by rw [a4, a3, w2]; simp)
          rw [ee, if_pos w2]
          exact ⟨I, zr_valueOf15_0 X d m ce sl L t u r q I _, fun _ _ => rfl⟩
        · have hne : x.2.2 ≠ [] := by
            intro h
            rw [h] at w2
            exact absurd (show (0 : Nat) = 1 from w2) (by decide)
          rw [if_neg hne]
          exact zr_valueOf15 X d m ce sl L t u r q x.2.2 I _ _ (p + x.2.1.length) a7 w2 (by rw [a3]; simp) (by rw [a4]; simp) a5
      obtain ⟨J, g1, g2⟩ := hun
      rw [g1, z_bi_v, show M + 2 * l.length + 2 = M + 2 * l.length + 1 + 1 by omega, zb_Rules_wantedGap_15_29_37]
      have hJ29 : J 29 = I 29 := g2 29 (by omega)
      by_cases c2 : x.2.2 = [] ∨ zwo (I 29) x.2.2 = 0
      · have c3 : (if x.2.2 = [] then Int32.ofInt 0 else zwo (I 29) x.2.2) = 0 := by
          by_cases c4 : x.2.2 = []
          · rw [if_pos c4]; rfl
          · rw [if_neg c4]; exact c2.resolve_left c4
        obtain ⟨K, g3, g4⟩ := zr_valueOf15 X d m ce sl L t u r q x.2.1 J (J 19 i) (J 20 i) p (by rw [g2 16 (by omega)]; exact a6) w1 (by rw [g2 19 (by omega)]; exact a2) (by rw [g2 20 (by omega)]; exact a3) (by omega)
        refine ⟨K, ?_, fun a ha => by rw [g4 a ha, g2 a ha]⟩
        rw [if_pos c3, hin, z_gd_t, z_gd_t, hi, g3, z_bi_v, zb_Rules_wantedGap_15_29_57, if_pos ⟨c1, c2⟩, hJ29]
        rfl
      · have c3 : ¬ (if x.2.2 = [] then Int32.ofInt 0 else zwo (I 29) x.2.2) = 0 := by
          rw [if_neg (fun h => c2 (Or.inl h))]
          exact fun h => c2 (Or.inr h)
        obtain ⟨K, g3, g4⟩ := ih J (i + 1) M (zclsC_c (g2 _ (by omega)) (g2 _ (by omega)) (g2 _ (by omega)) (g2 _ (by omega)) (g2 _ (by omega)) l _ hl) (by rw [g2 15 (by omega), h2]; omega) (by omega)
        refine ⟨K, ?_, fun a ha => by rw [g4 a ha, g2 a ha]⟩
        rw [if_neg c3, z_ofa (by omega), if_neg (fun h => c2 h.2), g3, hJ29]
    · obtain ⟨K, g3, g4⟩ := ih I (i + 1) (M + 1) hl (by rw [h2]; omega) (by omega)
      refine ⟨K, ?_, g4⟩
      rw [if_neg (fun h => c1 (by rw [← a1, h])), if_neg (fun h => c1 h.1), show M + 2 * l.length + 2 = M + 1 + 2 * l.length + 1 by omega, g3]
theorem zr_wanted15 (X : ZX) (d m ce sl : Nat) (L : Nat → Nat → Int64) (t u r q : Nat) (s : Int32) (l : List zcl) (I : Nat → Nat → Int32) (h1 : zclsC I 16 18 19 20 21 0 l) (h2 : (I 15 7).toInt = l.length) (h3 : l.length ≤ 12) :
    ∃ J : Nat → Nat → Int32, z_pu (z_run X z_cf z_ff (d + 5)) 95 [.ref 15, .int s, .ref 29] (118, z_sd m, ce, sl, I, L, z_rr t u r q (z_gg m) (z_sf m)) = some (.inl (some (.int ((zwant (I 29) s.toInt l).getD (I 29 0)))), (118, z_sd m, ce, sl, J, L, z_rr t u r q (z_gg m) (z_sf m))) ∧ (∀ a, a ≠ 17 → J a = I a) := by
  obtain ⟨J, g1, g2⟩ := zr_wanted15_loop X d m ce sl L t u r q s l I 0 (99999998 - 2 * l.length) h1 (by rw [h2]; simp) (by omega)
  refine ⟨J, ?_, g2⟩
  refine z_en X (d + 2) _ _ [(0, .ref 15), (1, .int s), (2, .ref 29)] _ _ rfl rfl rfl ?_
  rw [zb_Rules_wantedGap_15_29_0]
  rw [show 99999998 - 2 * l.length + 2 * l.length + 1 = 99999999 by omega] at g1
  exact g1
/-- the model's search for the first clause that tells -/
theorem zr_moves_loop (X : ZX) (d m ce sl : Nat) (L : Nat → Nat → Int64) (t u r q : Nat) (s : Int32) (l : List zcl) : ∀ (I : Nat → Nat → Int32) (k M : Nat), zclsM I k l → ¬ I 55 28 = 0 → z_in (I 55 29) 2 = true → (Int32.ofInt 12 * I 55 29 + I 71 (I 55 29).toNatClampNeg).toInt = k + l.length → k + l.length ≤ 24 →
    ∃ (J : Nat → Nat → Int32) (M' : Nat), (∀ a, a ≠ 90 → J a = I a) ∧ z_loop X z_cf z_ff (z_pu (z_run X z_cf z_ff (d + 4))) 216 (M + 2 * l.length + 2) 132 [(0, .ref 55), (1, .int s), (3, .int (Int32.ofInt (-1))), (4, .int (Int32.ofNat k))] [] (118, z_sd m, ce, sl, I, L, z_rr t u r q (z_gg m) (z_sf m)) = (match zwant (I 89) s.toInt l with
      | none => some (.inl none, (118, z_sd m, ce, sl, J, L, z_rr t u r q (z_gg m) (z_sf m)))
      | some w => z_loop X z_cf z_ff (z_pu (z_run X z_cf z_ff (d + 4))) 216 (M' + 1) 227 [(0, .ref 55), (1, .int s)] [.int w] (118, z_sd m, ce, sl, J, L, z_rr t u r q (z_gg m) (z_sf m))) := by
  induction l with
  | nil =>
    intro I k M h1 h0 hb h2 h3
    refine ⟨I, 0, fun _ _ => rfl, ?_⟩
    simp only [List.length_nil] at h2 h3
    rw [show M + 2 * ([] : List zcl).length + 2 = M + 1 + 1 from rfl, zb_M_moves_132, if_neg h0, if_pos rfl, hb, z_gd_t, if_pos (by rw [y_i_le, h2, y_on (by omega)]; omega), if_pos rfl]
    rfl
  | cons x l ih =>
    intro I k M h1 h0 hb h2 h3
    obtain ⟨⟨⟨a1, ⟨p, a2, a3, a4⟩, a5, a6⟩, w1, w2, w3, w4⟩, hl⟩ := h1
    simp only [List.length_cons] at h2 h3
    have hi : (Int32.ofNat k).toNatClampNeg = k := z_onn (by omega)
    have hin : z_in (Int32.ofNat k) 24 = true := z_in_n (by omega) (by omega)
    have hkn : ¬ Int32.ofNat k = Int32.ofInt (-1) := by rw [y_i_eq, y_on (by omega)]; show ¬ (k : Int) = -1; omega
    have found : ∀ (J : Nat → Nat → Int32) (M : Nat), (∀ a, a ≠ 90 → J a = I a) → ∃ (K : Nat → Nat → Int32), (∀ a, a ≠ 90 → K a = I a) ∧ z_loop X z_cf z_ff (z_pu (z_run X z_cf z_ff (d + 4))) 216 (M + 2) 132 [(0, .ref 55), (1, .int s), (3, .int (Int32.ofNat k)), (4, .int (Int32.ofNat (k + 1)))] [] (118, z_sd m, ce, sl, J, L, z_rr t u r q (z_gg m) (z_sf m)) = z_loop X z_cf z_ff (z_pu (z_run X z_cf z_ff (d + 4))) 216 (M + 1) 227 [(0, .ref 55), (1, .int s)] [.int (zwo (I 89) x.2.1)] (118, z_sd m, ce, sl, K, L, z_rr t u r q (z_gg m) (z_sf m)) := by
      intro J M hJ
      obtain ⟨K, g1, g2⟩ := zr_worth X d m ce sl L t u r q x.2.1 J p (by rw [hJ 75 (by omega)]; exact a4) w1 a3 w3
      refine ⟨K, fun a ha => by rw [g2 a ha, hJ a ha], ?_⟩
      rw [zb_M_moves_132, if_neg (by rw [hJ 55 (by omega)]; exact h0), if_neg hkn, if_neg hkn, hin, z_gd_t, hi, hJ 73 (by omega), a2, g1, z_bi_v, hJ 89 (by omega)]
      rfl
    rw [show M + 2 * (x :: l).length + 2 = M + 2 * l.length + 3 + 1 by simp; omega, zb_M_moves_132, if_neg h0, if_pos rfl, hb, z_gd_t, if_neg (by rw [y_i_le, h2, y_on (by omega)]; omega), hin, z_gd_t, hi, z_ofa (by omega)]
    unfold zwant
    by_cases c1 : x.1 = s.toInt
    · rw [if_pos (y_i_eq.mpr (by rw [a1, c1])), z_gd_t]
      by_cases c4 : x.2.2 = []
      · obtain ⟨K, g1, g2⟩ := found I (M + 2 * l.length + 1) (fun _ _ => rfl)
        refine ⟨K, M + 2 * l.length + 1, g1, ?_⟩
        rw [if_pos (a5 c4), if_pos ⟨c1, Or.inl c4⟩, show M + 2 * l.length + 3 = M + 2 * l.length + 1 + 2 by omega, g2]
      · obtain ⟨p2, b1, b2, b3⟩ := a6 c4
        obtain ⟨J, g1, g2⟩ := zr_worth X d m ce sl L t u r q x.2.2 I p2 b3 (w2.resolve_left c4) b2 w4
        have hn1 : ¬ I 74 k = Int32.ofInt (-1) := by rw [b1, y_i_eq, y_on (by omega)]; show ¬ (p2 : Int) = -1; omega
        rw [if_neg hn1, z_gd_t, b1, g1, z_bi_v, show M + 2 * l.length + 3 = M + 2 * l.length + 2 + 1 by omega, zb_M_moves_199, z_ofa (by omega)]
        by_cases c5 : zwo (I 89) x.2.2 = 0
        · obtain ⟨K, g3, g4⟩ := found J (M + 2 * l.length) g2
          refine ⟨K, M + 2 * l.length, g3, ?_⟩
          rw [if_pos (show (zevs (I 89) x.2.2 []).headD 0 = 0 from c5), if_pos ⟨c1, Or.inr c5⟩, g4]
        · obtain ⟨K, M', g3, g4⟩ := ih J (k + 1) M (zclsM_c (g2 _ (by omega)) (g2 _ (by omega)) (g2 _ (by omega)) (g2 _ (by omega)) l _ hl) (by rw [g2 55 (by omega)]; exact h0) (by rw [g2 55 (by omega)]; exact hb) (by rw [g2 55 (by omega), g2 71 (by omega), h2]; omega) (by omega)
          refine ⟨K, M', fun a ha => by rw [g3 a ha, g2 a ha], ?_⟩
          rw [if_neg (show ¬ (zevs (I 89) x.2.2 []).headD 0 = 0 from c5), if_neg (fun h => h.2.elim c4 c5), g4, g2 89 (by omega)]
    · obtain ⟨K, M', g3, g4⟩ := ih I (k + 1) (M + 1) hl h0 hb (by rw [h2]; omega) (by omega)
      refine ⟨K, M', g3, ?_⟩
      rw [if_neg (fun h => c1 (by rw [← a1, h])), if_neg (fun h => c1 h.1), show M + 2 * l.length + 3 = M + 1 + 2 * l.length + 2 by omega, g4]
