/-! ROW, 18: the model's row is the class's -/
def zdig (w : Nat → Int) : List Nat → Nat → Int
  | [], _ => 0
  | x :: r, p => (x : Int) * w p + zdig w r (p + 1)
theorem zdig_a (w : Nat → Int) (a b : List Nat) : ∀ p, zdig w (a ++ b) p = zdig w a p + zdig w b (p + a.length) := by
  induction a with
  | nil =>
    intro p
    show zdig w b p = 0 + zdig w b p
    omega
  | cons x a ih =>
    intro p
    show (x : Int) * w p + zdig w (a ++ b) (p + 1) = (x : Int) * w p + zdig w a (p + 1) + zdig w b (p + (a.length + 1))
    rw [ih, show p + 1 + a.length = p + (a.length + 1) by omega]
    omega
theorem zoP_s : ∀ p, p < 8 → zoP p = 16 * zoP (p + 1) := by decide +kernel
theorem zcP_s : ∀ p, p < 8 → zcP p = 2 * zcP (p + 1) := by decide +kernel
theorem zdig_o (r : List Nat) : ∀ q, q + 1 + r.length ≤ 9 → (∀ x, x ∈ r → x < 9) → 0 ≤ zdig zoP r (q + 1) ∧ zdig zoP r (q + 1) + 256 ≤ zoP q := by
  induction r with
  | nil =>
    intro q hq _
    have h0 : ([] : List Nat).length = 0 := rfl
    have := zoP_r q (by omega)
    show (0 : Int) ≤ 0 ∧ (0 : Int) + 256 ≤ zoP q
    omega
  | cons x r ih =>
    intro q hq hx
    have hl : (x :: r).length = r.length + 1 := rfl
    have a := ih (q + 1) (by omega) (fun y hy => hx y (List.mem_cons_of_mem _ hy))
    have b := zoP_s q (by omega)
    have c := zoP_r (q + 1) (by omega)
    have x9 := hx x List.mem_cons_self
    have m1 : (x : Int) * zoP (q + 1) ≤ 8 * zoP (q + 1) := Int.mul_le_mul_of_nonneg_right (by omega) (by omega)
    have m2 : 0 * zoP (q + 1) ≤ (x : Int) * zoP (q + 1) := Int.mul_le_mul_of_nonneg_right (by omega) (by omega)
    show 0 ≤ (x : Int) * zoP (q + 1) + zdig zoP r (q + 1 + 1) ∧ (x : Int) * zoP (q + 1) + zdig zoP r (q + 1 + 1) + 256 ≤ zoP q
    omega
theorem zdig_c (r : List Nat) : ∀ q, q + 1 + r.length ≤ 9 → (∀ x, x ∈ r → x < 2) → 0 ≤ zdig zcP r (q + 1) ∧ zdig zcP r (q + 1) + 1 ≤ zcP q := by
  induction r with
  | nil =>
    intro q hq _
    have h0 : ([] : List Nat).length = 0 := rfl
    have := zcP_r q (by omega)
    show (0 : Int) ≤ 0 ∧ (0 : Int) + 1 ≤ zcP q
    omega
  | cons x r ih =>
    intro q hq hx
    have hl : (x :: r).length = r.length + 1 := rfl
    have a := ih (q + 1) (by omega) (fun y hy => hx y (List.mem_cons_of_mem _ hy))
    have b := zcP_s q (by omega)
    have c := zcP_r (q + 1) (by omega)
    have x9 := hx x List.mem_cons_self
    have m1 : (x : Int) * zcP (q + 1) ≤ 1 * zcP (q + 1) := Int.mul_le_mul_of_nonneg_right (by omega) (by omega)
    have m2 : 0 * zcP (q + 1) ≤ (x : Int) * zcP (q + 1) := Int.mul_le_mul_of_nonneg_right (by omega) (by omega)
    show 0 ≤ (x : Int) * zcP (q + 1) + zdig zcP r (q + 1 + 1) ∧ (x : Int) * zcP (q + 1) + zdig zcP r (q + 1 + 1) + 1 ≤ zcP q
    omega
/-- where two lists of the same length part -/
theorem zsplit (a : List Nat) : ∀ b, a.length = b.length → a = b ∨ ∃ l x y r s, a = l ++ x :: r ∧ b = l ++ y :: s ∧ x ≠ y := by
  induction a with
  | nil =>
    intro b h
    left
    exact (List.length_eq_zero_iff.mp h.symm).symm
  | cons x a ih =>
    intro b h
    cases b with
    | nil => exact absurd h (by simp)
    | cons y b =>
      by_cases c : x = y
      · rcases ih b (by simp only [List.length_cons] at h; omega) with e | ⟨l, x', y', r, s, e1, e2, e3⟩
        · left
          rw [c, e]
        · right
          exact ⟨x :: l, x', y', r, s, by rw [e1]; rfl, by rw [e2, c]; rfl, e3⟩
      · right
        exact ⟨[], x, y, a, b, rfl, rfl, c⟩
theorem zdig_o_lt {l r s : List Nat} {x y p : Nat} (hp : p + (l ++ x :: r).length ≤ 9) (hl : r.length = s.length) (h1 : ∀ z, z ∈ l ++ x :: r → z < 9) (h2 : ∀ z, z ∈ l ++ y :: s → z < 9) (hxy : x < y) : zdig zoP (l ++ x :: r) p + 256 ≤ zdig zoP (l ++ y :: s) p := by
  rw [List.length_append, List.length_cons] at hp
  rw [zdig_a, zdig_a]
  have a := zdig_o r (p + l.length) (by omega) (fun z hz => h1 z (List.mem_append_right _ (List.mem_cons_of_mem _ hz)))
  have b := zdig_o s (p + l.length) (by omega) (fun z hz => h2 z (List.mem_append_right _ (List.mem_cons_of_mem _ hz)))
  have c := zoP_r (p + l.length) (by omega)
  have m1 : ((x : Int) + 1) * zoP (p + l.length) ≤ (y : Int) * zoP (p + l.length) := Int.mul_le_mul_of_nonneg_right (by omega) (by omega)
  rw [Int.add_mul, Int.one_mul] at m1
  show _ + ((x : Int) * zoP (p + l.length) + zdig zoP r (p + l.length + 1)) + 256 ≤ _ + ((y : Int) * zoP (p + l.length) + zdig zoP s (p + l.length + 1))
  omega
theorem zdig_c_lt {l r s : List Nat} {x y p : Nat} (hp : p + (l ++ x :: r).length ≤ 9) (hl : r.length = s.length) (h1 : ∀ z, z ∈ l ++ x :: r → z < 2) (h2 : ∀ z, z ∈ l ++ y :: s → z < 2) (hxy : x < y) : zdig zcP (l ++ x :: r) p + 1 ≤ zdig zcP (l ++ y :: s) p := by
  rw [List.length_append, List.length_cons] at hp
  rw [zdig_a, zdig_a]
  have a := zdig_c r (p + l.length) (by omega) (fun z hz => h1 z (List.mem_append_right _ (List.mem_cons_of_mem _ hz)))
  have b := zdig_c s (p + l.length) (by omega) (fun z hz => h2 z (List.mem_append_right _ (List.mem_cons_of_mem _ hz)))
  have c := zcP_r (p + l.length) (by omega)
  have m1 : ((x : Int) + 1) * zcP (p + l.length) ≤ (y : Int) * zcP (p + l.length) := Int.mul_le_mul_of_nonneg_right (by omega) (by omega)
  rw [Int.add_mul, Int.one_mul] at m1
  show _ + ((x : Int) * zcP (p + l.length) + zdig zcP r (p + l.length + 1)) + 1 ≤ _ + ((y : Int) * zcP (p + l.length) + zdig zcP s (p + l.length + 1))
  omega
theorem zkeyl_e {I : Nat → Nat → Int32} {n : Nat} (hn : n ≤ 9) (a : zPl2) : ∀ S l c, S < 2 ^ n → zwok n a S → zkeyl I n a S l c = zcoin I n a S l c * 281474976710656 + ((zwc a c : Int) - c) * 17592186044416 + zdig zoP (a.map Prod.fst) (zcard S) + zdig zcP (a.map Prod.snd) (zcard S) := by
  have p5 := zp2_512 hn
  induction a with
  | nil =>
    intro S l c _ _
    show (0 : Int) = 0 * 281474976710656 + ((c : Int) - c) * 17592186044416 + 0 + 0
    omega
  | cons x a ih =>
    intro S l c hS hk
    obtain ⟨h1, h2, h3, h4⟩ := hk
    have lt := zbits_lt n hn x.1 h1 S hS h2
    have ad := zbits_ad1 x.1 (by omega) S (by omega) h2
    have := ih (S + 2 ^ x.1) x.1 (c + x.2) lt h4
    rw [ad.1] at this
    show zkst I n S l x.1 x.2 c + zkeyl I n a (S + 2 ^ x.1) x.1 (c + x.2) = (zoc I n S l x.1 x.2 c + zcoin I n a (S + 2 ^ x.1) x.1 (c + x.2)) * 281474976710656 + ((zwc a (c + x.2) : Nat) - (c : Int)) * 17592186044416 + ((x.1 : Int) * zoP (zcard S) + zdig zoP (a.map Prod.fst) (zcard S + 1)) + ((x.2 : Int) * zcP (zcard S) + zdig zcP (a.map Prod.snd) (zcard S + 1))
    unfold zkst
    rw [this]
    by_cases e : x.2 = 0
    · rw [if_pos e, e]
      generalize zcP (zcard S) = w
      show _ = _ + ((0 : Int) * w + _)
      rw [Int.zero_mul]
      omega
    · have e1 : x.2 = 1 := by omega
      rw [if_neg e, e1]
      generalize zcP (zcard S) = w
      show _ = _ + ((1 : Int) * w + _)
      rw [Int.one_mul]
      omega
theorem zwok_m {n : Nat} (a : zPl2) : ∀ S, zwok n a S → (∀ x, x ∈ a.map Prod.fst → x < n) ∧ ∀ x, x ∈ a.map Prod.snd → x < 2 := by
  induction a with
  | nil =>
    intro S _
    exact ⟨fun x hx => absurd hx (by simp), fun x hx => absurd hx (by simp)⟩
  | cons y a ih =>
    intro S h
    obtain ⟨h1, h2, h3, h4⟩ := h
    obtain ⟨a1, a2⟩ := ih _ h4
    refine ⟨fun x hx => ?_, fun x hx => ?_⟩
    · rw [List.map_cons] at hx
      rcases List.mem_cons.mp hx with e | e
      · rw [e]; exact h1
      · exact a1 x e
    · rw [List.map_cons] at hx
      rcases List.mem_cons.mp hx with e | e
      · rw [e]; exact h3
      · exact a2 x e
/-- a full row's key, laid out -/
def zky (coin : Int) (c k0 : Nat) (a : zPl2) : Int := coin * 281474976710656 + (c : Int) * 17592186044416 + zdig zoP (k0 :: a.map Prod.fst) 0 + zdig zcP (a.map Prod.snd) 1
theorem zky_is {I : Nat → Nat → Int32} {n k0 : Nat} {a : zPl2} (hn : n ≤ 9) (h : zFull n k0 a) : zk0 I k0 + zkeyl I n a (2 ^ k0) k0 0 = zky (zfc I n k0 a) (zwc a 0) k0 a := by
  obtain ⟨h1, h2, h3⟩ := h
  have lt := zp2_lt h1 hn
  have cp := (zbits_p2 k0 (by omega)).1
  rw [zkeyl_e hn a _ _ _ lt h2, cp]
  unfold zky zk0 zfc
  have e : zdig zoP (k0 :: a.map Prod.fst) 0 = (k0 : Int) * zoP 0 + zdig zoP (a.map Prod.fst) 1 := rfl
  rw [e]
  generalize (k0 : Int) * zoP 0 = w
  generalize zdig zoP (a.map Prod.fst) 1 = w1
  generalize zdig zcP (a.map Prod.snd) 1 = w2
  generalize zolate I k0 (I 44 k0).toInt = w3
  generalize zcoin I n a (2 ^ k0) k0 0 = w4
  generalize zwc a 0 = w5
  omega
theorem zky_r {n k0 : Nat} {a : zPl2} (hn : n ≤ 9) (h : zFull n k0 a) : 0 ≤ zdig zoP (k0 :: a.map Prod.fst) 0 ∧ zdig zoP (k0 :: a.map Prod.fst) 0 + 256 ≤ 17592186044416 ∧ 0 ≤ zdig zcP (a.map Prod.snd) 1 ∧ zdig zcP (a.map Prod.snd) 1 < 256 := by
  have hl := zFull_is hn h
  obtain ⟨h1, h2, h3⟩ := h
  obtain ⟨m1, m2⟩ := zwok_m a _ h2
  have a1 := zdig_o (a.map Prod.fst) 0 (by rw [List.length_map]; omega) (fun x hx => by have := m1 x hx; omega)
  have a2 : 0 ≤ zdig zcP (a.map Prod.snd) 1 ∧ zdig zcP (a.map Prod.snd) 1 + 1 ≤ zcP 0 := zdig_c (a.map Prod.snd) 0 (by rw [List.length_map]; omega) m2
  have e1 : zoP 0 = 1099511627776 := by decide
  have e2 : zcP 0 = 256 := by decide
  rw [e1] at a1
  rw [e2] at a2
  show 0 ≤ (k0 : Int) * zoP 0 + zdig zoP (a.map Prod.fst) (0 + 1) ∧ (k0 : Int) * zoP 0 + zdig zoP (a.map Prod.fst) (0 + 1) + 256 ≤ 17592186044416 ∧ _
  rw [e1]
  omega

theorem zlist_e (a : zPl2) : ∀ b : zPl2, a.map Prod.fst = b.map Prod.fst → a.map Prod.snd = b.map Prod.snd → a = b := by
  induction a with
  | nil =>
    intro b h _
    cases b with
    | nil => rfl
    | cons y b => exact absurd h (by simp)
  | cons x a ih =>
    intro b h1 h2
    cases b with
    | nil => exact absurd h1 (by simp)
    | cons y b =>
      rw [List.map_cons, List.map_cons] at h1 h2
      injection h1 with e1 e2
      injection h2 with e3 e4
      rw [ih b e2 e4]
      obtain ⟨x1, x2⟩ := x
      obtain ⟨y1, y2⟩ := y
      have e1' : x1 = y1 := e1
      have e3' : x2 = y2 := e3
      rw [e1', e3']
theorem o2_of {I : Nat → Nat → Int32} {n k0 : Nat} {best few : Int} {a : zPl2} (h : zOpt I n best few k0 a) : zfc I n k0 a = best := h.2.1
/-- the model's row is the best of all -/
theorem zrow_least {I : Nat → Nat → Int32} {n k0 : Nat} {best few : Int} {a : zPl2} (hO : zOr I n) (hB : zBst I n best few) (ha : zOpt I n best few k0 a) (hk : ∀ k', k' < k0 → ¬ ∃ a, zOpt I n best few k' a) (hg : zGr I n k0 best few (a.map Prod.fst)) (hf : zGf I n k0 best few (a.map Prod.fst) a) : zIsM (fun key => ∃ k0 a, zFull n k0 a ∧ key = zk0 I k0 + zkeyl I n a (2 ^ k0) k0 0) (zky best (zwc a 0) k0 a) := by
  have hn := hO.1
  have hfa := ha.1
  have hla := zFull_is hn hfa
  have hra := zky_r hn hfa
  refine ⟨fun key hkey => ?_, Or.inr ⟨k0, a, hfa, ?_⟩⟩
  · obtain ⟨k, b, hb, e⟩ := hkey
    have hlb := zFull_is hn hb
    have hrb := zky_r hn hb
    rw [zky_is hn hb] at e
    rw [e]
    have kb := hb.1
    have ka := hfa.1
    obtain ⟨_, o2, o3⟩ := id ha
    rcases hB.2 k b hb with x | ⟨x1, x2⟩
    · unfold zky
      omega
    · by_cases c1 : few = (zwc b 0 : Nat)
      · have hbo : zOpt I n best few k b := ⟨hb, x1.symm, c1.symm⟩
        have hcc : zwc b 0 = zwc a 0 := by omega
        rw [← x1, hcc]
        rcases Nat.lt_trichotomy k k0 with q | q | q
        · exact absurd ⟨b, hbo⟩ (hk k q)
        · subst q
          obtain ⟨ma1, ma2⟩ := zwok_m a _ hfa.2.1
          obtain ⟨mb1, mb2⟩ := zwok_m b _ hb.2.1
          rcases zsplit (a.map Prod.fst) (b.map Prod.fst) (by rw [List.length_map, List.length_map]; omega) with y | ⟨l, x, y, r, s, y1, y2, y3⟩
          · rcases zsplit (a.map Prod.snd) (b.map Prod.snd) (by rw [List.length_map, List.length_map]; omega) with z | ⟨l, x, y', r, s, z1, z2, z3⟩
            · unfold zky
              rw [y, z]
              exact Int.le_refl _
            · have lens := congrArg List.length z1
              have lens2 := congrArg List.length z2
              rw [List.length_map, List.length_append, List.length_cons] at lens lens2
              rcases Nat.lt_or_ge x y' with w | w
              · have := zdig_c_lt (l := l) (r := r) (s := s) (x := x) (y := y') (p := 1) (by rw [← z1, List.length_map]; omega) (by omega) (fun z hz => ma2 z (by rw [z1]; exact hz)) (fun z hz => mb2 z (by rw [z2]; exact hz)) w
                rw [← z1, ← z2] at this
                unfold zky
                rw [y]
                omega
              · exfalso
                have hx2 := ma2 x (by rw [z1]; exact List.mem_append_right _ List.mem_cons_self)
                have hx1 : x = 1 := by omega
                have hy0 : y' = 0 := by omega
                subst hx1
                subst hy0
                obtain ⟨p1, p2, q1, q2, q3⟩ := List.map_eq_append_iff.mp z1
                obtain ⟨u, p3, q4, q5, q6⟩ := List.map_eq_cons_iff.mp q3
                obtain ⟨p1', p2', q1', q2', q3'⟩ := List.map_eq_append_iff.mp z2
                obtain ⟨u', p3', q4', q5', q6'⟩ := List.map_eq_cons_iff.mp q3'
                have ll : p1.length = p1'.length := by
                  have e1 := congrArg List.length q2
                  have e2 := congrArg List.length q2'
                  rw [List.length_map] at e1 e2
                  omega
                have y0 := id y
                rw [q1, q1', q4, q4', List.map_append, List.map_append] at y0
                obtain ⟨y5, y6⟩ := List.append_inj y0 (by rw [List.length_map, List.length_map]; exact ll)
                rw [List.map_cons, List.map_cons] at y6
                injection y6 with y7 y8
                have y9 : p1 = p1' := zlist_e p1 p1' y5 (by rw [q2, q2'])
                obtain ⟨u1, u2⟩ := u
                obtain ⟨u1', u2'⟩ := u'
                have q5a : u2 = 1 := q5
                have q5b : u2' = 0 := q5'
                have y7' : u1 = u1' := y7
                subst q5a
                subst q5b
                subst y7'
                subst y9
                refine hf p1 u1 p3 (by rw [← q4]; exact q1) ⟨p3', ?_, ?_⟩
                · rw [y, q1', q4']
                · rw [← q4', ← q1']
                  exact hbo
          · have lens := congrArg List.length y1
            have lens2 := congrArg List.length y2
            rw [List.length_map, List.length_append, List.length_cons] at lens lens2
            rcases Nat.lt_or_ge x y with w | w
            · have := zdig_o_lt (l := k :: l) (r := r) (s := s) (x := x) (y := y) (p := 0) (by rw [List.cons_append, ← y1, List.length_cons, List.length_map]; omega) (by omega) (fun z hz => by
                rw [List.cons_append, ← y1] at hz
                rcases List.mem_cons.mp hz with w | w
                · omega
                · have := ma1 z w
                  omega) (fun z hz => by
                rw [List.cons_append, ← y2] at hz
                rcases List.mem_cons.mp hz with w | w
                · omega
                · have := mb1 z w
                  omega) w
              rw [List.cons_append, List.cons_append, ← y1, ← y2] at this
              unfold zky
              omega
            · exfalso
              obtain ⟨p1', p2', q1', q2', q3'⟩ := List.map_eq_append_iff.mp y2
              obtain ⟨u', p3', q4', q5', q6'⟩ := List.map_eq_cons_iff.mp q3'
              obtain ⟨u1', u2'⟩ := u'
              have q5b : u1' = y := q5'
              subst q5b
              refine hg l.length (by rw [y1, List.length_append, List.length_cons]; omega) u1' ?_ ⟨p1', u2', p3', ?_, ?_⟩
              · rw [y1, List.getD_eq_getElem?_getD, List.getElem?_append_right (Nat.le_refl _), Nat.sub_self]
                show u1' < x
                omega
              · rw [q2', y1, List.take_left' rfl]
              · rw [← q4', ← q1']
                exact hbo
        · have e1 : zoP 0 = 1099511627776 := by decide
          have a1 := zdig_o (a.map Prod.fst) 0 (by rw [List.length_map]; omega) (fun x hx => by have := (zwok_m a _ hfa.2.1).1 x hx; omega)
          have a2 := zdig_o (b.map Prod.fst) 0 (by rw [List.length_map]; omega) (fun x hx => by have := (zwok_m b _ hb.2.1).1 x hx; omega)
          have d1 : zdig zoP (k0 :: a.map Prod.fst) 0 = (k0 : Int) * zoP 0 + zdig zoP (a.map Prod.fst) (0 + 1) := rfl
          have d2 : zdig zoP (k :: b.map Prod.fst) 0 = (k : Int) * zoP 0 + zdig zoP (b.map Prod.fst) (0 + 1) := rfl
          rw [e1] at a1 a2 d1 d2
          unfold zky
          omega
      · unfold zky
        omega
  · rw [zky_is hn hfa, o2_of ha]
