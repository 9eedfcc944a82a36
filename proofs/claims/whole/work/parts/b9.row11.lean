/-! ROW, 11: by which changes an order's beginning costs the least, in the model -/
theorem zws_m (a : zPl2) : ∀ b S, a.map Prod.fst = b.map Prod.fst → zws a S = zws b S := by
  induction a with
  | nil =>
    intro b S h
    cases b with
    | nil => rfl
    | cons y b => exact absurd h (by simp)
  | cons x a ih =>
    intro b S h
    cases b with
    | nil => exact absurd h (by simp)
    | cons y b =>
      simp only [List.map_cons, List.cons.injEq] at h
      show zws a (S + 2 ^ x.1) = zws b (S + 2 ^ y.1)
      rw [h.1]
      exact ih b _ h.2
theorem zwl_m (a : zPl2) : ∀ b l, a.map Prod.fst = b.map Prod.fst → zwl a l = zwl b l := by
  induction a with
  | nil =>
    intro b S h
    cases b with
    | nil => rfl
    | cons y b => exact absurd h (by simp)
  | cons x a ih =>
    intro b S h
    cases b with
    | nil => exact absurd h (by simp)
    | cons y b =>
      simp only [List.map_cons, List.cons.injEq] at h
      show zwl a x.1 = zwl b y.1
      rw [h.1]
      exact ih b _ h.2
theorem zfc_r {I : Nat → Nat → Int32} {n k0 : Nat} (hO : zOr I n) (hk : k0 < n) {a : zPl2} (h : zwok n a (2 ^ k0)) (hc : zwc a 0 < 9) : 0 ≤ zfc I n k0 a ∧ zfc I n k0 a ≤ 26600 := by
  have hn := hO.1
  have lt := zp2_lt hk hn
  have ho := hO.2 k0 hk
  have z := zolate_r hO hk (e := (I 44 k0).toInt) (by omega)
  have rr := zcoin_r hO a (2 ^ k0) k0 0 lt hk h hc
  obtain ⟨a1, a2, a3⟩ := zwok_is hn a (2 ^ k0) lt h
  have := zbits_hi n hn _ a1
  unfold zfc
  omega
def zAh (I : Nat → Nat → Int32) (n k0 : Nat) (ks : List Nat) (A : Nat → Int) : Prop := ∀ c, c < 9 → (∀ pre, zwok n pre (2 ^ k0) → pre.map Prod.fst = ks → zwc pre 0 = c → A c ≤ zfc I n k0 pre) ∧ (A c = zFAR ∨ ∃ pre, zwok n pre (2 ^ k0) ∧ pre.map Prod.fst = ks ∧ zwc pre 0 = c ∧ A c = zfc I n k0 pre)
def zlt2 (c f : Nat) : Nat → Nat → Prop := fun c0 f0 => c0 < c ∨ c0 = c ∧ f0 < f
def zAp (I : Nat → Nat → Int32) (n k0 : Nat) (ks : List Nat) (S l k : Nat) (lt : Nat → Nat → Prop) (A : Nat → Int) : Prop := ∀ c', c' < 9 → (∀ pre c0 f0, zwok n pre (2 ^ k0) → pre.map Prod.fst = ks → zwc pre 0 = c0 → f0 < 2 → c0 + f0 = c' → lt c0 f0 → A c' ≤ zfc I n k0 pre + zoc I n S l k f0 c0) ∧ (A c' = zFAR ∨ ∃ pre c0 f0, zwok n pre (2 ^ k0) ∧ pre.map Prod.fst = ks ∧ zwc pre 0 = c0 ∧ f0 < 2 ∧ c0 + f0 = c' ∧ lt c0 f0 ∧ A c' = zfc I n k0 pre + zoc I n S l k f0 c0)
theorem zAp_lt {I : Nat → Nat → Int32} {n k0 : Nat} {ks : List Nat} {S l k : Nat} {lt lt' : Nat → Nat → Prop} {A : Nat → Int} (h : zAp I n k0 ks S l k lt A) (e : ∀ pre c0 f0, zwok n pre (2 ^ k0) → pre.map Prod.fst = ks → zwc pre 0 = c0 → f0 < 2 → c0 + f0 < 9 → (lt c0 f0 ↔ lt' c0 f0)) : zAp I n k0 ks S l k lt' A := by
  intro c' hc
  refine ⟨fun pre c0 f0 x1 x2 x3 x4 x5 x6 => (h c' hc).1 pre c0 f0 x1 x2 x3 x4 x5 ((e pre c0 f0 x1 x2 x3 x4 (by omega)).mpr x6), ?_⟩
  rcases (h c' hc).2 with x | ⟨pre, c0, f0, x1, x2, x3, x4, x5, x6, x7⟩
  · exact Or.inl x
  · exact Or.inr ⟨pre, c0, f0, x1, x2, x3, x4, x5, (e pre c0 f0 x1 x2 x3 x4 (by omega)).mp x6, x7⟩
theorem zAh_r {I : Nat → Nat → Int32} {n k0 : Nat} (hO : zOr I n) (hk : k0 < n) {ks : List Nat} {A : Nat → Int} (h : zAh I n k0 ks A) {c : Nat} (hc : c < 9) : A c = zFAR ∨ 0 ≤ A c ∧ A c ≤ 26600 := by
  rcases (h c hc).2 with x | ⟨pre, x1, x2, x3, x4⟩
  · exact Or.inl x
  · have := zfc_r hO hk x1 (by omega)
    exact Or.inr (by omega)
theorem zAp_r {I : Nat → Nat → Int32} {n k0 : Nat} (hO : zOr I n) (hk : k0 < n) {ks : List Nat} {S l k : Nat} (hl : l < n) (hkn : k < n) {lt : Nat → Nat → Prop} {A : Nat → Int} (h : zAp I n k0 ks S l k lt A) {c : Nat} (hc : c < 9) : A c = zFAR ∨ 0 ≤ A c ∧ A c ≤ 29400 := by
  rcases (h c hc).2 with x | ⟨pre, c0, f0, x1, x2, x3, x4, x5, x6, x7⟩
  · exact Or.inl x
  · have := zfc_r hO hk x1 (by omega)
    have := zoc_r (S := S) (f := f0) hO hl hkn (c := c0) (by omega)
    exact Or.inr (by omega)
theorem zAp_step {I : Nat → Nat → Int32} {n k0 : Nat} {ks : List Nat} {S l k c f : Nat} {A A1 A2 : Nat → Int} (hf : f < 2) (hcf : c + f < 9) (hA : zAh I n k0 ks A) (hlt : A c ≠ zFAR) (hO : zOr I n) (hk0 : k0 < n) (hl : l < n) (hk : k < n) (h : zAp I n k0 ks S l k (zlt2 c f) A1) (e1 : ∀ x, x ≠ c + f → A2 x = A1 x) (e2 : A2 (c + f) = min (A1 (c + f)) (A c + zoc I n S l k f c)) : zAp I n k0 ks S l k (zlt2 c (f + 1)) A2 := by
  have hF : zFAR = 1000000000 := rfl
  intro c' hc'
  have hAc := (hA c (by omega)).1
  have hr1 := zAp_r hO hk0 hl hk h hc'
  have b1 := (h c' hc').1
  by_cases e : c' = c + f
  · subst e
    have hrA := zAh_r hO hk0 hA (show c < 9 by omega)
    have hz := zoc_r (S := S) (f := f) hO hl hk (c := c) (by omega)
    refine ⟨fun pre c0 f0 x1 x2 x3 x4 x5 x6 => ?_, ?_⟩
    · rw [e2]
      by_cases q : c0 = c ∧ f0 = f
      · obtain ⟨q1, q2⟩ := q
        have := hAc pre x1 x2 (by omega)
        rw [q1, q2]
        omega
      · have := b1 pre c0 f0 x1 x2 x3 x4 x5 (by unfold zlt2 at *; omega)
        omega
    · rw [e2]
      rcases Int.lt_or_le (A c + zoc I n S l k f c) (A1 (c + f)) with q | q
      · rcases (hA c (by omega)).2 with y | ⟨pre, y1, y2, y3, y4⟩
        · exact absurd y hlt
        · exact Or.inr ⟨pre, c, f, y1, y2, y3, hf, rfl, Or.inr ⟨rfl, by omega⟩, by omega⟩
      · rw [show min (A1 (c + f)) (A c + zoc I n S l k f c) = A1 (c + f) by omega]
        rcases (h _ hc').2 with y | ⟨pre, c0, f0, y1, y2, y3, y4, y5, y6, y7⟩
        · exact Or.inl y
        · exact Or.inr ⟨pre, c0, f0, y1, y2, y3, y4, y5, by unfold zlt2 at *; omega, y7⟩
  · rw [e1 c' e]
    refine ⟨fun pre c0 f0 x1 x2 x3 x4 x5 x6 => b1 pre c0 f0 x1 x2 x3 x4 x5 (by unfold zlt2 at *; omega), ?_⟩
    rcases (h _ hc').2 with y | ⟨pre, c0, f0, y1, y2, y3, y4, y5, y6, y7⟩
    · exact Or.inl y
    · exact Or.inr ⟨pre, c0, f0, y1, y2, y3, y4, y5, by unfold zlt2 at *; omega, y7⟩
theorem zAp_far {I : Nat → Nat → Int32} {n k0 : Nat} {ks : List Nat} {A : Nat → Int} (hO : zOr I n) (hk0 : k0 < n) (hA : zAh I n k0 ks A) {c : Nat} (hc : c < 9) (hlt : A c = zFAR) : ∀ pre, zwok n pre (2 ^ k0) → pre.map Prod.fst = ks → zwc pre 0 ≠ c := by
  have hF : zFAR = 1000000000 := rfl
  intro pre x1 x2 x3
  have := (hA c hc).1 pre x1 x2 x3
  have := zfc_r hO hk0 x1 (by omega)
  omega
/-- from a beginning to one that is longer by an order -/
theorem zAh_of {I : Nat → Nat → Int32} {n k0 : Nat} {ks : List Nat} {S l k : Nat} {A : Nat → Int} (hSl : ∀ pre : zPl2, pre.map Prod.fst = ks → zws pre (2 ^ k0) = S ∧ zwl pre k0 = l) (hk : k < n) (hb : zbt2 S k = 0) (h : zAp I n k0 ks S l k (zlt2 9 0) A) : zAh I n k0 (ks ++ [k]) A := by
  intro c hc
  obtain ⟨b1, b2⟩ := h c hc
  refine ⟨fun pre x1 x2 x3 => ?_, ?_⟩
  · obtain ⟨p1, p2, e, q1, q2⟩ := List.map_eq_append_iff.mp x2
    obtain ⟨y, r, e2, q3, q4⟩ := List.map_eq_cons_iff.mp q2
    have er : r = [] := List.map_eq_nil_iff.mp q4
    subst er
    subst e2
    subst e
    obtain ⟨s1, s2⟩ := hSl p1 q1
    rw [zwok_a] at x1
    obtain ⟨w1, w2, w3, w4, _⟩ := x1
    have ew : zwc (p1 ++ [y]) 0 = zwc p1 0 + y.2 := by
      rw [zwc_a]
      rfl
    have := b1 p1 (zwc p1 0) y.2 w1 q1 rfl w4 (by omega) (Or.inl (by omega))
    unfold zfc at *
    rw [zcoin_a, s1, s2]
    have ec : zcoin I n [y] S l (zwc p1 0) = zoc I n S l y.1 y.2 (zwc p1 0) + 0 := rfl
    rw [ec, q3]
    omega
  · rcases b2 with y | ⟨pre, c0, f0, y1, y2, y3, y4, y5, y6, y7⟩
    · exact Or.inl y
    · obtain ⟨s1, s2⟩ := hSl pre y2
      refine Or.inr ⟨pre ++ [(k, f0)], ?_, ?_, ?_, ?_⟩
      · rw [zwok_a, s1]
        exact ⟨y1, hk, hb, y4, trivial⟩
      · rw [List.map_append, y2]
        rfl
      · rw [zwc_a, y3]
        exact y5
      · unfold zfc at *
        rw [zcoin_a, s1, s2, y3]
        have ec : zcoin I n [(k, f0)] S l c0 = zoc I n S l k f0 c0 + 0 := rfl
        rw [ec]
        omega
/-- the best can be come to so -/
def zIs (I J : Nat → Nat → Int32) (n S l k : Nat) (A : Nat → Int) (best few : Int) (lt : Nat → Nat → Prop) : Prop := ∃ c0 f0, lt c0 f0 ∧ c0 < 9 ∧ f0 < 2 ∧ c0 + f0 < 9 ∧ A c0 ≠ zFAR ∧ A c0 + zoc I n S l k f0 c0 + (J 106 (81 * (S + 2 ^ k) + 9 * k + (c0 + f0))).toInt = best ∧ ((c0 + f0 : Nat) : Int) + (J 107 (81 * (S + 2 ^ k) + 9 * k + (c0 + f0))).toInt = few
/-- the best rows -/
def zBst (I : Nat → Nat → Int32) (n : Nat) (best few : Int) : Prop := best < zFAR ∧ ∀ k a, zFull n k a → best < zfc I n k a ∨ best = zfc I n k a ∧ few ≤ (zwc a 0 : Nat)
def zOpt (I : Nat → Nat → Int32) (n : Nat) (best few : Int) (k : Nat) (a : zPl2) : Prop := zFull n k a ∧ zfc I n k a = best ∧ ((zwc a 0 : Nat) : Int) = few
theorem zIs_opt {I J : Nat → Nat → Int32} {n k0 : Nat} {ks : List Nat} {S l k : Nat} {A : Nat → Int} {best few : Int} (hO : zOr I n) (hk0 : k0 < n) (hSl : ∀ pre : zPl2, pre.map Prod.fst = ks → zws pre (2 ^ k0) = S ∧ zwl pre k0 = l) (hS : S < 2 ^ n) (hl : l < n) (hk : k < n) (hb : zbt2 S k = 0) (hA : zAh I n k0 ks A) (hT : ∀ c, c < 9 → zTE I J n (S + 2 ^ k) k c) (hB : zBst I n best few) : zIs I J n S l k A best few (zlt2 9 0) ↔ ∃ pre f suf, pre.map Prod.fst = ks ∧ zOpt I n best few k0 (pre ++ (k, f) :: suf) := by
  have hF : zFAR = 1000000000 := rfl
  have hn := hO.1
  have lt := zbits_lt n hn k hk S hS hb
  have glue : ∀ pre f suf, pre.map Prod.fst = ks → zfc I n k0 (pre ++ (k, f) :: suf) = zfc I n k0 pre + zoc I n S l k f (zwc pre 0) + zcoin I n suf (S + 2 ^ k) k (zwc pre 0 + f) ∧ zwc (pre ++ (k, f) :: suf) 0 = zwc suf (zwc pre 0 + f) ∧ (zwok n (pre ++ (k, f) :: suf) (2 ^ k0) ↔ zwok n pre (2 ^ k0) ∧ f < 2 ∧ zwok n suf (S + 2 ^ k)) ∧ zws (pre ++ (k, f) :: suf) (2 ^ k0) = zws suf (S + 2 ^ k) := by
    intro pre f suf hp
    obtain ⟨s1, s2⟩ := hSl pre hp
    refine ⟨?_, ?_, ?_, ?_⟩
    · unfold zfc
      rw [zcoin_a, s1, s2]
      show _ + (_ + (zoc I n S l k f (zwc pre 0) + zcoin I n suf (S + 2 ^ k) k (zwc pre 0 + f))) = _
      omega
    · rw [zwc_a]
      rfl
    · rw [zwok_a, s1]
      exact ⟨fun x => ⟨x.1, x.2.2.2.1, x.2.2.2.2⟩, fun x => ⟨x.1, hk, hb, x.2.1, x.2.2⟩⟩
    · rw [zws_a, s1]
      rfl
  constructor
  · rintro ⟨c0, f0, _, h2, h3, h4, h5, h6, h7⟩
    obtain ⟨t1, t2, t3, t4, t5⟩ := hT (c0 + f0) h4
    rcases (hA c0 h2).2 with x | ⟨pre, x1, x2, x3, x4⟩
    · exact absurd x h5
    · have hr := zAh_r hO hk0 hA h2
      have hz := zoc_r (S := S) (f := f0) hO hl hk (c := c0) (by omega)
      rcases t1.2 with y | ⟨suf, y1, y2, y3, y4⟩
      · have := hB.1
        omega
      · obtain ⟨g1, g2, g3, g4⟩ := glue pre f0 suf x2
        rw [x3] at g1 g2
        refine ⟨pre, f0, suf, x2, ⟨hk0, g3.mpr ⟨x1, h3, y1.1⟩, by rw [g4]; exact y1.2.1⟩, ?_, ?_⟩
        · rw [g1]
          omega
        · rw [g2]
          omega
  · rintro ⟨pre, f, suf, x2, ⟨⟨_, o1, o2⟩, o3, o4⟩⟩
    obtain ⟨g1, g2, g3, g4⟩ := glue pre f suf x2
    obtain ⟨w1, w2, w3⟩ := g3.mp o1
    rw [g4] at o2
    have hlen := zFull_is hn ⟨hk0, o1, by rw [g4]; exact o2⟩
    have hw9 : zwc suf (zwc pre 0 + f) < 9 := by rw [← g2]; omega
    have hge := zwc_ge suf (zwc pre 0 + f)
    have hc9 : zwc pre 0 + f < 9 := by omega
    have hc0 : zwc pre 0 < 9 := by omega
    have hCR : zCR n (S + 2 ^ k) (zwc pre 0 + f) suf := ⟨w3, o2, hw9⟩
    obtain ⟨t1, t2, t3, t4, t5⟩ := hT _ hc9
    have a1 := (hA _ hc0).1 pre w1 x2 rfl
    have p1 := zfc_r hO hk0 w1 hc0
    have a2 : A (zwc pre 0) ≠ zFAR := by omega
    have low := t1.1 suf hCR trivial
    have rr := zcoin_r hO suf (S + 2 ^ k) k (zwc pre 0 + f) lt hk w3 hw9
    have ln := zCR_len hn lt hCR
    -- the beginning and the end that the tables tell make a row, and it is no better
    have full : best ≤ A (zwc pre 0) + zoc I n S l k f (zwc pre 0) + (J 106 (81 * (S + 2 ^ k) + 9 * k + (zwc pre 0 + f))).toInt ∧ (best = A (zwc pre 0) + zoc I n S l k f (zwc pre 0) + (J 106 (81 * (S + 2 ^ k) + 9 * k + (zwc pre 0 + f))).toInt → few ≤ ((zwc pre 0 + f : Nat) : Int) + (J 107 (81 * (S + 2 ^ k) + 9 * k + (zwc pre 0 + f))).toInt) := by
      rcases (hA _ hc0).2 with y | ⟨pre', y1, y2, y3, y4⟩
      · exact absurd y a2
      · rcases t1.2 with z | ⟨suf', z1, z2, z3, z4⟩
        · omega
        · obtain ⟨g1', g2', g3', g4'⟩ := glue pre' f suf' y2
          rw [y3] at g1' g2'
          have hfull : zFull n k0 (pre' ++ (k, f) :: suf') := ⟨hk0, g3'.mpr ⟨y1, w2, z1.1⟩, by rw [g4']; exact z1.2.1⟩
          rcases hB.2 _ _ hfull with q | ⟨q1, q2⟩
          · rw [g1'] at q
            exact ⟨by omega, fun e => by omega⟩
          · rw [g1'] at q1
            rw [g2'] at q2
            exact ⟨by omega, fun e => by omega⟩
    rw [g1] at o3
    rw [g2] at o4
    refine ⟨zwc pre 0, f, Or.inl hc0, hc0, w2, hc9, a2, ?_, ?_⟩
    · rcases low with q | ⟨q1, q2⟩
      · omega
      · omega
    · rcases low with q | ⟨q1, q2⟩
      · omega
      · have := full.2 (by omega)
        omega
