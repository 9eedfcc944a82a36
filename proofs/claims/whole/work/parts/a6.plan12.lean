/-! PLAN, 12: the model's tables say what the class's steps say -/
theorem zStp_inj {P : Nat → Int32} {k : Nat} {a : Int32} {F : Nat → Int32} {N : Nat} (h : zStp P k a F N) {i j : Nat} (hi : i < N) (hj : j < N) (e : F i = F j) : i = j := by
  rcases Nat.lt_trichotomy i j with c | c | c
  · have := (zStp_le h j hj i (by omega)).2 c
    rw [e] at this
    omega
  · exact c
  · have := (zStp_le h i hi j (by omega)).2 c
    rw [e] at this
    omega
/-- thicknesses by their numbers: the passes, and what goes in -/
def zThs (PP : Nat → Int32) (P : Nat) (a : Int32) (th : Nat → Int32) : Prop := P ≤ 12 ∧ th 12 = a ∧ ∀ k, k < P → th k = PP k
theorem zth_to {PP : Nat → Int32} {P : Nat} {a : Int32} {F th : Nat → Int32} {N : Nat} (h : zStp PP P a F N) (ht : zThs PP P a th) {f : Nat} (hf : f < P ∨ f = 12) (hle : (th f).toInt ≤ a.toInt) : ∃ i, i < N ∧ th f = F i := by
  obtain ⟨h1, h2, h3, h4, h5, h6⟩ := h
  obtain ⟨t1, t2, t3⟩ := ht
  by_cases c : (th f).toInt = a.toInt
  · exact ⟨0, by omega, by rw [h3]; exact y_i_eq.mpr c⟩
  · rcases hf with hf | hf
    · rw [t3 f hf] at *
      obtain ⟨i, i1, i2, i3⟩ := h6 f hf (by omega)
      exact ⟨i, i2, i3.symm⟩
    · rw [hf, t2] at c
      exact absurd rfl c
theorem zth_of {PP : Nat → Int32} {P : Nat} {a : Int32} {F th : Nat → Int32} {N : Nat} (h : zStp PP P a F N) (ht : zThs PP P a th) {i : Nat} (hi : i < N) : ∃ f, f < 13 ∧ (f < P ∨ f = 12) ∧ th f = F i := by
  obtain ⟨h1, h2, h3, h4, h5, h6⟩ := h
  obtain ⟨t1, t2, t3⟩ := ht
  by_cases c : i = 0
  · subst c
    exact ⟨12, by omega, Or.inr rfl, by rw [t2, h3]⟩
  · obtain ⟨j, j1, j2⟩ := h5 i (by omega) hi
    exact ⟨j, by omega, Or.inl j1, by rw [t3 j j1, j2]⟩
theorem zpp_le {I : Nat → Nat → Int32} {p s : Nat} {h0 : Int32} {w v : Int} (h : zpp I p s h0 w v ≠ -1) : v ≤ w := by
  rcases Int.lt_or_le w v with c | c
  · refine absurd ?_ h
    unfold zpp
    rw [if_pos (Or.inl c)]
  · exact c
/-- from a step of the class to one of the model, and back -/
theorem ztb_to {I : Nat → Nat → Int32} {p m : Nat} {h0 : Int32} {PP : Nat → Int32} {P : Nat} {a : Int32} {F th : Nat → Int32} {N : Nat} (h : zStp PP P a F N) (ht : zThs PP P a th) {r s f g i : Nat} (hr : r < m) (hs : s = m - 1 - r) (hf : f < P ∨ f = 12) (hi : i < N) (he : th f = F i) (hT : ztb I p P h0 th s f g ≠ -1) : (g < P ∨ g = 12) ∧ ∃ j, i ≤ j ∧ j < N ∧ th g = F j ∧ zpF I p h0 m F r i j = ztb I p P h0 th s f g := by
  have hg : g < P ∨ g = 12 := by
    by_cases c : g < P ∨ g = 12
    · exact c
    · refine absurd ?_ hT
      unfold ztb
      rw [if_pos hf, if_neg c]
  have e : ztb I p P h0 th s f g = zpp I p s h0 (th f).toInt (th g).toInt := by
    unfold ztb
    rw [if_pos hf, if_pos hg]
  rw [e] at hT
  have hle := zpp_le hT
  have hia := (zStp_le h i hi 0 (by omega)).1
  rw [h.2.2.1, ← he] at hia
  obtain ⟨j, j1, j2⟩ := zth_to h ht hg (by omega)
  refine ⟨hg, j, ?_, j1, j2, ?_⟩
  · rcases Nat.lt_or_ge j i with c | c
    · have := (zStp_le h i hi j (by omega)).2 c
      rw [← he, ← j2] at this
      omega
    · exact c
  · unfold zpF
    rw [if_pos hr, ← hs, e, he, j2]
theorem ztb_of {I : Nat → Nat → Int32} {p m : Nat} {h0 : Int32} {PP : Nat → Int32} {P : Nat} {a : Int32} {F th : Nat → Int32} {N : Nat} (h : zStp PP P a F N) (ht : zThs PP P a th) {r s f i j : Nat} (hr : r < m) (hs : s = m - 1 - r) (hf : f < P ∨ f = 12) (he : th f = F i) (hj : j < N) : ∃ g, g < 13 ∧ (g < P ∨ g = 12) ∧ th g = F j ∧ zpF I p h0 m F r i j = ztb I p P h0 th s f g := by
  obtain ⟨g, g1, g2, g3⟩ := zth_of h ht hj
  refine ⟨g, g1, g2, g3, ?_⟩
  unfold zpF ztb
  rw [if_pos hr, ← hs, if_pos hf, if_pos g2, he, g3]
theorem zcl_0 {PP : Nat → Int32} {P : Nat} {a v : Int32} {F th : Nat → Int32} {N gl : Nat} (h : zStp PP P a F N) (hgl : gl < N ∧ F gl = v ∨ gl = N ∧ ∀ i, i < N → F i ≠ v) {f i : Nat} (hf : f < P ∨ f = 12) (hi : i < N) (he : th f = F i) : (if (f < P ∨ f = 12) ∧ th f = v then (0 : Int) else zNV) = if i = gl then 0 else zNV := by
  by_cases c : i = gl
  · have e : th f = v := by
      rcases hgl with ⟨g1, g2⟩ | ⟨g1, g2⟩
      · rw [he, c, g2]
      · omega
    rw [if_pos c, if_pos ⟨hf, e⟩]
  · rw [if_neg c, if_neg]
    intro x
    rcases hgl with ⟨g1, g2⟩ | ⟨g1, g2⟩
    · exact c (zStp_inj h hi g1 (by rw [← he, x.2, g2]))
    · exact g2 i hi (by rw [← he, x.2])
theorem zcl_W {I : Nat → Nat → Int32} {p m : Nat} {h0 : Int32} {PP : Nat → Int32} {P : Nat} {a v : Int32} {F th : Nat → Int32} {N gl : Nat} (hp : zpok (zpF I p h0 m F)) (h : zStp PP P a F N) (ht : zThs PP P a th) (hgl : gl < N ∧ F gl = v ∨ gl = N ∧ ∀ i, i < N → F i ≠ v) (w : Nat → Nat → Int) (hb : ∀ f, f < 13 → w m f = if (f < P ∨ f = 12) ∧ th f = v then 0 else zNV) (hw : ∀ s, s < m → ∀ f, f < 13 → zIsW (ztb I p P h0 th s f) (w (s + 1)) (w s f)) : ∀ r, r ≤ m → ∀ f, f < 13 → (f < P ∨ f = 12) → ∀ i, i < N → th f = F i → w (m - r) f = zW (zpF I p h0 m F) N gl r i := by
  have hNV : zNV = 1000000000000000 := rfl
  intro r
  induction r with
  | zero =>
    intro _ f f1 f2 i hi he
    rw [Nat.sub_zero, hb f f1]
    exact zcl_0 h hgl f2 hi he
  | succ r ih =>
    intro hr f f1 f2 i hi he
    have hs : m - (r + 1) = m - 1 - r := by omega
    have es0 : m - (r + 1) < m := by omega
    have es : m - (r + 1) + 1 = m - r := by omega
    have hi' : i ≤ N := by omega
    obtain ⟨a1, a2⟩ := hw (m - (r + 1)) es0 f f1
    rw [es] at a1 a2
    obtain ⟨w1, w2⟩ := zW_step hp N gl r i hi'
    have hWr := zW_r hp N gl (r + 1) i
    apply Int.le_antisymm
    · rcases w2 with w2 | ⟨j, j1, j2, j3, j4, j5⟩
      · rcases a2 with a2 | ⟨g, g1, g2, g3, g4⟩
        · omega
        · obtain ⟨b1, j, b2, b3, b4, b5⟩ := ztb_to (I := I) (p := p) (h0 := h0) h ht (r := r) (by omega) hs f2 hi he g2
          have e := ih (by omega) g g1 b1 j b3 b4
          have x1 := hp r i j
          have x2 := zW_r hp N gl r j
          omega
      · obtain ⟨g, g1, g2, g3, g4⟩ := ztb_of (I := I) (p := p) (h0 := h0) h ht (r := r) (by omega) hs f2 he j2
        have e := ih (by omega) g g1 g2 j j2 g3
        have := a1 g g1 (by omega) (by omega)
        omega
    · rcases a2 with a2 | ⟨g, g1, g2, g3, g4⟩
      · omega
      · obtain ⟨b1, j, b2, b3, b4, b5⟩ := ztb_to (I := I) (p := p) (h0 := h0) h ht (r := r) (by omega) hs f2 hi he g2
        have e := ih (by omega) g g1 b1 j b3 b4
        have := w1 j b2 b3 (by omega) (by omega)
        omega
theorem zcl_S {I : Nat → Nat → Int32} {p m : Nat} {h0 : Int32} {PP : Nat → Int32} {P : Nat} {a v : Int32} {F th : Nat → Int32} {N gl : Nat} {B : Int} (h5 : m ≤ 5) (hp : zpok (zpF I p h0 m F)) (h : zStp PP P a F N) (ht : zThs PP P a th) (hgl : gl < N ∧ F gl = v ∨ gl = N ∧ ∀ i, i < N → F i ≠ v) (w : Nat → Nat → Int) (hb : ∀ f, f < 13 → w m f = if (f < P ∨ f = 12) ∧ th f = v then 0 else zNV) (hw : ∀ s, s < m → ∀ f, f < 13 → zIsS B (ztb I p P h0 th s f) (w (s + 1)) (w s f)) : ∀ r, r ≤ m → ∀ f, f < 13 → (f < P ∨ f = 12) → ∀ i, i < N → th f = F i → w (m - r) f = zS (zpF I p h0 m F) N gl B r i := by
  have hNV : zNV = 1000000000000000 := rfl
  intro r
  induction r with
  | zero =>
    intro _ f f1 f2 i hi he
    rw [Nat.sub_zero, hb f f1]
    exact zcl_0 h hgl f2 hi he
  | succ r ih =>
    intro hr f f1 f2 i hi he
    have hs : m - (r + 1) = m - 1 - r := by omega
    have es0 : m - (r + 1) < m := by omega
    have es : m - (r + 1) + 1 = m - r := by omega
    have hi' : i ≤ N := by omega
    have hr5 : r ≤ 5 := by omega
    have hr5' : r + 1 ≤ 5 := by omega
    obtain ⟨a1, a2⟩ := hw (m - (r + 1)) es0 f f1
    rw [es] at a1 a2
    obtain ⟨w1, w2⟩ := zS_step hp N gl B r i hr5 hi'
    have hWr := zS_r hp N gl B (r + 1) hr5' i
    apply Int.le_antisymm
    · rcases w2 with w2 | ⟨j, j1, j2, j3, j4, j5, j6⟩
      · rcases a2 with a2 | ⟨g, g1, g2, g2', g3, g4⟩
        · omega
        · obtain ⟨b1, j, b2, b3, b4, b5⟩ := ztb_to (I := I) (p := p) (h0 := h0) h ht (r := r) (by omega) hs f2 hi he g2
          have e := ih (by omega) g g1 b1 j b3 b4
          have x1 := hp r i j
          have x2 := zS_r hp N gl B r (by omega) j
          omega
      · obtain ⟨g, g1, g2, g3, g4⟩ := ztb_of (I := I) (p := p) (h0 := h0) h ht (r := r) (by omega) hs f2 he j2
        have e := ih (by omega) g g1 g2 j j2 g3
        have := a1 g g1 (by omega) (by omega) (by omega)
        omega
    · rcases a2 with a2 | ⟨g, g1, g2, g2', g3, g4⟩
      · omega
      · obtain ⟨b1, j, b2, b3, b4, b5⟩ := ztb_to (I := I) (p := p) (h0 := h0) h ht (r := r) (by omega) hs f2 hi he g2
        have e := ih (by omega) g g1 b1 j b3 b4
        have := w1 j b2 b3 (by omega) (by omega) (by omega)
        omega
/-- what may come next in the model's best plan -/
def zkc (B : Int) (T w : Nat → Int) (ws : Int) (k : Nat) : Prop := T k ≠ -1 ∧ T k ≤ B ∧ w k ≠ zNV ∧ w k + T k = ws
theorem zr_found (X : ZX) (d n0 ce sl : Nat) (I : Nat → Nat → Int32) (L : Nat → Nat → Int64) (t u r q g : Nat) (st : Nat → Option Nat) {s f : Nat} (hs : s < 5) (hf : f < 13) (T w : Nat → Int) (ws : Int) (hT : zTok T) (hI : ∀ k, k < 13 → I 97 (169 * s + 13 * f + k) = Int32.ofInt (T k)) (hL : ∀ k, k < 13 → (L 96 (13 * (s + 1) + k)).toInt = w k) (hw : ∀ k, k < 13 → w k = zNV ∨ 0 ≤ w k ∧ w k ≤ 1000000000) (hws : (L 96 (13 * s + f)).toInt = ws) (x2 : Int64) (x4 x5 x6 : Int32) (h6 : x6.toInt = s) (h4 : x4.toInt = f) (n : Nat) : ∀ (k : Nat) (x7 x8 : Int32), k + n = 13 → x8.toInt = k → (x7.toInt = -1 ∧ (∀ j, j < k → ¬ zkc x2.toInt T w ws j) ∨ ∃ c : Nat, c < 13 ∧ x7.toInt = c ∧ zkc x2.toInt T w ws c ∧ ∀ j, j < k → zkc x2.toInt T w ws j → (zth I j).toInt ≤ (zth I c).toInt) → ∃ x7' x8' : Int32, x8'.toInt = 13 ∧ (x7'.toInt = -1 ∧ (∀ j, j < 13 → ¬ zkc x2.toInt T w ws j) ∨ ∃ c : Nat, c < 13 ∧ x7'.toInt = c ∧ zkc x2.toInt T w ws c ∧ ∀ j, j < 13 → zkc x2.toInt T w ws j → (zth I j).toInt ≤ (zth I c).toInt) ∧
    ∀ M, ∃ M', M ≤ M' ∧ z_loop X z_cf z_ff (z_pu (z_run X z_cf z_ff (d + 3))) 234 (M + 3 * n) 33 [(0, .ref 55), (2, .long x2), (4, .int x4), (5, .int x5), (6, .int x6), (7, .int x7), (8, .int x8)] [] (118, n0, ce, sl, I, L, z_rr t u r q g st) = z_loop X z_cf z_ff (z_pu (z_run X z_cf z_ff (d + 3))) 234 M' 33 [(0, .ref 55), (2, .long x2), (4, .int x4), (5, .int x5), (6, .int x6), (7, .int x7'), (8, .int x8')] [] (118, n0, ce, sl, I, L, z_rr t u r q g st) := by
  have hNV : zNV = 1000000000000000 := rfl
  have h13 : (Int32.ofInt 13).toInt = 13 := rfl
  have hm1 : (Int32.ofInt (-1)).toInt = -1 := rfl
  have hN : (Int64.ofInt 1000000000000000).toInt = 1000000000000000 := y_ol (by omega) (by omega)
  have h1p : (x6 + Int32.ofInt 1).toInt = ((s + 1 : Nat) : Int) := by rw [y_adl (by omega) (by omega) (by omega) (by omega)]; omega
  have hiz := z_tiy h6 h4 (by omega) hf
  have hizn : (Int32.ofInt 13 * x6 + x4).toNatClampNeg = 13 * s + f := by rw [y_tn, hiz]; rfl
  have hin3 : z_in (Int32.ofInt 13 * x6 + x4) 78 = true := y_in_t (by omega) (by omega)
  induction n with
  | zero =>
    intro k x7 x8 a1 a2 a3
    have e : k = 13 := by omega
    subst e
    exact ⟨x7, x8, a2, a3, fun M => ⟨M, Nat.le_refl _, rfl⟩⟩
  | succ n ih =>
    intro k x7 x8 a1 a2 a3
    have hix := z_tix h6 h4 a2 hs hf (by omega)
    have hixn : (Int32.ofInt 169 * x6 + Int32.ofInt 13 * x4 + x8).toNatClampNeg = 169 * s + 13 * f + k := by rw [y_tn, hix]; rfl
    have hin : z_in (Int32.ofInt 169 * x6 + Int32.ofInt 13 * x4 + x8) 845 = true := y_in_t (by omega) (by omega)
    have hiy := z_tiy h1p a2 (by omega) (by omega)
    have hiyn : (Int32.ofInt 13 * (x6 + Int32.ofInt 1) + x8).toNatClampNeg = 13 * (s + 1) + k := by rw [y_tn, hiy]; rfl
    have hin2 : z_in (Int32.ofInt 13 * (x6 + Int32.ofInt 1) + x8) 78 = true := y_in_t (by omega) (by omega)
    have a2' : (x8 + Int32.ofInt 1).toInt = ((k + 1 : Nat) : Int) := by rw [y_adl (by omega) (by omega) (by omega) (by omega)]; omega
    have hTk := hT k
    have hTe : (Int32.ofInt (T k)).toInt = T k := y_oi (by omega) (by omega)
    have hTl : (Int32.ofInt (T k)).toInt64.toInt = T k := by rw [y_il, hTe]
    have hwk := hw k (by omega)
    have hLk := hL k (by omega)
    have n13 : ¬ Int32.ofInt 13 ≤ x8 := by rw [y_i_le, h13]; omega
    -- not a candidate
    have skip : ¬ zkc x2.toInt T w ws k → (∀ M, z_loop X z_cf z_ff (z_pu (z_run X z_cf z_ff (d + 3))) 234 (M + 1) 33 [(0, .ref 55), (2, .long x2), (4, .int x4), (5, .int x5), (6, .int x6), (7, .int x7), (8, .int x8)] [] (118, n0, ce, sl, I, L, z_rr t u r q g st) = z_loop X z_cf z_ff (z_pu (z_run X z_cf z_ff (d + 3))) 234 M 33 [(0, .ref 55), (2, .long x2), (4, .int x4), (5, .int x5), (6, .int x6), (7, .int x7), (8, .int (x8 + Int32.ofInt 1))] [] (118, n0, ce, sl, I, L, z_rr t u r q g st)) → ∃ x7' x8' : Int32, x8'.toInt = 13 ∧ (x7'.toInt = -1 ∧ (∀ j, j < 13 → ¬ zkc x2.toInt T w ws j) ∨ ∃ c : Nat, c < 13 ∧ x7'.toInt = c ∧ zkc x2.toInt T w ws c ∧ ∀ j, j < 13 → zkc x2.toInt T w ws j → (zth I j).toInt ≤ (zth I c).toInt) ∧
        ∀ M, ∃ M', M ≤ M' ∧ z_loop X z_cf z_ff (z_pu (z_run X z_cf z_ff (d + 3))) 234 (M + 3 * (n + 1)) 33 [(0, .ref 55), (2, .long x2), (4, .int x4), (5, .int x5), (6, .int x6), (7, .int x7), (8, .int x8)] [] (118, n0, ce, sl, I, L, z_rr t u r q g st) = z_loop X z_cf z_ff (z_pu (z_run X z_cf z_ff (d + 3))) 234 M' 33 [(0, .ref 55), (2, .long x2), (4, .int x4), (5, .int x5), (6, .int x6), (7, .int x7'), (8, .int x8')] [] (118, n0, ce, sl, I, L, z_rr t u r q g st) := by
      intro e1 e2
      obtain ⟨x7', x8', b1, b2, b3⟩ := ih (k + 1) x7 (x8 + Int32.ofInt 1) (by omega) a2' (by
        rcases a3 with ⟨a3, a4⟩ | ⟨c, c1, c2, c3, c4⟩
        · left
          refine ⟨a3, fun j hj => ?_⟩
          by_cases cj : j = k
          · subst cj
            exact e1
          · exact a4 j (by omega)
        · right
          refine ⟨c, c1, c2, c3, fun j hj hk => ?_⟩
          by_cases cj : j = k
          · subst cj
            exact absurd hk e1
          · exact c4 j (by omega) hk)
      refine ⟨x7', x8', b1, b2, fun M => ?_⟩
      obtain ⟨M', q1, q2⟩ := b3 (M + 2)
      refine ⟨M', by omega, ?_⟩
      rw [show M + 3 * (n + 1) = (M + 2 + 3 * n) + 1 by omega, e2, q2]
    by_cases c1 : T k = -1
    · refine skip (fun x => x.1 c1) (fun M => ?_)
      rw [zb_M_keeps_33, if_neg n13, hin, z_gd_t, hixn, hI k (by omega), if_pos (by rw [c1])]
    · have nc1 : ¬ Int32.ofInt (T k) = Int32.ofInt (-1) := by rw [y_i_eq, hTe, hm1]; exact c1
      by_cases cb : T k ≤ x2.toInt
      · have ncb : ¬ 0 < lg_cmp (Int32.ofInt (T k)).toInt64 x2 := by rw [z_lg_gt, hTl]; omega
        by_cases c2 : w k = zNV
        · refine skip (fun x => x.2.2.1 c2) (fun M => ?_)
          rw [zb_M_keeps_33, if_neg n13, hin, z_gd_t, hixn, hI k (by omega), if_neg nc1, if_neg ncb, hin2, z_gd_t, hiyn, if_pos (by rw [z_lg_eq, hLk, hN]; omega)]
        · have nc2 : ¬ lg_cmp (L 96 (13 * (s + 1) + k)) (Int64.ofInt 1000000000000000) = 0 := by rw [z_lg_eq, hLk, hN]; omega
          have e96 : (L 96 (13 * (s + 1) + k) + (Int32.ofInt (T k)).toInt64).toInt = w k + T k := by
            rw [y_ad8 (by omega) (by omega), hLk, hTl]
          by_cases c3 : w k + T k = ws
          · have hk : zkc x2.toInt T w ws k := ⟨c1, cb, c2, c3⟩
            have p3 : lg_cmp (L 96 (13 * (s + 1) + k) + (Int32.ofInt (T k)).toInt64) (L 96 (13 * s + f)) = 0 := by rw [z_lg_eq, e96, hws]; exact c3
            -- it is taken, or the one before is greater
            have take : (∀ j, j < k → zkc x2.toInt T w ws j → (zth I j).toInt ≤ (zth I k).toInt) → (∀ M, ∃ M', M ≤ M' ∧ z_loop X z_cf z_ff (z_pu (z_run X z_cf z_ff (d + 3))) 234 (M + 3) 33 [(0, .ref 55), (2, .long x2), (4, .int x4), (5, .int x5), (6, .int x6), (7, .int x7), (8, .int x8)] [] (118, n0, ce, sl, I, L, z_rr t u r q g st) = z_loop X z_cf z_ff (z_pu (z_run X z_cf z_ff (d + 3))) 234 M' 33 [(0, .ref 55), (2, .long x2), (4, .int x4), (5, .int x5), (6, .int x6), (7, .int x8), (8, .int (x8 + Int32.ofInt 1))] [] (118, n0, ce, sl, I, L, z_rr t u r q g st)) → ∃ x7' x8' : Int32, x8'.toInt = 13 ∧ (x7'.toInt = -1 ∧ (∀ j, j < 13 → ¬ zkc x2.toInt T w ws j) ∨ ∃ c : Nat, c < 13 ∧ x7'.toInt = c ∧ zkc x2.toInt T w ws c ∧ ∀ j, j < 13 → zkc x2.toInt T w ws j → (zth I j).toInt ≤ (zth I c).toInt) ∧
                ∀ M, ∃ M', M ≤ M' ∧ z_loop X z_cf z_ff (z_pu (z_run X z_cf z_ff (d + 3))) 234 (M + 3 * (n + 1)) 33 [(0, .ref 55), (2, .long x2), (4, .int x4), (5, .int x5), (6, .int x6), (7, .int x7), (8, .int x8)] [] (118, n0, ce, sl, I, L, z_rr t u r q g st) = z_loop X z_cf z_ff (z_pu (z_run X z_cf z_ff (d + 3))) 234 M' 33 [(0, .ref 55), (2, .long x2), (4, .int x4), (5, .int x5), (6, .int x6), (7, .int x7'), (8, .int x8')] [] (118, n0, ce, sl, I, L, z_rr t u r q g st) := by
              intro e1 e2
              obtain ⟨x7', x8', b1, b2, b3⟩ := ih (k + 1) x8 (x8 + Int32.ofInt 1) (by omega) a2' (Or.inr ⟨k, by omega, a2, hk, fun j hj hjk => by
                by_cases cj : j = k
                · subst cj
                  exact Int.le_refl _
                · exact e1 j (by omega) hjk⟩)
              refine ⟨x7', x8', b1, b2, fun M => ?_⟩
              obtain ⟨M1, q1, q2⟩ := e2 (M + 3 * n)
              obtain ⟨M2, q3, q4⟩ := b3 (M1 - 3 * n)
              refine ⟨M2, by omega, ?_⟩
              rw [show M + 3 * (n + 1) = (M + 3 * n) + 3 by omega, q2, ← q4, show M1 - 3 * n + 3 * n = M1 by omega]
            rcases a3 with ⟨a3, a4⟩ | ⟨c, d1, d2, d3, d4⟩
            · refine take (fun j hj hjk => absurd hjk (a4 j hj)) (fun M => ⟨M + 2, by omega, ?_⟩)
              rw [zb_M_keeps_33, if_neg n13, hin, z_gd_t, hixn, hI k (by omega), if_neg nc1, if_neg ncb, hin2, z_gd_t, hiyn, if_neg nc2, z_gd_t, hin3, z_gd_t, hizn, if_pos p3, if_pos (by rw [y_i_eq, hm1]; exact a3)]
            · have n7 : ¬ x7 = Int32.ofInt (-1) := by rw [y_i_eq, hm1]; omega
              have pre : ∀ M, z_loop X z_cf z_ff (z_pu (z_run X z_cf z_ff (d + 3))) 234 (M + 3) 33 [(0, .ref 55), (2, .long x2), (4, .int x4), (5, .int x5), (6, .int x6), (7, .int x7), (8, .int x8)] [] (118, n0, ce, sl, I, L, z_rr t u r q g st) = z_loop X z_cf z_ff (z_pu (z_run X z_cf z_ff (d + 3))) 234 (M + 1) 155 [(0, .ref 55), (2, .long x2), (4, .int x4), (5, .int x5), (6, .int x6), (7, .int x7), (8, .int x8)] [.int (zth I c), .int (zth I k)] (118, n0, ce, sl, I, L, z_rr t u r q g st) := by
                intro M
                rw [show M + 3 = (M + 1) + 1 + 1 by omega, zb_M_keeps_33, if_neg n13, hin, z_gd_t, hixn, hI k (by omega), if_neg nc1, if_neg ncb, hin2, z_gd_t, hiyn, if_neg nc2, z_gd_t, hin3, z_gd_t, hizn, if_pos p3, if_neg n7, zr_thick X d n0 ce sl I L t u r q g st x8 k (by omega) a2, z_bi_v, zb_M_keeps_149, zr_thick X d n0 ce sl I L t u r q g st x7 c d1 d2, z_bi_v]
              by_cases ct : (zth I k).toInt ≤ (zth I c).toInt
              · obtain ⟨x7', x8', b1, b2, b3⟩ := ih (k + 1) x7 (x8 + Int32.ofInt 1) (by omega) a2' (Or.inr ⟨c, d1, d2, d3, fun j hj hjk => by
                  by_cases cj : j = k
                  · subst cj
                    exact ct
                  · exact d4 j (by omega) hjk⟩)
                refine ⟨x7', x8', b1, b2, fun M => ?_⟩
                obtain ⟨M2, q3, q4⟩ := b3 M
                refine ⟨M2, q3, ?_⟩
                rw [show M + 3 * (n + 1) = (M + 3 * n) + 3 by omega, pre, zb_M_keeps_155, if_pos (y_i_le.mpr ct), q4]
              · refine take (fun j hj hjk => by have := d4 j hj hjk; omega) (fun M => ⟨M, Nat.le_refl _, ?_⟩)
                rw [pre, zb_M_keeps_155, if_neg (fun x => ct (y_i_le.mp x))]
          · refine skip (fun x => c3 x.2.2.2) (fun M => ?_)
            rw [zb_M_keeps_33, if_neg n13, hin, z_gd_t, hixn, hI k (by omega), if_neg nc1, if_neg ncb, hin2, z_gd_t, hiyn, if_neg nc2, z_gd_t, hin3, z_gd_t, hizn, if_neg (by rw [z_lg_eq, e96, hws]; exact c3)]
      · refine skip (fun x => cb x.2.1) (fun M => ?_)
        rw [zb_M_keeps_33, if_neg n13, hin, z_gd_t, hixn, hI k (by omega), if_neg nc1, if_pos (by rw [z_lg_gt, hTl]; omega)]
