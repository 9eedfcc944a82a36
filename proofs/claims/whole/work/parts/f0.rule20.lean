/-! RULES, 23: the relation, and the call -/
theorem zpNum_w {N : Nat} {lx : Nat → zTk} (hl : zLX N lx) {most kind v : Int} {tk t : zTk} (hT : zTO N tk) (h : zpNum lx most kind tk = .inr (t, v)) : zTO N t ∧ 0 ≤ v ∧ v ≤ 99999 := by
  by_cases c : tk.1 = 2
  · by_cases c5 : tk.2.2.2.2 ≤ 5
    · by_cases cm : tk.2.2.2.1 ≤ most
      · rw [zpNum_4 c c5 cm] at h
        injection h with h
        injection h with e1 e2
        obtain ⟨d1, d2, d3⟩ := hT.2.2.2 c
        rw [← e1, ← e2]
        exact ⟨(zTO_nx hl hT (by omega)).1, d2, d3⟩
      · rw [zpNum_3 c c5 cm] at h
        exact absurd h (by simp)
    · rw [zpNum_2 c c5] at h
      exact absurd h (by simp)
  · rw [zpNum_1 c] at h
    exact absurd h (by simp)
theorem zpStd_w {N : Nat} (hN : N ≤ 400) {lx : Nat → zTk} (hl : zLX N lx) {nst : Int} {tk t : zTk} {c : zcl} (hT : zTO N tk) (h : zpStd lx nst tk = .inr (t, c)) : zTO N t ∧ zcwf c := by
  unfold zpStd at h
  cases hn : zpNum lx (nst - 1) 4 tk with
  | inl y =>
    rw [hn] at h
    exact absurd h (by simp)
  | inr y =>
    obtain ⟨t1, v⟩ := y
    rw [hn] at h
    have h1 : (if t1.1 = 100 then match zpExpr lx 6 (lx t1.2.2.1) with
      | .inl e => (.inl e : zFl ⊕ (zTk × zcl))
      | .inr (t2, s) => if t2.1 = 113 then match zpExpr lx 6 (lx t2.2.2.1) with
          | .inl e => .inl e
          | .inr (t3, s2) => .inr (t3, (v, s, s2))
        else .inr (t2, (v, s, []))
    else .inl (1, t1.2.1)) = .inr (t, c) := h
    have T1 := (zpNum_w hl hT hn).1
    by_cases c100 : t1.1 = 100
    · rw [if_pos c100] at h1
      have T2 := (zTO_nx hl T1 (by omega)).1
      cases hx : zpExpr lx 6 (lx t1.2.2.1) with
      | inl y =>
        rw [hx] at h1
        exact absurd h1 (by simp)
      | inr y =>
        obtain ⟨t2, s⟩ := y
        rw [hx] at h1
        have h2 : (if t2.1 = 113 then match zpExpr lx 6 (lx t2.2.2.1) with
          | .inl e => (.inl e : zFl ⊕ (zTk × zcl))
          | .inr (t3, s2) => .inr (t3, (v, s, s2))
        else .inr (t2, (v, s, []))) = .inr (t, c) := h1
        obtain ⟨w1, w2, w3⟩ := zwf_expr hN hl T2 hx
        have T3 := (zAdv_expr hl 6 _ T2 _ _ hx).1
        by_cases c113 : t2.1 = 113
        · rw [if_pos c113] at h2
          have T4 := (zTO_nx hl T3 (by omega)).1
          cases hy : zpExpr lx 6 (lx t2.2.2.1) with
          | inl y =>
            rw [hy] at h2
            exact absurd h2 (by simp)
          | inr y =>
            obtain ⟨t3, s2⟩ := y
            rw [hy] at h2
            injection h2 with h2
            injection h2 with e1 e2
            obtain ⟨v1, v2, v3⟩ := zwf_expr hN hl T4 hy
            rw [← e1, ← e2]
            exact ⟨(zAdv_expr hl 6 _ T4 _ _ hy).1, w1, Or.inr v1, w2, v2⟩
        · rw [if_neg c113] at h2
          injection h2 with h2
          injection h2 with e1 e2
          rw [← e1, ← e2]
          exact ⟨T3, w1, Or.inl rfl, w2, Nat.zero_le _⟩
    · rw [if_neg c100] at h1
      exact absurd h1 (by simp)
theorem zsetp_w {k v : Int} {q : zPq} (hv : 0 ≤ v ∧ v ≤ 99999) (hq : 0 ≤ q.1 ∧ q.1 ≤ 99999) : 0 ≤ (zsetp k v q).1 ∧ (zsetp k v q).1 ≤ 99999 := by
  unfold zsetp
  split
  · exact hv
  · split
    · exact hq
    · split <;> exact hq
theorem zpCla_w {N : Nat} (hN : N ≤ 400) {lx : Nat → zTk} (hl : zLX N lx) {nst : Int} {i : Nat} {tk tk' : zTk} {P P' : List zcl} {q q' : zPq} (hT : zTO N tk) (h : zpCla lx nst i tk P q = .inr (tk', P', q')) (hP : ∀ c, c ∈ P → zcwf c) (hq : 0 ≤ q.1 ∧ q.1 ≤ 99999) : zTO N tk' ∧ (∀ c, c ∈ P' → zcwf c) ∧ 0 ≤ q'.1 ∧ q'.1 ≤ 99999 := by
  unfold zpCla at h
  by_cases c1 : 114 ≤ tk.1 ∧ tk.1 ≤ 118
  · rw [if_pos c1] at h
    by_cases c2 : i < 12
    · rw [if_pos c2] at h
      have T1 := (zTO_nx hl hT (by omega)).1
      by_cases c3 : tk.1 = 114
      · rw [if_pos c3] at h
        cases hx : zpStd lx nst (lx tk.2.2.1) with
        | inl y =>
          rw [hx] at h
          exact absurd h (by simp)
        | inr y =>
          obtain ⟨t, c⟩ := y
          rw [hx] at h
          have h1 : (if t.1 = 59 then (.inr (lx t.2.2.1, P ++ [c], q) : zFl ⊕ (zTk × List zcl × zPq)) else .inl (1, t.2.1)) = .inr (tk', P', q') := h
          obtain ⟨w1, w2⟩ := zpStd_w hN hl T1 hx
          by_cases c59 : t.1 = 59
          · rw [if_pos c59] at h1
            injection h1 with h1
            injection h1 with e1 e2
            injection e2 with e2 e3
            rw [← e1, ← e2, ← e3]
            refine ⟨(zTO_nx hl w1 (by omega)).1, fun c' hc => ?_, hq⟩
            rcases List.mem_append.mp hc with hc | hc
            · exact hP c' hc
            · have : c' = c := by simpa using hc
              rw [this]
              exact w2
          · rw [if_neg c59] at h1
            exact absurd h1 (by simp)
      · rw [if_neg c3] at h
        cases hx : zpNum lx (if tk.1 = 115 then 9 else 99999) 2 (lx tk.2.2.1) with
        | inl y =>
          rw [hx] at h
          exact absurd h (by simp)
        | inr y =>
          obtain ⟨t, v⟩ := y
          rw [hx] at h
          have h1 : (if t.1 = 59 then (.inr (lx t.2.2.1, P, zsetp tk.1 v q) : zFl ⊕ (zTk × List zcl × zPq)) else .inl (1, t.2.1)) = .inr (tk', P', q') := h
          obtain ⟨w1, w2⟩ := zpNum_w hl T1 hx
          by_cases c59 : t.1 = 59
          · rw [if_pos c59] at h1
            injection h1 with h1
            injection h1 with e1 e2
            injection e2 with e2 e3
            rw [← e1, ← e2, ← e3]
            exact ⟨(zTO_nx hl w1 (by omega)).1, hP, zsetp_w w2 hq⟩
          · rw [if_neg c59] at h1
            exact absurd h1 (by simp)
    · rw [if_neg c2] at h
      exact absurd h (by simp)
  · rw [if_neg c1] at h
    exact absurd h (by simp)
theorem zpAll_w {N : Nat} (hN : N ≤ 400) {lx : Nat → zTk} (hl : zLX N lx) {nst : Int} : ∀ (f i : Nat) (tk : zTk) (P P' : List zcl) (q q' : zPq), zTO N tk → zpAll lx nst f i tk P q = .inr (P', q') → (∀ c, c ∈ P → zcwf c) → (0 ≤ q.1 ∧ q.1 ≤ 99999) → (∀ c, c ∈ P' → zcwf c) ∧ 0 ≤ q'.1 ∧ q'.1 ≤ 99999 := by
  intro f
  induction f with
  | zero =>
    intro i tk P P' q q' hT h hP hq
    unfold zpAll at h
    injection h with h
    injection h with e1 e2
    rw [← e1, ← e2]
    exact ⟨hP, hq⟩
  | succ f ih =>
    intro i tk P P' q q' hT h hP hq
    unfold zpAll at h
    by_cases c0 : tk.1 = 0
    · rw [if_pos c0] at h
      injection h with h
      injection h with e1 e2
      rw [← e1, ← e2]
      exact ⟨hP, hq⟩
    · rw [if_neg c0] at h
      cases hx : zpCla lx nst i tk P q with
      | inl y =>
        rw [hx] at h
        exact absurd h (by simp)
      | inr y =>
        obtain ⟨tk2, P2, q2⟩ := y
        rw [hx] at h
        obtain ⟨w1, w2, w3⟩ := zpCla_w hN hl hT hx hP hq
        exact ih (i + 1) tk2 P2 P' q2 q' w1 h w2 w3
/-- the rules that are told, in the class's sheet D -/
def zVt (D : Nat) (l : List zcl) (qq : zPq) (I : Nat → Nat → Int32) : Prop := (∃ n, n ≤ 400 ∧ zPC D n I 0 l) ∧ (I D 7).toInt = l.length ∧ (I D 8).toInt = qq.1 ∧ (I D 9).toInt = qq.2.1 ∧ (I D 10).toInt = qq.2.2.1 ∧ (I D 11).toInt = qq.2.2.2
/-- .. in the model's bank -/
def zVm (l : List zcl) (qq : zPq) (I : Nat → Nat → Int32) : Prop := (0 ≤ (I 55 29).toInt ∧ (I 55 29).toInt ≤ 1) ∧ (I 55 28 = 0 ∧ l = [] ∧ qq = (0, 0, 99999, 99999) ∨ ¬ I 55 28 = 0 ∧ ∃ b top : Nat, b < 2 ∧ I 55 29 = Int32.ofNat b ∧ (I 71 b).toInt = l.length ∧ top ≤ 1000 * b + 802 ∧ zPM b top I (12 * b) l ∧ (I 70 (4 * b)).toInt = qq.1 ∧ (I 70 (4 * b + 1)).toInt = qq.2.1 ∧ (I 70 (4 * b + 2)).toInt = qq.2.2.1 ∧ (I 70 (4 * b + 3)).toInt = qq.2.2.2)
def zg_V (D : Nat) (I : Nat → Nat → Int32) : Prop := ∃ (l : List zcl) (qq : zPq), zVt D l qq I ∧ zVm l qq I ∧ l.length ≤ 12 ∧ (∀ c, c ∈ l → zcwf c) ∧ 0 ≤ qq.1 ∧ qq.1 ≤ 99999
theorem zVt_c {D : Nat} {l : List zcl} {qq : zPq} {I J : Nat → Nat → Int32} (h : zVt D l qq I) (h1 : ∀ x, (x = D ∨ x = D + 1 ∨ D + 3 ≤ x ∧ x ≤ D + 6) → J x = I x) : zVt D l qq J := by
  obtain ⟨⟨n, a1, a2⟩, a3⟩ := h
  have e := h1 D (Or.inl rfl)
  refine ⟨⟨n, a1, zPC_u (Nat.le_refl _) (fun j _ => by rw [h1 (D + 1) (Or.inr (Or.inl rfl))]) l 0 (fun x x1 x2 j _ => by rw [h1 x (Or.inr (Or.inr ⟨x1, x2⟩))]) a2⟩, ?_⟩
  rw [e]
  exact a3
theorem zVm_c {l : List zcl} {qq : zPq} {I J : Nat → Nat → Int32} (h : zVm l qq I) (h1 : J 55 28 = I 55 28) (h2 : J 55 29 = I 55 29) (h3 : ∀ x, 70 ≤ x → x ≤ 75 → J x = I x) : zVm l qq J := by
  obtain ⟨a1, a2⟩ := h
  refine ⟨by rw [h2]; exact a1, ?_⟩
  rw [h1, h2]
  rcases a2 with a2 | ⟨a2, b, top, b1, b2, b3, b4, b5, b6⟩
  · exact Or.inl a2
  · refine Or.inr ⟨a2, b, top, b1, b2, by rw [h3 71 (by omega) (by omega)]; exact b3, b4, zPM_u (Nat.le_refl _) (fun j _ _ => by rw [h3 75 (by omega) (by omega)]) l (12 * b) (fun x x1 x2 j _ _ => by rw [h3 x (by omega) (by omega)]) b5, ?_⟩
    rw [h3 70 (by omega) (by omega)]
    exact b6
theorem zg_V_c {D : Nat} {I J : Nat → Nat → Int32} (h : zg_V D I) (h0 : ∀ x, (x = D ∨ x = D + 1 ∨ D + 3 ≤ x ∧ x ≤ D + 6) → J x = I x) (h1 : J 55 28 = I 55 28) (h2 : J 55 29 = I 55 29) (h3 : ∀ x, 70 ≤ x → x ≤ 75 → J x = I x) : zg_V D J := by
  obtain ⟨l, qq, a1, a2, a3⟩ := h
  exact ⟨l, qq, zVt_c a1 h0, zVm_c a2 h1 h2 h3, a3⟩
theorem zPC_cls {D n : Nat} {I : Nat → Nat → Int32} (hn : n ≤ 400) (l : List zcl) : ∀ i, zPC D n I i l → (∀ c, c ∈ l → zcwf c) → zclsC I (D + 1) (D + 3) (D + 4) (D + 5) (D + 6) i l := by
  induction l with
  | nil => intro _ _ _; trivial
  | cons x l ih =>
    intro i h hw
    obtain ⟨⟨a1, p, a2, a3, a4, a5, a6, a7⟩, a8⟩ := h
    exact ⟨⟨⟨a1, p, a2, a3, a4, by omega, a6, a7⟩, hw x List.mem_cons_self⟩, ih (i + 1) a8 (fun c hc => hw c (List.mem_cons_of_mem _ hc))⟩
theorem zPM_cls {b top : Nat} {I : Nat → Nat → Int32} (hb : b < 2) (l : List zcl) : ∀ k, zPM b top I k l → (∀ c, c ∈ l → zcwf c) → zclsM I k l := by
  induction l with
  | nil => intro _ _ _; trivial
  | cons x l ih =>
    intro k h hw
    obtain ⟨⟨a1, ⟨p, a2, a3, a4, a5, a6⟩, a7, a8⟩, a9⟩ := h
    refine ⟨⟨⟨a1, ⟨p, a2, by omega, a6⟩, a7, fun e => ?_⟩, hw x List.mem_cons_self⟩, ih (k + 1) a9 (fun c hc => hw c (List.mem_cons_of_mem _ hc))⟩
    obtain ⟨p2, b2, b3, b4, b5, b6⟩ := a8 e
    exact ⟨p2, b2, by omega, b6⟩
theorem zVm_M {l : List zcl} {qq : zPq} {I : Nat → Nat → Int32} (h : zVm l qq I) (hw : ∀ c, c ∈ l → zcwf c) : zVM l I ∧ (zpaM I 0).toInt = qq.1 ∧ (zpaM I 1).toInt = qq.2.1 ∧ (zpaM I 2).toInt = qq.2.2.1 ∧ (zpaM I 3).toInt = qq.2.2.2 := by
  obtain ⟨a1, a2⟩ := h
  unfold zpaM
  rcases a2 with ⟨a2, a3, a4⟩ | ⟨a2, b, top, b1, b2, b3, b4, b5, b6, b7, b8, b9⟩
  · refine ⟨⟨a1, Or.inl ⟨a2, a3⟩⟩, ?_, ?_, ?_, ?_⟩
    · rw [if_pos a2, a4]; rfl
    · rw [if_pos a2, a4]; rfl
    · rw [if_pos a2, a4]; rfl
    · rw [if_pos a2, a4]; rfl
  · have hn : (I 55 29).toNatClampNeg = b := by rw [b2, y_tn, y_on (by omega)]; rfl
    refine ⟨⟨a1, Or.inr ⟨a2, b, b1, b2, b3, zPM_cls b1 l _ b5 hw⟩⟩, ?_, ?_, ?_, ?_⟩
    · rw [if_neg a2, hn]; exact b6
    · rw [if_neg a2, hn]; exact b7
    · rw [if_neg a2, hn]; exact b8
    · rw [if_neg a2, hn]; exact b9
theorem zg_V_8 {I : Nat → Nat → Int32} (h : zg_V 8 I) : ∃ l : List zcl, zg_V8 l I := by
  obtain ⟨l, qq, ⟨⟨n, a1, a2⟩, a3, a4, a5, a6, a7⟩, b1, b2, b3, b4, b5⟩ := h
  obtain ⟨c1, c2, c3, c4, c5⟩ := zVm_M b1 b3
  exact ⟨l, ⟨zPC_cls a1 l 0 a2 b3, a3⟩, c1, b2, y_i_eq.mpr (by rw [a4, c2]), y_i_eq.mpr (by rw [a5, c3]), y_i_eq.mpr (by rw [a6, c4]), y_i_eq.mpr (by rw [a7, c5]), by rw [c2]; exact b4, by rw [c2]; exact b5⟩
theorem zg_V_15 {I : Nat → Nat → Int32} (h : zg_V 15 I) : ∃ l : List zcl, zg_V15 l I := by
  obtain ⟨l, qq, ⟨⟨n, a1, a2⟩, a3, a4, a5, a6, a7⟩, b1, b2, b3, b4, b5⟩ := h
  obtain ⟨c1, c2, c3, c4, c5⟩ := zVm_M b1 b3
  exact ⟨l, ⟨zPC_cls a1 l 0 a2 b3, a3⟩, c1, b2, y_i_eq.mpr (by rw [a4, c2]), y_i_eq.mpr (by rw [a5, c3]), y_i_eq.mpr (by rw [a6, c4]), y_i_eq.mpr (by rw [a7, c5]), by rw [c2]; exact b4, by rw [c2]; exact b5⟩
/-- a call of rules that is refused or has a fault leaves the rules; the model's other bank is free -/
theorem zVm_R {b : Nat} {l : List zcl} {qq : zPq} {I J : Nat → Nat → Int32} {L LJ : Nat → Nat → Int64} (h : zVm l qq I) (hl : l.length ≤ 12) (hb : b < 2) (h0 : I 55 28 = 0 ∨ ¬ I 55 28 = 0 ∧ (I 55 29).toInt = 1 - (b : Int)) (hR : zMR b I J L LJ) (h1 : J 55 28 = I 55 28) (h2 : J 55 29 = I 55 29) : zVm l qq J := by
  obtain ⟨r1, r2, r3, r4, r5, r6, r7, r8, r9, r10⟩ := hR
  obtain ⟨a1, a2⟩ := h
  refine ⟨by rw [h2]; exact a1, ?_⟩
  rw [h1, h2]
  rcases a2 with a2 | ⟨a2, c, top, b1, b2, b3, b4, b5, b6, b7, b8, b9⟩
  · exact Or.inl a2
  · have hc : (I 55 29).toInt = c := by rw [b2, y_on (by omega)]
    have hbc : (c : Int) = 1 - (b : Int) := by
      rcases h0 with h0 | h0
      · exact absurd h0 a2
      · omega
    exact Or.inr ⟨a2, c, top, b1, b2, by rw [r6 c (by omega)]; exact b3, b4, zPM_u (Nat.le_refl _) (fun j j1 j2 => r8 j (by omega)) l (12 * c) (fun x x1 x2 j j1 j2 => r7 x x1 x2 j (by omega)) b5, by rw [r5 _ (by omega)]; exact b6, by rw [r5 _ (by omega)]; exact b7, by rw [r5 _ (by omega)]; exact b8, by rw [r5 _ (by omega)]; exact b9⟩
def zTU (t u : Nat) : Prop := t = 8 ∧ u = 15 ∨ t = 15 ∧ u = 8
def zQV (m r q ce sl : Nat) (I : Nat → Nat → Int32) (L : Nat → Nat → Int64) (w : ZW) : Prop :=
  ∃ (ce' sl' : Nat) (J : Nat → Nat → Int32) (L' : Nat → Nat → Int64) (t' u' : Nat), w = zw m t' u' r q ce' sl' J L' ∧ zTU t' u' ∧ ce' ≤ ce + 1 ∧ sl' ≤ sl + 6 ∧ zFr [0, 7, 8, 9, 11, 12, 13, 14, 15, 16, 18, 19, 20, 21, 70, 71, 72, 73, 74, 75, 76, 77] [17, 18, 19, 20, 21, 22, 23, 24, 25, 26, 27, 28, 29, 30, 31, 32, 33] I J ∧ (∀ j, j ≠ 2 → J 0 j = I 0 j) ∧ (∀ a, a ≠ 117 → a ≠ 55 → L' a = L a) ∧ (∀ j, j ≠ 27 → L' 55 j = L 55 j) ∧ zFs I J ∧ zg_T J ∧ J 7 11 = J 55 19 ∧ zg_V t' J
theorem zo_rules15 (X : ZX) (d m ce sl : Nat) (I : Nat → Nat → Int32) (L : Nat → Nat → Int64) (r q : Nat) {C : Nat} (hS : zg_S C m I) (hT : zg_T I) (hV : zg_V 15 I) (hfa : I 7 11 = I 55 19) (x1 : Int32) : zOL X (d + 200) 257 [.ref 0, .int x1, .ref 117] 183 [.ref 55, .int x1] (118, z_sd m, ce, sl, I, L, z_rr 15 8 r q (z_gg m) (z_sf m)) (zQV m r q ce sl I L) := by
  obtain ⟨t1, t2, t3, t4⟩ := id hT
  have h5 := hS.1
  have s5 : (I 5 2).toInt = (m : Nat) := by rw [hS.2.1, y_on (by omega)]
  have s55 : (I 55 1).toInt = (m : Nat) := by rw [hS.2.2.1, y_on (by omega)]
  have e0 : (Int32.ofInt 0).toInt = 0 := rfl
  by_cases c : 0 ≤ x1.toInt ∧ x1.toInt ≤ (I 0 2).toInt
  · obtain ⟨N, hN⟩ : ∃ N : Nat, x1.toInt = N := ⟨x1.toInt.toNat, by omega⟩
    have hN4 : N ≤ 400 := by omega
    have hl := zlx_ok (fun i => (I 6 i).toInt) N
    have hO := (hl 0 (Nat.zero_le N)).1
    have w1 : ¬ z_p_X_within x1 (Int32.ofInt 0) (I 0 2) = 0 := by rw [y_wi0]; omega
    have kx : ∀ x, x ≠ 0 → (z_up I 0 2 (Int32.ofInt 0)) x = I x := fun x hx => z_up_r _ _ _ _ _ hx
    obtain ⟨c1, c2⟩ := zC_all_8 X (d + 115) m ce sl (z_up I 0 2 (Int32.ofInt 0)) L r q (F := fun i => (I 6 i).toInt) (fun i => by rw [kx 6 (by omega)]) (N := N) (nst := m) hN4 x1 (I 5 2) hN s5
    -- the class's call through the law's helper
    have cl : ∀ (y : Int32) (J : Nat → Nat → Int32) (a b : Nat), z_pu (z_run X z_cf z_ff (d + 198)) 54 [.ref 7, .int x1, .int (I 5 2)] (118, z_sd m, ce, sl, (z_up I 0 2 (Int32.ofInt 0)), L, z_rr 15 8 r q (z_gg m) (z_sf m)) = some (.inl (some (.int y)), (118, z_sd m, ce, sl, J, L, z_rr a b r q (z_gg m) (z_sf m))) → z_pu (z_run X z_cf z_ff (d + 200)) 257 [.ref 0, .int x1, .ref 117] (118, z_sd m, ce, sl, I, L, z_rr 15 8 r q (z_gg m) (z_sf m)) = some (.inl (some (.int (Int32.ofInt 0))), (118, z_sd m, ce, sl, J, z_up L 117 0 y.toInt64, z_rr a b r q (z_gg m) (z_sf m))) := by
      intro y J a b h
      have e : z_pu (z_run X z_cf z_ff (d + 199)) 142 [.ref 0, .int x1] (118, z_sd m, ce, sl, I, L, z_rr 15 8 r q (z_gg m) (z_sf m)) = some (.inl (some (.int y)), (118, z_sd m, ce, sl, J, L, z_rr a b r q (z_gg m) (z_sf m))) := by
        refine z_en X (d + 196) _ _ [(0, .ref 0), (1, .int x1)] _ _ rfl rfl rfl ?_
        rw [show (100000000 : Nat) = 99999998 + 2 by omega, zt_X_rules_0 X (d + 194), if_neg w1, h, z_bi_v, zb_X_rules_40]
      refine z_en X (d + 197) _ _ [(0, .ref 0), (1, .int x1), (2, .ref 117)] _ _ rfl rfl rfl ?_
      rw [show (100000000 : Nat) = 99999998 + 1 + 1 by omega, zb_L_rules_0, e, z_bi_v, zb_L_rules_7, z_gd_in (by decide) (by decide)]
      rfl
    -- the model's call behind it
    have mo : ∀ (J : Nat → Nat → Int32) (y : Int32) (a b : Nat), (∀ x, x ≠ 7 → x ≠ 8 → x ≠ 8 + 1 → (x < 8 + 3 ∨ 8 + 6 < x) → J x = (z_up I 0 2 (Int32.ofInt 0)) x) → ∃ (bb : Nat) (x : Int32), bb < 2 ∧ x = Int32.ofNat bb ∧ (I 55 28 = 0 ∨ ¬ I 55 28 = 0 ∧ (I 55 29).toInt = 1 - (bb : Int)) ∧
        (∀ e, zpAll (zlx (fun i => (I 6 i).toInt) N) m 13 0 (zlx (fun i => (I 6 i).toInt) N 0) [] (0, 0, 99999, 99999) = .inl e → ∃ (K : Nat → Nat → Int32) (LK : Nat → Nat → Int64), zMR bb J K (z_up L 117 0 y.toInt64) LK ∧ K 55 28 = J 55 28 ∧ K 55 29 = J 55 29 ∧ K 55 18 = Int32.ofInt e.1 ∧ (K 55 19).toInt = e.2 ∧ 1 ≤ e.1 ∧ e.1 ≤ 4 ∧ z_pu (z_run X z_cf z_ff (d + 200)) 183 [.ref 55, .int x1] (118, z_sd m, ce, sl, J, z_up L 117 0 y.toInt64, z_rr a b r q (z_gg m) (z_sf m)) = some (.inl (some (.int (K 55 18))), (118, z_sd m, ce, sl, K, LK, z_rr a b r q (z_gg m) (z_sf m)))) ∧
        (∀ P' q', zpAll (zlx (fun i => (I 6 i).toInt) N) m 13 0 (zlx (fun i => (I 6 i).toInt) N 0) [] (0, 0, 99999, 99999) = .inr (P', q') → P'.length ≤ 12 ∧ ∃ (K : Nat → Nat → Int32) (LK : Nat → Nat → Int64) (tk' : zTk) (i' : Nat), zMR bb J K (z_up L 117 0 y.toInt64) LK ∧ zMA (fun i => (I 6 i).toInt) N m bb i' tk' P' q' K LK ∧ z_pu (z_run X z_cf z_ff (d + 200)) 183 [.ref 55, .int x1] (118, z_sd m, ce, sl, J, z_up L 117 0 y.toInt64, z_rr a b r q (z_gg m) (z_sf m)) = some (.inl (some (.int (Int32.ofInt 0))), (118, z_sd m, ce, sl, z_up (z_up K 55 28 (Int32.ofInt 1)) 55 29 x, LK, z_rr a b r q (z_gg m) (z_sf m)))) := by
      intro J y a b hJ
      have j : ∀ x, 22 ≤ x → J x = I x := fun x hx => by rw [hJ x (by omega) (by omega) (by omega) (by omega), kx x (by omega)]
      have hbk : zbk J := by
        obtain ⟨l, qq, v1, v2, v3⟩ := hV
        have := v2.1
        unfold zbk
        rw [j 55 (by omega)]
        exact this
      have := zM_rules X (d + 190) m ce sl J (z_up L 117 0 y.toInt64) a b r q (F := fun i => (I 6 i).toInt) (fun i => by rw [j 69 (by omega), ← t4]) (N := N) (nst := m) hN4 x1 hN (by rw [j 55 (by omega), ← t1]; omega) (by rw [j 55 (by omega)]; exact s55) hbk
      rw [j 55 (by omega)] at this ⊢
      exact this
    -- what both leave
    have fr : ∀ (J K : Nat → Nat → Int32) (LK L1 : Nat → Nat → Int64) (bb : Nat), (∀ x, x ≠ 7 → x ≠ 8 → x ≠ 8 + 1 → (x < 8 + 3 ∨ 8 + 6 < x) → J x = (z_up I 0 2 (Int32.ofInt 0)) x) → zMR bb J K L1 LK → (∀ x, x ≠ 117 → L1 x = L x) → zFr [0, 7, 8, 9, 11, 12, 13, 14, 15, 16, 18, 19, 20, 21, 70, 71, 72, 73, 74, 75, 76, 77] [17, 18, 19, 20, 21, 22, 23, 24, 25, 26, 27, 28, 29, 30, 31, 32, 33] I K ∧ (∀ j, j ≠ 2 → K 0 j = I 0 j) ∧ (∀ a, a ≠ 117 → a ≠ 55 → LK a = L a) ∧ (∀ j, j ≠ 27 → LK 55 j = L 55 j) ∧ zFs I K ∧ zg_T K ∧ (∀ x, x ≠ 7 → x < 55 → K x = J x) := by
      intro J K LK L1 bb hJ hR hL
      obtain ⟨r1, r2, r3, r4, r5, r6, r7, r8, r9, r10⟩ := hR
      have j : ∀ x, 22 ≤ x → J x = I x := fun x hx => by rw [hJ x (by omega) (by omega) (by omega) (by omega), kx x (by omega)]
      refine ⟨⟨fun x h1 h2 h3 => ?_, fun k h1 h2 => ?_⟩, fun k hk => ?_, fun a h1 h2 => by rw [r3 a h2, hL a h1], fun k hk => by rw [r4 k hk, hL 55 (by omega)], fun k hk => ?_, ⟨?_, ?_, ?_, ?_⟩, fun x h1 h2 => r1 x (by omega) (by omega)⟩
      · simp only [List.mem_cons, List.not_mem_nil, or_false, not_or] at h3
        rw [r1 x h2 (by omega), hJ x (by omega) (by omega) (by omega) (by omega), kx x (by omega)]
      · simp only [List.mem_cons, List.not_mem_nil, or_false, not_or] at h2
        rw [r2 k h1 (by omega), j 55 (by omega)]
      · rw [r1 0 (by omega) (by omega), hJ 0 (by omega) (by omega) (by omega) (by omega), z_up_j _ _ _ _ _ hk]
      · have := z_sd_ge k
        rw [r1 _ (by omega) (by omega), j _ (by omega)]
      · rw [r1 0 (by omega) (by omega), hJ 0 (by omega) (by omega) (by omega) (by omega), z_up_s, r10]
      · rw [r1 0 (by omega) (by omega), hJ 0 (by omega) (by omega) (by omega) (by omega), z_up_s, e0]
        exact Int.le_refl _
      · rw [r1 0 (by omega) (by omega), hJ 0 (by omega) (by omega) (by omega) (by omega), z_up_s, e0]
        omega
      · rw [r1 6 (by omega) (by omega), hJ 6 (by omega) (by omega) (by omega) (by omega), kx 6 (by omega), r1 69 (by omega) (by omega), j 69 (by omega), t4]
    cases hz : zpAll (zlx (fun i => (I 6 i).toInt) N) m 13 0 (zlx (fun i => (I 6 i).toInt) N 0) [] (0, 0, 99999, 99999) with
    | inl e =>
      obtain ⟨J, y, a1, a2, a3, a4⟩ := c1 e hz
      obtain ⟨bb, x, b1, b2, b3, b4, b5⟩ := mo J y 15 8 a1
      obtain ⟨K, LK, d1, d2, d3, d4, d5, d6, d7, d8⟩ := b4 e hz
      have j : ∀ x, 22 ≤ x → J x = I x := fun x hx => by rw [a1 x (by omega) (by omega) (by omega) (by omega), kx x (by omega)]
      obtain ⟨f1, f2, f3, f4, f5, f6, f7⟩ := fr J K LK (z_up L 117 0 y.toInt64) bb a1 d1 (fun x hx => z_up_r _ _ _ _ _ hx)
      have d1' := d1
      obtain ⟨r1, r2, r3, r4, r5, r6, r7, r8, r9, r10⟩ := d1'
      have hy : y = K 55 18 := by rw [d4]; exact y_eqi a2
      have hV2 : zg_V 15 K := by
        obtain ⟨l, qq, v1, v2, v3⟩ := hV
        have v2J : zVm l qq J := zVm_c v2 (by rw [j 55 (by omega)]) (by rw [j 55 (by omega)]) (fun x h1 h2 => j x (by omega))
        refine ⟨l, qq, zVt_c v1 (fun x hx => ?_), zVm_R v2J v3.1 b1 (by rw [j 55 (by omega)]; exact b3) d1 d2 d3, v3⟩
        rw [r1 x (by omega) (by omega), a1 x (by omega) (by omega) (by omega) (by omega), kx x (by omega)]
      refine ⟨Int32.ofInt 0, K 55 18, _, _, cl y J 15 8 a4, d8, ?_, fun _ => ?_, ce, sl, K, LK, 15, 8, rfl, Or.inr ⟨rfl, rfl⟩, by omega, by omega, f1, f2, f3, f4, f5, f6, ?_, hV2⟩
      · exact r9
      · show LK 117 0 = (K 55 18).toInt64
        rw [r3 117 (by omega), z_up_s, hy]
      · rw [r1 7 (by omega) (by omega)]
        exact y_i_eq.mpr (by rw [a3, d5])
    | inr y0 =>
      obtain ⟨P', q'⟩ := y0
      obtain ⟨J, n, a1, a2, a3, a4, a5, a6, a7, a8, a9, a10⟩ := c2 P' q' hz
      obtain ⟨bb, x, b1, b2, b3, b4, b5⟩ := mo J (Int32.ofInt 0) 8 15 a1
      obtain ⟨d0, K, LK, tk', i', d1, d2, d3⟩ := b5 P' q' hz
      have j : ∀ x, 22 ≤ x → J x = I x := fun x hx => by rw [a1 x (by omega) (by omega) (by omega) (by omega), kx x (by omega)]
      obtain ⟨f1, f2, f3, f4, f5, f6, f7⟩ := fr J K LK (z_up L 117 0 (Int32.ofInt 0).toInt64) bb a1 d1 (fun x hx => z_up_r _ _ _ _ _ hx)
      have d1' := d1
      obtain ⟨r1, r2, r3, r4, r5, r6, r7, r8, r9, r10⟩ := d1'
      obtain ⟨w1, w2, w3⟩ := zpAll_w hN4 hl 13 0 _ [] P' (0, 0, 99999, 99999) q' hO hz (fun c hc => absurd hc (by simp)) ⟨by show (0 : Int) ≤ 0; omega, by show (0 : Int) ≤ 99999; omega⟩
      have ux : ∀ y, y ≠ 55 → (z_up (z_up K 55 28 (Int32.ofInt 1)) 55 29 x) y = K y := fun y hy => by rw [z_up_r _ _ _ _ _ hy, z_up_r _ _ _ _ _ hy]
      have u55 : ∀ k, k ≠ 28 → k ≠ 29 → (z_up (z_up K 55 28 (Int32.ofInt 1)) 55 29 x) 55 k = K 55 k := fun k h1 h2 => by rw [z_up_j _ _ _ _ _ h2, z_up_j _ _ _ _ _ h1]
      have u28 : (z_up (z_up K 55 28 (Int32.ofInt 1)) 55 29 x) 55 28 = Int32.ofInt 1 := by rw [z_up_j _ _ _ _ _ (by omega), z_up_s]
      have u29 : (z_up (z_up K 55 28 (Int32.ofInt 1)) 55 29 x) 55 29 = x := by rw [z_up_s]
      obtain ⟨g1, g2, g3, g4, g5, ⟨top, g6, g7, g8, g9⟩, g10, g11, g12, g13⟩ := d2
      have hp := g1.2.1.1
      have hV2 : zg_V 8 (z_up (z_up K 55 28 (Int32.ofInt 1)) 55 29 x) := by
        refine ⟨P', q', ⟨⟨n, a2, zPC_u (Nat.le_refl _) (fun k _ => ?_) P' 0 (fun y y1 y2 k _ => ?_) a3⟩, ?_⟩, ⟨?_, Or.inr ⟨?_, bb, top, b1, ?_, ?_, by omega, zPM_u (Nat.le_refl _) (fun k _ _ => by rw [ux 75 (by omega)]) P' (12 * bb) (fun y y1 y2 k _ _ => by rw [ux y (by omega)]) g9, ?_⟩⟩, d0, w1, w2, w3⟩
        · rw [ux (8 + 1) (by omega), r1 (8 + 1) (by omega) (by omega)]
        · rw [ux y (by omega), r1 y (by omega) (by omega)]
        · rw [ux 8 (by omega), r1 8 (by omega) (by omega)]
          exact ⟨a4, a5, a6, a7, a8⟩
        · rw [u29, b2, y_on (by omega)]
          omega
        · rw [u28]
          decide
        · rw [u29]
          exact b2
        · rw [ux 71 (by omega)]
          exact g4
        · rw [ux 70 (by omega)]
          exact ⟨g10, g11, g12, g13⟩
      refine ⟨Int32.ofInt 0, Int32.ofInt 0, _, _, cl (Int32.ofInt 0) J 8 15 a10, d3, ?_, fun _ => ?_, ce, sl, z_up (z_up K 55 28 (Int32.ofInt 1)) 55 29 x, LK, 8, 15, rfl, Or.inl ⟨rfl, rfl⟩, by omega, by omega, ⟨fun y h1 h2 h3 => by rw [ux y h2, f1.1 y h1 h2 h3], fun k h1 h2 => ?_⟩, fun k hk => by rw [ux 0 (by omega), f2 k hk], f3, f4, fun k hk => ?_, ⟨?_, ?_, ?_, ?_⟩, ?_, hV2⟩
      · show (z_up (z_up K 55 28 (Int32.ofInt 1)) 55 29 x) 55 0 = Int32.ofInt 0
        rw [u55 0 (by omega) (by omega)]
        exact r9
      · show LK 117 0 = (Int32.ofInt 0).toInt64
        rw [r3 117 (by omega), z_up_s]
      · have h2' := h2
        simp only [List.mem_cons, List.not_mem_nil, or_false, not_or] at h2'
        rw [u55 k (by omega) (by omega), f1.2 k h1 h2]
      · have := z_sd_ge k
        rw [ux _ (by omega), f5 k hk]
      · rw [ux 0 (by omega), u55 17 (by omega) (by omega)]
        exact f6.1
      · rw [ux 0 (by omega)]
        exact f6.2.1
      · rw [ux 0 (by omega)]
        exact f6.2.2.1
      · rw [ux 6 (by omega), ux 69 (by omega)]
        exact f6.2.2.2
      · rw [ux 7 (by omega), u55 19 (by omega) (by omega), r1 7 (by omega) (by omega), a9, g1.2.2.2.2]
  · have uz : ∀ y, y ≠ 55 → (z_up (z_up I 55 0 (Int32.ofInt 0)) 55 0 (Int32.ofInt 1)) y = I y := fun y hy => by rw [z_up_r _ _ _ _ _ hy, z_up_r _ _ _ _ _ hy]
    have u55 : ∀ k, k ≠ 0 → (z_up (z_up I 55 0 (Int32.ofInt 0)) 55 0 (Int32.ofInt 1)) 55 k = I 55 k := fun k hk => by rw [z_up_j _ _ _ _ _ hk, z_up_j _ _ _ _ _ hk]
    refine ⟨Int32.ofInt 1, Int32.ofInt 0, (118, z_sd m, ce + 1, sl + 6, I, L, z_rr 15 8 r q (z_gg m) (z_sf m)), (118, z_sd m, ce + 1, sl + 6, (z_up (z_up I 55 0 (Int32.ofInt 0)) 55 0 (Int32.ofInt 1)), L, z_rr 15 8 r q (z_gg m) (z_sf m)), ?_, ?_, rfl, fun hk => absurd hk (by decide), ce + 1, sl + 6, _, L, 15, 8, rfl, Or.inr ⟨rfl, rfl⟩, by omega, by omega, ⟨fun y _ h2 _ => uz y h2, fun k h1 _ => u55 k h1⟩, fun k _ => by rw [uz 0 (by omega)], fun _ _ _ => rfl, fun _ _ => rfl, fun k _ => ?_, ⟨?_, ?_, ?_, ?_⟩, ?_, zg_V_c hV (fun y hy => uz y (by omega)) (u55 28 (by omega)) (u55 29 (by omega)) (fun y h1 h2 => uz y (by omega))⟩
    · refine z_en X (d + 197) _ _ [(0, .ref 0), (1, .int x1), (2, .ref 117)] _ _ rfl rfl rfl ?_
      have e : z_pu (z_run X z_cf z_ff (d + 199)) 142 [.ref 0, .int x1] (118, z_sd m, ce, sl, I, L, z_rr 15 8 r q (z_gg m) (z_sf m)) = some (.inr 1, (118, z_sd m, ce + 1, sl + 6, I, L, z_rr 15 8 r q (z_gg m) (z_sf m))) := by
        refine z_en X (d + 196) _ _ [(0, .ref 0), (1, .int x1)] _ _ rfl rfl rfl ?_
        rw [show (100000000 : Nat) = 99999998 + 2 by omega, zt_X_rules_0 X (d + 194), if_pos (by rw [y_wi0]; omega)]
      rw [zb_L_rules_0, e, z_bi_e]
      exact z_x1 rfl rfl
    · refine z_en X (d + 197) _ _ [(0, .ref 55), (1, .int x1)] _ _ rfl rfl rfl ?_
      rw [show (100000000 : Nat) = 99999998 + 2 by omega, zt_M_rules_0 X (d + 196)]
      by_cases c0 : x1.toInt < 0
      · rw [if_pos (by rw [y_i_lt, y_i0]; exact c0)]
      · rw [if_neg (by rw [y_i_lt, y_i0]; exact c0), if_pos (by rw [y_i_lt, ← t1]; omega)]
    · have := z_sd_ge k
      exact uz _ (by omega)
    · rw [uz 0 (by omega), u55 17 (by omega)]
      exact t1
    · rw [uz 0 (by omega)]
      exact t2
    · rw [uz 0 (by omega)]
      exact t3
    · rw [uz 6 (by omega), uz 69 (by omega)]
      exact t4
    · rw [uz 7 (by omega), u55 19 (by omega)]
      exact hfa
theorem zo_rules8 (X : ZX) (d m ce sl : Nat) (I : Nat → Nat → Int32) (L : Nat → Nat → Int64) (r q : Nat) {C : Nat} (hS : zg_S C m I) (hT : zg_T I) (hV : zg_V 8 I) (hfa : I 7 11 = I 55 19) (x1 : Int32) : zOL X (d + 200) 257 [.ref 0, .int x1, .ref 117] 183 [.ref 55, .int x1] (118, z_sd m, ce, sl, I, L, z_rr 8 15 r q (z_gg m) (z_sf m)) (zQV m r q ce sl I L) := by
  obtain ⟨t1, t2, t3, t4⟩ := id hT
  have h5 := hS.1
  have s5 : (I 5 2).toInt = (m : Nat) := by rw [hS.2.1, y_on (by omega)]
  have s55 : (I 55 1).toInt = (m : Nat) := by rw [hS.2.2.1, y_on (by omega)]
  have e0 : (Int32.ofInt 0).toInt = 0 := rfl
  by_cases c : 0 ≤ x1.toInt ∧ x1.toInt ≤ (I 0 2).toInt
  · obtain ⟨N, hN⟩ : ∃ N : Nat, x1.toInt = N := ⟨x1.toInt.toNat, by omega⟩
    have hN4 : N ≤ 400 := by omega
    have hl := zlx_ok (fun i => (I 6 i).toInt) N
    have hO := (hl 0 (Nat.zero_le N)).1
    have w1 : ¬ z_p_X_within x1 (Int32.ofInt 0) (I 0 2) = 0 := by rw [y_wi0]; omega
    have kx : ∀ x, x ≠ 0 → (z_up I 0 2 (Int32.ofInt 0)) x = I x := fun x hx => z_up_r _ _ _ _ _ hx
    obtain ⟨c1, c2⟩ := zC_all_15 X (d + 115) m ce sl (z_up I 0 2 (Int32.ofInt 0)) L r q (F := fun i => (I 6 i).toInt) (fun i => by rw [kx 6 (by omega)]) (N := N) (nst := m) hN4 x1 (I 5 2) hN s5
    -- the class's call through the law's helper
    have cl : ∀ (y : Int32) (J : Nat → Nat → Int32) (a b : Nat), z_pu (z_run X z_cf z_ff (d + 198)) 54 [.ref 7, .int x1, .int (I 5 2)] (118, z_sd m, ce, sl, (z_up I 0 2 (Int32.ofInt 0)), L, z_rr 8 15 r q (z_gg m) (z_sf m)) = some (.inl (some (.int y)), (118, z_sd m, ce, sl, J, L, z_rr a b r q (z_gg m) (z_sf m))) → z_pu (z_run X z_cf z_ff (d + 200)) 257 [.ref 0, .int x1, .ref 117] (118, z_sd m, ce, sl, I, L, z_rr 8 15 r q (z_gg m) (z_sf m)) = some (.inl (some (.int (Int32.ofInt 0))), (118, z_sd m, ce, sl, J, z_up L 117 0 y.toInt64, z_rr a b r q (z_gg m) (z_sf m))) := by
      intro y J a b h
      have e : z_pu (z_run X z_cf z_ff (d + 199)) 142 [.ref 0, .int x1] (118, z_sd m, ce, sl, I, L, z_rr 8 15 r q (z_gg m) (z_sf m)) = some (.inl (some (.int y)), (118, z_sd m, ce, sl, J, L, z_rr a b r q (z_gg m) (z_sf m))) := by
        refine z_en X (d + 196) _ _ [(0, .ref 0), (1, .int x1)] _ _ rfl rfl rfl ?_
        rw [show (100000000 : Nat) = 99999998 + 2 by omega, zt_X_rules_0 X (d + 194), if_neg w1, h, z_bi_v, zb_X_rules_40]
      refine z_en X (d + 197) _ _ [(0, .ref 0), (1, .int x1), (2, .ref 117)] _ _ rfl rfl rfl ?_
      rw [show (100000000 : Nat) = 99999998 + 1 + 1 by omega, zb_L_rules_0, e, z_bi_v, zb_L_rules_7, z_gd_in (by decide) (by decide)]
      rfl
    -- the model's call behind it
    have mo : ∀ (J : Nat → Nat → Int32) (y : Int32) (a b : Nat), (∀ x, x ≠ 7 → x ≠ 15 → x ≠ 15 + 1 → (x < 15 + 3 ∨ 15 + 6 < x) → J x = (z_up I 0 2 (Int32.ofInt 0)) x) → ∃ (bb : Nat) (x : Int32), bb < 2 ∧ x = Int32.ofNat bb ∧ (I 55 28 = 0 ∨ ¬ I 55 28 = 0 ∧ (I 55 29).toInt = 1 - (bb : Int)) ∧
        (∀ e, zpAll (zlx (fun i => (I 6 i).toInt) N) m 13 0 (zlx (fun i => (I 6 i).toInt) N 0) [] (0, 0, 99999, 99999) = .inl e → ∃ (K : Nat → Nat → Int32) (LK : Nat → Nat → Int64), zMR bb J K (z_up L 117 0 y.toInt64) LK ∧ K 55 28 = J 55 28 ∧ K 55 29 = J 55 29 ∧ K 55 18 = Int32.ofInt e.1 ∧ (K 55 19).toInt = e.2 ∧ 1 ≤ e.1 ∧ e.1 ≤ 4 ∧ z_pu (z_run X z_cf z_ff (d + 200)) 183 [.ref 55, .int x1] (118, z_sd m, ce, sl, J, z_up L 117 0 y.toInt64, z_rr a b r q (z_gg m) (z_sf m)) = some (.inl (some (.int (K 55 18))), (118, z_sd m, ce, sl, K, LK, z_rr a b r q (z_gg m) (z_sf m)))) ∧
        (∀ P' q', zpAll (zlx (fun i => (I 6 i).toInt) N) m 13 0 (zlx (fun i => (I 6 i).toInt) N 0) [] (0, 0, 99999, 99999) = .inr (P', q') → P'.length ≤ 12 ∧ ∃ (K : Nat → Nat → Int32) (LK : Nat → Nat → Int64) (tk' : zTk) (i' : Nat), zMR bb J K (z_up L 117 0 y.toInt64) LK ∧ zMA (fun i => (I 6 i).toInt) N m bb i' tk' P' q' K LK ∧ z_pu (z_run X z_cf z_ff (d + 200)) 183 [.ref 55, .int x1] (118, z_sd m, ce, sl, J, z_up L 117 0 y.toInt64, z_rr a b r q (z_gg m) (z_sf m)) = some (.inl (some (.int (Int32.ofInt 0))), (118, z_sd m, ce, sl, z_up (z_up K 55 28 (Int32.ofInt 1)) 55 29 x, LK, z_rr a b r q (z_gg m) (z_sf m)))) := by
      intro J y a b hJ
      have j : ∀ x, 22 ≤ x → J x = I x := fun x hx => by rw [hJ x (by omega) (by omega) (by omega) (by omega), kx x (by omega)]
      have hbk : zbk J := by
        obtain ⟨l, qq, v1, v2, v3⟩ := hV
        have := v2.1
        unfold zbk
        rw [j 55 (by omega)]
        exact this
      have := zM_rules X (d + 190) m ce sl J (z_up L 117 0 y.toInt64) a b r q (F := fun i => (I 6 i).toInt) (fun i => by rw [j 69 (by omega), ← t4]) (N := N) (nst := m) hN4 x1 hN (by rw [j 55 (by omega), ← t1]; omega) (by rw [j 55 (by omega)]; exact s55) hbk
      rw [j 55 (by omega)] at this ⊢
      exact this
    -- what both leave
    have fr : ∀ (J K : Nat → Nat → Int32) (LK L1 : Nat → Nat → Int64) (bb : Nat), (∀ x, x ≠ 7 → x ≠ 15 → x ≠ 15 + 1 → (x < 15 + 3 ∨ 15 + 6 < x) → J x = (z_up I 0 2 (Int32.ofInt 0)) x) → zMR bb J K L1 LK → (∀ x, x ≠ 117 → L1 x = L x) → zFr [0, 7, 8, 9, 11, 12, 13, 14, 15, 16, 18, 19, 20, 21, 70, 71, 72, 73, 74, 75, 76, 77] [17, 18, 19, 20, 21, 22, 23, 24, 25, 26, 27, 28, 29, 30, 31, 32, 33] I K ∧ (∀ j, j ≠ 2 → K 0 j = I 0 j) ∧ (∀ a, a ≠ 117 → a ≠ 55 → LK a = L a) ∧ (∀ j, j ≠ 27 → LK 55 j = L 55 j) ∧ zFs I K ∧ zg_T K ∧ (∀ x, x ≠ 7 → x < 55 → K x = J x) := by
      intro J K LK L1 bb hJ hR hL
      obtain ⟨r1, r2, r3, r4, r5, r6, r7, r8, r9, r10⟩ := hR
      have j : ∀ x, 22 ≤ x → J x = I x := fun x hx => by rw [hJ x (by omega) (by omega) (by omega) (by omega), kx x (by omega)]
      refine ⟨⟨fun x h1 h2 h3 => ?_, fun k h1 h2 => ?_⟩, fun k hk => ?_, fun a h1 h2 => by rw [r3 a h2, hL a h1], fun k hk => by rw [r4 k hk, hL 55 (by omega)], fun k hk => ?_, ⟨?_, ?_, ?_, ?_⟩, fun x h1 h2 => r1 x (by omega) (by omega)⟩
      · simp only [List.mem_cons, List.not_mem_nil, or_false, not_or] at h3
        rw [r1 x h2 (by omega), hJ x (by omega) (by omega) (by omega) (by omega), kx x (by omega)]
      · simp only [List.mem_cons, List.not_mem_nil, or_false, not_or] at h2
        rw [r2 k h1 (by omega), j 55 (by omega)]
      · rw [r1 0 (by omega) (by omega), hJ 0 (by omega) (by omega) (by omega) (by omega), z_up_j _ _ _ _ _ hk]
      · have := z_sd_ge k
        rw [r1 _ (by omega) (by omega), j _ (by omega)]
      · rw [r1 0 (by omega) (by omega), hJ 0 (by omega) (by omega) (by omega) (by omega), z_up_s, r10]
      · rw [r1 0 (by omega) (by omega), hJ 0 (by omega) (by omega) (by omega) (by omega), z_up_s, e0]
        exact Int.le_refl _
      · rw [r1 0 (by omega) (by omega), hJ 0 (by omega) (by omega) (by omega) (by omega), z_up_s, e0]
        omega
      · rw [r1 6 (by omega) (by omega), hJ 6 (by omega) (by omega) (by omega) (by omega), kx 6 (by omega), r1 69 (by omega) (by omega), j 69 (by omega), t4]
    cases hz : zpAll (zlx (fun i => (I 6 i).toInt) N) m 13 0 (zlx (fun i => (I 6 i).toInt) N 0) [] (0, 0, 99999, 99999) with
    | inl e =>
      obtain ⟨J, y, a1, a2, a3, a4⟩ := c1 e hz
      obtain ⟨bb, x, b1, b2, b3, b4, b5⟩ := mo J y 8 15 a1
      obtain ⟨K, LK, d1, d2, d3, d4, d5, d6, d7, d8⟩ := b4 e hz
      have j : ∀ x, 22 ≤ x → J x = I x := fun x hx => by rw [a1 x (by omega) (by omega) (by omega) (by omega), kx x (by omega)]
      obtain ⟨f1, f2, f3, f4, f5, f6, f7⟩ := fr J K LK (z_up L 117 0 y.toInt64) bb a1 d1 (fun x hx => z_up_r _ _ _ _ _ hx)
      have d1' := d1
      obtain ⟨r1, r2, r3, r4, r5, r6, r7, r8, r9, r10⟩ := d1'
      have hy : y = K 55 18 := by rw [d4]; exact y_eqi a2
      have hV2 : zg_V 8 K := by
        obtain ⟨l, qq, v1, v2, v3⟩ := hV
        have v2J : zVm l qq J := zVm_c v2 (by rw [j 55 (by omega)]) (by rw [j 55 (by omega)]) (fun x h1 h2 => j x (by omega))
        refine ⟨l, qq, zVt_c v1 (fun x hx => ?_), zVm_R v2J v3.1 b1 (by rw [j 55 (by omega)]; exact b3) d1 d2 d3, v3⟩
        rw [r1 x (by omega) (by omega), a1 x (by omega) (by omega) (by omega) (by omega), kx x (by omega)]
      refine ⟨Int32.ofInt 0, K 55 18, _, _, cl y J 8 15 a4, d8, ?_, fun _ => ?_, ce, sl, K, LK, 8, 15, rfl, Or.inl ⟨rfl, rfl⟩, by omega, by omega, f1, f2, f3, f4, f5, f6, ?_, hV2⟩
      · exact r9
      · show LK 117 0 = (K 55 18).toInt64
        rw [r3 117 (by omega), z_up_s, hy]
      · rw [r1 7 (by omega) (by omega)]
        exact y_i_eq.mpr (by rw [a3, d5])
    | inr y0 =>
      obtain ⟨P', q'⟩ := y0
      obtain ⟨J, n, a1, a2, a3, a4, a5, a6, a7, a8, a9, a10⟩ := c2 P' q' hz
      obtain ⟨bb, x, b1, b2, b3, b4, b5⟩ := mo J (Int32.ofInt 0) 15 8 a1
      obtain ⟨d0, K, LK, tk', i', d1, d2, d3⟩ := b5 P' q' hz
      have j : ∀ x, 22 ≤ x → J x = I x := fun x hx => by rw [a1 x (by omega) (by omega) (by omega) (by omega), kx x (by omega)]
      obtain ⟨f1, f2, f3, f4, f5, f6, f7⟩ := fr J K LK (z_up L 117 0 (Int32.ofInt 0).toInt64) bb a1 d1 (fun x hx => z_up_r _ _ _ _ _ hx)
      have d1' := d1
      obtain ⟨r1, r2, r3, r4, r5, r6, r7, r8, r9, r10⟩ := d1'
      obtain ⟨w1, w2, w3⟩ := zpAll_w hN4 hl 13 0 _ [] P' (0, 0, 99999, 99999) q' hO hz (fun c hc => absurd hc (by simp)) ⟨by show (0 : Int) ≤ 0; omega, by show (0 : Int) ≤ 99999; omega⟩
      have ux : ∀ y, y ≠ 55 → (z_up (z_up K 55 28 (Int32.ofInt 1)) 55 29 x) y = K y := fun y hy => by rw [z_up_r _ _ _ _ _ hy, z_up_r _ _ _ _ _ hy]
      have u55 : ∀ k, k ≠ 28 → k ≠ 29 → (z_up (z_up K 55 28 (Int32.ofInt 1)) 55 29 x) 55 k = K 55 k := fun k h1 h2 => by rw [z_up_j _ _ _ _ _ h2, z_up_j _ _ _ _ _ h1]
      have u28 : (z_up (z_up K 55 28 (Int32.ofInt 1)) 55 29 x) 55 28 = Int32.ofInt 1 := by rw [z_up_j _ _ _ _ _ (by omega), z_up_s]
      have u29 : (z_up (z_up K 55 28 (Int32.ofInt 1)) 55 29 x) 55 29 = x := by rw [z_up_s]
      obtain ⟨g1, g2, g3, g4, g5, ⟨top, g6, g7, g8, g9⟩, g10, g11, g12, g13⟩ := d2
      have hp := g1.2.1.1
      have hV2 : zg_V 15 (z_up (z_up K 55 28 (Int32.ofInt 1)) 55 29 x) := by
        refine ⟨P', q', ⟨⟨n, a2, zPC_u (Nat.le_refl _) (fun k _ => ?_) P' 0 (fun y y1 y2 k _ => ?_) a3⟩, ?_⟩, ⟨?_, Or.inr ⟨?_, bb, top, b1, ?_, ?_, by omega, zPM_u (Nat.le_refl _) (fun k _ _ => by rw [ux 75 (by omega)]) P' (12 * bb) (fun y y1 y2 k _ _ => by rw [ux y (by omega)]) g9, ?_⟩⟩, d0, w1, w2, w3⟩
        · rw [ux (15 + 1) (by omega), r1 (15 + 1) (by omega) (by omega)]
        · rw [ux y (by omega), r1 y (by omega) (by omega)]
        · rw [ux 15 (by omega), r1 15 (by omega) (by omega)]
          exact ⟨a4, a5, a6, a7, a8⟩
        · rw [u29, b2, y_on (by omega)]
          omega
        · rw [u28]
          decide
        · rw [u29]
          exact b2
        · rw [ux 71 (by omega)]
          exact g4
        · rw [ux 70 (by omega)]
          exact ⟨g10, g11, g12, g13⟩
      refine ⟨Int32.ofInt 0, Int32.ofInt 0, _, _, cl (Int32.ofInt 0) J 15 8 a10, d3, ?_, fun _ => ?_, ce, sl, z_up (z_up K 55 28 (Int32.ofInt 1)) 55 29 x, LK, 15, 8, rfl, Or.inr ⟨rfl, rfl⟩, by omega, by omega, ⟨fun y h1 h2 h3 => by rw [ux y h2, f1.1 y h1 h2 h3], fun k h1 h2 => ?_⟩, fun k hk => by rw [ux 0 (by omega), f2 k hk], f3, f4, fun k hk => ?_, ⟨?_, ?_, ?_, ?_⟩, ?_, hV2⟩
      · show (z_up (z_up K 55 28 (Int32.ofInt 1)) 55 29 x) 55 0 = Int32.ofInt 0
        rw [u55 0 (by omega) (by omega)]
        exact r9
      · show LK 117 0 = (Int32.ofInt 0).toInt64
        rw [r3 117 (by omega), z_up_s]
      · have h2' := h2
        simp only [List.mem_cons, List.not_mem_nil, or_false, not_or] at h2'
        rw [u55 k (by omega) (by omega), f1.2 k h1 h2]
      · have := z_sd_ge k
        rw [ux _ (by omega), f5 k hk]
      · rw [ux 0 (by omega), u55 17 (by omega) (by omega)]
        exact f6.1
      · rw [ux 0 (by omega)]
        exact f6.2.1
      · rw [ux 0 (by omega)]
        exact f6.2.2.1
      · rw [ux 6 (by omega), ux 69 (by omega)]
        exact f6.2.2.2
      · rw [ux 7 (by omega), u55 19 (by omega) (by omega), r1 7 (by omega) (by omega), a9, g1.2.2.2.2]
  · have uz : ∀ y, y ≠ 55 → (z_up (z_up I 55 0 (Int32.ofInt 0)) 55 0 (Int32.ofInt 1)) y = I y := fun y hy => by rw [z_up_r _ _ _ _ _ hy, z_up_r _ _ _ _ _ hy]
    have u55 : ∀ k, k ≠ 0 → (z_up (z_up I 55 0 (Int32.ofInt 0)) 55 0 (Int32.ofInt 1)) 55 k = I 55 k := fun k hk => by rw [z_up_j _ _ _ _ _ hk, z_up_j _ _ _ _ _ hk]
    refine ⟨Int32.ofInt 1, Int32.ofInt 0, (118, z_sd m, ce + 1, sl + 6, I, L, z_rr 8 15 r q (z_gg m) (z_sf m)), (118, z_sd m, ce + 1, sl + 6, (z_up (z_up I 55 0 (Int32.ofInt 0)) 55 0 (Int32.ofInt 1)), L, z_rr 8 15 r q (z_gg m) (z_sf m)), ?_, ?_, rfl, fun hk => absurd hk (by decide), ce + 1, sl + 6, _, L, 8, 15, rfl, Or.inl ⟨rfl, rfl⟩, by omega, by omega, ⟨fun y _ h2 _ => uz y h2, fun k h1 _ => u55 k h1⟩, fun k _ => by rw [uz 0 (by omega)], fun _ _ _ => rfl, fun _ _ => rfl, fun k _ => ?_, ⟨?_, ?_, ?_, ?_⟩, ?_, zg_V_c hV (fun y hy => uz y (by omega)) (u55 28 (by omega)) (u55 29 (by omega)) (fun y h1 h2 => uz y (by omega))⟩
    · refine z_en X (d + 197) _ _ [(0, .ref 0), (1, .int x1), (2, .ref 117)] _ _ rfl rfl rfl ?_
      have e : z_pu (z_run X z_cf z_ff (d + 199)) 142 [.ref 0, .int x1] (118, z_sd m, ce, sl, I, L, z_rr 8 15 r q (z_gg m) (z_sf m)) = some (.inr 1, (118, z_sd m, ce + 1, sl + 6, I, L, z_rr 8 15 r q (z_gg m) (z_sf m))) := by
        refine z_en X (d + 196) _ _ [(0, .ref 0), (1, .int x1)] _ _ rfl rfl rfl ?_
        rw [show (100000000 : Nat) = 99999998 + 2 by omega, zt_X_rules_0 X (d + 194), if_pos (by rw [y_wi0]; omega)]
      rw [zb_L_rules_0, e, z_bi_e]
      exact z_x1 rfl rfl
    · refine z_en X (d + 197) _ _ [(0, .ref 55), (1, .int x1)] _ _ rfl rfl rfl ?_
      rw [show (100000000 : Nat) = 99999998 + 2 by omega, zt_M_rules_0 X (d + 196)]
      by_cases c0 : x1.toInt < 0
      · rw [if_pos (by rw [y_i_lt, y_i0]; exact c0)]
      · rw [if_neg (by rw [y_i_lt, y_i0]; exact c0), if_pos (by rw [y_i_lt, ← t1]; omega)]
    · have := z_sd_ge k
      exact uz _ (by omega)
    · rw [uz 0 (by omega), u55 17 (by omega)]
      exact t1
    · rw [uz 0 (by omega)]
      exact t2
    · rw [uz 0 (by omega)]
      exact t3
    · rw [uz 6 (by omega), uz 69 (by omega)]
      exact t4
    · rw [uz 7 (by omega), u55 19 (by omega)]
      exact hfa
