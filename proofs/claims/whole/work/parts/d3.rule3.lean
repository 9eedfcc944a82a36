/-! RULES, 6: both ways say the same -/
theorem zTO_end {N : Nat} {tk : zTk} (h : zTO N tk) (h1 : N ≤ tk.2.1) : tk.1 = 0 := by
  obtain ⟨a, b, _, _⟩ := h
  rcases b with b | b
  · exact b.1
  · omega
theorem zlow_c {s : Nat} {k : Int} {w : List Int} {sg : Nat} (h : zlev k = sg) (hs : sg ≠ 0) (hlt : sg < s) : zlow s (-k :: w) := Or.inr ⟨-k, w, rfl, Or.inr (by rw [(zlev_k h hs).2]; exact hlt)⟩
theorem zlow_le {s s' : Nat} {w : List Int} (h : zlow s w) (hl : s ≤ s') : zlow s' w := by
  rcases h with h | ⟨v, r, h1, h2⟩
  · exact Or.inl h
  · refine Or.inr ⟨v, r, h1, ?_⟩
    rcases h2 with h2 | h2
    · exact Or.inl h2
    · exact Or.inr (by omega)
theorem zneg_ne {k : Int} {sg : Nat} (h : zlev k = sg) (hs : sg ≠ 0) : -k ≠ 0 := by
  have := (zlev_k h hs).1
  omega
theorem zLev_loop {N : Nat} {lx : Nat → zTk} (hl : zLX N lx) {sg r : Nat} (hs : sg ≠ 0) (hs4 : sg = 1 ∨ sg = 2 ∨ sg = 5 ∨ sg = 6) {one : zTk → zFl ⊕ (zTk × List Int)} (hA : zAdv N one) (h1 : zLev N lx one (sg + 1) (decide (sg ≤ 2)) r) (tsq : List Bool) (hr : tsq.length + r = 6) (ht : 0 < tsq.length) (w0 : List Int) (hw : zlow sg w0) : ∀ i tk cs e ts c cp, N ≤ tk.2.1 + i → zTO N tk → c ++ e = cp ++ cs → (∀ v, v ∈ e → v ≠ 0 ∧ sg ≤ zstr v) → ts.tail = tsq.tail → ts.length = tsq.length → (5 ≤ sg → ts = tsq) → (zlev tk.1 < sg + 1 ∨ zlev tk.1 = 4 ∧ ts.headD false = true) →
    (∀ y, zpLoop lx sg one i tk cs = .inl y → ∀ f, N + 1 ≤ f + tk.2.1 → zqEx lx f (tk, e ++ w0, ts, c) = .inl y) ∧
    (∀ tk' s, zpLoop lx sg one i tk cs = .inr (tk', s) → ∃ (k : Nat) (c' e' : List Int) (ts' : List Bool), k + tk.2.1 ≤ tk'.2.1 ∧ (∀ f, zqEx lx (f + k) (tk, e ++ w0, ts, c) = zqEx lx f (tk', e' ++ w0, ts', c')) ∧ c' ++ e' = cp ++ s ∧ (∀ v, v ∈ e' → v ≠ 0 ∧ sg ≤ zstr v) ∧ ts'.tail = tsq.tail ∧ ts'.length = tsq.length ∧ (5 ≤ sg → ts' = tsq) ∧ (zlev tk'.1 < sg ∨ zlev tk'.1 = 4 ∧ ts'.headD false = true)) := by
  intro i
  have done : ∀ tk cs e ts c cp, zTO N tk → c ++ e = cp ++ cs → (∀ v, v ∈ e → v ≠ 0 ∧ sg ≤ zstr v) → ts.tail = tsq.tail → ts.length = tsq.length → (5 ≤ sg → ts = tsq) → (zlev tk.1 < sg ∨ zlev tk.1 = 4 ∧ ts.headD false = true) →
      (∀ y, (.inr (tk, cs) : zFl ⊕ (zTk × List Int)) = .inl y → ∀ f, N + 1 ≤ f + tk.2.1 → zqEx lx f (tk, e ++ w0, ts, c) = .inl y) ∧
      (∀ tk' s, (.inr (tk, cs) : zFl ⊕ (zTk × List Int)) = .inr (tk', s) → ∃ (k : Nat) (c' e' : List Int) (ts' : List Bool), k + tk.2.1 ≤ tk'.2.1 ∧ (∀ f, zqEx lx (f + k) (tk, e ++ w0, ts, c) = zqEx lx f (tk', e' ++ w0, ts', c')) ∧ c' ++ e' = cp ++ s ∧ (∀ v, v ∈ e' → v ≠ 0 ∧ sg ≤ zstr v) ∧ ts'.tail = tsq.tail ∧ ts'.length = tsq.length ∧ (5 ≤ sg → ts' = tsq) ∧ (zlev tk'.1 < sg ∨ zlev tk'.1 = 4 ∧ ts'.headD false = true)) := by
    intro tk cs e ts c cp a1 a2 a3 a4 a5 a6 a7
    refine ⟨fun y hy => absurd hy (by simp), fun tk' s he => ?_⟩
    injection he with he
    injection he with q1 q2
    subst q1
    subst q2
    exact ⟨0, c, e, ts, by omega, fun f => rfl, a2, a3, a4, a5, a6, a7⟩
  induction i with
  | zero =>
    intro tk cs e ts c cp a0 a1 a2 a3 a4 a5 a6 a7
    have hk := zTO_end a1 (by omega)
    exact done tk cs e ts c cp a1 a2 a3 a4 a5 a6 (Or.inl (by rw [hk]; show 0 < sg; omega))
  | succ i ih =>
    intro tk cs e ts c cp a0 a1 a2 a3 a4 a5 a6 a7
    by_cases cg : zlev tk.1 = sg
    · obtain ⟨n1, n2⟩ := zTO_nx hl a1 (zlev_0 cg hs)
      have hL : zpLoop lx sg one (i + 1) tk cs = match one (lx tk.2.2.1) with
          | .inl e => .inl e
          | .inr (tk', s') => zpLoop lx sg one i tk' (cs ++ s' ++ [-tk.1]) := by
        show (if zlev tk.1 = sg then _ else _) = _
        rw [if_pos cg]
        rfl
      have hE : ∀ f, zqEx lx (f + 1) (tk, e ++ w0, ts, c) = zqGo lx r (decide (sg ≤ 2)) (lx tk.2.2.1) (-tk.1 :: w0) (zqts tk.1 ts) (c ++ e) f := fun f => zqEx_sign cg hs (fun e4 => by omega) hw a3 (by omega)
      have hts : (zqts tk.1 ts).tail = tsq.tail ∧ (zqts tk.1 ts).length = tsq.length ∧ (sg + 1 ≤ 4 → (zqts tk.1 ts).headD false = false) ∧ (5 ≤ sg → zqts tk.1 ts = tsq) := by
        unfold zqts
        rw [cg]
        by_cases c2 : sg ≤ 2
        · rw [if_pos c2]
          refine ⟨a4, ?_, fun _ => rfl, fun q => by omega⟩
          have : ts.tail.length = ts.length - 1 := List.length_tail
          show ts.tail.length + 1 = _
          omega
        · rw [if_neg c2, if_neg (by omega)]
          exact ⟨a4, a5, fun q => by omega, a6⟩
      obtain ⟨t1, t2, t3, t4⟩ := hts
      obtain ⟨i1, i2⟩ := h1 (lx tk.2.2.1) (-tk.1 :: w0) (zqts tk.1 ts) (c ++ e) n1 (by omega) (by omega) (zlow_c cg hs (by omega)) t3
      cases hx : one (lx tk.2.2.1) with
      | inl y0 =>
        rw [hx] at hL
        have hL' : zpLoop lx sg one (i + 1) tk cs = .inl y0 := hL
        rw [hL']
        refine ⟨fun y hy f hf => ?_, fun tk' s he => absurd he (by simp)⟩
        have hN := a1.1
        rw [show f = (f - 1) + 1 by omega, hE, i1 y0 hx (f - 1) (by omega)]
        exact hy
      | inr y0 =>
        obtain ⟨tk2, s2⟩ := y0
        rw [hx] at hL
        have hL' : zpLoop lx sg one (i + 1) tk cs = zpLoop lx sg one i tk2 (cs ++ s2 ++ [-tk.1]) := hL
        rw [hL']
        obtain ⟨k, c', e2, ts', j1, j2, j3, j4, j5, j6, j7, j8⟩ := i2 tk2 s2 hx
        obtain ⟨b1, b2, b3⟩ := hA _ n1 _ _ hx
        have hstep : ∀ f, zqEx lx (f + (k + 1)) (tk, e ++ w0, ts, c) = zqEx lx f (tk2, (e2 ++ [-tk.1]) ++ w0, ts', c') := by
          intro f
          rw [show f + (k + 1) = (f + k) + 1 by omega, hE, j2, List.append_assoc]
          rfl
        obtain ⟨m1, m2⟩ := ih tk2 (cs ++ s2 ++ [-tk.1]) (e2 ++ [-tk.1]) ts' c' cp (by omega) b1 (by
          rw [← List.append_assoc, j3, a2]
          simp only [List.append_assoc]) (fun v hv => by
          rcases List.mem_append.mp hv with q | q
          · have := j4 v q
            exact ⟨this.1, by omega⟩
          · have q' : v = -tk.1 := by simpa using q
            rw [q', (zlev_k cg hs).2]
            exact ⟨zneg_ne cg hs, Nat.le_refl _⟩) (by rw [j5, t1]) (by rw [j6, t2]) (fun q => by rw [j7 (by omega), t4 q]) j8
        refine ⟨fun y hy f hf => ?_, fun tk' s he => ?_⟩
        · have hN := b1.1
          rw [show f = (f - (k + 1)) + (k + 1) by omega, hstep]
          exact m1 y hy _ (by omega)
        · obtain ⟨k2, c2, e3, ts2, q1, q2, q3, q4, q5, q6, q7, q8⟩ := m2 tk' s he
          exact ⟨k2 + (k + 1), c2, e3, ts2, by omega, fun f => by rw [show f + (k2 + (k + 1)) = (f + k2) + (k + 1) by omega, hstep, q2], q3, q4, q5, q6, q7, q8⟩
    · have hL : zpLoop lx sg one (i + 1) tk cs = .inr (tk, cs) := by
        show (if zlev tk.1 = sg then _ else _) = _
        rw [if_neg cg]
      rw [hL]
      exact done tk cs e ts c cp a1 a2 a3 a4 a5 a6 (by
        rcases a7 with a7 | a7
        · exact Or.inl (by omega)
        · exact Or.inr a7)
theorem zLev_row {N : Nat} (hN : N ≤ 400) {lx : Nat → zTk} (hl : zLX N lx) {sg r : Nat} (hs : sg ≠ 0) (hs4 : sg = 1 ∨ sg = 2 ∨ sg = 5 ∨ sg = 6) {one : zTk → zFl ⊕ (zTk × List Int)} (hA : zAdv N one) (h1 : zLev N lx one (sg + 1) (decide (sg ≤ 2)) r) : zLev N lx (zpRow lx sg one) sg (decide (sg ≤ 2)) r := by
  intro tk w0 ts c a1 a2 a3 a4 a5
  obtain ⟨i1, i2⟩ := h1 tk w0 ts c a1 a2 a3 (zlow_le a4 (by omega)) (fun q => a5 (by omega))
  have hR : zpRow lx sg one tk = match one tk with
      | .inl e => .inl e
      | .inr (tk', s) => zpLoop lx sg one 400 tk' s := rfl
  cases hx : one tk with
  | inl y0 =>
    rw [hx] at hR
    have hR' : zpRow lx sg one tk = .inl y0 := hR
    rw [hR']
    refine ⟨fun y hy f hf => ?_, fun tk' s he => absurd he (by simp)⟩
    rw [i1 y0 hx f hf]
    exact hy
  | inr y0 =>
    obtain ⟨tk2, s2⟩ := y0
    rw [hx] at hR
    have hR' : zpRow lx sg one tk = zpLoop lx sg one 400 tk2 s2 := hR
    rw [hR']
    obtain ⟨k, c', e2, ts', j1, j2, j3, j4, j5, j6, j7, j8⟩ := i2 tk2 s2 hx
    obtain ⟨b1, b2, b3⟩ := hA _ a1 _ _ hx
    obtain ⟨m1, m2⟩ := zLev_loop hl hs hs4 hA h1 ts a2 a3 w0 a4 400 tk2 s2 e2 ts' c' c (by omega) b1 j3 (fun v hv => ⟨(j4 v hv).1, by have := (j4 v hv).2; omega⟩) j5 j6 (fun q => j7 (by omega)) j8
    refine ⟨fun y hy f hf => ?_, fun tk' s he => ?_⟩
    · have hN := b1.1
      rw [show f = (f - k) + k by omega, j2]
      exact m1 y hy _ (by omega)
    · obtain ⟨k2, c2, e3, ts2, q1, q2, q3, q4, q5, q6, q7, q8⟩ := m2 tk' s he
      exact ⟨k2 + k, c2, e3, ts2, by omega, fun f => by rw [show f + (k2 + k) = (f + k2) + k by omega, j2, q2], q3, q4, q5, q6, q7, q8⟩
theorem zLev_test {N : Nat} {lx : Nat → zTk} (hl : zLX N lx) {r : Nat} {one : zTk → zFl ⊕ (zTk × List Int)} (hA : zAdv N one) (h1 : zLev N lx one 5 false r) : zLev N lx (zpTest lx one) 4 false r := by
  intro tk w0 ts c a1 a2 a3 a4 a5
  obtain ⟨i1, i2⟩ := h1 tk w0 ts c a1 a2 a3 (zlow_le a4 (by omega)) (fun q => by omega)
  have hR : zpTest lx one tk = match one tk with
      | .inl e => .inl e
      | .inr (tk', s) => if zlev tk'.1 = 4 then match one (lx tk'.2.2.1) with
          | .inl e => .inl e
          | .inr (tk2, s2) => .inr (tk2, s ++ s2 ++ [-tk'.1])
        else .inr (tk', s) := rfl
  cases hx : one tk with
  | inl y0 =>
    rw [hx] at hR
    have hR' : zpTest lx one tk = .inl y0 := hR
    rw [hR']
    refine ⟨fun y hy f hf => ?_, fun tk' s he => absurd he (by simp)⟩
    rw [i1 y0 hx f hf]
    exact hy
  | inr y0 =>
    obtain ⟨tk2, s2⟩ := y0
    rw [hx] at hR
    have hR' : zpTest lx one tk = if zlev tk2.1 = 4 then match one (lx tk2.2.2.1) with
          | .inl e => .inl e
          | .inr (tk3, s3) => .inr (tk3, s2 ++ s3 ++ [-tk2.1])
        else .inr (tk2, s2) := hR
    obtain ⟨k, c', e2, ts', j1, j2, j3, j4, j5, j6, j7, j8⟩ := i2 tk2 s2 hx
    obtain ⟨b1, b2, b3⟩ := hA _ a1 _ _ hx
    have ets := j7 (by omega)
    subst ets
    by_cases cg : zlev tk2.1 = 4
    · rw [if_pos cg] at hR'
      obtain ⟨n1, n2⟩ := zTO_nx hl b1 (zlev_0 cg (by omega))
      have hq : zqts tk2.1 ts' = true :: ts'.tail := by
        unfold zqts
        rw [cg, if_neg (by omega), if_pos rfl]
      have hE : ∀ f, zqEx lx (f + 1) (tk2, e2 ++ w0, ts', c') = zqGo lx r false (lx tk2.2.2.1) (-tk2.1 :: w0) (true :: ts'.tail) (c' ++ e2) f := fun f => by
        rw [← hq]
        exact zqEx_sign cg (by omega) (fun _ => a5 (by omega)) a4 (fun v hv => ⟨(j4 v hv).1, by have := (j4 v hv).2; omega⟩) a2
      have hlen : (true :: ts'.tail).length = ts'.length := by
        have : ts'.tail.length = ts'.length - 1 := List.length_tail
        show ts'.tail.length + 1 = _
        omega
      obtain ⟨m1, m2⟩ := h1 (lx tk2.2.2.1) (-tk2.1 :: w0) (true :: ts'.tail) (c' ++ e2) n1 (by omega) (Nat.succ_pos _) (zlow_c cg (by omega) (by omega)) (fun q => by omega)
      cases hy : one (lx tk2.2.2.1) with
      | inl y0 =>
        rw [hy] at hR'
        have hR2 : zpTest lx one tk = .inl y0 := hR'
        rw [hR2]
        refine ⟨fun y hy' f hf => ?_, fun tk' s he => absurd he (by simp)⟩
        have hN := b1.1
        rw [show f = (f - k - 1 + 1) + k by omega, j2, hE, m1 y0 hy _ (by omega)]
        exact hy'
      | inr y0 =>
        obtain ⟨tk3, s3⟩ := y0
        rw [hy] at hR'
        have hR2 : zpTest lx one tk = .inr (tk3, s2 ++ s3 ++ [-tk2.1]) := hR'
        rw [hR2]
        obtain ⟨k2, c2, e3, ts2, q1, q2, q3, q4, q5, q6, q7, q8⟩ := m2 tk3 s3 hy
        have ets := q7 (by omega)
        subst ets
        refine ⟨fun y hy' => absurd hy' (by simp), fun tk' s he => ?_⟩
        injection he with he
        injection he with v1 v2
        subst v1
        subst v2
        refine ⟨k2 + 1 + k, c2, e3 ++ [-tk2.1], true :: ts'.tail, by omega, fun f => ?_, ?_, ?_, rfl, hlen, fun q => by omega, ?_⟩
        · rw [show f + (k2 + 1 + k) = (f + k2 + 1) + k by omega, j2, hE, q2, List.append_assoc]
          rfl
        · rw [← List.append_assoc, q3, j3]
          simp only [List.append_assoc]
        · intro v hv
          rcases List.mem_append.mp hv with q | q
          · have := q4 v q
            exact ⟨this.1, by omega⟩
          · have q' : v = -tk2.1 := by simpa using q
            rw [q', (zlev_k cg (by omega)).2]
            exact ⟨zneg_ne cg (by omega), Nat.le_refl _⟩
        · rcases q8 with q8 | q8
          · by_cases c4 : zlev tk3.1 = 4
            · exact Or.inr ⟨c4, rfl⟩
            · exact Or.inl (by omega)
          · exact Or.inr ⟨q8.1, rfl⟩
    · rw [if_neg cg] at hR'
      rw [hR']
      refine ⟨fun y hy' => absurd hy' (by simp), fun tk' s he => ?_⟩
      injection he with he
      injection he with v1 v2
      subst v1
      subst v2
      exact ⟨k, c', e2, ts', j1, j2, j3, fun v hv => ⟨(j4 v hv).1, by have := (j4 v hv).2; omega⟩, rfl, rfl, fun _ => rfl, Or.inl (by rcases j8 with q | q <;> omega)⟩
def zqNg (lx : Nat → zTk) (n r : Nat) (tk : zTk) (w : List Int) (ts : List Bool) (c : List Int) (f : Nat) : zFl ⊕ (zTk × List Int) := match zqNots lx n tk w with
  | .inl e => .inl e
  | .inr s => zqGo lx r false s.1 s.2 ts c f
theorem zLev_nots {N : Nat} {lx : Nat → zTk} (hl : zLX N lx) {r : Nat} {one : zTk → zFl ⊕ (zTk × List Int)} (hA : zAdv N one) (h1 : zLev N lx one 4 false r) : zLev N lx (zpNots lx one 6) 3 true r := by
  have main : ∀ n tk w0 ts c, zTO N tk → ts.length + r = 6 → 0 < ts.length → zlow 4 w0 → ts.headD false = false →
      (∀ y, zpNots lx one n tk = .inl y → ∀ f, N + 1 ≤ f + tk.2.1 → zqNg lx n r tk w0 ts c f = .inl y) ∧
      (∀ tk' s, zpNots lx one n tk = .inr (tk', s) → ∃ (k : Nat) (c' e : List Int) (ts' : List Bool), k + tk.2.1 ≤ tk'.2.1 ∧ (∀ f, zqNg lx n r tk w0 ts c (f + k) = zqEx lx f (tk', e ++ w0, ts', c')) ∧ c' ++ e = c ++ s ∧ (∀ v, v ∈ e → v ≠ 0 ∧ 3 ≤ zstr v) ∧ ts'.tail = ts.tail ∧ ts'.length = ts.length ∧ (zlev tk'.1 < 3 ∨ zlev tk'.1 = 4 ∧ ts'.headD false = true)) := by
    intro n
    have stop : ∀ tk w0 ts c, zTO N tk → ts.length + r = 6 → 0 < ts.length → zlow 4 w0 → ts.headD false = false →
        (∀ y, one tk = .inl y → ∀ f, N + 1 ≤ f + tk.2.1 → zqGo lx r false tk w0 ts c f = .inl y) ∧
        (∀ tk' s, one tk = .inr (tk', s) → ∃ (k : Nat) (c' e : List Int) (ts' : List Bool), k + tk.2.1 ≤ tk'.2.1 ∧ (∀ f, zqGo lx r false tk w0 ts c (f + k) = zqEx lx f (tk', e ++ w0, ts', c')) ∧ c' ++ e = c ++ s ∧ (∀ v, v ∈ e → v ≠ 0 ∧ 3 ≤ zstr v) ∧ ts'.tail = ts.tail ∧ ts'.length = ts.length ∧ (zlev tk'.1 < 3 ∨ zlev tk'.1 = 4 ∧ ts'.headD false = true)) := by
      intro tk w0 ts c a1 a2 a3 a4 a5
      obtain ⟨i1, i2⟩ := h1 tk w0 ts c a1 a2 a3 a4 (fun _ => a5)
      refine ⟨i1, fun tk' s he => ?_⟩
      obtain ⟨k, c', e2, ts', j1, j2, j3, j4, j5, j6, j7, j8⟩ := i2 tk' s he
      exact ⟨k, c', e2, ts', j1, j2, j3, fun v hv => ⟨(j4 v hv).1, by have := (j4 v hv).2; omega⟩, j5, j6, by
        have := (zlev_r tk'.1).2
        rcases j8 with q | q
        · exact Or.inl (by omega)
        · exact Or.inr q⟩
    induction n with
    | zero =>
      intro tk w0 ts c a1 a2 a3 a4 a5
      by_cases cn : tk.1 = 110
      · have e1 : zpNots lx one 0 tk = .inl (2, tk.2.1) := by
          show (if tk.1 = 110 then _ else _) = _
          rw [if_pos cn]
        have e2 : zqNots lx 0 tk w0 = .inl (2, tk.2.1) := by
          show (if tk.1 = 110 then _ else _) = _
          rw [if_pos cn]
        have e3 : ∀ f, zqNg lx 0 r tk w0 ts c f = .inl (2, tk.2.1) := fun f => by
          unfold zqNg
          rw [e2]
        rw [e1]
        exact ⟨fun y hy f _ => by rw [e3]; exact hy, fun tk' s he => absurd he (by simp)⟩
      · have e1 : zpNots lx one 0 tk = one tk := by
          show (if tk.1 = 110 then _ else _) = _
          rw [if_neg cn]
        have e2 : zqNots lx 0 tk w0 = .inr (tk, w0) := by
          show (if tk.1 = 110 then _ else _) = _
          rw [if_neg cn]
        have e3 : ∀ f, zqNg lx 0 r tk w0 ts c f = zqGo lx r false tk w0 ts c f := fun f => by
          unfold zqNg
          rw [e2]
        simp only [e1, e3]
        exact stop tk w0 ts c a1 a2 a3 a4 a5
    | succ n ih =>
      intro tk w0 ts c a1 a2 a3 a4 a5
      by_cases cn : tk.1 = 110
      · obtain ⟨n1, n2⟩ := zTO_nx hl a1 (by omega)
        have e1 : zpNots lx one (n + 1) tk = match zpNots lx one n (lx tk.2.2.1) with
            | .inl e => .inl e
            | .inr (tk', s) => .inr (tk', s ++ [-110]) := by
          show (if tk.1 = 110 then _ else _) = _
          rw [if_pos cn]
          rfl
        have e2 : zqNots lx (n + 1) tk w0 = zqNots lx n (lx tk.2.2.1) (-110 :: w0) := by
          show (if tk.1 = 110 then _ else _) = _
          rw [if_pos cn]
        obtain ⟨i1, i2⟩ := ih (lx tk.2.2.1) (-110 :: w0) ts c n1 a2 a3 (Or.inr ⟨-110, w0, rfl, Or.inr (by decide)⟩) a5
        have e3 : ∀ f, zqNg lx (n + 1) r tk w0 ts c f = zqNg lx n r (lx tk.2.2.1) (-110 :: w0) ts c f := fun f => by
          unfold zqNg
          rw [e2]
        simp only [e3]
        cases hx : zpNots lx one n (lx tk.2.2.1) with
        | inl y0 =>
          rw [hx] at e1
          have e1' : zpNots lx one (n + 1) tk = .inl y0 := e1
          rw [e1']
          refine ⟨fun y hy f hf => ?_, fun tk' s he => absurd he (by simp)⟩
          rw [← hy]
          exact i1 y0 hx f (by omega)
        | inr y0 =>
          obtain ⟨tk2, s2⟩ := y0
          rw [hx] at e1
          have e1' : zpNots lx one (n + 1) tk = .inr (tk2, s2 ++ [-110]) := e1
          rw [e1']
          obtain ⟨k, c', e3, ts', j1, j2, j3, j4, j5, j6, j7⟩ := i2 tk2 s2 hx
          refine ⟨fun y hy => absurd hy (by simp), fun tk' s he => ?_⟩
          injection he with he
          injection he with v1 v2
          subst v1
          subst v2
          refine ⟨k, c', e3 ++ [-110], ts', by omega, fun f => ?_, ?_, ?_, j5, j6, j7⟩
          · rw [List.append_assoc]
            exact j2 f
          · rw [← List.append_assoc, j3, List.append_assoc]
          · intro v hv
            rcases List.mem_append.mp hv with q | q
            · exact j4 v q
            · have q' : v = -110 := by simpa using q
              rw [q']
              exact ⟨by decide, by decide⟩
      · have e1 : zpNots lx one (n + 1) tk = one tk := by
          show (if tk.1 = 110 then _ else _) = _
          rw [if_neg cn]
        have e2 : zqNots lx (n + 1) tk w0 = .inr (tk, w0) := by
          show (if tk.1 = 110 then _ else _) = _
          rw [if_neg cn]
        have e3 : ∀ f, zqNg lx (n + 1) r tk w0 ts c f = zqGo lx r false tk w0 ts c f := fun f => by
          unfold zqNg
          rw [e2]
        simp only [e1, e3]
        exact stop tk w0 ts c a1 a2 a3 a4 a5
  intro tk w0 ts c a1 a2 a3 a4 a5
  have hG : ∀ f, zqGo lx r true tk w0 ts c f = zqNg lx 6 r tk w0 ts c f := by
    intro f
    unfold zqNg zqGo
    rw [zqOp_t]
    cases zqNots lx 6 tk w0 with
    | inl y => rfl
    | inr y => rfl
  obtain ⟨m1, m2⟩ := main 6 tk w0 ts c a1 a2 a3 (zlow_le a4 (by omega)) (a5 (by omega))
  refine ⟨fun y hy f hf => by rw [hG]; exact m1 y hy f hf, fun tk' s he => ?_⟩
  obtain ⟨k, c', e3, ts', j1, j2, j3, j4, j5, j6, j7⟩ := m2 tk' s he
  exact ⟨k, c', e3, ts', j1, fun f => by rw [hG]; exact j2 f, j3, j4, j5, j6, fun q => by omega, j7⟩
/-- the class's way and the model's -/
theorem zLev_expr {N : Nat} (hN : N ≤ 400) {lx : Nat → zTk} (hl : zLX N lx) : ∀ r, zLev N lx (zpExpr lx (r + 1)) 1 true r := by
  intro r
  induction r with
  | zero =>
    have hp := zLev_part hl (r := 0) (fun r' h => by omega)
    have aE := zAdv_expr hl 0
    have a0 := zAdv_part hl aE
    have a6 := zAdv_row hl (sg := 6) (by omega) a0
    have a5 := zAdv_row hl (sg := 5) (by omega) a6
    have a4 := zAdv_test hl a5
    have a3 := zAdv_nots hl a4 6
    have a2 := zAdv_row hl (sg := 2) (by omega) a3
    have l6 := zLev_row hN hl (sg := 6) (by omega) (by omega) a0 hp
    have l5 := zLev_row hN hl (sg := 5) (by omega) (by omega) a6 l6
    have l4 := zLev_test hl a5 l5
    have l3 := zLev_nots hl a4 l4
    have l2 := zLev_row hN hl (sg := 2) (by omega) (by omega) a3 l3
    exact zLev_row hN hl (sg := 1) (by omega) (by omega) a2 l2
  | succ r ih =>
    have hp := zLev_part hl (r := r + 1) (fun r' h => by
      have : r' = r := by omega
      rw [this]
      exact ih)
    have aE := zAdv_expr hl (r + 1)
    have a0 := zAdv_part hl aE
    have a6 := zAdv_row hl (sg := 6) (by omega) a0
    have a5 := zAdv_row hl (sg := 5) (by omega) a6
    have a4 := zAdv_test hl a5
    have a3 := zAdv_nots hl a4 6
    have a2 := zAdv_row hl (sg := 2) (by omega) a3
    have l6 := zLev_row hN hl (sg := 6) (by omega) (by omega) a0 hp
    have l5 := zLev_row hN hl (sg := 5) (by omega) (by omega) a6 l6
    have l4 := zLev_test hl a5 l5
    have l3 := zLev_nots hl a4 l4
    have l2 := zLev_row hN hl (sg := 2) (by omega) (by omega) a3 l3
    exact zLev_row hN hl (sg := 1) (by omega) (by omega) a2 l2
