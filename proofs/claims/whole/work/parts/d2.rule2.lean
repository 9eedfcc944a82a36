/-! RULES, 5: the model's way, by strengths; both say the same -/
def zstr (v : Int) : Nat := if v = -110 then 3 else zlev (-v)
def zdrop (s : Nat) : List Int → List Int → List Int × List Int
  | [], c => ([], c)
  | v :: w, c => if v ≠ 0 ∧ s ≤ zstr v then zdrop s w (c ++ [v]) else (v :: w, c)
/-- token, waiting signs, tests, steps -/
abbrev zqS : Type := zTk × List Int × List Bool × List Int
def zqPart (lx : Nat → zTk) (tk : zTk) (w : List Int) (ts : List Bool) (c : List Int) : zFl ⊕ zqS :=
  if 100 ≤ tk.1 then (if tk.1 ≤ 109 then .inr (lx tk.2.2.1, w, ts, c ++ [-tk.1]) else .inl (3, tk.2.1))
  else if tk.1 = 2 then (if tk.2.2.2.2 ≤ 5 then .inr (lx tk.2.2.1, w, ts, c ++ [tk.2.2.2.1]) else .inl (2, tk.2.1))
  else .inl (1, tk.2.1)
def zqNots (lx : Nat → zTk) : Nat → zTk → List Int → zFl ⊕ (zTk × List Int)
  | 0, tk, w => if tk.1 = 110 then .inl (2, tk.2.1) else .inr (tk, w)
  | r + 1, tk, w => if tk.1 = 110 then zqNots lx r (lx tk.2.2.1) (-110 :: w) else .inr (tk, w)
def zqOp (lx : Nat → zTk) : Nat → Bool → zTk → List Int → List Bool → List Int → zFl ⊕ zqS
  | 0, nt, tk, w, ts, c => match (if nt = true then zqNots lx 6 tk w else .inr (tk, w)) with
    | .inl e => .inl e
    | .inr (tk1, w1) => if tk1.1 = 40 then .inl (zbgk (lx tk1.2.2.1).1, (lx tk1.2.2.1).2.1) else zqPart lx tk1 w1 ts c
  | r + 1, nt, tk, w, ts, c => match (if nt = true then zqNots lx 6 tk w else .inr (tk, w)) with
    | .inl e => .inl e
    | .inr (tk1, w1) => if tk1.1 = 40 then zqOp lx r true (lx tk1.2.2.1) (0 :: w1) (false :: ts) c else zqPart lx tk1 w1 ts c
def zqts (k : Int) (ts : List Bool) : List Bool := if zlev k ≤ 2 then false :: ts.tail else if zlev k = 4 then true :: ts.tail else ts
def zqEx (lx : Nat → zTk) : Nat → zqS → zFl ⊕ (zTk × List Int)
  | 0, _ => .inl (0, 0)
  | f + 1, s => if zlev s.1.1 ≠ 0 ∧ (zlev s.1.1 = 4 → s.2.2.1.headD false = false) then
      match zqOp lx (6 - s.2.2.1.length) (decide (zlev s.1.1 ≤ 2)) (lx s.1.2.2.1) (-s.1.1 :: (zdrop (zlev s.1.1) s.2.1 s.2.2.2).1) (zqts s.1.1 s.2.2.1) (zdrop (zlev s.1.1) s.2.1 s.2.2.2).2 with
      | .inl e => .inl e
      | .inr s' => zqEx lx f s'
    else if s.1.1 = 41 ∧ 1 < s.2.2.1.length then zqEx lx f (lx s.1.2.2.1, (zdrop 0 s.2.1 s.2.2.2).1.tail, s.2.2.1.tail, (zdrop 0 s.2.1 s.2.2.2).2)
    else if 1 < s.2.2.1.length then .inl (1, s.1.2.1) else .inr (s.1, (zdrop 0 s.2.1 s.2.2.2).2)
def zqGo (lx : Nat → zTk) (r : Nat) (nt : Bool) (tk : zTk) (w : List Int) (ts : List Bool) (c : List Int) (f : Nat) : zFl ⊕ (zTk × List Int) := match zqOp lx r nt tk w ts c with
  | .inl e => .inl e
  | .inr s => zqEx lx f s
def zlow (s : Nat) (w : List Int) : Prop := w = [] ∨ ∃ v r, w = v :: r ∧ (v = 0 ∨ zstr v < s)
theorem zdrop_is (s : Nat) (w0 : List Int) (hw : zlow s w0) (e : List Int) : ∀ c, (∀ v, v ∈ e → v ≠ 0 ∧ s ≤ zstr v) → zdrop s (e ++ w0) c = (w0, c ++ e) := by
  induction e with
  | nil =>
    intro c _
    rw [List.nil_append, List.append_nil]
    rcases hw with h | ⟨v, r, h, h2⟩
    · rw [h]
      rfl
    · rw [h]
      show (if v ≠ 0 ∧ s ≤ zstr v then zdrop s r (c ++ [v]) else (v :: r, c)) = _
      rw [if_neg (by
        rintro ⟨a, b⟩
        rcases h2 with h2 | h2
        · exact a h2
        · omega)]
  | cons v e ih =>
    intro c h
    have hv := h v List.mem_cons_self
    show (if v ≠ 0 ∧ s ≤ zstr v then zdrop s (e ++ w0) (c ++ [v]) else (v :: (e ++ w0), c)) = _
    rw [if_pos hv, ih _ (fun x hx => h x (List.mem_cons_of_mem _ hx)), List.append_assoc]
    rfl
theorem zlev_r (k : Int) : zlev k ≤ 6 ∧ zlev k ≠ 3 := by
  unfold zlev
  split
  · omega
  · split
    · omega
    · split
      · omega
      · split
        · omega
        · split <;> omega
theorem zlev_k {k : Int} {s : Nat} (h : zlev k = s) (hs : s ≠ 0) : (k = 112 ∨ k = 111 ∨ k = 60 ∨ k = 61 ∨ k = 43 ∨ k = 45 ∨ k = 42 ∨ k = 47) ∧ zstr (-k) = s := by
  have hk : k = 112 ∨ k = 111 ∨ k = 60 ∨ k = 61 ∨ k = 43 ∨ k = 45 ∨ k = 42 ∨ k = 47 := by
    unfold zlev at h
    split at h
    · omega
    · split at h
      · omega
      · split at h
        · omega
        · split at h
          · omega
          · split at h <;> omega
  refine ⟨hk, ?_⟩
  rw [← h]
  rcases hk with e | e | e | e | e | e | e | e <;> rw [e] <;> decide
theorem zqOp_t (lx : Nat → zTk) (r : Nat) (tk : zTk) (w : List Int) (ts : List Bool) (c : List Int) : zqOp lx r true tk w ts c = match zqNots lx 6 tk w with
    | .inl e => .inl e
    | .inr (tk1, w1) => zqOp lx r false tk1 w1 ts c := by
  cases r with
  | zero => rfl
  | succ r => rfl
/-- a way down and the way by strengths -/
def zLev (N : Nat) (lx : Nat → zTk) (X : zTk → zFl ⊕ (zTk × List Int)) (sg : Nat) (nt : Bool) (r : Nat) : Prop := ∀ tk w0 ts c, zTO N tk → ts.length + r = 6 → 0 < ts.length → zlow sg w0 → (sg ≤ 4 → ts.headD false = false) →
  (∀ e, X tk = .inl e → ∀ f, N + 1 ≤ f + tk.2.1 → zqGo lx r nt tk w0 ts c f = .inl e) ∧
  (∀ tk' s, X tk = .inr (tk', s) → ∃ (k : Nat) (c' e : List Int) (ts' : List Bool), k + tk.2.1 ≤ tk'.2.1 ∧ (∀ f, zqGo lx r nt tk w0 ts c (f + k) = zqEx lx f (tk', e ++ w0, ts', c')) ∧ c' ++ e = c ++ s ∧ (∀ v, v ∈ e → v ≠ 0 ∧ sg ≤ zstr v) ∧ ts'.tail = ts.tail ∧ ts'.length = ts.length ∧ (5 ≤ sg → ts' = ts) ∧ (zlev tk'.1 < sg ∨ zlev tk'.1 = 4 ∧ ts'.headD false = true))
theorem zqEx_sign {lx : Nat → zTk} {f : Nat} {tk : zTk} {w e : List Int} {ts : List Bool} {c : List Int} {sg r : Nat} (h : zlev tk.1 = sg) (hs : sg ≠ 0) (h4 : sg = 4 → ts.headD false = false) (hw : zlow sg w) (he : ∀ v, v ∈ e → v ≠ 0 ∧ sg ≤ zstr v) (hr : ts.length + r = 6) : zqEx lx (f + 1) (tk, e ++ w, ts, c) = zqGo lx r (decide (sg ≤ 2)) (lx tk.2.2.1) (-tk.1 :: w) (zqts tk.1 ts) (c ++ e) f := by
  have hd := zdrop_is sg w hw e c he
  show ((if zlev tk.1 ≠ 0 ∧ (zlev tk.1 = 4 → ts.headD false = false) then
      zqGo lx (6 - ts.length) (decide (zlev tk.1 ≤ 2)) (lx tk.2.2.1) (-tk.1 :: (zdrop (zlev tk.1) (e ++ w) c).1) (zqts tk.1 ts) (zdrop (zlev tk.1) (e ++ w) c).2 f
    else _) : zFl ⊕ (zTk × List Int)) = _
  rw [h, if_pos ⟨hs, h4⟩, hd, show 6 - ts.length = r by omega]
theorem zLev_part {N : Nat} {lx : Nat → zTk} (hl : zLX N lx) {r : Nat} (IH : ∀ r', r' + 1 = r → zLev N lx (zpExpr lx (r' + 1)) 1 true r') : zLev N lx (zpPart lx (zpExpr lx r)) 7 false r := by
  intro tk w0 ts c h hr ht hw _
  have hgo : ∀ f, tk.1 ≠ 40 → zqGo lx r false tk w0 ts c f = match zqPart lx tk w0 ts c with
      | .inl e => .inl e
      | .inr s => zqEx lx f s := by
    intro f h40
    have : zqOp lx r false tk w0 ts c = zqPart lx tk w0 ts c := by
      cases r with
      | zero =>
        show (if tk.1 = 40 then _ else zqPart lx tk w0 ts c) = _
        rw [if_neg h40]
      | succ r =>
        show (if tk.1 = 40 then _ else zqPart lx tk w0 ts c) = _
        rw [if_neg h40]
    unfold zqGo
    rw [this]
  have fin : ∀ (tk' : zTk) (s : List Int), tk.2.1 + 1 ≤ tk'.2.1 → (∀ f, zqGo lx r false tk w0 ts c f = zqEx lx f (tk', w0, ts, c ++ s)) → ∃ (k : Nat) (c' e : List Int) (ts' : List Bool), k + tk.2.1 ≤ tk'.2.1 ∧ (∀ f, zqGo lx r false tk w0 ts c (f + k) = zqEx lx f (tk', e ++ w0, ts', c')) ∧ c' ++ e = c ++ s ∧ (∀ v, v ∈ e → v ≠ 0 ∧ 7 ≤ zstr v) ∧ ts'.tail = ts.tail ∧ ts'.length = ts.length ∧ (5 ≤ 7 → ts' = ts) ∧ (zlev tk'.1 < 7 ∨ zlev tk'.1 = 4 ∧ ts'.headD false = true) := by
    intro tk' s q1 q2
    exact ⟨0, c ++ s, [], ts, by omega, q2, List.append_nil _, fun v hv => absurd hv (by simp), rfl, rfl, fun _ => rfl, Or.inl (by have := zlev_r tk'.1; omega)⟩
  by_cases c40 : tk.1 = 40
  · obtain ⟨n1, n2⟩ := zTO_nx hl h (by omega)
    have hP : zpPart lx (zpExpr lx r) tk = match zpExpr lx r (lx tk.2.2.1) with
      | .inl e => .inl e
      | .inr (tk', s) => if tk'.1 = 41 then .inr (lx tk'.2.2.1, s) else .inl (1, tk'.2.1) := by
      unfold zpPart
      rw [if_pos c40]
      rfl
    cases r with
    | zero =>
      have hgo0 : ∀ f, zqGo lx 0 false tk w0 ts c f = .inl (zbgk (lx tk.2.2.1).1, (lx tk.2.2.1).2.1) := by
        intro f
        have : zqOp lx 0 false tk w0 ts c = .inl (zbgk (lx tk.2.2.1).1, (lx tk.2.2.1).2.1) := by
          show (if tk.1 = 40 then _ else zqPart lx tk w0 ts c) = _
          rw [if_pos c40]
        unfold zqGo
        rw [this]
      refine ⟨fun e he f _ => ?_, fun tk' s he => ?_⟩
      · rw [hP] at he
        rw [hgo0]
        exact he
      · rw [hP] at he
        exact absurd he (by simp [zpExpr])
    | succ r =>
      have hgo1 : ∀ f, zqGo lx (r + 1) false tk w0 ts c f = zqGo lx r true (lx tk.2.2.1) (0 :: w0) (false :: ts) c f := by
        intro f
        have : zqOp lx (r + 1) false tk w0 ts c = zqOp lx r true (lx tk.2.2.1) (0 :: w0) (false :: ts) c := by
          show (if tk.1 = 40 then _ else zqPart lx tk w0 ts c) = _
          rw [if_pos c40]
        unfold zqGo
        rw [this]
      obtain ⟨i1, i2⟩ := IH r rfl (lx tk.2.2.1) (0 :: w0) (false :: ts) c n1 (by rw [List.length_cons]; omega) (Nat.succ_pos _) (Or.inr ⟨0, w0, rfl, Or.inl rfl⟩) (fun _ => rfl)
      cases hx : zpExpr lx (r + 1) (lx tk.2.2.1) with
      | inl y =>
        rw [hx] at hP
        refine ⟨fun e he f hf => ?_, fun tk' s he => ?_⟩
        · rw [hP] at he
          rw [hgo1, ← he]
          exact i1 y hx f (by omega)
        · rw [hP] at he
          exact absurd he (by simp)
      | inr y =>
        obtain ⟨tk2, s2⟩ := y
        rw [hx] at hP
        have hP' : zpPart lx (zpExpr lx (r + 1)) tk = if tk2.1 = 41 then .inr (lx tk2.2.2.1, s2) else .inl (1, tk2.2.1) := hP
        obtain ⟨k, c', e2, ts', j1, j2, j3, j4, j5, j6, j7, j8⟩ := i2 tk2 s2 hx
        obtain ⟨a1, a2, a3⟩ := zAdv_expr hl _ _ n1 _ _ hx
        have htl : ts'.tail = ts := j5
        have hlen : 1 < ts'.length := by rw [j6, List.length_cons]; omega
        have hz : ¬ (zlev tk2.1 ≠ 0 ∧ (zlev tk2.1 = 4 → ts'.headD false = false)) := by
          rintro ⟨q1, q2⟩
          rcases j8 with j8 | ⟨j8, j9⟩
          · omega
          · rw [q2 j8] at j9
            exact absurd j9 (by decide)
        have hd := zdrop_is 0 (0 :: w0) (Or.inr ⟨0, w0, rfl, Or.inl rfl⟩) e2 c' (fun v hv => ⟨(j4 v hv).1, Nat.zero_le _⟩)
        by_cases c41 : tk2.1 = 41
        · rw [if_pos c41] at hP'
          obtain ⟨b1, b2⟩ := zTO_nx hl a1 (by omega)
          have hs : ∀ f, zqEx lx (f + 1) (tk2, e2 ++ 0 :: w0, ts', c') = zqEx lx f (lx tk2.2.2.1, w0, ts, c ++ s2) := by
            intro f
            show ((if zlev tk2.1 ≠ 0 ∧ (zlev tk2.1 = 4 → ts'.headD false = false) then _ else if tk2.1 = 41 ∧ 1 < ts'.length then zqEx lx f (lx tk2.2.2.1, (zdrop 0 (e2 ++ 0 :: w0) c').1.tail, ts'.tail, (zdrop 0 (e2 ++ 0 :: w0) c').2) else _) : zFl ⊕ (zTk × List Int)) = _
            rw [if_neg hz, if_pos ⟨c41, hlen⟩, hd, htl, ← j3]
            rfl
          refine ⟨fun e he f hf => ?_, fun tk' s he => ?_⟩
          · rw [hP'] at he
            exact absurd he (by simp)
          · rw [hP'] at he
            injection he with he
            injection he with q1 q2
            rw [← q1, ← q2]
            refine ⟨k + 1, c ++ s2, [], ts, by omega, fun f => ?_, List.append_nil _, fun v hv => absurd hv (by simp), rfl, rfl, fun _ => rfl, Or.inl (by have := zlev_r (lx tk2.2.2.1).1; omega)⟩
            rw [hgo1, show f + (k + 1) = (f + 1) + k by omega, j2, hs]
            rfl
        · rw [if_neg c41] at hP'
          refine ⟨fun e he f hf => ?_, fun tk' s he => ?_⟩
          · rw [hP'] at he
            have hk := a1.1
            rw [hgo1, show f = (f - k - 1 + 1) + k by omega, j2, ← he]
            show ((if zlev tk2.1 ≠ 0 ∧ (zlev tk2.1 = 4 → ts'.headD false = false) then _ else if tk2.1 = 41 ∧ 1 < ts'.length then _ else if 1 < ts'.length then .inl (1, tk2.2.1) else _) : zFl ⊕ (zTk × List Int)) = _
            rw [if_neg hz, if_neg (fun q => c41 q.1), if_pos hlen]
          · rw [hP'] at he
            exact absurd he (by simp)
  · have hP : zpPart lx (zpExpr lx r) tk = if 100 ≤ tk.1 then (if tk.1 ≤ 109 then .inr (lx tk.2.2.1, [-tk.1]) else .inl (3, tk.2.1))
        else if tk.1 = 2 then (if tk.2.2.2.2 ≤ 5 then .inr (lx tk.2.2.1, [tk.2.2.2.1]) else .inl (2, tk.2.1)) else .inl (1, tk.2.1) := by
      unfold zpPart
      rw [if_neg c40]
    have hQ : zqPart lx tk w0 ts c = if 100 ≤ tk.1 then (if tk.1 ≤ 109 then .inr (lx tk.2.2.1, w0, ts, c ++ [-tk.1]) else .inl (3, tk.2.1))
        else if tk.1 = 2 then (if tk.2.2.2.2 ≤ 5 then .inr (lx tk.2.2.1, w0, ts, c ++ [tk.2.2.2.1]) else .inl (2, tk.2.1)) else .inl (1, tk.2.1) := rfl
    rw [hP]
    by_cases c1 : 100 ≤ tk.1
    · rw [if_pos c1]
      rw [if_pos c1] at hQ
      by_cases c2 : tk.1 ≤ 109
      · rw [if_pos c2]
        rw [if_pos c2] at hQ
        obtain ⟨n1, n2⟩ := zTO_nx hl h (by omega)
        refine ⟨fun e he => absurd he (by simp), fun tk' s he => ?_⟩
        injection he with he
        injection he with q1 q2
        rw [← q1, ← q2]
        exact fin _ _ n2 (fun f => by rw [hgo f c40, hQ])
      · rw [if_neg c2]
        rw [if_neg c2] at hQ
        refine ⟨fun e he f _ => ?_, fun tk' s he => absurd he (by simp)⟩
        rw [hgo f c40, hQ]
        exact he
    · rw [if_neg c1]
      rw [if_neg c1] at hQ
      by_cases c2 : tk.1 = 2
      · rw [if_pos c2]
        rw [if_pos c2] at hQ
        by_cases c3 : tk.2.2.2.2 ≤ 5
        · rw [if_pos c3]
          rw [if_pos c3] at hQ
          obtain ⟨n1, n2⟩ := zTO_nx hl h (by omega)
          refine ⟨fun e he => absurd he (by simp), fun tk' s he => ?_⟩
          injection he with he
          injection he with q1 q2
          rw [← q1, ← q2]
          exact fin _ _ n2 (fun f => by rw [hgo f c40, hQ])
        · rw [if_neg c3]
          rw [if_neg c3] at hQ
          refine ⟨fun e he f _ => ?_, fun tk' s he => absurd he (by simp)⟩
          rw [hgo f c40, hQ]
          exact he
      · rw [if_neg c2]
        rw [if_neg c2] at hQ
        refine ⟨fun e he f _ => ?_, fun tk' s he => absurd he (by simp)⟩
        rw [hgo f c40, hQ]
        exact he
