/-! SOUND, 11: the law's entry: what holds there -/
abbrev z_A0 (s : State) : Nat → Prop := fun q => s.heap.size ≤ q
def z_sv : List Cond := flatC (Jvm.Cond.and given_1 narrow_1)
theorem z_sv_n : (List.range 5).all (fun j => z_sv.contains (Cond.eq (.elem (.static "RollMill" "BEND" "[I") (.int (Int32.ofNat j))) (.int (z_bend j)))) = true := by decide +kernel
theorem z_sv_1 : [Cond.arrayOf (.static "RollMill" "BEND" "[I") .int, .eq (.length (.static "RollMill" "BEND" "[I")) (.int 5), .arrayOf (.static "java/util/ArrayList" "DEFAULTCAPACITY_EMPTY_ELEMENTDATA" "[Ljava/lang/Object;") (.object "java/lang/Object"), .eq (.length (.static "java/util/ArrayList" "DEFAULTCAPACITY_EMPTY_ELEMENTDATA" "[Ljava/lang/Object;")) (.int 0)].all (fun w => z_sv.contains w) = true := by decide +kernel
theorem z_sv_w : [Cond.laysStatic "RollMill" "BEND" "[I", .initialized "RollMill", .laysStatic "java/util/ArrayList" "DEFAULTCAPACITY_EMPTY_ELEMENTDATA" "[Ljava/lang/Object;", .initialized "java/util/ArrayList", .arrayClass .int, .arrayClass .long, .arrayOver (.object "java/lang/Object")].all (fun w => lw_tbl.contains w) = true := by decide +kernel
theorem z_sv_i : (List.range 12).all (fun c => lw_tbl.contains (.instantiable (z_C c) (z_N c))) = true := by decide +kernel
theorem z_bw_of {w : Cond} (hw : z_bk w = true) {A : Array Value} {U : State} (h : w.before A U = true) : w.before #[] U = true := by
  unfold z_bk at hw
  split at hw
  · exact va_tabs rfl rfl h
  · exact va_tabs rfl rfl h
  · exact va_tabs rfl rfl h
  · exact va_tabs rfl rfl h
  · exact va_AO.of h
  · cases hw
theorem z_K_of {s : State} {args : Array Value} {b L : Nat} {xs : Nat → Int32} (hts : ∀ w ∈ lw_tbl, w.before args s = true) (hgv : (Jvm.Cond.and given_1 narrow_1).before args s = true) (hX : va_X b L xs s s.heap) (hbl : b < s.heap.size) : ∃ bB bE : Nat, z_K (L, xs) bB b (z_mny (L, xs)) bE (z_A0 s) s s.heap := by
  have hs := flat_of_before _ hgv
  have hA : ∀ a : Nat, a < s.heap.size → ¬ z_A0 s a := fun a h => Nat.not_le.mpr h
  have sv : ∀ w, z_sv.contains w = true → w.before args s = true := fun w h => hs w (List.contains_iff_mem.mp h)
  have tv : ∀ w, lw_tbl.contains w = true → w.before args s = true := fun w h => hts w (List.contains_iff_mem.mp h)
  have h1 := z_sv_1
  have h2 := z_sv_w
  simp only [List.all_cons, List.all_nil, Bool.and_eq_true, Bool.and_true] at h1 h2
  obtain ⟨a5, a6, a7, a8⟩ := h1
  obtain ⟨b4, b5, b6, b7, -⟩ := h2
  obtain ⟨bB, e1, hB⟩ := va_Tof (N := 5) (f := fun j => .int (z_bend j)) (by decide) (sv _ a5) (va_eqt (sv _ a6)) (fun j hj => va_eqt (sv _ (List.all_eq_true.mp z_sv_n j (List.mem_range.mpr hj)))) hA
  obtain ⟨bE, e2, hE⟩ := va_Tof (N := 0) (f := fun _ => .null) (by decide) (sv _ a7) (va_eqt (sv _ a8)) (fun j hj => absurd hj (Nat.not_lt_zero j)) hA
  obtain ⟨scr, x1, x2, x3, x4, x5⟩ := hX
  refine ⟨bB, bE, fun w hw => z_bw_of (List.mem_filter.mp hw).2 (hts w (z_B_tbl w hw)), trivial, trivial, va_Zof (tv _ b4) (tv _ b5) e1 hA, hB, va_Zof (tv _ b6) (tv _ b7) e2 hA, hE, ⟨scr, x1, x2, x3, Nat.le_of_eq x4.symm, ?_, x5, hA b hbl⟩, rfl⟩
  rw [x4]
theorem z_arrP {s : State} {args : Array Value} {ty : FieldType} (hp : ty = .int ∨ ty = .long ∨ ty = .boolean) (h : (Cond.arrayClass ty).before args s = true) : ∃ cA : ClassId, ArrOfT s cA ty ∧ va_RA s cA ty := by
  obtain ⟨cA, kA, comp, h1, h2, h3⟩ := Cond.arrayClass_spec (args := args) (first := s) (o := none) (s := s) (idx := []) h
  refine ⟨cA, fun n z => ⟨fun k h => (by cases h), kA, h2, comp, h3⟩, ?_⟩
  rcases hp with rfl | rfl | rfl <;> exact h1
theorem z_arrO {s : State} {args : Array Value} {C : String} (h : (Cond.arrayOver (.object C)).before args s = true) : ∃ cA : ClassId, ArrOfT s cA (.object C) ∧ va_RA s cA (.object C) := by
  obtain ⟨comp, cA, kA, h1, h2, h3, h4, h5⟩ := Cond.arrayOver_spec (args := args) (first := s) (o := none) (s := s) (idx := []) h
  exact ⟨cA, fun n z => ⟨fun k h => (by cases h), kA, h3, comp, h4⟩, kA, comp, h3, h4, h1, h5⟩
theorem z_k_of {s : State} {args : Array Value} (hts : ∀ w ∈ lw_tbl, w.before args s = true) : ∃ (D : va_G) (cA : Nat → ClassId), va_K D z_cl (z_tys cA) s := by
  have tv : ∀ w, lw_tbl.contains w = true → w.before args s = true := fun w h => hts w (List.contains_iff_mem.mp h)
  have h2 := z_sv_w
  simp only [List.all_cons, List.all_nil, Bool.and_eq_true, Bool.and_true] at h2
  obtain ⟨-, -, -, -, b13, b14, b16⟩ := h2
  obtain ⟨c20, p1, p2⟩ := z_arrP (Or.inl rfl) (tv _ b13)
  obtain ⟨c21, p3, p4⟩ := z_arrP (Or.inr (Or.inl rfl)) (tv _ b14)
  obtain ⟨c23, p7, p8⟩ := z_arrO (tv _ b16)
  have hk : ∀ c : Nat, ∃ q : ClassId × (Nat → Nat), c < 12 → u_Kn s (z_C c) (z_T c) (z_N c) q.1 q.2 := by
    intro c
    by_cases hc : c < 12
    · obtain ⟨cC, iS, h⟩ := u_known (ws := z_G) (C := z_C c) (T := z_T c) (N := z_N c) (fun w hw => hts w (z_G_tbl w hw)) (z_inG hc) (tv _ (List.all_eq_true.mp z_sv_i c (List.mem_range.mpr hc)))
      exact ⟨(cC, iS), fun _ => h⟩
    · exact ⟨(c20, fun _ => 0), fun h => absurd h hc⟩
  obtain ⟨f, hf⟩ := Classical.axiomOfChoice hk
  refine ⟨(fun c => (f c).1, fun c => (f c).2), fun c => if c = 20 then c20 else if c = 21 then c21 else c23, fun c q hq => ?_, fun k q hk => ?_⟩
  · have hc : c < 12 := by
      have := (List.getElem?_eq_some_iff.mp hq).1
      simpa [z_cl] using this
    rw [z_cl_at hc] at hq
    cases hq
    exact hf c hc
  · match k, hk with
    | 0, hk => cases hk; exact ⟨p1, p2⟩
    | 1, hk => cases hk; exact ⟨p3, p4⟩
    | 2, hk => cases hk; exact ⟨p7, p8⟩
    | k + 3, hk => cases hk
