/-! SOUND, 8: a real state -/
theorem z_mh_nil {y : Nat} (hy : y < 56) : z_mh y = [] ∧ z_hw y = [] := by
  have h9 := List.all_eq_true.mp z_mh0 y (List.mem_range.mpr hy)
  simp only [Bool.and_eq_true, List.isEmpty_iff] at h9
  exact h9
/-- the facts of a run in a real state -/
theorem z_real {X : ZX} {p : Program} {l : Launch} {e : Env} {s s₁ : State} {m : MethodId} {args : Array Value} {below : List Frame} {meth : Method} {c : Code} {y d : Nat} {ad : Nat → Nat} {D : va_G} {cA : Nat → ClassId} {sz : Nat} {av : List Value} {w w1 : ZW} {r1 : Option Value ⊕ Nat}
    (hfl : l.stackTraces = false) (hy : y < 56)
    (B : BodyLoose p l (z_mn y) (headSpec (z_cw y :: z_G) (z_rm (d + 1) (w1.2.2.1 - w.2.2.1) (w1.2.2.2.1 - w.2.2.2.1))) (z_mb y) (z_ml y) (z_mr y) e s m args below meth c s₁) (hml : c.maxLocals = z_ml y) (htab : c.exceptionTable.toList = tableOf (z_hw y)) (hP : z_Pc X ad D cA sz av w args s) :
    z_Fx X p l e (z_rm (d + 1) (w1.2.2.1 - w.2.2.1) (w1.2.2.2.1 - w.2.2.2.1)) s m args below meth c y ad D cA (va_A (z_ws ad cA w) sz) (vx_MQ below (z_Qc ad D cA sz w r1 w1) (z_XC ad D cA sz w r1 w1) args s (w1.2.2.1 - w.2.2.1) (w1.2.2.2.1 - w.2.2.2.1) (va_A (z_ws ad cA w) sz)) w.2.1 (w1.2.2.1 - w.2.2.1) (w1.2.2.2.1 - w.2.2.2.1) r1 w1 := by
  obtain ⟨_, hsz, hP0, hK, hD0, hZ⟩ := hP
  have hx := B.exec
  have hb := B.bytes
  have hr := B.returns
  have htsA := atoms_spec (ws := z_cw y :: z_G) B.pre
  have hts : ∀ w ∈ z_G, w.before args s = true := fun w hw => htsA w (List.mem_cons_of_mem _ hw)
  have hown : s.vm.findClass (z_own y) = some m.cls := findClass_of_methodNamed B.named
  have hlocks := B.notSynchronized
  subst hsz
  generalize hmc : w1.2.2.1 - w.2.2.1 = mc
  generalize hms : w1.2.2.2.1 - w.2.2.2.1 = ms
  have hA : ∀ q : Nat, s.heap.size ≤ q → va_A (z_ws ad cA w) s.heap.size q := fun q h => Or.inr h
  have hret : ∀ (v : Option Value) (ad1 : Nat → Nat) (H : Heap) (locs : List Loc) (ls : Array Slot) (cells slots pc : Nat) (ins : Instr), r1 = .inl v → z_ri ins v (z_mr y) → decode (z_mb y) pc = .ok (ins, 1) → z_ag w.2.1 ad ad1 → va_P D z_cl (z_ws ad1 cA w1) H → va_D (va_A (z_ws ad cA w) s.heap.size) (z_ws ad1 cA w1) → va_S (va_A (z_ws ad cA w) s.heap.size) s.heap H locs → cells ≤ mc → slots ≤ ms → W p l e (z_rm (d + 1) mc ms) s m args below meth c H locs cells slots (vx_MQ below (z_Qc ad D cA s.heap.size w r1 w1) (z_XC ad D cA s.heap.size w r1 w1) args s mc ms (va_A (z_ws ad cA w) s.heap.size)) (F0 m pc ls ((v.map (z_v ad1)).toList)) := by
    intro v ad1 H locs ls cells slots pc ins hv hri hd hag hP1 hD1 hS hc hsl
    refine vx_ret (W.widen (k := mc) (n := ms) hc hsl ?_)
    have hq : ∀ t : State, t.heap = H → s.WarmedH t.vm → z_Qc ad D cA s.heap.size w r1 w1 args s (.returned (v.map (z_v ad1))) t := fun t ht hW => ⟨⟨v, ad1, hv, rfl, hag, by rw [ht]; exact hP1, va_K.moved hW.alike hK, hD1⟩, hS.F ht⟩
    rcases hri with ⟨rfl, x, rfl, ht | ⟨ht, hz⟩⟩ | ⟨rfl, x, rfl, ht⟩ | ⟨rfl, a, rfl, ht⟩ | ⟨rfl, rfl, ht⟩
    · exact W.iret hx hb (hr.trans ht) hq hS.2.2 hd
    · refine W.zret (ty := .boolean) hx hb (hr.trans ht) ?_ hq hS.2.2 hd
      rw [z_b1_eq] at hz
      simp only [Bool.or_eq_true, beq_iff_eq] at hz
      rcases hz with rfl | rfl <;> rfl
    · exact W.lret hx hb (hr.trans ht) hq hS.2.2 hd
    · cases hmr : z_mr y with
      | none => rw [hmr] at ht; cases ht
      | some rt =>
        refine W.aret (rt := rt) hx hb (hr.trans hmr) ?_ (Or.inr ⟨ad1 a, rfl⟩) hq hS.2.2 hd
        rw [hmr] at ht
        cases rt with
        | object n => exact Or.inl ⟨n, rfl⟩
        | array t => exact Or.inr ⟨t, rfl⟩
        | _ => cases ht
    · exact W.vret hx hb (hr.trans ht) hq hS.2.2 hd
  refine ⟨hx, hb, hml, hown, hts, hA, hK, hZ, fun hn => (name_of_methodNamed B.named B.method).1.trans hn, ⟨by show 4 ≤ d + 1 + 3; omega, by show 114 ≤ 44 * (d + 1) + 70; omega, Nat.le_refl _, Nat.le_refl _⟩, hret, ?_, ?_⟩
  · intro E q ce ad1 H locs ls rest cells slots pc nL lv hzx
    cases hzx
  · intro E b d1 w9 ad1 H locs ls rest cells slots pc len n ts ps lv hk
    cases hk
