/-! SOUND, 9: the contract of a call, for every depth -/
theorem z_ini {C : String} {args : Array Value} {s : State} (h : (Cond.initialized C).before args s = true) : ∃ k : ClassId, s.vm.findClass C = some k := by
  cases hq : s.vm.findClass C with
  | some k => exact ⟨k, rfl⟩
  | none => simp [Cond.before, Cond.holds, Cond.value, hq] at h
def z_owns : List String := ["RollMill", "RollMill$BiteLaw", "RollMill$Coil", "RollMill$Line", "RollMill$Orders", "RollMill$Planner", "RollMill$Reader", "RollMill$Readings", "RollMill$Rules", "RollMill$Run", "RollMill$Stand", "RollMillLaw", "java/lang/Math", "java/util/AbstractCollection", "java/util/AbstractList", "java/util/ArrayList", "java/util/Objects", "jdk/internal/util/Preconditions"]
theorem z_owns_w : z_owns.all (fun C => lw_tbl.contains (.initialized C)) = true := by decide +kernel
theorem z_owns_y : (List.range 56).all (fun y => z_owns.contains (z_own y)) = true := by decide +kernel
theorem z_own_k {y : Nat} (hy : y < 56) {args : Array Value} {s : State} (h : ∀ w ∈ z_G, w.before args s = true) : ∃ k : ClassId, s.vm.findClass (z_own y) = some k := by
  have h1 := List.contains_iff_mem.mp (List.all_eq_true.mp z_owns_y y (List.mem_range.mpr hy))
  have h2 := List.contains_iff_mem.mp (List.all_eq_true.mp z_owns_w _ h1)
  exact z_ini (h _ (List.mem_filter.mpr ⟨h2, rfl⟩))
/-- there is a state in which all holds that the runs rest on -/
def z_Base (X : ZX) : Prop := ∃ (p : Program) (e : Env) (s : State) (args : Array Value) (ad : Nat → Nat) (D : va_G) (cA : Nat → ClassId) (A : Nat → Prop), p.tables.exec = Jvm.exec ∧ (∀ w ∈ z_G, w.before args s = true) ∧ (∀ q, s.heap.size ≤ q → A q) ∧ va_K D z_cl (z_tys cA) s ∧ z_K X (ad 1000) (ad 1001) (ad 1002) (ad 1003) A s s.heap
theorem z_pure {X : ZX} (hB : z_Base X) {l : Launch} {call : ZC} {dep : Nat} (hC : z_Ct X l call dep) {y : Nat} (hy : y < 56) (hok : z_okM y = true) {cf : Nat → List (Nat × List Nat)} {ff : Nat → List Bool} {k : Nat} {av : List Value} {w w1 : ZW} {r1 : Option Value ⊕ Nat} (hw : z_wf w) (hav : z_wvs w.2.1 av)
    (h : z_loop X cf ff call y k 0 (lv_args 0 av) [] w = some (r1, w1)) : z_mo w w1 ∧ z_wf w1 ∧ z_wr r1 w1 := by
  obtain ⟨p, e, s, args, ad, D, cA, A, hx, hts, hA, hK, hZ⟩ := hB
  obtain ⟨kc, hkc⟩ := z_own_k hy hts
  have F : z_Fx X p l e { frames := dep + 4, locals := 44 * dep + 114, cells := 0, slots := 0 } s (⟨kc, 0⟩ : MethodId) args [] { (default : Method) with name := (z_mn y).name } (⟨0, z_ml y, z_mb y, #[], #[]⟩ : Code) y ad D cA A (fun _ => True) 0 0 0 r1 w1 :=
    ⟨hx, rfl, rfl, hkc, hts, hA, hK, hZ, fun hn => hn, ⟨by show 4 ≤ dep + 4; omega, by show 114 ≤ 44 * dep + 114; omega, Nat.le_refl _, Nat.le_refl _⟩, by intros; intro T hT hS; exact ⟨_, Steps.refl _, trivial⟩, by intros; intro T hT hS; exact ⟨_, Steps.refl _, trivial⟩, by intros; intro T hT hS; exact ⟨_, Steps.refl _, trivial⟩⟩
  obtain ⟨mo, wf2, wr, _⟩ := z_loop_sound F hC ⟨Nat.le_refl _, Nat.le_refl _⟩ hok k 0 _ [] w h (Nat.zero_le _) hw (z_wlo_args 0 av hav) (fun v hv => by cases hv)
  exact ⟨mo, wf2, wr⟩
theorem z_run_sound {X : ZX} {l : Launch} (hB : z_Base X) (hfl : l.stackTraces = false) (hok : ∀ y, y < 56 → z_me y = [] ∨ z_okM y = true) {cf : Nat → List (Nat × List Nat)} {ff : Nat → List Bool} : ∀ d, z_Ct X l (z_run X cf ff d) d := by
  intro d
  induction d with
  | zero => intro y av w r1 w1 h; cases h
  | succ d ih =>
    intro y av w r1 w1 h hw hav
    have h : z_c (Nat.ble 56 y) none (z_gd (z_sm av (z_ml y)) (z_loop X cf ff (z_run X cf ff d) y z_fuel 0 (lv_args 0 av) [] w)) = some (r1, w1) := h
    cases hb : Nat.ble 56 y with
    | true =>
      rw [hb] at h
      cases h
    | false =>
      rw [hb] at h
      obtain ⟨hsm, h⟩ := z_gd_some (b := z_sm av (z_ml y)) h
      have hy : y < 56 := by
        rcases Nat.lt_or_ge y 56 with h5 | h5
        · exact h5
        · rw [Nat.ble_eq_true_of_le h5] at hb; cases hb
      have hoky : z_okM y = true := by
        rcases hok y hy with h9 | h9
        · have h8 : z_exec X (z_run X cf ff d) (z_mh y) (cf y) (z_loop X cf ff (z_run X cf ff d) y 99999999) 4000 (z_drop 0 (z_me y)) (z_drof 0 (z_me y) (ff y)) (lv_args 0 av) [] w = some (r1, w1) := h
          rw [h9] at h8
          simp [z_drop, z_exec] at h8
        · exact h9
      obtain ⟨mo, wf, wr⟩ := z_pure hB ih hy hoky hw hav h
      refine ⟨mo, wf, wr, fun ad D cA sz => ?_⟩
      have e1 : z_mn2 y = z_mn y := rfl
      have e2 : z_cw y = if z_mh y = [] then .code (z_mn y) (z_mb y) (z_ml y) (z_mr y) else .codeWith (z_mn y) (z_mb y) (z_ml y) (z_mr y) (z_hw y) := rfl
      rw [e1]
      have hpl : plainName (z_mn y).cls = true := by
        simp only [z_okM, z_okH, Bool.and_eq_true] at hoky
        exact hoky.1.2
      have key : ∀ (p : Program) (e : Env) (s : State) (m : MethodId) (args : Array Value) (below : List Frame) (meth : Method) (c : Code) (s₁ : State), BodyLoose p l (z_mn y) (headSpec (z_cw y :: z_G) (z_rm (d + 1) (w1.2.2.1 - w.2.2.1) (w1.2.2.2.1 - w.2.2.2.1))) (z_mb y) (z_ml y) (z_mr y) e s m args below meth c s₁ → c.maxLocals = z_ml y → c.exceptionTable.toList = tableOf (z_hw y) → z_Pc X ad D cA sz av w args s →
          W p l e (headSpec (z_cw y :: z_G) (z_rm (d + 1) (w1.2.2.1 - w.2.2.1) (w1.2.2.2.1 - w.2.2.2.1))).room s m args below meth c s.heap [] 0 0 (vx_MQ below (z_Qc ad D cA sz w r1 w1) (z_XC ad D cA sz w r1 w1) args s (w1.2.2.1 - w.2.2.1) (w1.2.2.2.1 - w.2.2.2.1) (va_A (z_ws ad cA w) sz)) (entryFrame m args (z_ml y)) := by
        intro p e s m args below meth c s₁ B hml htab hP
        have F := z_real (d := d) (r1 := r1) hfl hy B hml htab hP
        obtain ⟨hav2, hsz, hP0, hK, hD0, hZ⟩ := hP
        obtain ⟨_, _, _, at2⟩ := z_loop_sound F ih ⟨by show d + 4 ≤ d + 1 + 3; omega, by show 44 * d + 114 ≤ 44 * (d + 1) + 70; omega⟩ hoky z_fuel 0 _ [] w h (Nat.le_refl _) hw (z_wlo_args 0 av hav) (fun v hv => by cases hv)
        subst hsz
        have hl := lv_entry (av.map (z_v ad)) (n := z_ml y) (by rw [z_sl_len]; exact z_sm_map ad hsm)
        have hent : entryFrame m args (z_ml y) = F0 m 0 ((lg_sl (av.map (z_v ad)) ++ List.replicate (z_ml y - (lg_sl (av.map (z_v ad))).length) Slot.unset).toArray) [] := by rw [hav2]; exact lg_entry_eq _ _ _
        rw [hent]
        exact at2 ad s.heap [] _ 0 0 (z_ag_rf _ _) hP0 hD0.self va_S.rf (by rw [z_lm_args]; exact hl) (by omega) (by omega)
      have hmh := (z_mh_nil hy).1
      refine vx_ofW hpl (by rw [e2, if_pos hmh]) ?_
      intro p e s m args below meth c s₁ B hml ht hP
      refine key p e s m args below meth c s₁ B hml ?_ hP
      rw [(z_mh_nil hy).2]
      cases hq : c.exceptionTable.toList with
      | nil => rfl
      | cons x xs => exact (ht x (by rw [hq]; exact List.mem_cons_self)).elim
