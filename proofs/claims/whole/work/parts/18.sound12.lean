/-! SOUND, 12: the law's run -/
abbrev z_w0 : ZW := (0, 0, 0, 0, fun _ _ => 0, fun _ _ => 0, fun _ _ => none)
/-- from the law's loop head on: the cells made so far are as good as static -/
noncomputable def z_jl (X : ZX) (cf : Nat → List (Nat × List Nat)) (ff : Nat → List Bool) (hd : Nat) : Nat → ZL → List Value → ZW → ZR := fun t lo st w =>
  z_gd (Nat.beq t hd && Nat.ble 118 w.2.1 && Nat.beq w.1 0) (match z_loop X cf ff (z_run X cf ff 1000) 273 z_fuel t lo st (118, w.2) with
    | some (r, w2) => some (r, (0, w2.2))
    | none => none)
theorem z_jl_some {X : ZX} {cf : Nat → List (Nat × List Nat)} {ff : Nat → List Bool} {hd t : Nat} {lo : ZL} {st : List Value} {w w2 : ZW} {r : Option Value ⊕ Nat} (h : z_jl X cf ff hd t lo st w = some (r, w2)) : 118 ≤ w.2.1 ∧ w.1 = 0 ∧ ∃ w3 : ZW, z_loop X cf ff (z_run X cf ff 1000) 273 z_fuel t lo st (118, w.2) = some (r, w3) ∧ w2 = (0, w3.2) := by
  unfold z_jl at h
  obtain ⟨hg, h5⟩ := z_gd_some h
  simp only [Bool.and_eq_true] at hg
  refine ⟨z_ble_t hg.1.2, z_beq_t hg.2, ?_⟩
  split at h5
  · rename_i r1 w3 he
    cases h5
    exact ⟨w3, he, rfl⟩
  · cases h5
theorem z_law {X : ZX} {p : Program} {e : Env} {s : State} {m : MethodId} {below : List Frame} {meth : Method} {c : Code} (l : Launch) (hfl : l.stackTraces = false) {R : Room} {b : Nat} {Q : State → Prop} (hL : X.1 ≤ 7168) (hx : p.tables.exec = Jvm.exec) (hb : c.code = z_mb 273) (hml : c.maxLocals = z_ml 273) (hown : s.vm.findClass (z_own 273) = some m.cls)
    (hts : ∀ w ∈ lw_tbl, w.before #[Value.ref b] s = true) (hX : va_X b X.1 X.2 s s.heap) (hbl : b < s.heap.size) (hgv : (Jvm.Cond.and given_1 narrow_1).before #[Value.ref b] s = true) (hR : 1013 ≤ R.frames ∧ 64464 ≤ R.locals ∧ 601024 ≤ R.cells ∧ 7293034 ≤ R.slots)
    (hend : ∀ (pc : Nat) (H : Heap) (locs : List Loc) (ls : Array Slot) (cells slots : Nat), decode (z_mb 273) pc = .ok (.ireturn, 1) → cells ≤ 601024 → slots ≤ 7293034 → (∀ q ∈ locs, s.heap.size ≤ q.base) → W p l e R s m #[Value.ref b] below meth c H locs cells slots Q (F0 m pc ls [.int 1]))
    (hok : ∀ y, y < 274 → z_me y = [] ∨ z_okM y = true) (hok2 : z_okM 273 = true) {cf : Nat → List (Nat × List Nat)} {ff : Nat → List Bool} {hd : Nat} {cuts0 : List (Nat × List Nat)} {fs0 : List Bool} {w1 : ZW} (hc1 : w1.2.2.1 ≤ 601024) (hs1 : w1.2.2.2.1 ≤ 7293034)
    (hrun : z_exec X (z_run X cf ff 1000) (z_mh 273) cuts0 (z_jl X cf ff hd) 4000 (z_me 273) fs0 [(0, .ref 1001)] [] z_w0 = some (.inl (some (.int 1)), w1)) :
    W p l e R s m #[Value.ref b] below meth c s.heap [] 0 0 Q (entryFrame m ([Value.ref b] : List Value).toArray (z_ml 273)) := by
  obtain ⟨bB, bS, bE, hZ⟩ := z_K_of (L := X.1) (xs := X.2) hL hts hgv hX hbl
  obtain ⟨D, cA, hK⟩ := z_k_of hts
  have hG : ∀ w ∈ z_G, w.before #[Value.ref b] s = true := fun w hw => hts w (z_G_tbl w hw)
  have hA : ∀ q, s.heap.size ≤ q → z_A0 s q := fun q h => h
  obtain ⟨ad, had⟩ : ∃ ad : Nat → Nat, ad = fun a => if a = 1000 then bB else if a = 1001 then b else if a = 1002 then bS else bE := ⟨_, rfl⟩
  have hZ : z_K X (ad 1000) (ad 1001) (ad 1002) (ad 1003) (z_A0 s) s s.heap := by rw [had]; exact hZ
  have hB : z_Base X := ⟨p, e, s, _, ad, D, cA, z_A0 s, hx, hG, hA, hK, hZ⟩
  have hC : z_Ct X l (z_run X cf ff 1000) 1000 := z_run_sound hB hfl (z_bt_sound X l) hok 1000
  have hmh : z_mh 273 = [] := rfl
  have F : ∀ w2 : ZW, z_Fx X p l e R s m #[Value.ref b] below meth c 273 ad D cA (z_A0 s) Q 0 601024 7293034 (.inl (some (.int 1))) w2 := by
    intro w2
    refine ⟨hx, hb, hml, hown, hG, hA, hK, hZ, fun hn => absurd hn (by decide), ⟨by omega, by omega, hR.2.2.1, hR.2.2.2⟩, ?_, ?_, ?_⟩
    · intro v ad1 H locs ls cells slots pc ins hv hri hd1 hag hP1 hD1 hS hc hsl
      cases hv
      rcases hri with ⟨rfl, x, hx9, -⟩ | ⟨rfl, x, hx9, -⟩ | ⟨rfl, x, hx9, -⟩ | ⟨rfl, hx9, -⟩
      · exact hend pc H locs ls cells slots hd1 hc hsl (fun q hq => hS.2.2 q hq)
      · cases hx9
      · cases hx9
      · cases hx9
    · intro E q ce ad1 H locs ls rest cells slots pc nL lv hzx
      rw [hmh] at hzx
      obtain ⟨_, h5⟩ := z_gd_some hzx
      cases h5
    · intro E b1 d1 w9 ad1 H locs ls rest cells slots pc len n ts ps lv hk hd1 hr1
      cases hr1
  have hgd := z_exec_sound (F w1) hC ⟨by omega, by omega⟩ (cuts := cuts0) (jmp := z_jl X cf ff hd) (fun t lo st w h => by
    obtain ⟨h118, hw0, w3, hl3, hw3⟩ := z_jl_some h
    have g := z_loop_sound (F w3) hC ⟨by omega, by omega⟩ hok2 z_fuel t lo st (118, w.2) hl3
    intro hn0 hw hlo hst
    obtain ⟨mo, wf2, wr, at2⟩ := g (Nat.zero_le _) ⟨h118, hw.2.1, hw.2.2.1, hw.2.2.2⟩ hlo hst
    subst hw3
    refine ⟨⟨hw0, mo.2.1, mo.2.2.1, mo.2.2.2⟩, ⟨Nat.zero_le _, wf2.2.1, wf2.2.2.1, wf2.2.2.2⟩, wr, ?_⟩
    intro ad1 H locs ls cells slots h0 hP hD hS hl hc hsl
    exact at2 ad1 H locs ls cells slots h0 hP hD hS hl hc hsl) 4000 (z_me 273) fs0 _ _ _ 0 (z_Sg.me hok2) (fun e1 es1 he => by
      have h9 := hok2
      simp only [z_okM, z_okH, Bool.and_eq_true] at h9
      have h8 := h9.1.1.1.1.1
      rw [he] at h8
      exact z_beq_t h8) hrun
  obtain ⟨_, _, _, at2⟩ := hgd (Nat.le_refl _) ⟨Nat.le_refl _, Nat.zero_le _, fun a k _ => ⟨rfl, rfl, rfl⟩, fun a k b h => (by cases h)⟩ (fun q hq a ha => by
    rcases List.mem_singleton.mp hq with rfl
    cases ha
    exact Or.inr (by decide)) (fun v hv => by cases hv)
  have hl := lv_entry ([.ref b]) (n := z_ml 273) (Nat.le_of_ble_eq_true rfl)
  rw [lg_entry_eq]
  refine at2 ad s.heap [] _ 0 0 (z_ag_rf _ _) ?_ ?_ va_S.rf ?_ ?_ ?_
  · intro k q hk
    cases hk
  · refine ⟨fun i j p1 q1 hi => (by cases hi), fun k q hk => (by cases hk)⟩
  · have e1 : z_lm ad [(0, Value.ref 1001)] = [(0, .ref b)] := by
      show [(0, Value.ref (ad 1001))] = _
      rw [had]; rfl
    rw [e1]
    exact hl
  · show 0 + (w1.2.2.1 - 0) ≤ 601024
    omega
  · show 0 + (w1.2.2.2.1 - 0) ≤ 7293034
    omega
