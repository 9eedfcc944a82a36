/-! SOUND, 12: the law's run -/
abbrev z_w0 : ZW := (0, 0, 0, 0, fun _ _ => 0, fun _ _ => 0, fun _ _ => none)
theorem z_law {X : ZX} {p : Program} {e : Env} {s : State} {m : MethodId} {below : List Frame} {meth : Method} {c : Code} (l : Launch) (hfl : l.stackTraces = false) {R : Room} {b : Nat} {Q : State → Prop} (hx : p.tables.exec = Jvm.exec) (hb : c.code = z_mb 55) (hml : c.maxLocals = z_ml 55) (hown : s.vm.findClass (z_own 55) = some m.cls)
    (hts : ∀ w ∈ lw_tbl, w.before #[Value.ref b] s = true) (hX : va_X b X.1 X.2 s s.heap) (hbl : b < s.heap.size) (hgv : (Jvm.Cond.and given_1 narrow_1).before #[Value.ref b] s = true) (hR : 11 ≤ R.frames ∧ 422 ≤ R.locals ∧ 600036 ≤ R.cells ∧ 7301892 ≤ R.slots)
    (hend : ∀ (pc : Nat) (H : Heap) (locs : List Loc) (ls : Array Slot) (cells slots : Nat), decode (z_mb 55) pc = .ok (.ireturn, 1) → cells ≤ 600036 → slots ≤ 7301892 → (∀ q ∈ locs, s.heap.size ≤ q.base) → W p l e R s m #[Value.ref b] below meth c H locs cells slots Q (F0 m pc ls [.int 1]))
    (hok : ∀ y, y < 56 → z_me y = [] ∨ z_okM y = true) (hok2 : z_okM 55 = true) {cf : Nat → List (Nat × List Nat)} {ff : Nat → List Bool} {k1 : Nat} {w1 : ZW} (hc1 : w1.2.2.1 ≤ 600036) (hs1 : w1.2.2.2.1 ≤ 7301892)
    (hrun : z_loop X cf ff (z_run X cf ff 7) 55 k1 0 [(0, .ref 1001)] [] z_w0 = some (.inl (some (.int 1)), w1)) :
    W p l e R s m #[Value.ref b] below meth c s.heap [] 0 0 Q (entryFrame m ([Value.ref b] : List Value).toArray (z_ml 55)) := by
  obtain ⟨bB, bE, hZ⟩ := z_K_of (L := X.1) (xs := X.2) hts hgv hX hbl
  obtain ⟨D, cA, hK⟩ := z_k_of hts
  have hG : ∀ w ∈ z_G, w.before #[Value.ref b] s = true := fun w hw => hts w (z_G_tbl w hw)
  have hA : ∀ q, s.heap.size ≤ q → z_A0 s q := fun q h => h
  obtain ⟨ad, had⟩ : ∃ ad : Nat → Nat, ad = fun a => if a = 1000 then bB else if a = 1001 then b else if a = 1002 then z_mny X else bE := ⟨_, rfl⟩
  have hZ : z_K X (ad 1000) (ad 1001) (ad 1002) (ad 1003) (z_A0 s) s s.heap := by rw [had]; exact hZ
  have hB : z_Base X := ⟨p, e, s, _, ad, D, cA, z_A0 s, hx, hG, hA, hK, hZ⟩
  have hC : z_Ct X l (z_run X cf ff 7) 7 := z_run_sound hB hfl hok 7
  have F : ∀ w2 : ZW, z_Fx X p l e R s m #[Value.ref b] below meth c 55 ad D cA (z_A0 s) Q 0 600036 7301892 (.inl (some (.int 1))) w2 := by
    intro w2
    refine ⟨hx, hb, hml, hown, hG, hA, hK, hZ, fun hn => absurd hn (by decide), ⟨by omega, by omega, hR.2.2.1, hR.2.2.2⟩, ?_, ?_, ?_⟩
    · intro v ad1 H locs ls cells slots pc ins hv hri hd1 hag hP1 hD1 hS hc hsl
      cases hv
      rcases hri with ⟨rfl, x, hx9, -⟩ | ⟨rfl, x, hx9, -⟩ | ⟨rfl, x, hx9, -⟩ | ⟨rfl, hx9, -⟩
      · exact hend pc H locs ls cells slots hd1 hc hsl (fun q hq => hS.2.2 q hq)
      · cases hx9
      · cases hx9
      · cases hx9
    · intro E q ce ad1 H locs ls rest cells slots pc nL lv hzx
      cases hzx
    · intro E b1 d1 w9 ad1 H locs ls rest cells slots pc len n ts ps lv hk
      cases hk
  have hgd := z_loop_sound (F w1) hC ⟨by omega, by omega⟩ hok2 k1 0 [(0, .ref 1001)] [] z_w0 hrun
  obtain ⟨_, _, _, at2⟩ := hgd (Nat.le_refl _) ⟨Nat.le_refl _, Nat.zero_le _, fun a k _ => ⟨rfl, rfl, rfl⟩, fun a k b h => (by cases h)⟩ (fun q hq a ha => by
    rcases List.mem_singleton.mp hq with rfl
    cases ha
    exact Or.inr (by decide)) (fun v hv => by cases hv)
  have hl := lv_entry ([.ref b]) (n := z_ml 55) (Nat.le_of_ble_eq_true rfl)
  rw [lg_entry_eq]
  refine at2 ad s.heap [] _ 0 0 (z_ag_rf _ _) ?_ ?_ va_S.rf ?_ ?_ ?_
  · intro k q hk
    cases hk
  · refine ⟨fun i j p1 q1 hi => (by cases hi), fun k q hk => (by cases hk)⟩
  · have e1 : z_lm ad [(0, Value.ref 1001)] = [(0, .ref b)] := by
      show [(0, Value.ref (ad 1001))] = _
      rw [had]; rfl
    rw [e1]
    exact hl
  · show 0 + (w1.2.2.1 - 0) ≤ 600036
    omega
  · show 0 + (w1.2.2.2.1 - 0) ≤ 7301892
    omega
