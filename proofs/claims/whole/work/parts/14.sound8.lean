/-! SOUND, 8: the contract of a call, by depth -/
abbrev z_RX : List String := ["java/lang/RuntimeException", "java/lang/Exception"]
theorem z_at0 : (vx_at0 "RollMill" 202 "java/util/NoSuchElementException" z_RX).all (fun w => (goodWord w || z_bk w) && vx_ot w && lw_tbl.contains w) = true := by decide +kernel
theorem z_at1 : (vx_at0 "RollMill" 121 "java/lang/IllegalArgumentException" z_RX).all (fun w => (goodWord w || z_bk w) && vx_ot w && lw_tbl.contains w) = true := by decide +kernel
theorem z_atw {b E : Nat} (h : (E = 0 ∧ b = 202) ∨ (E = 1 ∧ b = 121)) {w : Cond} (hw : w ∈ vx_at0 "RollMill" b (z_xn E) z_RX) : (w ∈ z_G ∨ w ∈ z_B) ∧ vx_ot w = true := by
  have h9 : ((goodWord w || z_bk w) && vx_ot w && lw_tbl.contains w) = true := by
    rcases h with ⟨rfl, rfl⟩ | ⟨rfl, rfl⟩
    · exact List.all_eq_true.mp z_at0 w hw
    · exact List.all_eq_true.mp z_at1 w hw
  simp only [Bool.and_eq_true, Bool.or_eq_true] at h9
  obtain ⟨⟨hg, ho⟩, hc⟩ := h9
  have hm : w ∈ lw_tbl := List.contains_iff_mem.mp hc
  exact ⟨hg.imp (fun h => List.mem_filter.mpr ⟨hm, h⟩) (fun h => List.mem_filter.mpr ⟨hm, h⟩), ho⟩
theorem z_fitE : ∀ E, Bundle.fit (z_xn E) = true := by
  intro E
  unfold z_xn
  split <;> decide +kernel
theorem z_xn_ot (own : String) (k E : Nat) : vx_ot (.classLink own k (z_xn E)) = true ∧ vx_ot (.initialized (z_xn E)) = true := by
  unfold z_xn
  split <;> exact ⟨rfl, rfl⟩
theorem z_mh_none {y : Nat} (hy : y < 274) (h : z_mh y = []) : z_hw y = [] := by
  have h9 := List.all_eq_true.mp z_okXs y (List.mem_range.mpr hy)
  simp only [z_okX, Bool.and_eq_true] at h9
  have h1 := z_beq_t h9.1.1
  rw [h] at h1
  exact List.eq_nil_of_length_eq_zero h1.symm
/-- the facts of a run in a real state -/
theorem z_real {X : ZX} {p : Program} {l : Launch} {e : Env} {s s₁ : State} {m : MethodId} {args : Array Value} {below : List Frame} {meth : Method} {c : Code} {y d : Nat} {ad : Nat → Nat} {D : va_G} {cA : Nat → ClassId} {sz : Nat} {av : List Value} {w w1 : ZW} {r1 : Option Value ⊕ Nat}
    (hfl : l.stackTraces = false) (hy : y < 274)
    (B : BodyLoose p l (z_mn y) (headSpec (z_cw y :: z_G) (z_rm (d + 1) (w1.2.2.1 - w.2.2.1) (w1.2.2.2.1 - w.2.2.2.1))) (z_mb y) (z_ml y) (z_mr y) e s m args below meth c s₁) (hml : c.maxLocals = z_ml y) (htab : c.exceptionTable.toList = tableOf (z_hw y)) (hP : z_Pc X ad D cA sz av w args s) :
    z_Fx X p l e (z_rm (d + 1) (w1.2.2.1 - w.2.2.1) (w1.2.2.2.1 - w.2.2.2.1)) s m args below meth c y ad D cA (va_A (z_ws ad cA w) sz) (vx_MQ below (z_Qc ad D cA sz w r1 w1) (z_XC ad D cA sz w r1 w1) args s (w1.2.2.1 - w.2.2.1) (w1.2.2.2.1 - w.2.2.2.1) (va_A (z_ws ad cA w) sz)) w.2.1 (w1.2.2.1 - w.2.2.1) (w1.2.2.2.1 - w.2.2.2.1) r1 w1 := by
  obtain ⟨_, hsz, hP0, hK, hD0, hZ⟩ := hP
  have hx := B.exec
  have hb := B.bytes
  have hr := B.returns
  have htsA := atoms_spec (ws := z_cw y :: z_G) B.pre
  have hts : ∀ w ∈ z_G, w.before args s = true := fun w hw => htsA w (List.mem_cons_of_mem _ hw)
  have hown : s.vm.findClass (z_own y) = some m.cls := findClass_of_methodNamed B.named
  have hlocks := B.notSynchronized
  have htb : ∀ w ∈ z_B, w.before args s = true := fun w hw => z_bw_use (List.mem_filter.mp hw).2 (hZ.1 w hw)
  subst hsz
  generalize hmc : w1.2.2.1 - w.2.2.1 = mc
  generalize hms : w1.2.2.2.1 - w.2.2.2.1 = ms
  have hA : ∀ q : Nat, s.heap.size ≤ q → va_A (z_ws ad cA w) s.heap.size q := fun q h => Or.inr h
  have hret : ∀ (v : Option Value) (ad1 : Nat → Nat) (H : Heap) (locs : List Loc) (ls : Array Slot) (cells slots pc : Nat) (ins : Instr), r1 = .inl v → z_ri ins v (z_mr y) → decode (z_mb y) pc = .ok (ins, 1) → z_ag w.2.1 ad ad1 → va_P D z_cl (z_ws ad1 cA w1) H → va_D (va_A (z_ws ad cA w) s.heap.size) (z_ws ad1 cA w1) → va_S (va_A (z_ws ad cA w) s.heap.size) s.heap H locs → cells ≤ mc → slots ≤ ms → W p l e (z_rm (d + 1) mc ms) s m args below meth c H locs cells slots (vx_MQ below (z_Qc ad D cA s.heap.size w r1 w1) (z_XC ad D cA s.heap.size w r1 w1) args s mc ms (va_A (z_ws ad cA w) s.heap.size)) (F0 m pc ls ((v.map (z_v ad1)).toList)) := by
    intro v ad1 H locs ls cells slots pc ins hv hri hd hag hP1 hD1 hS hc hsl
    refine vx_ret (W.widen (k := mc) (n := ms) hc hsl ?_)
    have hq : ∀ t : State, t.heap = H → s.WarmedH t.vm → z_Qc ad D cA s.heap.size w r1 w1 args s (.returned (v.map (z_v ad1))) t := fun t ht hW => ⟨⟨v, ad1, hv, rfl, hag, by rw [ht]; exact hP1, va_K.moved hW.alike hK, hD1⟩, hS.F ht⟩
    rcases hri with ⟨rfl, x, rfl, ht | ⟨ht, hz⟩⟩ | ⟨rfl, x, rfl, ht⟩ | ⟨rfl, a, rfl, ht⟩ | ⟨rfl, rfl, ht⟩
    · exact W.iret hx hb (hr.trans ht) hq hS.2.2 hd
    · refine W.zret (ty := .boolean) hx hb (hr.trans ht) ?_ hq hS.2.2 hd
      rw [z_b1_eq] at hz
      simp only [Bool.or_eq_true, beq_iff_eq] at hz
      rcases hz with rfl | rfl <;> rfl
    · exact W.lret hx hb (hr.trans ht) hq hS.2.2 hd
    · cases hmr : z_mr y with
      | none => rw [hmr] at ht; cases ht
      | some rt =>
        refine W.aret (rt := rt) hx hb (hr.trans hmr) ?_ (Or.inr ⟨ad1 a, rfl⟩) hq hS.2.2 hd
        rw [hmr] at ht
        cases rt with
        | object n => exact Or.inl ⟨n, rfl⟩
        | array t => exact Or.inr ⟨t, rfl⟩
        | _ => cases ht
    · exact W.vret hx hb (hr.trans ht) hq hS.2.2 hd
  refine ⟨hx, hb, hml, hown, hts, hA, hK, hZ, fun hn => (name_of_methodNamed B.named B.method).1.trans hn, ⟨by show 13 ≤ d + 1 + 12; omega, by show 464 ≤ 64 * (d + 1) + 400; omega, Nat.le_refl _, Nat.le_refl _⟩, hret, ?_, ?_⟩
  · intro E q ce ad1 H locs ls rest cells slots pc nL lv hzx hcell hvm hcl hag hP1 hD1 hS hlv hc hsl
    obtain ⟨hE, h5⟩ := z_gd_some hzx
    have hE := z_ble_t hE
    have h9 := List.all_eq_true.mp z_okXs y (List.mem_range.mpr hy)
    simp only [z_okX, Bool.and_eq_true, decide_eq_true_eq] at h9
    obtain ⟨⟨hlen, hrows⟩, hmr⟩ := h9
    refine z_tabw (hs0 := z_mh y) hx hb hown hlocks hts htb hZ.2.1.2.1 hZ.2.1.2.2 hE hcell hvm hcl hlv ?_ hS.2.2 hc hsl ?_ (z_mh y) (z_hw y) [] rfl (fun z hz => by cases hz) htab (z_beq_t hlen) (fun q hq => List.all_eq_true.mp hrows q hq)
    · intro hn t ht hal
      rw [hn] at h5
      cases h5
      exact ⟨⟨E, ad1, rfl, rfl, hag, by rw [ht]; exact hP1, va_K.moved hal hK, hD1⟩, hS.F ht⟩
    · intro v hv ls1 pc1 hd
      rw [hv] at h5
      cases h5
      have hm2 : z_mr y = some .int := by
        rcases hmr with h | h
        · rw [h] at hv; cases hv
        · exact h
      exact hret (some (.int (Int32.ofInt v))) ad1 H locs ls1 cells slots pc1 .ireturn rfl (Or.inl ⟨rfl, _, rfl, Or.inl hm2⟩) hd hag hP1 hD1 hS hc hsl
  · intro E b d1 w9 ad1 H locs ls rest cells slots pc len n ts ps lv hk hd hr1 hw1 hag hP1 hD1 hS hlv hsum hc hsl
    simp only [z_k_throw, Bool.and_eq_true, decide_eq_true_eq] at hk
    obtain ⟨⟨⟨⟨_, _⟩, hd3, hd4, hd7, hmh, hro, heb⟩, hw1k⟩, hw2k⟩ := hk
    have hcl0 := hts _ (z_wp_in hw1k)
    rw [hro] at hcl0
    have hown2 : s.vm.findClass "RollMill" = some m.cls := by rw [← hro]; exact hown
    subst hr1 hw1
    refine vx_throw0 (own := "RollMill") (cls := z_xn E) (names := z_RX) (ik := d1) (ic := b) (A := va_A (z_ws ad cA w) s.heap.size) hx hb hfl hown2 (z_fitE E) (by decide +kernel) hcl0 (hts _ (z_wp_in hw2k)) (fun w hw => (z_atw heb hw).1.elim (hts w) (htb w)) (fun w hw => ?_) hZ.2.1.1 hZ.2.2.1 hS (hlv.1.trans hml.symm) hd hd3 hd4 hd7 (fun x hx => ?_) ?_ ?_ hc hsl hlocks (fun t hal hge hkp => ?_) hS.2.2 hc hsl
    · rcases List.mem_cons.mp hw with rfl | hw
      · exact (z_xn_ot _ _ _).1
      · rcases List.mem_cons.mp hw with rfl | hw
        · exact (z_xn_ot "" 0 _).2
        · exact (z_atw heb hw).2
    · rw [htab, z_mh_none hy hmh] at hx
      cases hx
    · show 2 + 3 < d + 1 + 12
      omega
    · show _ + (13 * (2 + 1) + 42) ≤ 64 * (d + 1) + 400
      omega
    · refine ⟨⟨E, ad1, rfl, rfl, hag, ?_, va_K.moved hal hK, hD1⟩, Nat.le_trans hS.1 hge, fun q hq hn => (hkp q (Nat.lt_of_lt_of_le hq hS.1)).trans (hS.2.1 q hq hn)⟩
      exact hP1.kept (fun k q hk => hkp q.1 (vx_lt hP1 hk))
