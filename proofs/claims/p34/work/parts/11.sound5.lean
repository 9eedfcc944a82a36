/-! SOUND, 5: calls, and runs from a place to the end -/
theorem z_mlb : (List.range 56).all (fun y => Nat.ble (z_ml y) 25) = true := by decide +kernel
theorem z_ml_le {y : Nat} (h : y < 56) : z_ml y ≤ 25 := z_ble_t (List.all_eq_true.mp z_mlb y (List.mem_range.mpr h))
def z_rm (d k n : Nat) : Room := { frames := d + 3, cells := k, slots := n, locals := 44 * d + 70 }
def z_Pc (X : ZX) (ad : Nat → Nat) (D : va_G) (cA : Nat → ClassId) (sz : Nat) (av : List Value) (w : ZW) : Array Value → State → Prop :=
  va_Pc (av.map (z_v ad)) (fun U => U.heap.size = sz ∧ va_P D z_cl (z_ws ad cA w) U.heap ∧ va_K D z_cl (z_tys cA) U ∧ va_D (fun _ => True) (z_ws ad cA w) ∧ z_K X (ad 1000) (ad 1001) (ad 1002) (ad 1003) (va_A (z_ws ad cA w) sz) U U.heap)
/-- the world behind a call -/
def z_End (ad ad2 : Nat → Nat) (D : va_G) (cA : Nat → ClassId) (sz : Nat) (w w1 : ZW) (t : State) : Prop :=
  z_ag w.2.1 ad ad2 ∧ va_P D z_cl (z_ws ad2 cA w1) t.heap ∧ va_K D z_cl (z_tys cA) t ∧ va_D (va_A (z_ws ad cA w) sz) (z_ws ad2 cA w1)
def z_Qc (ad : Nat → Nat) (D : va_G) (cA : Nat → ClassId) (sz : Nat) (w : ZW) (r1 : Option Value ⊕ Nat) (w1 : ZW) : Array Value → State → Outcome → State → Prop := fun _ st o t =>
  (∃ (v : Option Value) (ad2 : Nat → Nat), r1 = .inl v ∧ o = .returned (v.map (z_v ad2)) ∧ z_End ad ad2 D cA sz w w1 t) ∧ va_F (va_A (z_ws ad cA w) sz) st t
def z_XC (ad : Nat → Nat) (D : va_G) (cA : Nat → ClassId) (sz : Nat) (w : ZW) (r1 : Option Value ⊕ Nat) (w1 : ZW) : String → State → State → Prop := fun E st t =>
  (∃ (k : Nat) (ad2 : Nat → Nat), r1 = .inr k ∧ E = z_xn k ∧ z_End ad ad2 D cA sz w w1 t) ∧ va_F (va_A (z_ws ad cA w) sz) st t
/-- what the machine keeps of a function of calls, with so much depth -/
def z_Ct (X : ZX) (l : Launch) (call : ZC) (d : Nat) : Prop := ∀ (y : Nat) (av : List Value) (w : ZW) (r1 : Option Value ⊕ Nat) (w1 : ZW), call y av w = some (r1, w1) → z_wf w → z_wvs w.2.1 av →
  z_mo w w1 ∧ z_wf w1 ∧ z_wr r1 w1 ∧ ∀ (ad : Nat → Nat) (D : va_G) (cA : Nat → ClassId) (sz : Nat), vx_Met l (z_mn2 y) (z_cw y :: z_G) (z_rm d (w1.2.2.1 - w.2.2.1) (w1.2.2.2.1 - w.2.2.2.1)) (z_Pc X ad D cA sz av w) (z_Qc ad D cA sz w r1 w1) (z_XC ad D cA sz w r1 w1) (w1.2.2.1 - w.2.2.1) (w1.2.2.2.1 - w.2.2.2.1) (va_A (z_ws ad cA w) sz)
theorem z_Pc_blind {X : ZX} {ad : Nat → Nat} {D : va_G} {cA : Nat → ClassId} {sz : Nat} {av : List Value} {w : ZW} : FrameBlind (z_Pc X ad D cA sz av w) := fun a U g mk q => by
  obtain ⟨q0, q1, qP, qK, qD, qZ⟩ := q
  exact ⟨q0, q1, qP, va_K.moved (u := U) (U := U.calling g mk a) (Vm.Alike.refl U.vm) qK, qD, z_K.same (U := U.calling g mk a) qZ rfl⟩
theorem z_free {ad : Nat → Nat} {cA : Nat → ClassId} {w : ZW} {A : Nat → Prop} {H0 H : Heap} {locs : List Loc} (hD : va_D A (z_ws ad cA w)) (hS : va_S A H0 H locs) (hA : ∀ q, H0.size ≤ q → A q) : ∀ q, va_A (z_ws ad cA w) H.size q → A q := by
  intro q h
  rcases h with ⟨k, e, h⟩ | h
  · exact hD.2 k (q, e) h
  · exact hA q (Nat.le_trans hS.1 h)
/-- a call of the machine, by what it keeps -/
theorem z_callG {p : Program} {l : Launch} {e : Env} {R : Room} {s : State} {m : MethodId} {args : Array Value} {below : List Frame} {meth : Method} {c : Code} {H : Heap} {locs : List Loc} {cells slots k n : Nat} {Q : State → Prop} {A : Nat → Prop} {pc : Nat} {ls : Array Slot} {st0 rest : List Value} {aa : Array Value} {ad : Nat → Nat} {D : va_G} {cA : Nat → ClassId} {w w1 : ZW} {r1 : Option Value ⊕ Nat}
    (hr : vx_Run p l e R s m args below meth c H locs cells slots k n (F0 m pc ls st0) rest (z_Qc ad D cA H.size w r1 w1 aa) (z_XC ad D cA H.size w r1 w1) (va_A (z_ws ad cA w) H.size))
    (hD : va_D A (z_ws ad cA w)) (hS : va_S A s.heap H locs) (hA : ∀ q, s.heap.size ≤ q → A q)
    (kk : ∀ (v : Option Value) (ad2 : Nat → Nat) (H1 : Heap) (locs1 : List Loc), r1 = .inl v → z_ag w.2.1 ad ad2 → va_P D z_cl (z_ws ad2 cA w1) H1 → va_D A (z_ws ad2 cA w1) → va_S A s.heap H1 locs1 → W p l e R s m args below meth c H1 locs1 (cells + k) (slots + n) Q (F0 m (pc + 3) ls ((v.map (z_v ad2)).toList ++ rest)))
    (kx : ∀ (E q : Nat) (ce : Cell) (ad2 : Nat → Nat) (H1 : Heap) (locs1 : List Loc), r1 = .inr E → z_ag w.2.1 ad ad2 → va_P D z_cl (z_ws ad2 cA w1) H1 → va_D A (z_ws ad2 cA w1) → va_S A s.heap H1 locs1 → H1[q]? = some ce → ce.vm = .none → s.vm.findClass (z_xn E) = some ce.cls → vx_W p l e R s m args below meth c H1 locs1 (cells + k) (slots + n) Q (F0 m pc ls rest) q) :
    W p l e R s m args below meth c H locs cells slots Q (F0 m pc ls st0) := by
  have hF := z_free hD hS hA
  have hSS : ∀ {st₀ t T' : State} {L : List Loc}, st₀.heap = H → T'.heap = t.heap → va_F (va_A (z_ws ad cA w) H.size) st₀ t → (∀ q ∈ L, va_A (z_ws ad cA w) H.size q.base) → va_S A s.heap T'.heap (locs ++ L) := by
    intro st₀ t T' L h0 e1 hFr hL
    obtain ⟨hz, hk⟩ := hFr
    rw [h0] at hz hk
    refine ⟨Nat.le_trans hS.1 (by rw [e1]; exact hz), fun q h1 h2 => ?_, fun q hq => ?_⟩
    · rw [e1, hk q (Nat.lt_of_lt_of_le h1 hS.1) (fun z => h2 (hF q z))]
      exact hS.2.1 q h1 h2
    · rcases List.mem_append.mp hq with h | h
      · exact hS.2.2 q h
      · exact hF _ (hL q h)
  intro T hT X0
  rcases hr T hT X0 with ⟨v0, st₀, t, T', L, h0, X', hL, e1, e2, hq, st⟩ | ⟨q, st₀, t, T', L, E, ce, h0, X', hL, e1, e2, hx, hc, hv, hcl, st⟩
  · obtain ⟨⟨v, ad2, hr1, ho, hag, hP1, hK1, hD1⟩, hFr⟩ := hq
    cases ho
    obtain ⟨t2, a1, b1⟩ := kk v ad2 T'.heap (locs ++ L) hr1 hag (by rw [e1]; exact hP1) (hD1.weaken (fun _ q _ h => hF q.1 h)) (hSS h0 e1 hFr hL) T' rfl X'
    exact ⟨t2, st t2 a1, b1⟩
  · obtain ⟨⟨k2, ad2, hr1, hE, hag, hP1, hK1, hD1⟩, hFr⟩ := hx
    subst hE
    obtain ⟨t2, a1, b1⟩ := kx k2 q ce ad2 T'.heap (locs ++ L) hr1 hag (by rw [e1]; exact hP1) (hD1.weaken (fun _ q _ h => hF q.1 h)) (hSS h0 e1 hFr hL) (by rw [e1]; exact hc) hv hcl T' rfl X'
    exact ⟨t2, st.trans a1, b1⟩
theorem z_x_w {hs : List ZH} {pc E : Nat} {w1 w2 : ZW} {r : Option Value ⊕ Nat} (h : z_x hs pc E w1 = some (r, w2)) : w1 = w2 ∧ z_wr r w2 := by
  cases h
theorem z_map_rev (ad : Nat → Nat) (l rest : List Value) : (l ++ rest).map (z_v ad) = ((l.reverse ++ []).map (z_v ad)).reverse ++ rest.map (z_v ad) := by simp
theorem z_toL {v : Option Value} {ad : Nat → Nat} {rest : List Value} : (v.toList ++ rest).map (z_v ad) = (v.map (z_v ad)).toList ++ rest.map (z_v ad) := by cases v <;> rfl
theorem z_nargs_c {y n : Nat} (h : z_nargs y n = true) : ((z_mn2 y).cls ≠ "java/lang/invoke/MethodHandle" ∧ (z_mn2 y).cls ≠ "java/lang/invoke/VarHandle") ∧ ∀ sig, parseMethodDescriptor (z_mn2 y).desc = some sig → n = sig.parameters.length := by
  simp only [z_nargs, decide_eq_true_eq] at h
  refine ⟨⟨h.1, h.2.1⟩, fun sig hs => ?_⟩
  have h3 := h.2.2
  rw [hs] at h3
  exact (Option.some.inj h3).symm
theorem z_mn2_eq {y : Nat} (_ : y < 56) : z_mn2 y = z_mn y := rfl
theorem z_cw_eq {y : Nat} (_ : y < 56) (hh : z_mh y = []) : z_cw y = .code (z_mn y) (z_mb y) (z_ml y) (z_mr y) := by
  unfold z_cw
  rw [if_pos hh]
theorem z_cw_eqH {y : Nat} (_ : y < 56) (hh : ¬ z_mh y = []) : z_cw y = .codeWith (z_mn y) (z_mb y) (z_ml y) (z_mr y) (z_hw y) := by
  unfold z_cw
  rw [if_neg hh]
/-- the parts of a call's words -/
theorem z_CB {R : Room} {s : State} {args : Array Value} {y : Nat} {dep k n idx nn : Nat} {own : String} {bytes : ByteArray} {maxL : Nat} {ret : Option FieldType} (hts : ∀ w ∈ z_G, w.before args s = true) (hdep : dep + 4 ≤ R.frames ∧ 44 * dep + 114 ≤ R.locals) (hml : maxL ≤ 25) (hcw : z_cw y = .code (z_mn2 y) bytes maxL ret) (hcg : z_cw y ∈ z_G) (hini : Cond.initialized (z_mn2 y).cls ∈ z_G) (hna : z_nargs y nn = true) (hl : (Cond.methodLink own idx (z_mn2 y)).before args s = true) : CallB R s args own idx (z_mn2 y) bytes maxL ret (z_cw y :: z_G) (z_rm dep k n) k n nn := by
  refine ⟨rfl, rfl, hdep.1, ?_, ?_, ?_, ?_, hts _ hini, (z_nargs_c hna).1, (z_nargs_c hna).2, hl⟩
  · show 8 + (maxL + 11) + (44 * dep + 70) ≤ R.locals
    omega
  · exact pay_in hts (fun w hw => by
      rcases List.mem_cons.mp hw with rfl | hw
      · exact ⟨hcg, z_G_good _ hcg⟩
      · exact ⟨hw, z_G_good _ hw⟩)
  · rw [hcw]; exact List.mem_cons_self
  · rw [← hcw]; exact hts _ hcg
theorem z_CNB {R : Room} {s : State} {args : Array Value} {y : Nat} {dep k n idx nn : Nat} {own host : String} {bytes : ByteArray} {maxL : Nat} {ret : Option FieldType} (hts : ∀ w ∈ z_G, w.before args s = true) (hdep : dep + 4 ≤ R.frames ∧ 44 * dep + 114 ≤ R.locals) (hml : maxL ≤ 25) (hcw : z_cw y = .code (z_mn2 y) bytes maxL ret) (hcg : z_cw y ∈ z_G) (hini : Cond.initialized (z_mn2 y).cls ∈ z_G) (hna : z_nargs y nn = true) (hl : (Cond.methodLinkNest own idx (z_mn2 y) host).before args s = true) : va_CN R s args own idx (z_mn2 y) host bytes maxL ret (z_cw y :: z_G) (z_rm dep k n) k n nn := by
  refine ⟨⟨rfl, rfl, hdep.1, ?_, ?_, ?_⟩, ?_, hts _ hini, (z_nargs_c hna).1, (z_nargs_c hna).2, hl⟩
  · show 8 + (maxL + 11) + (44 * dep + 70) ≤ R.locals
    omega
  · exact pay_in hts (fun w hw => by
      rcases List.mem_cons.mp hw with rfl | hw
      · exact ⟨hcg, z_G_good _ hcg⟩
      · exact ⟨hw, z_G_good _ hw⟩)
  · rw [hcw]; exact List.mem_cons_self
  · rw [← hcw]; exact hts _ hcg
theorem z_CSW {R : Room} {s : State} {args : Array Value} {y : Nat} {dep k n idx nn : Nat} {own : String} {bytes : ByteArray} {maxL : Nat} {ret : Option FieldType} {hh : List (Nat × Nat × Nat × Nat)} (hts : ∀ w ∈ z_G, w.before args s = true) (hdep : dep + 4 ≤ R.frames ∧ 44 * dep + 114 ≤ R.locals) (hml : maxL ≤ 25) (hcw : z_cw y = .codeWith (z_mn2 y) bytes maxL ret hh) (hcg : z_cw y ∈ z_G) (hini : Cond.initialized (z_mn2 y).cls ∈ z_G) (hna : z_nargs y nn = true) (hl : (Cond.methodLink own idx (z_mn2 y)).before args s = true) (hst : Cond.static (z_mn2 y) ∈ z_G) : vx_CSW R s args own idx (z_mn2 y) bytes maxL ret hh (z_cw y :: z_G) (z_rm dep k n) k n nn := by
  refine ⟨⟨rfl, rfl, hdep.1, ?_, ?_, ?_⟩, ?_, hts _ hini, (z_nargs_c hna).1, (z_nargs_c hna).2, hl, hts _ hst⟩
  · show 8 + (maxL + 11) + (44 * dep + 70) ≤ R.locals
    omega
  · exact pay_in hts (fun w hw => by
      rcases List.mem_cons.mp hw with rfl | hw
      · exact ⟨hcg, z_G_good _ hcg⟩
      · exact ⟨hw, z_G_good _ hw⟩)
  · rw [hcw]; exact List.mem_cons_self
  · rw [← hcw]; exact hts _ hcg
theorem z_pre {X : ZX} {ad ad0 : Nat → Nat} {D : va_G} {cA : Nat → ClassId} {A : Nat → Prop} {s U : State} {H : Heap} {locs : List Loc} {w : ZW} {av : List Value} (h3 : ∀ a, 1000 ≤ a → ad a = ad0 a) (hP : va_P D z_cl (z_ws ad cA w) H) (hK : va_K D z_cl (z_tys cA) s) (hD : va_D A (z_ws ad cA w)) (hS : va_S A s.heap H locs) (hA : ∀ q, s.heap.size ≤ q → A q) (hZ : z_K X (ad0 1000) (ad0 1001) (ad0 1002) (ad0 1003) A s s.heap) (hU : U.heap = H) (hW : s.WarmedH U.vm) : z_Pc X ad D cA H.size av w (av.map (z_v ad)).toArray U := by
  refine ⟨rfl, by rw [hU], by rw [hU]; exact hP, va_K.moved hW.alike hK, hD.weaken (fun _ _ _ _ => trivial), ?_⟩
  rw [h3 1000 (by omega), h3 1001 (by omega), h3 1002 (by omega), h3 1003 (by omega)]
  exact hZ.go hS (z_free hD hS hA) hW hU
theorem zs_invokestatic {X : ZX} {call : ZC} {p : Program} {l : Launch} {e : Env} {R : Room} {s : State} {m : MethodId} {args : Array Value} {below : List Frame} {meth : Method} {c : Code} {y : Nat} {ad0 : Nat → Nat} {D : va_G} {cA : Nat → ClassId} {A : Nat → Prop} {Q : State → Prop} {n0 mc ms dep : Nat} {r : Option Value ⊕ Nat} {w2 : ZW} (F : z_Fx X p l e R s m args below meth c y ad0 D cA A Q n0 mc ms r w2) {go : Nat → ZL → List Value → ZW → ZR} {nx : ZL → List Value → ZW → ZR} {pc a b cc d len : Nat} {n : Int} {ts : List (Int × Nat)} {lo : ZL} {st : List Value} {w : ZW} {ins : Instr} {ps : List Nat} (hC : z_Ct X l call dep) (hdep : dep + 4 ≤ R.frames ∧ 44 * dep + 114 ≤ R.locals) (hd : decode (z_mb y) pc = .ok (ins, len)) (hk : z_k_invokestatic y pc len a b cc d n ts ins ps = true) (hgo : ∀ t lo st w, go t lo st w = some (r, w2) → z_Gd X p l e R s m args below meth c y ad0 D cA A Q n0 mc ms r w2 t lo st w) (hnx : ∀ lo st w, nx lo st w = some (r, w2) → z_Gd X p l e R s m args below meth c y ad0 D cA A Q n0 mc ms r w2 (pc + len) lo st w) (h : z_o_invokestatic X call (z_mh y) go nx pc a b cc d n ts lo st w = some (r, w2)) : z_Gd X p l e R s m args below meth c y ad0 D cA A Q n0 mc ms r w2 pc lo st w := by
  obtain ⟨hx, hb, hml, hown, hts, hA, hK, hZ, hin, hroom, hret, hexc, hthr⟩ := F
  simp only [z_k_invokestatic, Bool.and_eq_true, Bool.or_eq_true, decide_eq_true_eq] at hk
  obtain ⟨⟨⟨⟨⟨⟨⟨⟨⟨rfl, hlen⟩, ha⟩, hna⟩, hcd⟩, hml1⟩, hk1⟩, hk2⟩, hk3⟩, hk4⟩ := hk
  have hlen := z_beq_t hlen
  have ha := z_blt_t ha
  subst hlen
  obtain ⟨lv, rest, rfl, hll, h5⟩ := z_take_some h
  obtain ⟨hsm, h6⟩ := z_gd_some h5
  have hmn := z_mn2_eq ha
  intro hn0 hw hl hs
  rcases z_ret_some h6 with ⟨v, w1, hcall, h7⟩ | ⟨E, w1, hcall, h7⟩
  · obtain ⟨mo1, wf1, wr1, met⟩ := hC a (lv.reverse ++ []) w _ w1 hcall hw (fun v hv => hs v (List.mem_append_left _ (by simpa using hv)))
    have hvw : z_wvs w1.2.1 (v.toList ++ rest) := by
      cases v with
      | none => exact z_wvs_mono mo1.2.1 (fun v hv => hs v (List.mem_append_right _ hv))
      | some v => exact z_wvs_cons (wr1 v rfl) (z_wvs_mono mo1.2.1 (fun v hv => hs v (List.mem_append_right _ hv)))
    obtain ⟨mo2, wf2, wr, at2⟩ := hnx _ _ _ h7 (Nat.le_trans hn0 mo1.2.1) wf1 (z_wlo_mono mo1.2.1 hl) hvw
    have q1 := mo1.2.2.1
    have q2 := mo2.2.2.1
    have q3 := mo1.2.2.2
    have q4 := mo2.2.2.2
    refine ⟨z_mo_tr mo1 mo2, wf2, wr, fun ad H locs ls cells slots h0 hP hD hS hlo hc hsl => ?_⟩
    have hrm : cells + (w1.2.2.1 - w.2.2.1) ≤ R.cells ∧ slots + (w1.2.2.2.1 - w.2.2.2.1) ≤ R.slots := ⟨by have := hroom.2.2.1; omega, by have := hroom.2.2.2; omega⟩
    have hsm2 := z_sm_map ad hsm
    have hpre : ∀ U : State, U.heap = H → s.WarmedH U.vm → z_Pc X ad D cA H.size (lv.reverse ++ []) w ((lv.reverse ++ []).map (z_v ad)).toArray U := fun U hU hW => z_pre (fun a ha => h0 a (Or.inr ha)) hP hK hD hS hA hZ hU hW
    have met2 := met ad D cA H.size
    have kk : ∀ (v9 : Option Value) (ad2 : Nat → Nat) (H1 : Heap) (locs1 : List Loc), (Sum.inl v : Option Value ⊕ Nat) = .inl v9 → z_ag w.2.1 ad ad2 → va_P D z_cl (z_ws ad2 cA w1) H1 → va_D A (z_ws ad2 cA w1) → va_S A s.heap H1 locs1 → W p l e R s m args below meth c H1 locs1 (cells + (w1.2.2.1 - w.2.2.1)) (slots + (w1.2.2.2.1 - w.2.2.2.1)) Q (F0 m (pc + 3) ls ((v9.map (z_v ad2)).toList ++ rest.map (z_v ad))) := by
      intro v9 ad2 H1 locs1 e9 hag hP1 hD1 hS1
      cases e9
      have hg := at2 ad2 H1 locs1 ls (cells + (w1.2.2.1 - w.2.2.1)) (slots + (w1.2.2.2.1 - w.2.2.2.1)) (z_ag_tr hn0 h0 hag) hP1 hD1 hS1 (by rw [z_lm_ag hag hl]; exact hlo) (by omega) (by omega)
      rw [z_toL, z_map_ag hag (fun v hv => hs v (List.mem_append_right _ hv))] at hg
      exact hg
    have kx : ∀ (E q : Nat) (ce : Cell) (ad2 : Nat → Nat) (H1 : Heap) (locs1 : List Loc), (Sum.inl v : Option Value ⊕ Nat) = .inr E → z_ag w.2.1 ad ad2 → va_P D z_cl (z_ws ad2 cA w1) H1 → va_D A (z_ws ad2 cA w1) → va_S A s.heap H1 locs1 → H1[q]? = some ce → ce.vm = .none → s.vm.findClass (z_xn E) = some ce.cls → vx_W p l e R s m args below meth c H1 locs1 (cells + (w1.2.2.1 - w.2.2.1)) (slots + (w1.2.2.2.1 - w.2.2.2.1)) Q (F0 m pc ls (rest.map (z_v ad))) q := fun _ _ _ _ _ _ e9 => nomatch e9
    have hlt : (lv.reverse ++ [] : List Value).length = cc := by simp [hll]
    by_cases hmh : z_mh a = []
    · have hcw := z_cw_eq ha hmh
      rw [← hmn] at hcw
      rcases hml1 with hm1 | hm1
      · exact z_callG (vx_runS ⟨hx, hb, hml, hown, hts⟩ met2 ⟨z_CB hts hdep (z_ml_le ha) hcw (z_wp_in hk3) (by rw [hmn]; exact z_wp_in hk2) hna (by rw [hmn]; exact hts _ (z_wp_in hm1)), by rw [hmn]; exact hts _ (z_wp_in hk1)⟩ ⟨z_Pc_blind, hpre⟩ rfl (by rw [List.length_map]; exact hlt) hlo.1 (z_map_rev ad lv rest) (lv_room hsm2) hd hrm) hD hS hA kk kx
      · exact z_callG (vx_runSN ⟨hx, hb, hml, hown, hts⟩ met2 ⟨z_CNB hts hdep (z_ml_le ha) hcw (z_wp_in hk3) (by rw [hmn]; exact z_wp_in hk2) hna (by rw [hmn]; exact z_link hZ (z_wb_in hm1)), by rw [hmn]; exact hts _ (z_wp_in hk1), trivial⟩ ⟨z_Pc_blind, hpre⟩ rfl (by rw [List.length_map]; exact hlt) hlo.1 (z_map_rev ad lv rest) (lv_room hsm2) hd hrm) hD hS hA kk kx
    · have hcw := z_cw_eqH ha hmh
      rw [← hmn] at hcw
      have hm1 : z_wp ps 0 (.methodLink (z_own y) n.toNat (z_mn a)) = true := by
        rcases hk4 with h9 | h9
        · exact absurd h9 hmh
        · exact h9
      exact z_callG (vx_runSX ⟨hx, hb, hml, hown, hts⟩ met2 (z_CSW hts hdep (z_ml_le ha) hcw (z_wp_in hk3) (by rw [hmn]; exact z_wp_in hk2) hna (by rw [hmn]; exact hts _ (z_wp_in hm1)) (by rw [hmn]; exact z_wp_in hk1)) ⟨z_Pc_blind, hpre⟩ rfl (by rw [List.length_map]; exact hlt) hlo.1 (z_map_rev ad lv rest) (lv_room hsm2) hd hrm) hD hS hA kk kx
  · obtain ⟨mo1, wf1, wr1, met⟩ := hC a (lv.reverse ++ []) w _ w1 hcall hw (fun v hv => hs v (List.mem_append_left _ (by simpa using hv)))
    obtain ⟨rfl, wr2⟩ := z_x_w h7
    refine ⟨mo1, wf1, wr2, fun ad H locs ls cells slots h0 hP hD hS hlo hc hsl => ?_⟩
    have q1 := mo1.2.2.1
    have q3 := mo1.2.2.2
    have hrm : cells + (w1.2.2.1 - w.2.2.1) ≤ R.cells ∧ slots + (w1.2.2.2.1 - w.2.2.2.1) ≤ R.slots := ⟨by have := hroom.2.2.1; omega, by have := hroom.2.2.2; omega⟩
    have hsm2 := z_sm_map ad hsm
    have hpre : ∀ U : State, U.heap = H → s.WarmedH U.vm → z_Pc X ad D cA H.size (lv.reverse ++ []) w ((lv.reverse ++ []).map (z_v ad)).toArray U := fun U hU hW => z_pre (fun a ha => h0 a (Or.inr ha)) hP hK hD hS hA hZ hU hW
    have met2 := met ad D cA H.size
    have kk : ∀ (v9 : Option Value) (ad2 : Nat → Nat) (H1 : Heap) (locs1 : List Loc), (Sum.inr E : Option Value ⊕ Nat) = .inl v9 → z_ag w.2.1 ad ad2 → va_P D z_cl (z_ws ad2 cA w1) H1 → va_D A (z_ws ad2 cA w1) → va_S A s.heap H1 locs1 → W p l e R s m args below meth c H1 locs1 (cells + (w1.2.2.1 - w.2.2.1)) (slots + (w1.2.2.2.1 - w.2.2.2.1)) Q (F0 m (pc + 3) ls ((v9.map (z_v ad2)).toList ++ rest.map (z_v ad))) := fun _ _ _ _ e9 => nomatch e9
    have kx : ∀ (E9 q : Nat) (ce : Cell) (ad2 : Nat → Nat) (H1 : Heap) (locs1 : List Loc), (Sum.inr E : Option Value ⊕ Nat) = .inr E9 → z_ag w.2.1 ad ad2 → va_P D z_cl (z_ws ad2 cA w1) H1 → va_D A (z_ws ad2 cA w1) → va_S A s.heap H1 locs1 → H1[q]? = some ce → ce.vm = .none → s.vm.findClass (z_xn E9) = some ce.cls → vx_W p l e R s m args below meth c H1 locs1 (cells + (w1.2.2.1 - w.2.2.1)) (slots + (w1.2.2.2.1 - w.2.2.2.1)) Q (F0 m pc ls (rest.map (z_v ad))) q := by
      intro E9 q ce ad2 H1 locs1 e9 hag hP1 hD1 hS1 hce hv hcl
      cases e9
      exact hexc E q ce ad2 H1 locs1 ls _ _ _ pc (z_ml y) _ h7 hce hv hcl (z_ag_tr hn0 h0 hag) hP1 hD1 hS1 hlo (by omega) (by omega)
    have hlt : (lv.reverse ++ [] : List Value).length = cc := by simp [hll]
    by_cases hmh : z_mh a = []
    · have hcw := z_cw_eq ha hmh
      rw [← hmn] at hcw
      rcases hml1 with hm1 | hm1
      · exact z_callG (vx_runS ⟨hx, hb, hml, hown, hts⟩ met2 ⟨z_CB hts hdep (z_ml_le ha) hcw (z_wp_in hk3) (by rw [hmn]; exact z_wp_in hk2) hna (by rw [hmn]; exact hts _ (z_wp_in hm1)), by rw [hmn]; exact hts _ (z_wp_in hk1)⟩ ⟨z_Pc_blind, hpre⟩ rfl (by rw [List.length_map]; exact hlt) hlo.1 (z_map_rev ad lv rest) (lv_room hsm2) hd hrm) hD hS hA kk kx
      · exact z_callG (vx_runSN ⟨hx, hb, hml, hown, hts⟩ met2 ⟨z_CNB hts hdep (z_ml_le ha) hcw (z_wp_in hk3) (by rw [hmn]; exact z_wp_in hk2) hna (by rw [hmn]; exact z_link hZ (z_wb_in hm1)), by rw [hmn]; exact hts _ (z_wp_in hk1), trivial⟩ ⟨z_Pc_blind, hpre⟩ rfl (by rw [List.length_map]; exact hlt) hlo.1 (z_map_rev ad lv rest) (lv_room hsm2) hd hrm) hD hS hA kk kx
    · have hcw := z_cw_eqH ha hmh
      rw [← hmn] at hcw
      have hm1 : z_wp ps 0 (.methodLink (z_own y) n.toNat (z_mn a)) = true := by
        rcases hk4 with h9 | h9
        · exact absurd h9 hmh
        · exact h9
      exact z_callG (vx_runSX ⟨hx, hb, hml, hown, hts⟩ met2 (z_CSW hts hdep (z_ml_le ha) hcw (z_wp_in hk3) (by rw [hmn]; exact z_wp_in hk2) hna (by rw [hmn]; exact hts _ (z_wp_in hm1)) (by rw [hmn]; exact z_wp_in hk1)) ⟨z_Pc_blind, hpre⟩ rfl (by rw [List.length_map]; exact hlt) hlo.1 (z_map_rev ad lv rest) (lv_room hsm2) hd hrm) hD hS hA kk kx
theorem zs_invokevirtual {X : ZX} {call : ZC} {p : Program} {l : Launch} {e : Env} {R : Room} {s : State} {m : MethodId} {args : Array Value} {below : List Frame} {meth : Method} {c : Code} {y : Nat} {ad0 : Nat → Nat} {D : va_G} {cA : Nat → ClassId} {A : Nat → Prop} {Q : State → Prop} {n0 mc ms dep : Nat} {r : Option Value ⊕ Nat} {w2 : ZW} (F : z_Fx X p l e R s m args below meth c y ad0 D cA A Q n0 mc ms r w2) {go : Nat → ZL → List Value → ZW → ZR} {nx : ZL → List Value → ZW → ZR} {pc a b cc d len : Nat} {n : Int} {ts : List (Int × Nat)} {lo : ZL} {st : List Value} {w : ZW} {ins : Instr} {ps : List Nat} (hC : z_Ct X l call dep) (hdep : dep + 4 ≤ R.frames ∧ 44 * dep + 114 ≤ R.locals) (hd : decode (z_mb y) pc = .ok (ins, len)) (hk : z_k_invokevirtual y pc len a b cc d n ts ins ps = true) (hgo : ∀ t lo st w, go t lo st w = some (r, w2) → z_Gd X p l e R s m args below meth c y ad0 D cA A Q n0 mc ms r w2 t lo st w) (hnx : ∀ lo st w, nx lo st w = some (r, w2) → z_Gd X p l e R s m args below meth c y ad0 D cA A Q n0 mc ms r w2 (pc + len) lo st w) (h : z_o_invokevirtual X call (z_mh y) go nx pc a b cc d n ts lo st w = some (r, w2)) : z_Gd X p l e R s m args below meth c y ad0 D cA A Q n0 mc ms r w2 pc lo st w := by
  obtain ⟨hx, hb, hml, hown, hts, hA, hK, hZ, hin, hroom, hret, hexc, hthr⟩ := F
  simp only [z_k_invokevirtual, Bool.and_eq_true, Bool.or_eq_true, decide_eq_true_eq] at hk
  obtain ⟨⟨⟨⟨⟨⟨⟨⟨⟨⟨⟨rfl, hlen⟩, ha⟩, hna⟩, hcd⟩, hml1⟩, hk1⟩, hk2⟩, hk3⟩, hk4⟩, hb13⟩, hcb, hmh⟩ := hk
  have hlen := z_beq_t hlen
  have ha := z_blt_t ha
  have hb13 := z_blt_t hb13
  subst hlen
  obtain ⟨lv, r0, rfl, hll, h4⟩ := z_take_some h
  obtain ⟨xx, rest, rfl, h5⟩ := z_r1_some h4
  obtain ⟨hok, h55⟩ := z_gd_some h5
  obtain ⟨hsm, h6⟩ := z_gd_some h55
  have hmn := z_mn2_eq ha
  have hcw := z_cw_eq ha hmh
  rw [← hmn] at hcw
  intro hn0 hw hl hs
  rcases z_ret_some h6 with ⟨v, w1, hcall, h7⟩ | ⟨E, w1, hcall, h7⟩
  · obtain ⟨mo1, wf1, wr1, met⟩ := hC a (.ref xx :: (lv.reverse ++ [])) w _ w1 hcall hw (z_wvs_cons (hs _ (List.mem_append_right _ List.mem_cons_self)) (fun v hv => hs v (List.mem_append_left _ (by simpa using hv))))
    have hvw : z_wvs w1.2.1 (v.toList ++ rest) := by
      cases v with
      | none => exact z_wvs_mono mo1.2.1 (fun v hv => hs v (List.mem_append_right _ (List.mem_cons_of_mem _ hv)))
      | some v => exact z_wvs_cons (wr1 v rfl) (z_wvs_mono mo1.2.1 (fun v hv => hs v (List.mem_append_right _ (List.mem_cons_of_mem _ hv))))
    obtain ⟨mo2, wf2, wr, at2⟩ := hnx _ _ _ h7 (Nat.le_trans hn0 mo1.2.1) wf1 (z_wlo_mono mo1.2.1 hl) hvw
    have q1 := mo1.2.2.1
    have q2 := mo2.2.2.1
    have q3 := mo1.2.2.2
    have q4 := mo2.2.2.2
    refine ⟨z_mo_tr mo1 mo2, wf2, wr, fun ad H locs ls cells slots h0 hP hD hS hlo hc hsl => ?_⟩
    have hrm : cells + (w1.2.2.1 - w.2.2.1) ≤ R.cells ∧ slots + (w1.2.2.2.1 - w.2.2.2.1) ≤ R.slots := ⟨by have := hroom.2.2.1; omega, by have := hroom.2.2.2; omega⟩
    have hsm2 := z_sm_map ad hsm
    have hpre : ∀ U : State, U.heap = H → s.WarmedH U.vm → z_Pc X ad D cA H.size (.ref xx :: (lv.reverse ++ [])) w ((.ref xx :: (lv.reverse ++ [])).map (z_v ad)).toArray U := fun U hU hW => z_pre (fun a ha => h0 a (Or.inr ha)) hP hK hD hS hA hZ hU hW
    have met2 := met ad D cA H.size
    have kk : ∀ (v9 : Option Value) (ad2 : Nat → Nat) (H1 : Heap) (locs1 : List Loc), (Sum.inl v : Option Value ⊕ Nat) = .inl v9 → z_ag w.2.1 ad ad2 → va_P D z_cl (z_ws ad2 cA w1) H1 → va_D A (z_ws ad2 cA w1) → va_S A s.heap H1 locs1 → W p l e R s m args below meth c H1 locs1 (cells + (w1.2.2.1 - w.2.2.1)) (slots + (w1.2.2.2.1 - w.2.2.2.1)) Q (F0 m (pc + 3) ls ((v9.map (z_v ad2)).toList ++ rest.map (z_v ad))) := by
      intro v9 ad2 H1 locs1 e9 hag hP1 hD1 hS1
      cases e9
      have hg := at2 ad2 H1 locs1 ls (cells + (w1.2.2.1 - w.2.2.1)) (slots + (w1.2.2.2.1 - w.2.2.2.1)) (z_ag_tr hn0 h0 hag) hP1 hD1 hS1 (by rw [z_lm_ag hag hl]; exact hlo) (by omega) (by omega)
      rw [z_toL, z_map_ag hag (fun v hv => hs v (List.mem_append_right _ (List.mem_cons_of_mem _ hv)))] at hg
      exact hg
    have kx : ∀ (E q : Nat) (ce : Cell) (ad2 : Nat → Nat) (H1 : Heap) (locs1 : List Loc), (Sum.inl v : Option Value ⊕ Nat) = .inr E → z_ag w.2.1 ad ad2 → va_P D z_cl (z_ws ad2 cA w1) H1 → va_D A (z_ws ad2 cA w1) → va_S A s.heap H1 locs1 → H1[q]? = some ce → ce.vm = .none → s.vm.findClass (z_xn E) = some ce.cls → vx_W p l e R s m args below meth c H1 locs1 (cells + (w1.2.2.1 - w.2.2.1)) (slots + (w1.2.2.2.1 - w.2.2.2.1)) Q (F0 m pc ls (rest.map (z_v ad))) q := fun _ _ _ _ _ _ e9 => nomatch e9
    have hst : (lv ++ .ref xx :: rest).map (z_v ad) = ((lv.reverse ++ []).map (z_v ad)).reverse ++ .ref (ad xx) :: rest.map (z_v ad) := z_map_rev ad lv (.ref xx :: rest)
    have hlt : (lv.reverse ++ [] : List Value).length = cc := by simp [hll]
    obtain ⟨hxn, hxk⟩ := z_ok_kd hw hok
    have he : (z_ws ad cA w)[xx]? = some (ad xx, .inr (b, z_fs ad b (z_I w xx) (z_L w xx) (z_R w xx))) := by rw [z_ws_at hxn, z_e_obj hxk hb13]
    have hrec : ∃ cell : Cell, H[ad xx]? = some cell ∧ cell.vm.isStatics = false ∧ s.vm.findClass (z_mn2 a).cls = some cell.cls := by
      have h9 := va_recv hK hP (z_cl_at hb13) he
      rw [hmn, ← hcb]
      exact h9
    rcases hml1 with hm1 | hm1
    · exact z_callG (vx_runV ⟨hx, hb, hml, hown, hts⟩ met2 ⟨z_CB hts hdep (z_ml_le ha) hcw (z_wp_in hk4) (by rw [hmn]; exact z_wp_in hk3) hna (by rw [hmn]; exact hts _ (z_wp_in hm1)), by rw [hmn]; exact hts _ (z_wp_in hk1), by rw [hmn]; exact hts _ (z_wp_in hk2)⟩ ⟨z_Pc_blind, hrec, hpre⟩ rfl (by rw [List.length_map]; exact hlt) hlo.1 hst (lv_room hsm2) hd hrm) hD hS hA kk kx
    · exact z_callG (vx_runVN ⟨hx, hb, hml, hown, hts⟩ met2 ⟨z_CNB hts hdep (z_ml_le ha) hcw (z_wp_in hk4) (by rw [hmn]; exact z_wp_in hk3) hna (by rw [hmn]; exact z_link hZ (z_wb_in hm1)), by rw [hmn]; exact hts _ (z_wp_in hk1), by rw [hmn]; exact hts _ (z_wp_in hk2)⟩ ⟨z_Pc_blind, hrec, hpre⟩ rfl (by rw [List.length_map]; exact hlt) hlo.1 hst (lv_room hsm2) hd hrm) hD hS hA kk kx
  · obtain ⟨mo1, wf1, wr1, met⟩ := hC a (.ref xx :: (lv.reverse ++ [])) w _ w1 hcall hw (z_wvs_cons (hs _ (List.mem_append_right _ List.mem_cons_self)) (fun v hv => hs v (List.mem_append_left _ (by simpa using hv))))
    obtain ⟨rfl, wr2⟩ := z_x_w h7
    refine ⟨mo1, wf1, wr2, fun ad H locs ls cells slots h0 hP hD hS hlo hc hsl => ?_⟩
    have q1 := mo1.2.2.1
    have q3 := mo1.2.2.2
    have hrm : cells + (w1.2.2.1 - w.2.2.1) ≤ R.cells ∧ slots + (w1.2.2.2.1 - w.2.2.2.1) ≤ R.slots := ⟨by have := hroom.2.2.1; omega, by have := hroom.2.2.2; omega⟩
    have hsm2 := z_sm_map ad hsm
    have hpre : ∀ U : State, U.heap = H → s.WarmedH U.vm → z_Pc X ad D cA H.size (.ref xx :: (lv.reverse ++ [])) w ((.ref xx :: (lv.reverse ++ [])).map (z_v ad)).toArray U := fun U hU hW => z_pre (fun a ha => h0 a (Or.inr ha)) hP hK hD hS hA hZ hU hW
    have met2 := met ad D cA H.size
    have kk : ∀ (v9 : Option Value) (ad2 : Nat → Nat) (H1 : Heap) (locs1 : List Loc), (Sum.inr E : Option Value ⊕ Nat) = .inl v9 → z_ag w.2.1 ad ad2 → va_P D z_cl (z_ws ad2 cA w1) H1 → va_D A (z_ws ad2 cA w1) → va_S A s.heap H1 locs1 → W p l e R s m args below meth c H1 locs1 (cells + (w1.2.2.1 - w.2.2.1)) (slots + (w1.2.2.2.1 - w.2.2.2.1)) Q (F0 m (pc + 3) ls ((v9.map (z_v ad2)).toList ++ rest.map (z_v ad))) := fun _ _ _ _ e9 => nomatch e9
    have kx : ∀ (E9 q : Nat) (ce : Cell) (ad2 : Nat → Nat) (H1 : Heap) (locs1 : List Loc), (Sum.inr E : Option Value ⊕ Nat) = .inr E9 → z_ag w.2.1 ad ad2 → va_P D z_cl (z_ws ad2 cA w1) H1 → va_D A (z_ws ad2 cA w1) → va_S A s.heap H1 locs1 → H1[q]? = some ce → ce.vm = .none → s.vm.findClass (z_xn E9) = some ce.cls → vx_W p l e R s m args below meth c H1 locs1 (cells + (w1.2.2.1 - w.2.2.1)) (slots + (w1.2.2.2.1 - w.2.2.2.1)) Q (F0 m pc ls (rest.map (z_v ad))) q := by
      intro E9 q ce ad2 H1 locs1 e9 hag hP1 hD1 hS1 hce hv hcl
      cases e9
      exact hexc E q ce ad2 H1 locs1 ls _ _ _ pc (z_ml y) _ h7 hce hv hcl (z_ag_tr hn0 h0 hag) hP1 hD1 hS1 hlo (by omega) (by omega)
    have hst : (lv ++ .ref xx :: rest).map (z_v ad) = ((lv.reverse ++ []).map (z_v ad)).reverse ++ .ref (ad xx) :: rest.map (z_v ad) := z_map_rev ad lv (.ref xx :: rest)
    have hlt : (lv.reverse ++ [] : List Value).length = cc := by simp [hll]
    obtain ⟨hxn, hxk⟩ := z_ok_kd hw hok
    have he : (z_ws ad cA w)[xx]? = some (ad xx, .inr (b, z_fs ad b (z_I w xx) (z_L w xx) (z_R w xx))) := by rw [z_ws_at hxn, z_e_obj hxk hb13]
    have hrec : ∃ cell : Cell, H[ad xx]? = some cell ∧ cell.vm.isStatics = false ∧ s.vm.findClass (z_mn2 a).cls = some cell.cls := by
      have h9 := va_recv hK hP (z_cl_at hb13) he
      rw [hmn, ← hcb]
      exact h9
    rcases hml1 with hm1 | hm1
    · exact z_callG (vx_runV ⟨hx, hb, hml, hown, hts⟩ met2 ⟨z_CB hts hdep (z_ml_le ha) hcw (z_wp_in hk4) (by rw [hmn]; exact z_wp_in hk3) hna (by rw [hmn]; exact hts _ (z_wp_in hm1)), by rw [hmn]; exact hts _ (z_wp_in hk1), by rw [hmn]; exact hts _ (z_wp_in hk2)⟩ ⟨z_Pc_blind, hrec, hpre⟩ rfl (by rw [List.length_map]; exact hlt) hlo.1 hst (lv_room hsm2) hd hrm) hD hS hA kk kx
    · exact z_callG (vx_runVN ⟨hx, hb, hml, hown, hts⟩ met2 ⟨z_CNB hts hdep (z_ml_le ha) hcw (z_wp_in hk4) (by rw [hmn]; exact z_wp_in hk3) hna (by rw [hmn]; exact z_link hZ (z_wb_in hm1)), by rw [hmn]; exact hts _ (z_wp_in hk1), by rw [hmn]; exact hts _ (z_wp_in hk2)⟩ ⟨z_Pc_blind, hrec, hpre⟩ rfl (by rw [List.length_map]; exact hlt) hlo.1 hst (lv_room hsm2) hd hrm) hD hS hA kk kx
theorem zs_invokespecial {X : ZX} {call : ZC} {p : Program} {l : Launch} {e : Env} {R : Room} {s : State} {m : MethodId} {args : Array Value} {below : List Frame} {meth : Method} {c : Code} {y : Nat} {ad0 : Nat → Nat} {D : va_G} {cA : Nat → ClassId} {A : Nat → Prop} {Q : State → Prop} {n0 mc ms dep : Nat} {r : Option Value ⊕ Nat} {w2 : ZW} (F : z_Fx X p l e R s m args below meth c y ad0 D cA A Q n0 mc ms r w2) {go : Nat → ZL → List Value → ZW → ZR} {nx : ZL → List Value → ZW → ZR} {pc a b cc d len : Nat} {n : Int} {ts : List (Int × Nat)} {lo : ZL} {st : List Value} {w : ZW} {ins : Instr} {ps : List Nat} (hC : z_Ct X l call dep) (hdep : dep + 4 ≤ R.frames ∧ 44 * dep + 114 ≤ R.locals) (hd : decode (z_mb y) pc = .ok (ins, len)) (hk : z_k_invokespecial y pc len a b cc d n ts ins ps = true) (hgo : ∀ t lo st w, go t lo st w = some (r, w2) → z_Gd X p l e R s m args below meth c y ad0 D cA A Q n0 mc ms r w2 t lo st w) (hnx : ∀ lo st w, nx lo st w = some (r, w2) → z_Gd X p l e R s m args below meth c y ad0 D cA A Q n0 mc ms r w2 (pc + len) lo st w) (h : z_o_invokespecial X call (z_mh y) go nx pc a b cc d n ts lo st w = some (r, w2)) : z_Gd X p l e R s m args below meth c y ad0 D cA A Q n0 mc ms r w2 pc lo st w := by
  obtain ⟨hx, hb, hml, hown, hts, hA, hK, hZ, hin, hroom, hret, hexc, hthr⟩ := F
  simp only [z_k_invokespecial, Bool.and_eq_true, Bool.or_eq_true, decide_eq_true_eq] at hk
  obtain ⟨⟨⟨⟨⟨⟨⟨⟨⟨rfl, hlen⟩, ha⟩, hna⟩, hcd⟩, hml1⟩, hk1⟩, hk3⟩, hk4⟩, hini, hmh, hmr⟩ := hk
  have hlen := z_beq_t hlen
  have ha := z_blt_t ha
  subst hlen
  obtain ⟨lv, r0, rfl, hll, h4⟩ := z_take_some h
  obtain ⟨xx, rest, rfl, h5⟩ := z_r1_some h4
  obtain ⟨hsm, h6⟩ := z_gd_some h5
  have hmn := z_mn2_eq ha
  have hcw := z_cw_eq ha hmh
  rw [← hmn, hmr] at hcw
  intro hn0 hw hl hs
  rcases z_ret_some h6 with ⟨v, w1, hcall, h7⟩ | ⟨E, w1, hcall, h7⟩
  · obtain ⟨mo1, wf1, wr1, met⟩ := hC a (.ref xx :: (lv.reverse ++ [])) w _ w1 hcall hw (z_wvs_cons (hs _ (List.mem_append_right _ List.mem_cons_self)) (fun v hv => hs v (List.mem_append_left _ (by simpa using hv))))
    have hvw : z_wvs w1.2.1 (v.toList ++ rest) := by
      cases v with
      | none => exact z_wvs_mono mo1.2.1 (fun v hv => hs v (List.mem_append_right _ (List.mem_cons_of_mem _ hv)))
      | some v => exact z_wvs_cons (wr1 v rfl) (z_wvs_mono mo1.2.1 (fun v hv => hs v (List.mem_append_right _ (List.mem_cons_of_mem _ hv))))
    obtain ⟨mo2, wf2, wr, at2⟩ := hnx _ _ _ h7 (Nat.le_trans hn0 mo1.2.1) wf1 (z_wlo_mono mo1.2.1 hl) hvw
    have q1 := mo1.2.2.1
    have q2 := mo2.2.2.1
    have q3 := mo1.2.2.2
    have q4 := mo2.2.2.2
    refine ⟨z_mo_tr mo1 mo2, wf2, wr, fun ad H locs ls cells slots h0 hP hD hS hlo hc hsl => ?_⟩
    have hrm : cells + (w1.2.2.1 - w.2.2.1) ≤ R.cells ∧ slots + (w1.2.2.2.1 - w.2.2.2.1) ≤ R.slots := ⟨by have := hroom.2.2.1; omega, by have := hroom.2.2.2; omega⟩
    have hsm2 := z_sm_map ad hsm
    have hpre : ∀ U : State, U.heap = H → s.WarmedH U.vm → z_Pc X ad D cA H.size (.ref xx :: (lv.reverse ++ [])) w ((.ref xx :: (lv.reverse ++ [])).map (z_v ad)).toArray U := fun U hU hW => z_pre (fun a ha => h0 a (Or.inr ha)) hP hK hD hS hA hZ hU hW
    have met2 := met ad D cA H.size
    have kk : ∀ (v9 : Option Value) (ad2 : Nat → Nat) (H1 : Heap) (locs1 : List Loc), (Sum.inl v : Option Value ⊕ Nat) = .inl v9 → z_ag w.2.1 ad ad2 → va_P D z_cl (z_ws ad2 cA w1) H1 → va_D A (z_ws ad2 cA w1) → va_S A s.heap H1 locs1 → W p l e R s m args below meth c H1 locs1 (cells + (w1.2.2.1 - w.2.2.1)) (slots + (w1.2.2.2.1 - w.2.2.2.1)) Q (F0 m (pc + 3) ls ((v9.map (z_v ad2)).toList ++ rest.map (z_v ad))) := by
      intro v9 ad2 H1 locs1 e9 hag hP1 hD1 hS1
      cases e9
      have hg := at2 ad2 H1 locs1 ls (cells + (w1.2.2.1 - w.2.2.1)) (slots + (w1.2.2.2.1 - w.2.2.2.1)) (z_ag_tr hn0 h0 hag) hP1 hD1 hS1 (by rw [z_lm_ag hag hl]; exact hlo) (by omega) (by omega)
      rw [z_toL, z_map_ag hag (fun v hv => hs v (List.mem_append_right _ (List.mem_cons_of_mem _ hv)))] at hg
      exact hg
    have kx : ∀ (E q : Nat) (ce : Cell) (ad2 : Nat → Nat) (H1 : Heap) (locs1 : List Loc), (Sum.inl v : Option Value ⊕ Nat) = .inr E → z_ag w.2.1 ad ad2 → va_P D z_cl (z_ws ad2 cA w1) H1 → va_D A (z_ws ad2 cA w1) → va_S A s.heap H1 locs1 → H1[q]? = some ce → ce.vm = .none → s.vm.findClass (z_xn E) = some ce.cls → vx_W p l e R s m args below meth c H1 locs1 (cells + (w1.2.2.1 - w.2.2.1)) (slots + (w1.2.2.2.1 - w.2.2.2.1)) Q (F0 m pc ls (rest.map (z_v ad))) q := fun _ _ _ _ _ _ e9 => nomatch e9
    have hst : (lv ++ .ref xx :: rest).map (z_v ad) = ((lv.reverse ++ []).map (z_v ad)).reverse ++ .ref (ad xx) :: rest.map (z_v ad) := z_map_rev ad lv (.ref xx :: rest)
    have hlt : (lv.reverse ++ [] : List Value).length = cc := by simp [hll]
    rcases hml1 with hm1 | hm1
    · exact z_callG (vx_runI ⟨hx, hb, hml, hown, hts⟩ met2 ⟨z_CB hts hdep (z_ml_le ha) hcw (z_wp_in hk4) (by rw [hmn]; exact z_wp_in hk3) hna (by rw [hmn]; exact hts _ (z_wp_in hm1)), by rw [hmn]; exact hini, by rw [hmn]; exact hts _ (z_wp_in hk1)⟩ ⟨z_Pc_blind, hpre⟩ rfl (by rw [List.length_map]; exact hlt) hlo.1 hst (lv_room hsm2) hd hrm) hD hS hA kk kx
    · exact z_callG (vx_runIN ⟨hx, hb, hml, hown, hts⟩ met2 ⟨z_CNB hts hdep (z_ml_le ha) hcw (z_wp_in hk4) (by rw [hmn]; exact z_wp_in hk3) hna (by rw [hmn]; exact z_link hZ (z_wb_in hm1)), by rw [hmn]; exact hini, by rw [hmn]; exact hts _ (z_wp_in hk1)⟩ ⟨z_Pc_blind, hpre⟩ rfl (by rw [List.length_map]; exact hlt) hlo.1 hst (lv_room hsm2) hd hrm) hD hS hA kk kx
  · obtain ⟨mo1, wf1, wr1, met⟩ := hC a (.ref xx :: (lv.reverse ++ [])) w _ w1 hcall hw (z_wvs_cons (hs _ (List.mem_append_right _ List.mem_cons_self)) (fun v hv => hs v (List.mem_append_left _ (by simpa using hv))))
    obtain ⟨rfl, wr2⟩ := z_x_w h7
    refine ⟨mo1, wf1, wr2, fun ad H locs ls cells slots h0 hP hD hS hlo hc hsl => ?_⟩
    have q1 := mo1.2.2.1
    have q3 := mo1.2.2.2
    have hrm : cells + (w1.2.2.1 - w.2.2.1) ≤ R.cells ∧ slots + (w1.2.2.2.1 - w.2.2.2.1) ≤ R.slots := ⟨by have := hroom.2.2.1; omega, by have := hroom.2.2.2; omega⟩
    have hsm2 := z_sm_map ad hsm
    have hpre : ∀ U : State, U.heap = H → s.WarmedH U.vm → z_Pc X ad D cA H.size (.ref xx :: (lv.reverse ++ [])) w ((.ref xx :: (lv.reverse ++ [])).map (z_v ad)).toArray U := fun U hU hW => z_pre (fun a ha => h0 a (Or.inr ha)) hP hK hD hS hA hZ hU hW
    have met2 := met ad D cA H.size
    have kk : ∀ (v9 : Option Value) (ad2 : Nat → Nat) (H1 : Heap) (locs1 : List Loc), (Sum.inr E : Option Value ⊕ Nat) = .inl v9 → z_ag w.2.1 ad ad2 → va_P D z_cl (z_ws ad2 cA w1) H1 → va_D A (z_ws ad2 cA w1) → va_S A s.heap H1 locs1 → W p l e R s m args below meth c H1 locs1 (cells + (w1.2.2.1 - w.2.2.1)) (slots + (w1.2.2.2.1 - w.2.2.2.1)) Q (F0 m (pc + 3) ls ((v9.map (z_v ad2)).toList ++ rest.map (z_v ad))) := fun _ _ _ _ e9 => nomatch e9
    have kx : ∀ (E9 q : Nat) (ce : Cell) (ad2 : Nat → Nat) (H1 : Heap) (locs1 : List Loc), (Sum.inr E : Option Value ⊕ Nat) = .inr E9 → z_ag w.2.1 ad ad2 → va_P D z_cl (z_ws ad2 cA w1) H1 → va_D A (z_ws ad2 cA w1) → va_S A s.heap H1 locs1 → H1[q]? = some ce → ce.vm = .none → s.vm.findClass (z_xn E9) = some ce.cls → vx_W p l e R s m args below meth c H1 locs1 (cells + (w1.2.2.1 - w.2.2.1)) (slots + (w1.2.2.2.1 - w.2.2.2.1)) Q (F0 m pc ls (rest.map (z_v ad))) q := by
      intro E9 q ce ad2 H1 locs1 e9 hag hP1 hD1 hS1 hce hv hcl
      cases e9
      exact hexc E q ce ad2 H1 locs1 ls _ _ _ pc (z_ml y) _ h7 hce hv hcl (z_ag_tr hn0 h0 hag) hP1 hD1 hS1 hlo (by omega) (by omega)
    have hst : (lv ++ .ref xx :: rest).map (z_v ad) = ((lv.reverse ++ []).map (z_v ad)).reverse ++ .ref (ad xx) :: rest.map (z_v ad) := z_map_rev ad lv (.ref xx :: rest)
    have hlt : (lv.reverse ++ [] : List Value).length = cc := by simp [hll]
    rcases hml1 with hm1 | hm1
    · exact z_callG (vx_runI ⟨hx, hb, hml, hown, hts⟩ met2 ⟨z_CB hts hdep (z_ml_le ha) hcw (z_wp_in hk4) (by rw [hmn]; exact z_wp_in hk3) hna (by rw [hmn]; exact hts _ (z_wp_in hm1)), by rw [hmn]; exact hini, by rw [hmn]; exact hts _ (z_wp_in hk1)⟩ ⟨z_Pc_blind, hpre⟩ rfl (by rw [List.length_map]; exact hlt) hlo.1 hst (lv_room hsm2) hd hrm) hD hS hA kk kx
    · exact z_callG (vx_runIN ⟨hx, hb, hml, hown, hts⟩ met2 ⟨z_CNB hts hdep (z_ml_le ha) hcw (z_wp_in hk4) (by rw [hmn]; exact z_wp_in hk3) hna (by rw [hmn]; exact z_link hZ (z_wb_in hm1)), by rw [hmn]; exact hini, by rw [hmn]; exact hts _ (z_wp_in hk1)⟩ ⟨z_Pc_blind, hpre⟩ rfl (by rw [List.length_map]; exact hlt) hlo.1 hst (lv_room hsm2) hd hrm) hD hS hA kk kx
theorem zs_strcall {X : ZX} {call : ZC} {p : Program} {l : Launch} {e : Env} {R : Room} {s : State} {m : MethodId} {args : Array Value} {below : List Frame} {meth : Method} {c : Code} {y : Nat} {ad0 : Nat → Nat} {D : va_G} {cA : Nat → ClassId} {A : Nat → Prop} {Q : State → Prop} {n0 mc ms dep : Nat} {r : Option Value ⊕ Nat} {w2 : ZW} (F : z_Fx X p l e R s m args below meth c y ad0 D cA A Q n0 mc ms r w2) {go : Nat → ZL → List Value → ZW → ZR} {nx : ZL → List Value → ZW → ZR} {pc a b cc d len : Nat} {n : Int} {ts : List (Int × Nat)} {lo : ZL} {st : List Value} {w : ZW} {ins : Instr} {ps : List Nat} (hC : z_Ct X l call dep) (hdep : dep + 4 ≤ R.frames ∧ 44 * dep + 114 ≤ R.locals) (hd : decode (z_mb y) pc = .ok (ins, len)) (hk : z_k_strcall y pc len a b cc d n ts ins ps = true) (hgo : ∀ t lo st w, go t lo st w = some (r, w2) → z_Gd X p l e R s m args below meth c y ad0 D cA A Q n0 mc ms r w2 t lo st w) (hnx : ∀ lo st w, nx lo st w = some (r, w2) → z_Gd X p l e R s m args below meth c y ad0 D cA A Q n0 mc ms r w2 (pc + len) lo st w) (h : z_o_strcall X call (z_mh y) go nx pc a b cc d n ts lo st w = some (r, w2)) : z_Gd X p l e R s m args below meth c y ad0 D cA A Q n0 mc ms r w2 pc lo st w := by
  exact absurd (show (none : ZR) = some (r, w2) from h) (fun q => by cases q)
