/-! SOUND, 2: each operation, by the rows of the kit -/
/-- constants of the launch, at their addresses: the words, the statics, the row of the bend, the script, the text -/
def z_K (X : ZX) (bB bX bS bE : Nat) (A : Nat → Prop) (U : State) (H : Heap) : Prop :=
  (∀ w ∈ z_B, w.before #[] U = true) ∧ True ∧ True ∧
  va_Z "RollMill" "BEND" "[I" (.ref bB) A U H ∧ va_T .int bB 5 (fun j => .int (z_bend j)) A U H ∧
  va_Z "java/util/ArrayList" "DEFAULTCAPACITY_EMPTY_ELEMENTDATA" "[Ljava/lang/Object;" (.ref bE) A U H ∧ va_T (.object "java/lang/Object") bE 0 (fun _ => .null) A U H ∧
  va_T .int bX X.1 (fun j => .int (X.2 j)) A U H ∧ bS = z_mny X
theorem z_kl_x {X : ZX} {bB bX bS bE : Nat} {A : Nat → Prop} {U : State} {H : Heap} (h : z_K X bB bX bS bE A U H) {ad : Nat → Nat} (hb : ad 1002 = bS) (a : Nat) : z_kl ad a = z_kx X a := by
  unfold z_kl z_kx
  rw [hb, h.2.2.2.2.2.2.2.2]
theorem z_bw_same {w : Cond} (hw : z_bk w = true) {u U : State} (hv : u.vm = U.vm) (h : w.before #[] u = true) : w.before #[] U = true := by
  unfold z_bk at hw
  split at hw
  · exact va_Nw.same rfl hv h
  · exact va_Nw.same rfl hv h
  · exact va_Nw.same rfl hv h
  · exact va_Nw.same rfl hv h
  · exact va_AO.moved (by rw [hv]; exact Vm.Alike.refl U.vm) h
  · cases hw
theorem z_bw_warm {w : Cond} (hw : z_bk w = true) {s U : State} (hW : s.WarmedH U.vm) (h : w.before #[] s = true) : w.before #[] U = true := by
  unfold z_bk at hw
  split at hw
  · exact va_Nw.warmF hW h
  · exact va_Nw.warmM hW h
  · exact va_Nw.warmC hW h
  · exact va_Nw.warmD hW h
  · exact va_AO.moved hW.alike h
  · cases hw
theorem z_bw_use {w : Cond} (hw : z_bk w = true) {A : Array Value} {U : State} (h : w.before #[] U = true) : w.before A U = true := by
  unfold z_bk at hw
  split at hw
  · exact va_Nw.use rfl h
  · exact va_Nw.use rfl h
  · exact va_Nw.use rfl h
  · exact va_Nw.use rfl h
  · exact va_AO.use h
  · cases hw
theorem z_K.go {X : ZX} {bB bX bS bE : Nat} {A B : Nat → Prop} {s U : State} {H : Heap} {locs : List Loc} (h : z_K X bB bX bS bE A s s.heap) (hS : va_S A s.heap H locs) (hB : ∀ q, B q → A q) (hW : s.WarmedH U.vm) (hU : U.heap = H) : z_K X bB bX bS bE B U U.heap := by
  obtain ⟨h1, h2, h3, h4, h5, h6, h7, h8, h9⟩ := h
  have hk := hS.2.1
  have ha := hW.alike
  rw [hU]
  exact ⟨fun w hw => z_bw_warm (List.mem_filter.mp hw).2 hW (h1 w hw), trivial, trivial, ((h4.moved ha).kept hk).narrow hB, ((h5.moved ha).kept hk).narrow hB, ((h6.moved ha).kept hk).narrow hB, ((h7.moved ha).kept hk).narrow hB, ((h8.moved ha).kept hk).narrow hB, h9⟩
theorem z_K.same {X : ZX} {bB bX bS bE : Nat} {A : Nat → Prop} {s U : State} {H : Heap} (h : z_K X bB bX bS bE A s H) (hv : U.vm = s.vm) : z_K X bB bX bS bE A U H := by
  obtain ⟨h1, h2, h3, h4, h5, h6, h7, h8, h9⟩ := h
  have ha : s.vm.Alike U.vm := by rw [hv]; exact Vm.Alike.refl s.vm
  exact ⟨fun w hw => z_bw_same (List.mem_filter.mp hw).2 hv.symm (h1 w hw), trivial, trivial, h4.moved ha, h5.moved ha, h6.moved ha, h7.moved ha, h8.moved ha, h9⟩
/-- a place in the run of a method from which the machine comes to its end -/
def z_At (X : ZX) (p : Program) (l : Launch) (e : Env) (R : Room) (s : State) (m : MethodId) (args : Array Value) (below : List Frame) (meth : Method) (c : Code) (y : Nat) (ad0 : Nat → Nat) (D : va_G) (cA : Nat → ClassId) (A : Nat → Prop) (Q : State → Prop) (n0 mc ms : Nat) (r : Option Value ⊕ Nat) (w2 : ZW) (pc : Nat) (lo : ZL) (st : List Value) (w : ZW) : Prop :=
  ∀ (ad : Nat → Nat) (H : Heap) (locs : List Loc) (ls : Array Slot) (cells slots : Nat), z_ag n0 ad0 ad → va_P D z_cl (z_ws ad cA w) H → va_D A (z_ws ad cA w) → va_S A s.heap H locs → lv_has ls (z_ml y) (z_lm ad lo) →
    cells + (w2.2.2.1 - w.2.2.1) ≤ mc → slots + (w2.2.2.2.1 - w.2.2.2.1) ≤ ms → W p l e R s m args below meth c H locs cells slots Q (F0 m pc ls (st.map (z_v ad)))
def z_Gd (X : ZX) (p : Program) (l : Launch) (e : Env) (R : Room) (s : State) (m : MethodId) (args : Array Value) (below : List Frame) (meth : Method) (c : Code) (y : Nat) (ad0 : Nat → Nat) (D : va_G) (cA : Nat → ClassId) (A : Nat → Prop) (Q : State → Prop) (n0 mc ms : Nat) (r : Option Value ⊕ Nat) (w2 : ZW) (pc : Nat) (lo : ZL) (st : List Value) (w : ZW) : Prop :=
  n0 ≤ w.2.1 → z_wf w → z_wlo w.2.1 lo → z_wvs w.2.1 st → z_mo w w2 ∧ z_wf w2 ∧ z_wr r w2 ∧ z_At X p l e R s m args below meth c y ad0 D cA A Q n0 mc ms r w2 pc lo st w
/-- a return instruction, by the answer and the method's type -/
def z_ri (ins : Instr) (v : Option Value) (t : Option FieldType) : Prop :=
  (ins = .ireturn ∧ ∃ x, v = some (.int x) ∧ (t = some .int ∨ (t = some .boolean ∧ z_b1 x = true))) ∨ (ins = .lreturn ∧ ∃ x, v = some (.long x) ∧ t = some .long) ∨ (ins = .areturn ∧ ∃ a, v = some (.ref a) ∧ z_rk t = 3) ∨ (ins = .return_ ∧ v = none ∧ t = none)
/-- what stays in the run of a method -/
def z_Fx (X : ZX) (p : Program) (l : Launch) (e : Env) (R : Room) (s : State) (m : MethodId) (args : Array Value) (below : List Frame) (meth : Method) (c : Code) (y : Nat) (ad0 : Nat → Nat) (D : va_G) (cA : Nat → ClassId) (A : Nat → Prop) (Q : State → Prop) (n0 mc ms : Nat) (r : Option Value ⊕ Nat) (w2 : ZW) : Prop :=
  p.tables.exec = Jvm.exec ∧ c.code = z_mb y ∧ c.maxLocals = z_ml y ∧ s.vm.findClass (z_own y) = some m.cls ∧ (∀ w ∈ z_G, w.before args s = true) ∧ (∀ q, s.heap.size ≤ q → A q) ∧ va_K D z_cl (z_tys cA) s ∧ z_K X (ad0 1000) (ad0 1001) (ad0 1002) (ad0 1003) A s s.heap ∧ ((z_mn y).name = "<init>" → meth.name = "<init>") ∧
  (4 ≤ R.frames ∧ 114 ≤ R.locals ∧ mc ≤ R.cells ∧ ms ≤ R.slots) ∧
  (∀ (v : Option Value) (ad : Nat → Nat) (H : Heap) (locs : List Loc) (ls : Array Slot) (cells slots pc : Nat) (ins : Instr), r = .inl v → z_ri ins v (z_mr y) → decode (z_mb y) pc = .ok (ins, 1) → z_ag n0 ad0 ad → va_P D z_cl (z_ws ad cA w2) H → va_D A (z_ws ad cA w2) → va_S A s.heap H locs → cells ≤ mc → slots ≤ ms → W p l e R s m args below meth c H locs cells slots Q (F0 m pc ls ((v.map (z_v ad)).toList))) ∧
  (∀ (E q : Nat) (ce : Cell) (ad : Nat → Nat) (H : Heap) (locs : List Loc) (ls : Array Slot) (rest : List Value) (cells slots pc : Nat) (nL : Nat) (lv : List (Nat × Value)), z_x (z_mh y) pc E w2 = some (r, w2) → H[q]? = some ce → ce.vm = .none → s.vm.findClass (z_xn E) = some ce.cls → z_ag n0 ad0 ad → va_P D z_cl (z_ws ad cA w2) H → va_D A (z_ws ad cA w2) → va_S A s.heap H locs → lv_has ls (z_ml y) lv → cells ≤ mc → slots ≤ ms → vx_W p l e R s m args below meth c H locs cells slots Q (F0 m pc ls rest) q) ∧
  (∀ (E b d : Nat) (w : ZW) (ad : Nat → Nat) (H : Heap) (locs : List Loc) (ls : Array Slot) (rest : List Value) (cells slots pc len : Nat) (n : Int) (ts : List (Int × Nat)) (ps : List Nat) (lv : List (Nat × Value)), z_k_throw y pc len E b 0 d n ts (.new d) ps = true → decode (z_mb y) pc = .ok (.new d, 3) → r = .inr E → w2 = z_mx w → z_ag n0 ad0 ad → va_P D z_cl (z_ws ad cA w) H → va_D A (z_ws ad cA w) → va_S A s.heap H locs → lv_has ls (z_ml y) lv → (rest.map fun v => v.category).sum ≤ 100 → cells + 1 ≤ mc → slots + 6 ≤ ms → W p l e R s m args below meth c H locs cells slots Q (F0 m pc ls rest))

theorem zs_iadd {X : ZX} {call : ZC} {p : Program} {l : Launch} {e : Env} {R : Room} {s : State} {m : MethodId} {args : Array Value} {below : List Frame} {meth : Method} {c : Code} {y : Nat} {ad0 : Nat → Nat} {D : va_G} {cA : Nat → ClassId} {A : Nat → Prop} {Q : State → Prop} {n0 mc ms : Nat} {r : Option Value ⊕ Nat} {w2 : ZW} (F : z_Fx X p l e R s m args below meth c y ad0 D cA A Q n0 mc ms r w2) {hs : List ZH} {go : Nat → ZL → List Value → ZW → ZR} {nx : ZL → List Value → ZW → ZR} {pc a b cc d len : Nat} {n : Int} {ts : List (Int × Nat)} {lo : ZL} {st : List Value} {w : ZW} {ins : Instr} {ps : List Nat} (hd : decode (z_mb y) pc = .ok (ins, len)) (hk : z_k_iadd y pc len a b cc d n ts ins ps = true) (hgo : ∀ t lo st w, go t lo st w = some (r, w2) → z_Gd X p l e R s m args below meth c y ad0 D cA A Q n0 mc ms r w2 t lo st w) (hnx : ∀ lo st w, nx lo st w = some (r, w2) → z_Gd X p l e R s m args below meth c y ad0 D cA A Q n0 mc ms r w2 (pc + len) lo st w) (h : z_o_iadd X call hs go nx pc a b cc d n ts lo st w = some (r, w2)) : z_Gd X p l e R s m args below meth c y ad0 D cA A Q n0 mc ms r w2 pc lo st w := by
  obtain ⟨hx, hb, hml, hown, hts, hA, hK, hZ, hin, hroom, hret, hexc, hthr⟩ := F
  simp only [z_k_iadd, Bool.and_eq_true, decide_eq_true_eq] at hk
  obtain ⟨rfl, hlen⟩ := hk
  have hlen := z_beq_t hlen
  subst hlen
  obtain ⟨v1, v2, rest, rfl, h5⟩ := z_ii_some h
  have h := h5
  intro hn0 hw hl hs
  obtain ⟨mo, wf2, wr, at2⟩ := hnx _ _ _ h hn0 hw hl (z_wvs_i (z_wvs_tl (z_wvs_tl hs)))
  exact ⟨mo, wf2, wr, fun ad H locs ls cells slots h0 hP hD hS hlo hc hsl => lv_iadd hx hb hd (at2 ad H locs ls cells slots h0 hP hD hS hlo hc hsl)⟩
theorem zs_isub {X : ZX} {call : ZC} {p : Program} {l : Launch} {e : Env} {R : Room} {s : State} {m : MethodId} {args : Array Value} {below : List Frame} {meth : Method} {c : Code} {y : Nat} {ad0 : Nat → Nat} {D : va_G} {cA : Nat → ClassId} {A : Nat → Prop} {Q : State → Prop} {n0 mc ms : Nat} {r : Option Value ⊕ Nat} {w2 : ZW} (F : z_Fx X p l e R s m args below meth c y ad0 D cA A Q n0 mc ms r w2) {hs : List ZH} {go : Nat → ZL → List Value → ZW → ZR} {nx : ZL → List Value → ZW → ZR} {pc a b cc d len : Nat} {n : Int} {ts : List (Int × Nat)} {lo : ZL} {st : List Value} {w : ZW} {ins : Instr} {ps : List Nat} (hd : decode (z_mb y) pc = .ok (ins, len)) (hk : z_k_isub y pc len a b cc d n ts ins ps = true) (hgo : ∀ t lo st w, go t lo st w = some (r, w2) → z_Gd X p l e R s m args below meth c y ad0 D cA A Q n0 mc ms r w2 t lo st w) (hnx : ∀ lo st w, nx lo st w = some (r, w2) → z_Gd X p l e R s m args below meth c y ad0 D cA A Q n0 mc ms r w2 (pc + len) lo st w) (h : z_o_isub X call hs go nx pc a b cc d n ts lo st w = some (r, w2)) : z_Gd X p l e R s m args below meth c y ad0 D cA A Q n0 mc ms r w2 pc lo st w := by
  obtain ⟨hx, hb, hml, hown, hts, hA, hK, hZ, hin, hroom, hret, hexc, hthr⟩ := F
  simp only [z_k_isub, Bool.and_eq_true, decide_eq_true_eq] at hk
  obtain ⟨rfl, hlen⟩ := hk
  have hlen := z_beq_t hlen
  subst hlen
  obtain ⟨v1, v2, rest, rfl, h5⟩ := z_ii_some h
  have h := h5
  intro hn0 hw hl hs
  obtain ⟨mo, wf2, wr, at2⟩ := hnx _ _ _ h hn0 hw hl (z_wvs_i (z_wvs_tl (z_wvs_tl hs)))
  exact ⟨mo, wf2, wr, fun ad H locs ls cells slots h0 hP hD hS hlo hc hsl => lv_isub hx hb hd (at2 ad H locs ls cells slots h0 hP hD hS hlo hc hsl)⟩
theorem zs_imul {X : ZX} {call : ZC} {p : Program} {l : Launch} {e : Env} {R : Room} {s : State} {m : MethodId} {args : Array Value} {below : List Frame} {meth : Method} {c : Code} {y : Nat} {ad0 : Nat → Nat} {D : va_G} {cA : Nat → ClassId} {A : Nat → Prop} {Q : State → Prop} {n0 mc ms : Nat} {r : Option Value ⊕ Nat} {w2 : ZW} (F : z_Fx X p l e R s m args below meth c y ad0 D cA A Q n0 mc ms r w2) {hs : List ZH} {go : Nat → ZL → List Value → ZW → ZR} {nx : ZL → List Value → ZW → ZR} {pc a b cc d len : Nat} {n : Int} {ts : List (Int × Nat)} {lo : ZL} {st : List Value} {w : ZW} {ins : Instr} {ps : List Nat} (hd : decode (z_mb y) pc = .ok (ins, len)) (hk : z_k_imul y pc len a b cc d n ts ins ps = true) (hgo : ∀ t lo st w, go t lo st w = some (r, w2) → z_Gd X p l e R s m args below meth c y ad0 D cA A Q n0 mc ms r w2 t lo st w) (hnx : ∀ lo st w, nx lo st w = some (r, w2) → z_Gd X p l e R s m args below meth c y ad0 D cA A Q n0 mc ms r w2 (pc + len) lo st w) (h : z_o_imul X call hs go nx pc a b cc d n ts lo st w = some (r, w2)) : z_Gd X p l e R s m args below meth c y ad0 D cA A Q n0 mc ms r w2 pc lo st w := by
  obtain ⟨hx, hb, hml, hown, hts, hA, hK, hZ, hin, hroom, hret, hexc, hthr⟩ := F
  simp only [z_k_imul, Bool.and_eq_true, decide_eq_true_eq] at hk
  obtain ⟨rfl, hlen⟩ := hk
  have hlen := z_beq_t hlen
  subst hlen
  obtain ⟨v1, v2, rest, rfl, h5⟩ := z_ii_some h
  have h := h5
  intro hn0 hw hl hs
  obtain ⟨mo, wf2, wr, at2⟩ := hnx _ _ _ h hn0 hw hl (z_wvs_i (z_wvs_tl (z_wvs_tl hs)))
  exact ⟨mo, wf2, wr, fun ad H locs ls cells slots h0 hP hD hS hlo hc hsl => lv_imul hx hb hd (at2 ad H locs ls cells slots h0 hP hD hS hlo hc hsl)⟩
theorem zs_iand {X : ZX} {call : ZC} {p : Program} {l : Launch} {e : Env} {R : Room} {s : State} {m : MethodId} {args : Array Value} {below : List Frame} {meth : Method} {c : Code} {y : Nat} {ad0 : Nat → Nat} {D : va_G} {cA : Nat → ClassId} {A : Nat → Prop} {Q : State → Prop} {n0 mc ms : Nat} {r : Option Value ⊕ Nat} {w2 : ZW} (F : z_Fx X p l e R s m args below meth c y ad0 D cA A Q n0 mc ms r w2) {hs : List ZH} {go : Nat → ZL → List Value → ZW → ZR} {nx : ZL → List Value → ZW → ZR} {pc a b cc d len : Nat} {n : Int} {ts : List (Int × Nat)} {lo : ZL} {st : List Value} {w : ZW} {ins : Instr} {ps : List Nat} (hd : decode (z_mb y) pc = .ok (ins, len)) (hk : z_k_iand y pc len a b cc d n ts ins ps = true) (hgo : ∀ t lo st w, go t lo st w = some (r, w2) → z_Gd X p l e R s m args below meth c y ad0 D cA A Q n0 mc ms r w2 t lo st w) (hnx : ∀ lo st w, nx lo st w = some (r, w2) → z_Gd X p l e R s m args below meth c y ad0 D cA A Q n0 mc ms r w2 (pc + len) lo st w) (h : z_o_iand X call hs go nx pc a b cc d n ts lo st w = some (r, w2)) : z_Gd X p l e R s m args below meth c y ad0 D cA A Q n0 mc ms r w2 pc lo st w := by
  obtain ⟨hx, hb, hml, hown, hts, hA, hK, hZ, hin, hroom, hret, hexc, hthr⟩ := F
  simp only [z_k_iand, Bool.and_eq_true, decide_eq_true_eq] at hk
  obtain ⟨rfl, hlen⟩ := hk
  have hlen := z_beq_t hlen
  subst hlen
  obtain ⟨v1, v2, rest, rfl, h5⟩ := z_ii_some h
  have h := h5
  intro hn0 hw hl hs
  obtain ⟨mo, wf2, wr, at2⟩ := hnx _ _ _ h hn0 hw hl (z_wvs_i (z_wvs_tl (z_wvs_tl hs)))
  exact ⟨mo, wf2, wr, fun ad H locs ls cells slots h0 hP hD hS hlo hc hsl => lv_iand hx hb hd (at2 ad H locs ls cells slots h0 hP hD hS hlo hc hsl)⟩
theorem zs_ior {X : ZX} {call : ZC} {p : Program} {l : Launch} {e : Env} {R : Room} {s : State} {m : MethodId} {args : Array Value} {below : List Frame} {meth : Method} {c : Code} {y : Nat} {ad0 : Nat → Nat} {D : va_G} {cA : Nat → ClassId} {A : Nat → Prop} {Q : State → Prop} {n0 mc ms : Nat} {r : Option Value ⊕ Nat} {w2 : ZW} (F : z_Fx X p l e R s m args below meth c y ad0 D cA A Q n0 mc ms r w2) {hs : List ZH} {go : Nat → ZL → List Value → ZW → ZR} {nx : ZL → List Value → ZW → ZR} {pc a b cc d len : Nat} {n : Int} {ts : List (Int × Nat)} {lo : ZL} {st : List Value} {w : ZW} {ins : Instr} {ps : List Nat} (hd : decode (z_mb y) pc = .ok (ins, len)) (hk : z_k_ior y pc len a b cc d n ts ins ps = true) (hgo : ∀ t lo st w, go t lo st w = some (r, w2) → z_Gd X p l e R s m args below meth c y ad0 D cA A Q n0 mc ms r w2 t lo st w) (hnx : ∀ lo st w, nx lo st w = some (r, w2) → z_Gd X p l e R s m args below meth c y ad0 D cA A Q n0 mc ms r w2 (pc + len) lo st w) (h : z_o_ior X call hs go nx pc a b cc d n ts lo st w = some (r, w2)) : z_Gd X p l e R s m args below meth c y ad0 D cA A Q n0 mc ms r w2 pc lo st w := by
  obtain ⟨hx, hb, hml, hown, hts, hA, hK, hZ, hin, hroom, hret, hexc, hthr⟩ := F
  simp only [z_k_ior, Bool.and_eq_true, decide_eq_true_eq] at hk
  obtain ⟨rfl, hlen⟩ := hk
  have hlen := z_beq_t hlen
  subst hlen
  obtain ⟨v1, v2, rest, rfl, h5⟩ := z_ii_some h
  have h := h5
  intro hn0 hw hl hs
  obtain ⟨mo, wf2, wr, at2⟩ := hnx _ _ _ h hn0 hw hl (z_wvs_i (z_wvs_tl (z_wvs_tl hs)))
  exact ⟨mo, wf2, wr, fun ad H locs ls cells slots h0 hP hD hS hlo hc hsl => lv_ior hx hb hd (at2 ad H locs ls cells slots h0 hP hD hS hlo hc hsl)⟩
theorem zs_ixor {X : ZX} {call : ZC} {p : Program} {l : Launch} {e : Env} {R : Room} {s : State} {m : MethodId} {args : Array Value} {below : List Frame} {meth : Method} {c : Code} {y : Nat} {ad0 : Nat → Nat} {D : va_G} {cA : Nat → ClassId} {A : Nat → Prop} {Q : State → Prop} {n0 mc ms : Nat} {r : Option Value ⊕ Nat} {w2 : ZW} (F : z_Fx X p l e R s m args below meth c y ad0 D cA A Q n0 mc ms r w2) {hs : List ZH} {go : Nat → ZL → List Value → ZW → ZR} {nx : ZL → List Value → ZW → ZR} {pc a b cc d len : Nat} {n : Int} {ts : List (Int × Nat)} {lo : ZL} {st : List Value} {w : ZW} {ins : Instr} {ps : List Nat} (hd : decode (z_mb y) pc = .ok (ins, len)) (hk : z_k_ixor y pc len a b cc d n ts ins ps = true) (hgo : ∀ t lo st w, go t lo st w = some (r, w2) → z_Gd X p l e R s m args below meth c y ad0 D cA A Q n0 mc ms r w2 t lo st w) (hnx : ∀ lo st w, nx lo st w = some (r, w2) → z_Gd X p l e R s m args below meth c y ad0 D cA A Q n0 mc ms r w2 (pc + len) lo st w) (h : z_o_ixor X call hs go nx pc a b cc d n ts lo st w = some (r, w2)) : z_Gd X p l e R s m args below meth c y ad0 D cA A Q n0 mc ms r w2 pc lo st w := by
  obtain ⟨hx, hb, hml, hown, hts, hA, hK, hZ, hin, hroom, hret, hexc, hthr⟩ := F
  simp only [z_k_ixor, Bool.and_eq_true, decide_eq_true_eq] at hk
  obtain ⟨rfl, hlen⟩ := hk
  have hlen := z_beq_t hlen
  subst hlen
  obtain ⟨v1, v2, rest, rfl, h5⟩ := z_ii_some h
  have h := h5
  intro hn0 hw hl hs
  obtain ⟨mo, wf2, wr, at2⟩ := hnx _ _ _ h hn0 hw hl (z_wvs_i (z_wvs_tl (z_wvs_tl hs)))
  exact ⟨mo, wf2, wr, fun ad H locs ls cells slots h0 hP hD hS hlo hc hsl => lv_ixor hx hb hd (at2 ad H locs ls cells slots h0 hP hD hS hlo hc hsl)⟩
theorem zs_ishl {X : ZX} {call : ZC} {p : Program} {l : Launch} {e : Env} {R : Room} {s : State} {m : MethodId} {args : Array Value} {below : List Frame} {meth : Method} {c : Code} {y : Nat} {ad0 : Nat → Nat} {D : va_G} {cA : Nat → ClassId} {A : Nat → Prop} {Q : State → Prop} {n0 mc ms : Nat} {r : Option Value ⊕ Nat} {w2 : ZW} (F : z_Fx X p l e R s m args below meth c y ad0 D cA A Q n0 mc ms r w2) {hs : List ZH} {go : Nat → ZL → List Value → ZW → ZR} {nx : ZL → List Value → ZW → ZR} {pc a b cc d len : Nat} {n : Int} {ts : List (Int × Nat)} {lo : ZL} {st : List Value} {w : ZW} {ins : Instr} {ps : List Nat} (hd : decode (z_mb y) pc = .ok (ins, len)) (hk : z_k_ishl y pc len a b cc d n ts ins ps = true) (hgo : ∀ t lo st w, go t lo st w = some (r, w2) → z_Gd X p l e R s m args below meth c y ad0 D cA A Q n0 mc ms r w2 t lo st w) (hnx : ∀ lo st w, nx lo st w = some (r, w2) → z_Gd X p l e R s m args below meth c y ad0 D cA A Q n0 mc ms r w2 (pc + len) lo st w) (h : z_o_ishl X call hs go nx pc a b cc d n ts lo st w = some (r, w2)) : z_Gd X p l e R s m args below meth c y ad0 D cA A Q n0 mc ms r w2 pc lo st w := by
  obtain ⟨hx, hb, hml, hown, hts, hA, hK, hZ, hin, hroom, hret, hexc, hthr⟩ := F
  simp only [z_k_ishl, Bool.and_eq_true, decide_eq_true_eq] at hk
  obtain ⟨rfl, hlen⟩ := hk
  have hlen := z_beq_t hlen
  subst hlen
  obtain ⟨v1, v2, rest, rfl, h5⟩ := z_ii_some h
  have h := h5
  intro hn0 hw hl hs
  obtain ⟨mo, wf2, wr, at2⟩ := hnx _ _ _ h hn0 hw hl (z_wvs_i (z_wvs_tl (z_wvs_tl hs)))
  exact ⟨mo, wf2, wr, fun ad H locs ls cells slots h0 hP hD hS hlo hc hsl => lv_ishl hx hb hd (at2 ad H locs ls cells slots h0 hP hD hS hlo hc hsl)⟩
theorem zs_ishr {X : ZX} {call : ZC} {p : Program} {l : Launch} {e : Env} {R : Room} {s : State} {m : MethodId} {args : Array Value} {below : List Frame} {meth : Method} {c : Code} {y : Nat} {ad0 : Nat → Nat} {D : va_G} {cA : Nat → ClassId} {A : Nat → Prop} {Q : State → Prop} {n0 mc ms : Nat} {r : Option Value ⊕ Nat} {w2 : ZW} (F : z_Fx X p l e R s m args below meth c y ad0 D cA A Q n0 mc ms r w2) {hs : List ZH} {go : Nat → ZL → List Value → ZW → ZR} {nx : ZL → List Value → ZW → ZR} {pc a b cc d len : Nat} {n : Int} {ts : List (Int × Nat)} {lo : ZL} {st : List Value} {w : ZW} {ins : Instr} {ps : List Nat} (hd : decode (z_mb y) pc = .ok (ins, len)) (hk : z_k_ishr y pc len a b cc d n ts ins ps = true) (hgo : ∀ t lo st w, go t lo st w = some (r, w2) → z_Gd X p l e R s m args below meth c y ad0 D cA A Q n0 mc ms r w2 t lo st w) (hnx : ∀ lo st w, nx lo st w = some (r, w2) → z_Gd X p l e R s m args below meth c y ad0 D cA A Q n0 mc ms r w2 (pc + len) lo st w) (h : z_o_ishr X call hs go nx pc a b cc d n ts lo st w = some (r, w2)) : z_Gd X p l e R s m args below meth c y ad0 D cA A Q n0 mc ms r w2 pc lo st w := by
  obtain ⟨hx, hb, hml, hown, hts, hA, hK, hZ, hin, hroom, hret, hexc, hthr⟩ := F
  simp only [z_k_ishr, Bool.and_eq_true, decide_eq_true_eq] at hk
  obtain ⟨rfl, hlen⟩ := hk
  have hlen := z_beq_t hlen
  subst hlen
  obtain ⟨v1, v2, rest, rfl, h5⟩ := z_ii_some h
  have h := h5
  intro hn0 hw hl hs
  obtain ⟨mo, wf2, wr, at2⟩ := hnx _ _ _ h hn0 hw hl (z_wvs_i (z_wvs_tl (z_wvs_tl hs)))
  exact ⟨mo, wf2, wr, fun ad H locs ls cells slots h0 hP hD hS hlo hc hsl => lv_ishr hx hb hd (at2 ad H locs ls cells slots h0 hP hD hS hlo hc hsl)⟩
theorem zs_iushr {X : ZX} {call : ZC} {p : Program} {l : Launch} {e : Env} {R : Room} {s : State} {m : MethodId} {args : Array Value} {below : List Frame} {meth : Method} {c : Code} {y : Nat} {ad0 : Nat → Nat} {D : va_G} {cA : Nat → ClassId} {A : Nat → Prop} {Q : State → Prop} {n0 mc ms : Nat} {r : Option Value ⊕ Nat} {w2 : ZW} (F : z_Fx X p l e R s m args below meth c y ad0 D cA A Q n0 mc ms r w2) {hs : List ZH} {go : Nat → ZL → List Value → ZW → ZR} {nx : ZL → List Value → ZW → ZR} {pc a b cc d len : Nat} {n : Int} {ts : List (Int × Nat)} {lo : ZL} {st : List Value} {w : ZW} {ins : Instr} {ps : List Nat} (hd : decode (z_mb y) pc = .ok (ins, len)) (hk : z_k_iushr y pc len a b cc d n ts ins ps = true) (hgo : ∀ t lo st w, go t lo st w = some (r, w2) → z_Gd X p l e R s m args below meth c y ad0 D cA A Q n0 mc ms r w2 t lo st w) (hnx : ∀ lo st w, nx lo st w = some (r, w2) → z_Gd X p l e R s m args below meth c y ad0 D cA A Q n0 mc ms r w2 (pc + len) lo st w) (h : z_o_iushr X call hs go nx pc a b cc d n ts lo st w = some (r, w2)) : z_Gd X p l e R s m args below meth c y ad0 D cA A Q n0 mc ms r w2 pc lo st w := by
  obtain ⟨hx, hb, hml, hown, hts, hA, hK, hZ, hin, hroom, hret, hexc, hthr⟩ := F
  simp only [z_k_iushr, Bool.and_eq_true, decide_eq_true_eq] at hk
  obtain ⟨rfl, hlen⟩ := hk
  have hlen := z_beq_t hlen
  subst hlen
  obtain ⟨v1, v2, rest, rfl, h5⟩ := z_ii_some h
  have h := h5
  intro hn0 hw hl hs
  obtain ⟨mo, wf2, wr, at2⟩ := hnx _ _ _ h hn0 hw hl (z_wvs_i (z_wvs_tl (z_wvs_tl hs)))
  exact ⟨mo, wf2, wr, fun ad H locs ls cells slots h0 hP hD hS hlo hc hsl => lv_iushr hx hb hd rfl (at2 ad H locs ls cells slots h0 hP hD hS hlo hc hsl)⟩
theorem zs_ladd {X : ZX} {call : ZC} {p : Program} {l : Launch} {e : Env} {R : Room} {s : State} {m : MethodId} {args : Array Value} {below : List Frame} {meth : Method} {c : Code} {y : Nat} {ad0 : Nat → Nat} {D : va_G} {cA : Nat → ClassId} {A : Nat → Prop} {Q : State → Prop} {n0 mc ms : Nat} {r : Option Value ⊕ Nat} {w2 : ZW} (F : z_Fx X p l e R s m args below meth c y ad0 D cA A Q n0 mc ms r w2) {hs : List ZH} {go : Nat → ZL → List Value → ZW → ZR} {nx : ZL → List Value → ZW → ZR} {pc a b cc d len : Nat} {n : Int} {ts : List (Int × Nat)} {lo : ZL} {st : List Value} {w : ZW} {ins : Instr} {ps : List Nat} (hd : decode (z_mb y) pc = .ok (ins, len)) (hk : z_k_ladd y pc len a b cc d n ts ins ps = true) (hgo : ∀ t lo st w, go t lo st w = some (r, w2) → z_Gd X p l e R s m args below meth c y ad0 D cA A Q n0 mc ms r w2 t lo st w) (hnx : ∀ lo st w, nx lo st w = some (r, w2) → z_Gd X p l e R s m args below meth c y ad0 D cA A Q n0 mc ms r w2 (pc + len) lo st w) (h : z_o_ladd X call hs go nx pc a b cc d n ts lo st w = some (r, w2)) : z_Gd X p l e R s m args below meth c y ad0 D cA A Q n0 mc ms r w2 pc lo st w := by
  obtain ⟨hx, hb, hml, hown, hts, hA, hK, hZ, hin, hroom, hret, hexc, hthr⟩ := F
  simp only [z_k_ladd, Bool.and_eq_true, decide_eq_true_eq] at hk
  obtain ⟨rfl, hlen⟩ := hk
  have hlen := z_beq_t hlen
  subst hlen
  obtain ⟨v1, v2, rest, rfl, h5⟩ := z_ll_some h
  have h := h5
  intro hn0 hw hl hs
  obtain ⟨mo, wf2, wr, at2⟩ := hnx _ _ _ h hn0 hw hl (z_wvs_l (z_wvs_tl (z_wvs_tl hs)))
  exact ⟨mo, wf2, wr, fun ad H locs ls cells slots h0 hP hD hS hlo hc hsl => lv_ladd hx hb hd (at2 ad H locs ls cells slots h0 hP hD hS hlo hc hsl)⟩
theorem zs_lsub {X : ZX} {call : ZC} {p : Program} {l : Launch} {e : Env} {R : Room} {s : State} {m : MethodId} {args : Array Value} {below : List Frame} {meth : Method} {c : Code} {y : Nat} {ad0 : Nat → Nat} {D : va_G} {cA : Nat → ClassId} {A : Nat → Prop} {Q : State → Prop} {n0 mc ms : Nat} {r : Option Value ⊕ Nat} {w2 : ZW} (F : z_Fx X p l e R s m args below meth c y ad0 D cA A Q n0 mc ms r w2) {hs : List ZH} {go : Nat → ZL → List Value → ZW → ZR} {nx : ZL → List Value → ZW → ZR} {pc a b cc d len : Nat} {n : Int} {ts : List (Int × Nat)} {lo : ZL} {st : List Value} {w : ZW} {ins : Instr} {ps : List Nat} (hd : decode (z_mb y) pc = .ok (ins, len)) (hk : z_k_lsub y pc len a b cc d n ts ins ps = true) (hgo : ∀ t lo st w, go t lo st w = some (r, w2) → z_Gd X p l e R s m args below meth c y ad0 D cA A Q n0 mc ms r w2 t lo st w) (hnx : ∀ lo st w, nx lo st w = some (r, w2) → z_Gd X p l e R s m args below meth c y ad0 D cA A Q n0 mc ms r w2 (pc + len) lo st w) (h : z_o_lsub X call hs go nx pc a b cc d n ts lo st w = some (r, w2)) : z_Gd X p l e R s m args below meth c y ad0 D cA A Q n0 mc ms r w2 pc lo st w := by
  obtain ⟨hx, hb, hml, hown, hts, hA, hK, hZ, hin, hroom, hret, hexc, hthr⟩ := F
  simp only [z_k_lsub, Bool.and_eq_true, decide_eq_true_eq] at hk
  obtain ⟨rfl, hlen⟩ := hk
  have hlen := z_beq_t hlen
  subst hlen
  obtain ⟨v1, v2, rest, rfl, h5⟩ := z_ll_some h
  have h := h5
  intro hn0 hw hl hs
  obtain ⟨mo, wf2, wr, at2⟩ := hnx _ _ _ h hn0 hw hl (z_wvs_l (z_wvs_tl (z_wvs_tl hs)))
  exact ⟨mo, wf2, wr, fun ad H locs ls cells slots h0 hP hD hS hlo hc hsl => lv_lsub hx hb hd (at2 ad H locs ls cells slots h0 hP hD hS hlo hc hsl)⟩
theorem zs_lmul {X : ZX} {call : ZC} {p : Program} {l : Launch} {e : Env} {R : Room} {s : State} {m : MethodId} {args : Array Value} {below : List Frame} {meth : Method} {c : Code} {y : Nat} {ad0 : Nat → Nat} {D : va_G} {cA : Nat → ClassId} {A : Nat → Prop} {Q : State → Prop} {n0 mc ms : Nat} {r : Option Value ⊕ Nat} {w2 : ZW} (F : z_Fx X p l e R s m args below meth c y ad0 D cA A Q n0 mc ms r w2) {hs : List ZH} {go : Nat → ZL → List Value → ZW → ZR} {nx : ZL → List Value → ZW → ZR} {pc a b cc d len : Nat} {n : Int} {ts : List (Int × Nat)} {lo : ZL} {st : List Value} {w : ZW} {ins : Instr} {ps : List Nat} (hd : decode (z_mb y) pc = .ok (ins, len)) (hk : z_k_lmul y pc len a b cc d n ts ins ps = true) (hgo : ∀ t lo st w, go t lo st w = some (r, w2) → z_Gd X p l e R s m args below meth c y ad0 D cA A Q n0 mc ms r w2 t lo st w) (hnx : ∀ lo st w, nx lo st w = some (r, w2) → z_Gd X p l e R s m args below meth c y ad0 D cA A Q n0 mc ms r w2 (pc + len) lo st w) (h : z_o_lmul X call hs go nx pc a b cc d n ts lo st w = some (r, w2)) : z_Gd X p l e R s m args below meth c y ad0 D cA A Q n0 mc ms r w2 pc lo st w := by
  obtain ⟨hx, hb, hml, hown, hts, hA, hK, hZ, hin, hroom, hret, hexc, hthr⟩ := F
  simp only [z_k_lmul, Bool.and_eq_true, decide_eq_true_eq] at hk
  obtain ⟨rfl, hlen⟩ := hk
  have hlen := z_beq_t hlen
  subst hlen
  obtain ⟨v1, v2, rest, rfl, h5⟩ := z_ll_some h
  have h := h5
  intro hn0 hw hl hs
  obtain ⟨mo, wf2, wr, at2⟩ := hnx _ _ _ h hn0 hw hl (z_wvs_l (z_wvs_tl (z_wvs_tl hs)))
  exact ⟨mo, wf2, wr, fun ad H locs ls cells slots h0 hP hD hS hlo hc hsl => lv_lmul hx hb hd (at2 ad H locs ls cells slots h0 hP hD hS hlo hc hsl)⟩
theorem zs_land {X : ZX} {call : ZC} {p : Program} {l : Launch} {e : Env} {R : Room} {s : State} {m : MethodId} {args : Array Value} {below : List Frame} {meth : Method} {c : Code} {y : Nat} {ad0 : Nat → Nat} {D : va_G} {cA : Nat → ClassId} {A : Nat → Prop} {Q : State → Prop} {n0 mc ms : Nat} {r : Option Value ⊕ Nat} {w2 : ZW} (F : z_Fx X p l e R s m args below meth c y ad0 D cA A Q n0 mc ms r w2) {hs : List ZH} {go : Nat → ZL → List Value → ZW → ZR} {nx : ZL → List Value → ZW → ZR} {pc a b cc d len : Nat} {n : Int} {ts : List (Int × Nat)} {lo : ZL} {st : List Value} {w : ZW} {ins : Instr} {ps : List Nat} (hd : decode (z_mb y) pc = .ok (ins, len)) (hk : z_k_land y pc len a b cc d n ts ins ps = true) (hgo : ∀ t lo st w, go t lo st w = some (r, w2) → z_Gd X p l e R s m args below meth c y ad0 D cA A Q n0 mc ms r w2 t lo st w) (hnx : ∀ lo st w, nx lo st w = some (r, w2) → z_Gd X p l e R s m args below meth c y ad0 D cA A Q n0 mc ms r w2 (pc + len) lo st w) (h : z_o_land X call hs go nx pc a b cc d n ts lo st w = some (r, w2)) : z_Gd X p l e R s m args below meth c y ad0 D cA A Q n0 mc ms r w2 pc lo st w := by
  obtain ⟨hx, hb, hml, hown, hts, hA, hK, hZ, hin, hroom, hret, hexc, hthr⟩ := F
  simp only [z_k_land, Bool.and_eq_true, decide_eq_true_eq] at hk
  obtain ⟨rfl, hlen⟩ := hk
  have hlen := z_beq_t hlen
  subst hlen
  obtain ⟨v1, v2, rest, rfl, h5⟩ := z_ll_some h
  have h := h5
  intro hn0 hw hl hs
  obtain ⟨mo, wf2, wr, at2⟩ := hnx _ _ _ h hn0 hw hl (z_wvs_l (z_wvs_tl (z_wvs_tl hs)))
  exact ⟨mo, wf2, wr, fun ad H locs ls cells slots h0 hP hD hS hlo hc hsl => lv_land hx hb hd (at2 ad H locs ls cells slots h0 hP hD hS hlo hc hsl)⟩
theorem zs_lor {X : ZX} {call : ZC} {p : Program} {l : Launch} {e : Env} {R : Room} {s : State} {m : MethodId} {args : Array Value} {below : List Frame} {meth : Method} {c : Code} {y : Nat} {ad0 : Nat → Nat} {D : va_G} {cA : Nat → ClassId} {A : Nat → Prop} {Q : State → Prop} {n0 mc ms : Nat} {r : Option Value ⊕ Nat} {w2 : ZW} (F : z_Fx X p l e R s m args below meth c y ad0 D cA A Q n0 mc ms r w2) {hs : List ZH} {go : Nat → ZL → List Value → ZW → ZR} {nx : ZL → List Value → ZW → ZR} {pc a b cc d len : Nat} {n : Int} {ts : List (Int × Nat)} {lo : ZL} {st : List Value} {w : ZW} {ins : Instr} {ps : List Nat} (hd : decode (z_mb y) pc = .ok (ins, len)) (hk : z_k_lor y pc len a b cc d n ts ins ps = true) (hgo : ∀ t lo st w, go t lo st w = some (r, w2) → z_Gd X p l e R s m args below meth c y ad0 D cA A Q n0 mc ms r w2 t lo st w) (hnx : ∀ lo st w, nx lo st w = some (r, w2) → z_Gd X p l e R s m args below meth c y ad0 D cA A Q n0 mc ms r w2 (pc + len) lo st w) (h : z_o_lor X call hs go nx pc a b cc d n ts lo st w = some (r, w2)) : z_Gd X p l e R s m args below meth c y ad0 D cA A Q n0 mc ms r w2 pc lo st w := by
  obtain ⟨hx, hb, hml, hown, hts, hA, hK, hZ, hin, hroom, hret, hexc, hthr⟩ := F
  simp only [z_k_lor, Bool.and_eq_true, decide_eq_true_eq] at hk
  obtain ⟨rfl, hlen⟩ := hk
  have hlen := z_beq_t hlen
  subst hlen
  obtain ⟨v1, v2, rest, rfl, h5⟩ := z_ll_some h
  have h := h5
  intro hn0 hw hl hs
  obtain ⟨mo, wf2, wr, at2⟩ := hnx _ _ _ h hn0 hw hl (z_wvs_l (z_wvs_tl (z_wvs_tl hs)))
  exact ⟨mo, wf2, wr, fun ad H locs ls cells slots h0 hP hD hS hlo hc hsl => lv_lor hx hb hd (at2 ad H locs ls cells slots h0 hP hD hS hlo hc hsl)⟩
theorem zs_lshl {X : ZX} {call : ZC} {p : Program} {l : Launch} {e : Env} {R : Room} {s : State} {m : MethodId} {args : Array Value} {below : List Frame} {meth : Method} {c : Code} {y : Nat} {ad0 : Nat → Nat} {D : va_G} {cA : Nat → ClassId} {A : Nat → Prop} {Q : State → Prop} {n0 mc ms : Nat} {r : Option Value ⊕ Nat} {w2 : ZW} (F : z_Fx X p l e R s m args below meth c y ad0 D cA A Q n0 mc ms r w2) {hs : List ZH} {go : Nat → ZL → List Value → ZW → ZR} {nx : ZL → List Value → ZW → ZR} {pc a b cc d len : Nat} {n : Int} {ts : List (Int × Nat)} {lo : ZL} {st : List Value} {w : ZW} {ins : Instr} {ps : List Nat} (hd : decode (z_mb y) pc = .ok (ins, len)) (hk : z_k_lshl y pc len a b cc d n ts ins ps = true) (hgo : ∀ t lo st w, go t lo st w = some (r, w2) → z_Gd X p l e R s m args below meth c y ad0 D cA A Q n0 mc ms r w2 t lo st w) (hnx : ∀ lo st w, nx lo st w = some (r, w2) → z_Gd X p l e R s m args below meth c y ad0 D cA A Q n0 mc ms r w2 (pc + len) lo st w) (h : z_o_lshl X call hs go nx pc a b cc d n ts lo st w = some (r, w2)) : z_Gd X p l e R s m args below meth c y ad0 D cA A Q n0 mc ms r w2 pc lo st w := by
  obtain ⟨hx, hb, hml, hown, hts, hA, hK, hZ, hin, hroom, hret, hexc, hthr⟩ := F
  simp only [z_k_lshl, Bool.and_eq_true, decide_eq_true_eq] at hk
  obtain ⟨rfl, hlen⟩ := hk
  have hlen := z_beq_t hlen
  subst hlen
  obtain ⟨v1, v2, rest, rfl, h5⟩ := z_li_some h
  have h := h5
  intro hn0 hw hl hs
  obtain ⟨mo, wf2, wr, at2⟩ := hnx _ _ _ h hn0 hw hl (z_wvs_l (z_wvs_tl (z_wvs_tl hs)))
  exact ⟨mo, wf2, wr, fun ad H locs ls cells slots h0 hP hD hS hlo hc hsl => lv_lshl hx hb hd rfl (at2 ad H locs ls cells slots h0 hP hD hS hlo hc hsl)⟩
theorem zs_lshr {X : ZX} {call : ZC} {p : Program} {l : Launch} {e : Env} {R : Room} {s : State} {m : MethodId} {args : Array Value} {below : List Frame} {meth : Method} {c : Code} {y : Nat} {ad0 : Nat → Nat} {D : va_G} {cA : Nat → ClassId} {A : Nat → Prop} {Q : State → Prop} {n0 mc ms : Nat} {r : Option Value ⊕ Nat} {w2 : ZW} (F : z_Fx X p l e R s m args below meth c y ad0 D cA A Q n0 mc ms r w2) {hs : List ZH} {go : Nat → ZL → List Value → ZW → ZR} {nx : ZL → List Value → ZW → ZR} {pc a b cc d len : Nat} {n : Int} {ts : List (Int × Nat)} {lo : ZL} {st : List Value} {w : ZW} {ins : Instr} {ps : List Nat} (hd : decode (z_mb y) pc = .ok (ins, len)) (hk : z_k_lshr y pc len a b cc d n ts ins ps = true) (hgo : ∀ t lo st w, go t lo st w = some (r, w2) → z_Gd X p l e R s m args below meth c y ad0 D cA A Q n0 mc ms r w2 t lo st w) (hnx : ∀ lo st w, nx lo st w = some (r, w2) → z_Gd X p l e R s m args below meth c y ad0 D cA A Q n0 mc ms r w2 (pc + len) lo st w) (h : z_o_lshr X call hs go nx pc a b cc d n ts lo st w = some (r, w2)) : z_Gd X p l e R s m args below meth c y ad0 D cA A Q n0 mc ms r w2 pc lo st w := by
  obtain ⟨hx, hb, hml, hown, hts, hA, hK, hZ, hin, hroom, hret, hexc, hthr⟩ := F
  simp only [z_k_lshr, Bool.and_eq_true, decide_eq_true_eq] at hk
  obtain ⟨rfl, hlen⟩ := hk
  have hlen := z_beq_t hlen
  subst hlen
  obtain ⟨v1, v2, rest, rfl, h5⟩ := z_li_some h
  have h := h5
  intro hn0 hw hl hs
  obtain ⟨mo, wf2, wr, at2⟩ := hnx _ _ _ h hn0 hw hl (z_wvs_l (z_wvs_tl (z_wvs_tl hs)))
  exact ⟨mo, wf2, wr, fun ad H locs ls cells slots h0 hP hD hS hlo hc hsl => lv_lshr hx hb hd rfl (at2 ad H locs ls cells slots h0 hP hD hS hlo hc hsl)⟩
theorem zs_lushr {X : ZX} {call : ZC} {p : Program} {l : Launch} {e : Env} {R : Room} {s : State} {m : MethodId} {args : Array Value} {below : List Frame} {meth : Method} {c : Code} {y : Nat} {ad0 : Nat → Nat} {D : va_G} {cA : Nat → ClassId} {A : Nat → Prop} {Q : State → Prop} {n0 mc ms : Nat} {r : Option Value ⊕ Nat} {w2 : ZW} (F : z_Fx X p l e R s m args below meth c y ad0 D cA A Q n0 mc ms r w2) {hs : List ZH} {go : Nat → ZL → List Value → ZW → ZR} {nx : ZL → List Value → ZW → ZR} {pc a b cc d len : Nat} {n : Int} {ts : List (Int × Nat)} {lo : ZL} {st : List Value} {w : ZW} {ins : Instr} {ps : List Nat} (hd : decode (z_mb y) pc = .ok (ins, len)) (hk : z_k_lushr y pc len a b cc d n ts ins ps = true) (hgo : ∀ t lo st w, go t lo st w = some (r, w2) → z_Gd X p l e R s m args below meth c y ad0 D cA A Q n0 mc ms r w2 t lo st w) (hnx : ∀ lo st w, nx lo st w = some (r, w2) → z_Gd X p l e R s m args below meth c y ad0 D cA A Q n0 mc ms r w2 (pc + len) lo st w) (h : z_o_lushr X call hs go nx pc a b cc d n ts lo st w = some (r, w2)) : z_Gd X p l e R s m args below meth c y ad0 D cA A Q n0 mc ms r w2 pc lo st w := by
  obtain ⟨hx, hb, hml, hown, hts, hA, hK, hZ, hin, hroom, hret, hexc, hthr⟩ := F
  simp only [z_k_lushr, Bool.and_eq_true, decide_eq_true_eq] at hk
  obtain ⟨rfl, hlen⟩ := hk
  have hlen := z_beq_t hlen
  subst hlen
  obtain ⟨v1, v2, rest, rfl, h5⟩ := z_li_some h
  have h := h5
  intro hn0 hw hl hs
  obtain ⟨mo, wf2, wr, at2⟩ := hnx _ _ _ h hn0 hw hl (z_wvs_l (z_wvs_tl (z_wvs_tl hs)))
  exact ⟨mo, wf2, wr, fun ad H locs ls cells slots h0 hP hD hS hlo hc hsl => lv_lushr hx hb hd rfl (at2 ad H locs ls cells slots h0 hP hD hS hlo hc hsl)⟩
theorem zs_lcmp {X : ZX} {call : ZC} {p : Program} {l : Launch} {e : Env} {R : Room} {s : State} {m : MethodId} {args : Array Value} {below : List Frame} {meth : Method} {c : Code} {y : Nat} {ad0 : Nat → Nat} {D : va_G} {cA : Nat → ClassId} {A : Nat → Prop} {Q : State → Prop} {n0 mc ms : Nat} {r : Option Value ⊕ Nat} {w2 : ZW} (F : z_Fx X p l e R s m args below meth c y ad0 D cA A Q n0 mc ms r w2) {hs : List ZH} {go : Nat → ZL → List Value → ZW → ZR} {nx : ZL → List Value → ZW → ZR} {pc a b cc d len : Nat} {n : Int} {ts : List (Int × Nat)} {lo : ZL} {st : List Value} {w : ZW} {ins : Instr} {ps : List Nat} (hd : decode (z_mb y) pc = .ok (ins, len)) (hk : z_k_lcmp y pc len a b cc d n ts ins ps = true) (hgo : ∀ t lo st w, go t lo st w = some (r, w2) → z_Gd X p l e R s m args below meth c y ad0 D cA A Q n0 mc ms r w2 t lo st w) (hnx : ∀ lo st w, nx lo st w = some (r, w2) → z_Gd X p l e R s m args below meth c y ad0 D cA A Q n0 mc ms r w2 (pc + len) lo st w) (h : z_o_lcmp X call hs go nx pc a b cc d n ts lo st w = some (r, w2)) : z_Gd X p l e R s m args below meth c y ad0 D cA A Q n0 mc ms r w2 pc lo st w := by
  obtain ⟨hx, hb, hml, hown, hts, hA, hK, hZ, hin, hroom, hret, hexc, hthr⟩ := F
  simp only [z_k_lcmp, Bool.and_eq_true, decide_eq_true_eq] at hk
  obtain ⟨rfl, hlen⟩ := hk
  have hlen := z_beq_t hlen
  subst hlen
  obtain ⟨v1, v2, rest, rfl, h5⟩ := z_ll_some h
  have h := h5
  intro hn0 hw hl hs
  obtain ⟨mo, wf2, wr, at2⟩ := hnx _ _ _ h hn0 hw hl (z_wvs_i (z_wvs_tl (z_wvs_tl hs)))
  exact ⟨mo, wf2, wr, fun ad H locs ls cells slots h0 hP hD hS hlo hc hsl => W.lcmp hx hb hd (at2 ad H locs ls cells slots h0 hP hD hS hlo hc hsl)⟩
theorem zs_ineg {X : ZX} {call : ZC} {p : Program} {l : Launch} {e : Env} {R : Room} {s : State} {m : MethodId} {args : Array Value} {below : List Frame} {meth : Method} {c : Code} {y : Nat} {ad0 : Nat → Nat} {D : va_G} {cA : Nat → ClassId} {A : Nat → Prop} {Q : State → Prop} {n0 mc ms : Nat} {r : Option Value ⊕ Nat} {w2 : ZW} (F : z_Fx X p l e R s m args below meth c y ad0 D cA A Q n0 mc ms r w2) {hs : List ZH} {go : Nat → ZL → List Value → ZW → ZR} {nx : ZL → List Value → ZW → ZR} {pc a b cc d len : Nat} {n : Int} {ts : List (Int × Nat)} {lo : ZL} {st : List Value} {w : ZW} {ins : Instr} {ps : List Nat} (hd : decode (z_mb y) pc = .ok (ins, len)) (hk : z_k_ineg y pc len a b cc d n ts ins ps = true) (hgo : ∀ t lo st w, go t lo st w = some (r, w2) → z_Gd X p l e R s m args below meth c y ad0 D cA A Q n0 mc ms r w2 t lo st w) (hnx : ∀ lo st w, nx lo st w = some (r, w2) → z_Gd X p l e R s m args below meth c y ad0 D cA A Q n0 mc ms r w2 (pc + len) lo st w) (h : z_o_ineg X call hs go nx pc a b cc d n ts lo st w = some (r, w2)) : z_Gd X p l e R s m args below meth c y ad0 D cA A Q n0 mc ms r w2 pc lo st w := by
  obtain ⟨hx, hb, hml, hown, hts, hA, hK, hZ, hin, hroom, hret, hexc, hthr⟩ := F
  simp only [z_k_ineg, Bool.and_eq_true, decide_eq_true_eq] at hk
  obtain ⟨rfl, hlen⟩ := hk
  have hlen := z_beq_t hlen
  subst hlen
  obtain ⟨v1, rest, rfl, h5⟩ := z_i1_some h
  have h := h5
  intro hn0 hw hl hs
  obtain ⟨mo, wf2, wr, at2⟩ := hnx _ _ _ h hn0 hw hl (z_wvs_i (z_wvs_tl hs))
  exact ⟨mo, wf2, wr, fun ad H locs ls cells slots h0 hP hD hS hlo hc hsl => lv_ineg hx hb hd (at2 ad H locs ls cells slots h0 hP hD hS hlo hc hsl)⟩
theorem zs_lneg {X : ZX} {call : ZC} {p : Program} {l : Launch} {e : Env} {R : Room} {s : State} {m : MethodId} {args : Array Value} {below : List Frame} {meth : Method} {c : Code} {y : Nat} {ad0 : Nat → Nat} {D : va_G} {cA : Nat → ClassId} {A : Nat → Prop} {Q : State → Prop} {n0 mc ms : Nat} {r : Option Value ⊕ Nat} {w2 : ZW} (F : z_Fx X p l e R s m args below meth c y ad0 D cA A Q n0 mc ms r w2) {hs : List ZH} {go : Nat → ZL → List Value → ZW → ZR} {nx : ZL → List Value → ZW → ZR} {pc a b cc d len : Nat} {n : Int} {ts : List (Int × Nat)} {lo : ZL} {st : List Value} {w : ZW} {ins : Instr} {ps : List Nat} (hd : decode (z_mb y) pc = .ok (ins, len)) (hk : z_k_lneg y pc len a b cc d n ts ins ps = true) (hgo : ∀ t lo st w, go t lo st w = some (r, w2) → z_Gd X p l e R s m args below meth c y ad0 D cA A Q n0 mc ms r w2 t lo st w) (hnx : ∀ lo st w, nx lo st w = some (r, w2) → z_Gd X p l e R s m args below meth c y ad0 D cA A Q n0 mc ms r w2 (pc + len) lo st w) (h : z_o_lneg X call hs go nx pc a b cc d n ts lo st w = some (r, w2)) : z_Gd X p l e R s m args below meth c y ad0 D cA A Q n0 mc ms r w2 pc lo st w := by
  obtain ⟨hx, hb, hml, hown, hts, hA, hK, hZ, hin, hroom, hret, hexc, hthr⟩ := F
  simp only [z_k_lneg, Bool.and_eq_true, decide_eq_true_eq] at hk
  obtain ⟨rfl, hlen⟩ := hk
  have hlen := z_beq_t hlen
  subst hlen
  obtain ⟨v1, rest, rfl, h5⟩ := z_l1_some h
  have h := h5
  intro hn0 hw hl hs
  obtain ⟨mo, wf2, wr, at2⟩ := hnx _ _ _ h hn0 hw hl (z_wvs_l (z_wvs_tl hs))
  exact ⟨mo, wf2, wr, fun ad H locs ls cells slots h0 hP hD hS hlo hc hsl => lv_lneg hx hb hd (at2 ad H locs ls cells slots h0 hP hD hS hlo hc hsl)⟩
theorem zs_i2l {X : ZX} {call : ZC} {p : Program} {l : Launch} {e : Env} {R : Room} {s : State} {m : MethodId} {args : Array Value} {below : List Frame} {meth : Method} {c : Code} {y : Nat} {ad0 : Nat → Nat} {D : va_G} {cA : Nat → ClassId} {A : Nat → Prop} {Q : State → Prop} {n0 mc ms : Nat} {r : Option Value ⊕ Nat} {w2 : ZW} (F : z_Fx X p l e R s m args below meth c y ad0 D cA A Q n0 mc ms r w2) {hs : List ZH} {go : Nat → ZL → List Value → ZW → ZR} {nx : ZL → List Value → ZW → ZR} {pc a b cc d len : Nat} {n : Int} {ts : List (Int × Nat)} {lo : ZL} {st : List Value} {w : ZW} {ins : Instr} {ps : List Nat} (hd : decode (z_mb y) pc = .ok (ins, len)) (hk : z_k_i2l y pc len a b cc d n ts ins ps = true) (hgo : ∀ t lo st w, go t lo st w = some (r, w2) → z_Gd X p l e R s m args below meth c y ad0 D cA A Q n0 mc ms r w2 t lo st w) (hnx : ∀ lo st w, nx lo st w = some (r, w2) → z_Gd X p l e R s m args below meth c y ad0 D cA A Q n0 mc ms r w2 (pc + len) lo st w) (h : z_o_i2l X call hs go nx pc a b cc d n ts lo st w = some (r, w2)) : z_Gd X p l e R s m args below meth c y ad0 D cA A Q n0 mc ms r w2 pc lo st w := by
  obtain ⟨hx, hb, hml, hown, hts, hA, hK, hZ, hin, hroom, hret, hexc, hthr⟩ := F
  simp only [z_k_i2l, Bool.and_eq_true, decide_eq_true_eq] at hk
  obtain ⟨rfl, hlen⟩ := hk
  have hlen := z_beq_t hlen
  subst hlen
  obtain ⟨v1, rest, rfl, h5⟩ := z_i1_some h
  have h := h5
  intro hn0 hw hl hs
  obtain ⟨mo, wf2, wr, at2⟩ := hnx _ _ _ h hn0 hw hl (z_wvs_l (z_wvs_tl hs))
  exact ⟨mo, wf2, wr, fun ad H locs ls cells slots h0 hP hD hS hlo hc hsl => lv_i2l hx hb hd rfl (at2 ad H locs ls cells slots h0 hP hD hS hlo hc hsl)⟩
theorem zs_l2i {X : ZX} {call : ZC} {p : Program} {l : Launch} {e : Env} {R : Room} {s : State} {m : MethodId} {args : Array Value} {below : List Frame} {meth : Method} {c : Code} {y : Nat} {ad0 : Nat → Nat} {D : va_G} {cA : Nat → ClassId} {A : Nat → Prop} {Q : State → Prop} {n0 mc ms : Nat} {r : Option Value ⊕ Nat} {w2 : ZW} (F : z_Fx X p l e R s m args below meth c y ad0 D cA A Q n0 mc ms r w2) {hs : List ZH} {go : Nat → ZL → List Value → ZW → ZR} {nx : ZL → List Value → ZW → ZR} {pc a b cc d len : Nat} {n : Int} {ts : List (Int × Nat)} {lo : ZL} {st : List Value} {w : ZW} {ins : Instr} {ps : List Nat} (hd : decode (z_mb y) pc = .ok (ins, len)) (hk : z_k_l2i y pc len a b cc d n ts ins ps = true) (hgo : ∀ t lo st w, go t lo st w = some (r, w2) → z_Gd X p l e R s m args below meth c y ad0 D cA A Q n0 mc ms r w2 t lo st w) (hnx : ∀ lo st w, nx lo st w = some (r, w2) → z_Gd X p l e R s m args below meth c y ad0 D cA A Q n0 mc ms r w2 (pc + len) lo st w) (h : z_o_l2i X call hs go nx pc a b cc d n ts lo st w = some (r, w2)) : z_Gd X p l e R s m args below meth c y ad0 D cA A Q n0 mc ms r w2 pc lo st w := by
  obtain ⟨hx, hb, hml, hown, hts, hA, hK, hZ, hin, hroom, hret, hexc, hthr⟩ := F
  simp only [z_k_l2i, Bool.and_eq_true, decide_eq_true_eq] at hk
  obtain ⟨rfl, hlen⟩ := hk
  have hlen := z_beq_t hlen
  subst hlen
  obtain ⟨v1, rest, rfl, h5⟩ := z_l1_some h
  have h := h5
  intro hn0 hw hl hs
  obtain ⟨mo, wf2, wr, at2⟩ := hnx _ _ _ h hn0 hw hl (z_wvs_i (z_wvs_tl hs))
  exact ⟨mo, wf2, wr, fun ad H locs ls cells slots h0 hP hD hS hlo hc hsl => lv_l2i hx hb hd rfl (at2 ad H locs ls cells slots h0 hP hD hS hlo hc hsl)⟩
theorem zs_idiv {X : ZX} {call : ZC} {p : Program} {l : Launch} {e : Env} {R : Room} {s : State} {m : MethodId} {args : Array Value} {below : List Frame} {meth : Method} {c : Code} {y : Nat} {ad0 : Nat → Nat} {D : va_G} {cA : Nat → ClassId} {A : Nat → Prop} {Q : State → Prop} {n0 mc ms : Nat} {r : Option Value ⊕ Nat} {w2 : ZW} (F : z_Fx X p l e R s m args below meth c y ad0 D cA A Q n0 mc ms r w2) {hs : List ZH} {go : Nat → ZL → List Value → ZW → ZR} {nx : ZL → List Value → ZW → ZR} {pc a b cc d len : Nat} {n : Int} {ts : List (Int × Nat)} {lo : ZL} {st : List Value} {w : ZW} {ins : Instr} {ps : List Nat} (hd : decode (z_mb y) pc = .ok (ins, len)) (hk : z_k_idiv y pc len a b cc d n ts ins ps = true) (hgo : ∀ t lo st w, go t lo st w = some (r, w2) → z_Gd X p l e R s m args below meth c y ad0 D cA A Q n0 mc ms r w2 t lo st w) (hnx : ∀ lo st w, nx lo st w = some (r, w2) → z_Gd X p l e R s m args below meth c y ad0 D cA A Q n0 mc ms r w2 (pc + len) lo st w) (h : z_o_idiv X call hs go nx pc a b cc d n ts lo st w = some (r, w2)) : z_Gd X p l e R s m args below meth c y ad0 D cA A Q n0 mc ms r w2 pc lo st w := by
  obtain ⟨hx, hb, hml, hown, hts, hA, hK, hZ, hin, hroom, hret, hexc, hthr⟩ := F
  simp only [z_k_idiv, Bool.and_eq_true, decide_eq_true_eq] at hk
  obtain ⟨rfl, hlen⟩ := hk
  have hlen := z_beq_t hlen
  subst hlen
  obtain ⟨v1, v2, rest, rfl, h5⟩ := z_ii_some h
  have h := h5
  by_cases hz : v2 = 0
  · rw [if_pos hz] at h; cases h
  rw [if_neg hz] at h
  intro hn0 hw hl hs
  obtain ⟨mo, wf2, wr, at2⟩ := hnx _ _ _ h hn0 hw hl (z_wvs_i (z_wvs_tl (z_wvs_tl hs)))
  exact ⟨mo, wf2, wr, fun ad H locs ls cells slots h0 hP hD hS hlo hc hsl => lv_idiv hx hb hd hz (at2 ad H locs ls cells slots h0 hP hD hS hlo hc hsl)⟩
theorem zs_irem {X : ZX} {call : ZC} {p : Program} {l : Launch} {e : Env} {R : Room} {s : State} {m : MethodId} {args : Array Value} {below : List Frame} {meth : Method} {c : Code} {y : Nat} {ad0 : Nat → Nat} {D : va_G} {cA : Nat → ClassId} {A : Nat → Prop} {Q : State → Prop} {n0 mc ms : Nat} {r : Option Value ⊕ Nat} {w2 : ZW} (F : z_Fx X p l e R s m args below meth c y ad0 D cA A Q n0 mc ms r w2) {hs : List ZH} {go : Nat → ZL → List Value → ZW → ZR} {nx : ZL → List Value → ZW → ZR} {pc a b cc d len : Nat} {n : Int} {ts : List (Int × Nat)} {lo : ZL} {st : List Value} {w : ZW} {ins : Instr} {ps : List Nat} (hd : decode (z_mb y) pc = .ok (ins, len)) (hk : z_k_irem y pc len a b cc d n ts ins ps = true) (hgo : ∀ t lo st w, go t lo st w = some (r, w2) → z_Gd X p l e R s m args below meth c y ad0 D cA A Q n0 mc ms r w2 t lo st w) (hnx : ∀ lo st w, nx lo st w = some (r, w2) → z_Gd X p l e R s m args below meth c y ad0 D cA A Q n0 mc ms r w2 (pc + len) lo st w) (h : z_o_irem X call hs go nx pc a b cc d n ts lo st w = some (r, w2)) : z_Gd X p l e R s m args below meth c y ad0 D cA A Q n0 mc ms r w2 pc lo st w := by
  obtain ⟨hx, hb, hml, hown, hts, hA, hK, hZ, hin, hroom, hret, hexc, hthr⟩ := F
  simp only [z_k_irem, Bool.and_eq_true, decide_eq_true_eq] at hk
  obtain ⟨rfl, hlen⟩ := hk
  have hlen := z_beq_t hlen
  subst hlen
  obtain ⟨v1, v2, rest, rfl, h5⟩ := z_ii_some h
  have h := h5
  by_cases hz : v2 = 0
  · rw [if_pos hz] at h; cases h
  rw [if_neg hz] at h
  intro hn0 hw hl hs
  obtain ⟨mo, wf2, wr, at2⟩ := hnx _ _ _ h hn0 hw hl (z_wvs_i (z_wvs_tl (z_wvs_tl hs)))
  exact ⟨mo, wf2, wr, fun ad H locs ls cells slots h0 hP hD hS hlo hc hsl => lv_irem hx hb hd hz (at2 ad H locs ls cells slots h0 hP hD hS hlo hc hsl)⟩
theorem zs_ldiv {X : ZX} {call : ZC} {p : Program} {l : Launch} {e : Env} {R : Room} {s : State} {m : MethodId} {args : Array Value} {below : List Frame} {meth : Method} {c : Code} {y : Nat} {ad0 : Nat → Nat} {D : va_G} {cA : Nat → ClassId} {A : Nat → Prop} {Q : State → Prop} {n0 mc ms : Nat} {r : Option Value ⊕ Nat} {w2 : ZW} (F : z_Fx X p l e R s m args below meth c y ad0 D cA A Q n0 mc ms r w2) {hs : List ZH} {go : Nat → ZL → List Value → ZW → ZR} {nx : ZL → List Value → ZW → ZR} {pc a b cc d len : Nat} {n : Int} {ts : List (Int × Nat)} {lo : ZL} {st : List Value} {w : ZW} {ins : Instr} {ps : List Nat} (hd : decode (z_mb y) pc = .ok (ins, len)) (hk : z_k_ldiv y pc len a b cc d n ts ins ps = true) (hgo : ∀ t lo st w, go t lo st w = some (r, w2) → z_Gd X p l e R s m args below meth c y ad0 D cA A Q n0 mc ms r w2 t lo st w) (hnx : ∀ lo st w, nx lo st w = some (r, w2) → z_Gd X p l e R s m args below meth c y ad0 D cA A Q n0 mc ms r w2 (pc + len) lo st w) (h : z_o_ldiv X call hs go nx pc a b cc d n ts lo st w = some (r, w2)) : z_Gd X p l e R s m args below meth c y ad0 D cA A Q n0 mc ms r w2 pc lo st w := by
  obtain ⟨hx, hb, hml, hown, hts, hA, hK, hZ, hin, hroom, hret, hexc, hthr⟩ := F
  simp only [z_k_ldiv, Bool.and_eq_true, decide_eq_true_eq] at hk
  obtain ⟨rfl, hlen⟩ := hk
  have hlen := z_beq_t hlen
  subst hlen
  obtain ⟨v1, v2, rest, rfl, h5⟩ := z_ll_some h
  have h := h5
  by_cases hz : v2 = 0
  · rw [if_pos hz] at h; cases h
  rw [if_neg hz] at h
  intro hn0 hw hl hs
  obtain ⟨mo, wf2, wr, at2⟩ := hnx _ _ _ h hn0 hw hl (z_wvs_l (z_wvs_tl (z_wvs_tl hs)))
  exact ⟨mo, wf2, wr, fun ad H locs ls cells slots h0 hP hD hS hlo hc hsl => lv_ldiv hx hb hd hz (at2 ad H locs ls cells slots h0 hP hD hS hlo hc hsl)⟩
theorem zs_aconst_null {X : ZX} {call : ZC} {p : Program} {l : Launch} {e : Env} {R : Room} {s : State} {m : MethodId} {args : Array Value} {below : List Frame} {meth : Method} {c : Code} {y : Nat} {ad0 : Nat → Nat} {D : va_G} {cA : Nat → ClassId} {A : Nat → Prop} {Q : State → Prop} {n0 mc ms : Nat} {r : Option Value ⊕ Nat} {w2 : ZW} (F : z_Fx X p l e R s m args below meth c y ad0 D cA A Q n0 mc ms r w2) {hs : List ZH} {go : Nat → ZL → List Value → ZW → ZR} {nx : ZL → List Value → ZW → ZR} {pc a b cc d len : Nat} {n : Int} {ts : List (Int × Nat)} {lo : ZL} {st : List Value} {w : ZW} {ins : Instr} {ps : List Nat} (hd : decode (z_mb y) pc = .ok (ins, len)) (hk : z_k_aconst_null y pc len a b cc d n ts ins ps = true) (hgo : ∀ t lo st w, go t lo st w = some (r, w2) → z_Gd X p l e R s m args below meth c y ad0 D cA A Q n0 mc ms r w2 t lo st w) (hnx : ∀ lo st w, nx lo st w = some (r, w2) → z_Gd X p l e R s m args below meth c y ad0 D cA A Q n0 mc ms r w2 (pc + len) lo st w) (h : z_o_aconst_null X call hs go nx pc a b cc d n ts lo st w = some (r, w2)) : z_Gd X p l e R s m args below meth c y ad0 D cA A Q n0 mc ms r w2 pc lo st w := by
  obtain ⟨hx, hb, hml, hown, hts, hA, hK, hZ, hin, hroom, hret, hexc, hthr⟩ := F
  simp only [z_k_aconst_null, Bool.and_eq_true, decide_eq_true_eq] at hk
  obtain ⟨rfl, hlen⟩ := hk
  have hlen := z_beq_t hlen
  subst hlen
  intro hn0 hw hl hs
  obtain ⟨mo, wf2, wr, at2⟩ := hnx _ _ _ h hn0 hw hl (z_wvs_cons (z_wv_n _) hs)
  exact ⟨mo, wf2, wr, fun ad H locs ls cells slots h0 hP hD hS hlo hc hsl => lv_null hx hb hd (at2 ad H locs ls cells slots h0 hP hD hS hlo hc hsl)⟩
theorem zs_dup {X : ZX} {call : ZC} {p : Program} {l : Launch} {e : Env} {R : Room} {s : State} {m : MethodId} {args : Array Value} {below : List Frame} {meth : Method} {c : Code} {y : Nat} {ad0 : Nat → Nat} {D : va_G} {cA : Nat → ClassId} {A : Nat → Prop} {Q : State → Prop} {n0 mc ms : Nat} {r : Option Value ⊕ Nat} {w2 : ZW} (F : z_Fx X p l e R s m args below meth c y ad0 D cA A Q n0 mc ms r w2) {hs : List ZH} {go : Nat → ZL → List Value → ZW → ZR} {nx : ZL → List Value → ZW → ZR} {pc a b cc d len : Nat} {n : Int} {ts : List (Int × Nat)} {lo : ZL} {st : List Value} {w : ZW} {ins : Instr} {ps : List Nat} (hd : decode (z_mb y) pc = .ok (ins, len)) (hk : z_k_dup y pc len a b cc d n ts ins ps = true) (hgo : ∀ t lo st w, go t lo st w = some (r, w2) → z_Gd X p l e R s m args below meth c y ad0 D cA A Q n0 mc ms r w2 t lo st w) (hnx : ∀ lo st w, nx lo st w = some (r, w2) → z_Gd X p l e R s m args below meth c y ad0 D cA A Q n0 mc ms r w2 (pc + len) lo st w) (h : z_o_dup X call hs go nx pc a b cc d n ts lo st w = some (r, w2)) : z_Gd X p l e R s m args below meth c y ad0 D cA A Q n0 mc ms r w2 pc lo st w := by
  obtain ⟨hx, hb, hml, hown, hts, hA, hK, hZ, hin, hroom, hret, hexc, hthr⟩ := F
  simp only [z_k_dup, Bool.and_eq_true, decide_eq_true_eq] at hk
  obtain ⟨rfl, hlen⟩ := hk
  have hlen := z_beq_t hlen
  subst hlen
  obtain ⟨v, rest, rfl, hc1, h5⟩ := z_dup_some h
  have h := h5
  intro hn0 hw hl hs
  obtain ⟨mo, wf2, wr, at2⟩ := hnx _ _ _ h hn0 hw hl (z_wvs_cons (z_wvs_hd hs) hs)
  exact ⟨mo, wf2, wr, fun ad H locs ls cells slots h0 hP hD hS hlo hc hsl => lv_dup hx hb hd (by rw [z_v_cat]; exact hc1) (at2 ad H locs ls cells slots h0 hP hD hS hlo hc hsl)⟩
theorem zs_pop {X : ZX} {call : ZC} {p : Program} {l : Launch} {e : Env} {R : Room} {s : State} {m : MethodId} {args : Array Value} {below : List Frame} {meth : Method} {c : Code} {y : Nat} {ad0 : Nat → Nat} {D : va_G} {cA : Nat → ClassId} {A : Nat → Prop} {Q : State → Prop} {n0 mc ms : Nat} {r : Option Value ⊕ Nat} {w2 : ZW} (F : z_Fx X p l e R s m args below meth c y ad0 D cA A Q n0 mc ms r w2) {hs : List ZH} {go : Nat → ZL → List Value → ZW → ZR} {nx : ZL → List Value → ZW → ZR} {pc a b cc d len : Nat} {n : Int} {ts : List (Int × Nat)} {lo : ZL} {st : List Value} {w : ZW} {ins : Instr} {ps : List Nat} (hd : decode (z_mb y) pc = .ok (ins, len)) (hk : z_k_pop y pc len a b cc d n ts ins ps = true) (hgo : ∀ t lo st w, go t lo st w = some (r, w2) → z_Gd X p l e R s m args below meth c y ad0 D cA A Q n0 mc ms r w2 t lo st w) (hnx : ∀ lo st w, nx lo st w = some (r, w2) → z_Gd X p l e R s m args below meth c y ad0 D cA A Q n0 mc ms r w2 (pc + len) lo st w) (h : z_o_pop X call hs go nx pc a b cc d n ts lo st w = some (r, w2)) : z_Gd X p l e R s m args below meth c y ad0 D cA A Q n0 mc ms r w2 pc lo st w := by
  obtain ⟨hx, hb, hml, hown, hts, hA, hK, hZ, hin, hroom, hret, hexc, hthr⟩ := F
  simp only [z_k_pop, Bool.and_eq_true, decide_eq_true_eq] at hk
  obtain ⟨rfl, hlen⟩ := hk
  have hlen := z_beq_t hlen
  subst hlen
  obtain ⟨v, rest, rfl, hc1, h5⟩ := z_pop_some h
  have h := h5
  intro hn0 hw hl hs
  obtain ⟨mo, wf2, wr, at2⟩ := hnx _ _ _ h hn0 hw hl (z_wvs_tl hs)
  exact ⟨mo, wf2, wr, fun ad H locs ls cells slots h0 hP hD hS hlo hc hsl => lv_pop hx hb hd (by rw [z_v_cat]; exact hc1) (at2 ad H locs ls cells slots h0 hP hD hS hlo hc hsl)⟩
theorem zs_dup_x1 {X : ZX} {call : ZC} {p : Program} {l : Launch} {e : Env} {R : Room} {s : State} {m : MethodId} {args : Array Value} {below : List Frame} {meth : Method} {c : Code} {y : Nat} {ad0 : Nat → Nat} {D : va_G} {cA : Nat → ClassId} {A : Nat → Prop} {Q : State → Prop} {n0 mc ms : Nat} {r : Option Value ⊕ Nat} {w2 : ZW} (F : z_Fx X p l e R s m args below meth c y ad0 D cA A Q n0 mc ms r w2) {hs : List ZH} {go : Nat → ZL → List Value → ZW → ZR} {nx : ZL → List Value → ZW → ZR} {pc a b cc d len : Nat} {n : Int} {ts : List (Int × Nat)} {lo : ZL} {st : List Value} {w : ZW} {ins : Instr} {ps : List Nat} (hd : decode (z_mb y) pc = .ok (ins, len)) (hk : z_k_dup_x1 y pc len a b cc d n ts ins ps = true) (hgo : ∀ t lo st w, go t lo st w = some (r, w2) → z_Gd X p l e R s m args below meth c y ad0 D cA A Q n0 mc ms r w2 t lo st w) (hnx : ∀ lo st w, nx lo st w = some (r, w2) → z_Gd X p l e R s m args below meth c y ad0 D cA A Q n0 mc ms r w2 (pc + len) lo st w) (h : z_o_dup_x1 X call hs go nx pc a b cc d n ts lo st w = some (r, w2)) : z_Gd X p l e R s m args below meth c y ad0 D cA A Q n0 mc ms r w2 pc lo st w := by
  obtain ⟨hx, hb, hml, hown, hts, hA, hK, hZ, hin, hroom, hret, hexc, hthr⟩ := F
  simp only [z_k_dup_x1, Bool.and_eq_true, decide_eq_true_eq] at hk
  obtain ⟨rfl, hlen⟩ := hk
  have hlen := z_beq_t hlen
  subst hlen
  obtain ⟨v, u, rest, rfl, hc1, hc2, h5⟩ := z_dx1_some h
  have h := h5
  intro hn0 hw hl hs
  obtain ⟨mo, wf2, wr, at2⟩ := hnx _ _ _ h hn0 hw hl (z_wvs_cons (z_wvs_hd hs) (z_wvs_cons (z_wvs_hd (z_wvs_tl hs)) (z_wvs_cons (z_wvs_hd hs) (z_wvs_tl (z_wvs_tl hs)))))
  exact ⟨mo, wf2, wr, fun ad H locs ls cells slots h0 hP hD hS hlo hc hsl => lv_dup_x1 hx hb hd (by rw [z_v_cat]; exact hc1) (by rw [z_v_cat]; exact hc2) (at2 ad H locs ls cells slots h0 hP hD hS hlo hc hsl)⟩
theorem zs_dup2 {X : ZX} {call : ZC} {p : Program} {l : Launch} {e : Env} {R : Room} {s : State} {m : MethodId} {args : Array Value} {below : List Frame} {meth : Method} {c : Code} {y : Nat} {ad0 : Nat → Nat} {D : va_G} {cA : Nat → ClassId} {A : Nat → Prop} {Q : State → Prop} {n0 mc ms : Nat} {r : Option Value ⊕ Nat} {w2 : ZW} (F : z_Fx X p l e R s m args below meth c y ad0 D cA A Q n0 mc ms r w2) {hs : List ZH} {go : Nat → ZL → List Value → ZW → ZR} {nx : ZL → List Value → ZW → ZR} {pc a b cc d len : Nat} {n : Int} {ts : List (Int × Nat)} {lo : ZL} {st : List Value} {w : ZW} {ins : Instr} {ps : List Nat} (hd : decode (z_mb y) pc = .ok (ins, len)) (hk : z_k_dup2 y pc len a b cc d n ts ins ps = true) (hgo : ∀ t lo st w, go t lo st w = some (r, w2) → z_Gd X p l e R s m args below meth c y ad0 D cA A Q n0 mc ms r w2 t lo st w) (hnx : ∀ lo st w, nx lo st w = some (r, w2) → z_Gd X p l e R s m args below meth c y ad0 D cA A Q n0 mc ms r w2 (pc + len) lo st w) (h : z_o_dup2 X call hs go nx pc a b cc d n ts lo st w = some (r, w2)) : z_Gd X p l e R s m args below meth c y ad0 D cA A Q n0 mc ms r w2 pc lo st w := by
  obtain ⟨hx, hb, hml, hown, hts, hA, hK, hZ, hin, hroom, hret, hexc, hthr⟩ := F
  simp only [z_k_dup2, Bool.and_eq_true, decide_eq_true_eq] at hk
  obtain ⟨rfl, hlen⟩ := hk
  have hlen := z_beq_t hlen
  subst hlen
  intro hn0 hw hl hs
  rcases z_dup2_some h with ⟨v, u, rest, rfl, hc1, hc2, h⟩ | ⟨v, rest, rfl, hc1, h⟩
  · obtain ⟨mo, wf2, wr, at2⟩ := hnx _ _ _ h hn0 hw hl (z_wvs_cons (z_wvs_hd hs) (z_wvs_cons (z_wvs_hd (z_wvs_tl hs)) hs))
    exact ⟨mo, wf2, wr, fun ad H locs ls cells slots h0 hP hD hS hlo hc hsl => lv_dup2_11 hx hb hd (by rw [z_v_cat]; exact hc1) (by rw [z_v_cat]; exact hc2) (at2 ad H locs ls cells slots h0 hP hD hS hlo hc hsl)⟩
  · obtain ⟨mo, wf2, wr, at2⟩ := hnx _ _ _ h hn0 hw hl (z_wvs_cons (z_wvs_hd hs) hs)
    exact ⟨mo, wf2, wr, fun ad H locs ls cells slots h0 hP hD hS hlo hc hsl => lv_dup2_2 hx hb hd (by rw [z_v_cat]; exact hc1) (at2 ad H locs ls cells slots h0 hP hD hS hlo hc hsl)⟩
theorem zs_iconst {X : ZX} {call : ZC} {p : Program} {l : Launch} {e : Env} {R : Room} {s : State} {m : MethodId} {args : Array Value} {below : List Frame} {meth : Method} {c : Code} {y : Nat} {ad0 : Nat → Nat} {D : va_G} {cA : Nat → ClassId} {A : Nat → Prop} {Q : State → Prop} {n0 mc ms : Nat} {r : Option Value ⊕ Nat} {w2 : ZW} (F : z_Fx X p l e R s m args below meth c y ad0 D cA A Q n0 mc ms r w2) {hs : List ZH} {go : Nat → ZL → List Value → ZW → ZR} {nx : ZL → List Value → ZW → ZR} {pc a b cc d len : Nat} {n : Int} {ts : List (Int × Nat)} {lo : ZL} {st : List Value} {w : ZW} {ins : Instr} {ps : List Nat} (hd : decode (z_mb y) pc = .ok (ins, len)) (hk : z_k_iconst y pc len a b cc d n ts ins ps = true) (hgo : ∀ t lo st w, go t lo st w = some (r, w2) → z_Gd X p l e R s m args below meth c y ad0 D cA A Q n0 mc ms r w2 t lo st w) (hnx : ∀ lo st w, nx lo st w = some (r, w2) → z_Gd X p l e R s m args below meth c y ad0 D cA A Q n0 mc ms r w2 (pc + len) lo st w) (h : z_o_iconst X call hs go nx pc a b cc d n ts lo st w = some (r, w2)) : z_Gd X p l e R s m args below meth c y ad0 D cA A Q n0 mc ms r w2 pc lo st w := by
  obtain ⟨hx, hb, hml, hown, hts, hA, hK, hZ, hin, hroom, hret, hexc, hthr⟩ := F
  simp only [z_k_iconst, Bool.or_eq_true, Bool.and_eq_true, decide_eq_true_eq] at hk
  intro hn0 hw hl hs
  obtain ⟨mo, wf2, wr, at2⟩ := hnx _ _ _ h hn0 hw hl (z_wvs_i hs)
  rcases hk with (((⟨rfl, h1⟩ | ⟨⟨rfl, h1⟩, h2⟩) | ⟨⟨rfl, h1⟩, h2⟩) | ⟨⟨rfl, h1⟩, h2⟩) | ⟨⟨rfl, h1⟩, h2⟩ <;> have h1 := z_beq_t h1 <;> subst h1
  · exact ⟨mo, wf2, wr, fun ad H locs ls cells slots h0 hP hD hS hlo hc hsl => lv_iconst hx hb hd rfl (at2 ad H locs ls cells slots h0 hP hD hS hlo hc hsl)⟩
  · exact ⟨mo, wf2, wr, fun ad H locs ls cells slots h0 hP hD hS hlo hc hsl => lv_bipush hx hb hd h2 (at2 ad H locs ls cells slots h0 hP hD hS hlo hc hsl)⟩
  · exact ⟨mo, wf2, wr, fun ad H locs ls cells slots h0 hP hD hS hlo hc hsl => lv_sipush hx hb hd h2 (at2 ad H locs ls cells slots h0 hP hD hS hlo hc hsl)⟩
  · exact ⟨mo, wf2, wr, fun ad H locs ls cells slots h0 hP hD hS hlo hc hsl => W.ldc hx hb hown (hts _ (z_wp_in h2)) rfl hd (at2 ad H locs ls cells slots h0 hP hD hS hlo hc hsl)⟩
  · exact ⟨mo, wf2, wr, fun ad H locs ls cells slots h0 hP hD hS hlo hc hsl => lv_ldcw hx hb hown (hts _ (z_wp_in h2)) hd (at2 ad H locs ls cells slots h0 hP hD hS hlo hc hsl)⟩
theorem zs_lconst {X : ZX} {call : ZC} {p : Program} {l : Launch} {e : Env} {R : Room} {s : State} {m : MethodId} {args : Array Value} {below : List Frame} {meth : Method} {c : Code} {y : Nat} {ad0 : Nat → Nat} {D : va_G} {cA : Nat → ClassId} {A : Nat → Prop} {Q : State → Prop} {n0 mc ms : Nat} {r : Option Value ⊕ Nat} {w2 : ZW} (F : z_Fx X p l e R s m args below meth c y ad0 D cA A Q n0 mc ms r w2) {hs : List ZH} {go : Nat → ZL → List Value → ZW → ZR} {nx : ZL → List Value → ZW → ZR} {pc a b cc d len : Nat} {n : Int} {ts : List (Int × Nat)} {lo : ZL} {st : List Value} {w : ZW} {ins : Instr} {ps : List Nat} (hd : decode (z_mb y) pc = .ok (ins, len)) (hk : z_k_lconst y pc len a b cc d n ts ins ps = true) (hgo : ∀ t lo st w, go t lo st w = some (r, w2) → z_Gd X p l e R s m args below meth c y ad0 D cA A Q n0 mc ms r w2 t lo st w) (hnx : ∀ lo st w, nx lo st w = some (r, w2) → z_Gd X p l e R s m args below meth c y ad0 D cA A Q n0 mc ms r w2 (pc + len) lo st w) (h : z_o_lconst X call hs go nx pc a b cc d n ts lo st w = some (r, w2)) : z_Gd X p l e R s m args below meth c y ad0 D cA A Q n0 mc ms r w2 pc lo st w := by
  obtain ⟨hx, hb, hml, hown, hts, hA, hK, hZ, hin, hroom, hret, hexc, hthr⟩ := F
  simp only [z_k_lconst, Bool.or_eq_true, Bool.and_eq_true, decide_eq_true_eq] at hk
  intro hn0 hw hl hs
  obtain ⟨mo, wf2, wr, at2⟩ := hnx _ _ _ h hn0 hw hl (z_wvs_l hs)
  rcases hk with (⟨⟨rfl, hn⟩, h1⟩ | ⟨⟨rfl, hn⟩, h1⟩) | ⟨⟨rfl, h1⟩, h2⟩ <;> have h1 := z_beq_t h1 <;> subst h1
  · subst hn
    exact ⟨mo, wf2, wr, fun ad H locs ls cells slots h0 hP hD hS hlo hc hsl => lv_lconst hx hb hd rfl (at2 ad H locs ls cells slots h0 hP hD hS hlo hc hsl)⟩
  · subst hn
    exact ⟨mo, wf2, wr, fun ad H locs ls cells slots h0 hP hD hS hlo hc hsl => lv_lconst hx hb hd rfl (at2 ad H locs ls cells slots h0 hP hD hS hlo hc hsl)⟩
  · exact ⟨mo, wf2, wr, fun ad H locs ls cells slots h0 hP hD hS hlo hc hsl => lv_ldc2 hx hb hown (hts _ (z_wp_in h2)) hd (at2 ad H locs ls cells slots h0 hP hD hS hlo hc hsl)⟩
theorem zs_iload {X : ZX} {call : ZC} {p : Program} {l : Launch} {e : Env} {R : Room} {s : State} {m : MethodId} {args : Array Value} {below : List Frame} {meth : Method} {c : Code} {y : Nat} {ad0 : Nat → Nat} {D : va_G} {cA : Nat → ClassId} {A : Nat → Prop} {Q : State → Prop} {n0 mc ms : Nat} {r : Option Value ⊕ Nat} {w2 : ZW} (F : z_Fx X p l e R s m args below meth c y ad0 D cA A Q n0 mc ms r w2) {hs : List ZH} {go : Nat → ZL → List Value → ZW → ZR} {nx : ZL → List Value → ZW → ZR} {pc a b cc d len : Nat} {n : Int} {ts : List (Int × Nat)} {lo : ZL} {st : List Value} {w : ZW} {ins : Instr} {ps : List Nat} (hd : decode (z_mb y) pc = .ok (ins, len)) (hk : z_k_iload y pc len a b cc d n ts ins ps = true) (hgo : ∀ t lo st w, go t lo st w = some (r, w2) → z_Gd X p l e R s m args below meth c y ad0 D cA A Q n0 mc ms r w2 t lo st w) (hnx : ∀ lo st w, nx lo st w = some (r, w2) → z_Gd X p l e R s m args below meth c y ad0 D cA A Q n0 mc ms r w2 (pc + len) lo st w) (h : z_o_iload X call hs go nx pc a b cc d n ts lo st w = some (r, w2)) : z_Gd X p l e R s m args below meth c y ad0 D cA A Q n0 mc ms r w2 pc lo st w := by
  obtain ⟨hx, hb, hml, hown, hts, hA, hK, hZ, hin, hroom, hret, hexc, hthr⟩ := F
  simp only [z_k_iload, Bool.or_eq_true, Bool.and_eq_true, decide_eq_true_eq] at hk
  unfold z_o_iload at h
  split at h
  case h_2 => cases h
  rename_i x hv
  intro hn0 hw hl hs
  obtain ⟨mo, wf2, wr, at2⟩ := hnx _ _ _ h hn0 hw hl (z_wvs_i hs)
  rcases hk with ⟨rfl, h1⟩ | ⟨⟨h3, rfl⟩, h1⟩ <;> have h1 := z_beq_t h1 <;> subst h1
  · exact ⟨mo, wf2, wr, fun ad H locs ls cells slots h0 hP hD hS hlo hc hsl => lv_iload hx hb hd (z_lk_at hlo hv) (at2 ad H locs ls cells slots h0 hP hD hS hlo hc hsl)⟩
  · exact ⟨mo, wf2, wr, fun ad H locs ls cells slots h0 hP hD hS hlo hc hsl => lv_iload_n hx hb hd (Nat.mod_eq_of_lt (z_blt_t h3)) (z_lk_at hlo hv) (at2 ad H locs ls cells slots h0 hP hD hS hlo hc hsl)⟩
theorem zs_lload {X : ZX} {call : ZC} {p : Program} {l : Launch} {e : Env} {R : Room} {s : State} {m : MethodId} {args : Array Value} {below : List Frame} {meth : Method} {c : Code} {y : Nat} {ad0 : Nat → Nat} {D : va_G} {cA : Nat → ClassId} {A : Nat → Prop} {Q : State → Prop} {n0 mc ms : Nat} {r : Option Value ⊕ Nat} {w2 : ZW} (F : z_Fx X p l e R s m args below meth c y ad0 D cA A Q n0 mc ms r w2) {hs : List ZH} {go : Nat → ZL → List Value → ZW → ZR} {nx : ZL → List Value → ZW → ZR} {pc a b cc d len : Nat} {n : Int} {ts : List (Int × Nat)} {lo : ZL} {st : List Value} {w : ZW} {ins : Instr} {ps : List Nat} (hd : decode (z_mb y) pc = .ok (ins, len)) (hk : z_k_lload y pc len a b cc d n ts ins ps = true) (hgo : ∀ t lo st w, go t lo st w = some (r, w2) → z_Gd X p l e R s m args below meth c y ad0 D cA A Q n0 mc ms r w2 t lo st w) (hnx : ∀ lo st w, nx lo st w = some (r, w2) → z_Gd X p l e R s m args below meth c y ad0 D cA A Q n0 mc ms r w2 (pc + len) lo st w) (h : z_o_lload X call hs go nx pc a b cc d n ts lo st w = some (r, w2)) : z_Gd X p l e R s m args below meth c y ad0 D cA A Q n0 mc ms r w2 pc lo st w := by
  obtain ⟨hx, hb, hml, hown, hts, hA, hK, hZ, hin, hroom, hret, hexc, hthr⟩ := F
  simp only [z_k_lload, Bool.or_eq_true, Bool.and_eq_true, decide_eq_true_eq] at hk
  unfold z_o_lload at h
  split at h
  case h_2 => cases h
  rename_i x hv
  intro hn0 hw hl hs
  obtain ⟨mo, wf2, wr, at2⟩ := hnx _ _ _ h hn0 hw hl (z_wvs_l hs)
  rcases hk with ⟨rfl, h1⟩ | ⟨⟨h3, rfl⟩, h1⟩ <;> have h1 := z_beq_t h1 <;> subst h1
  · exact ⟨mo, wf2, wr, fun ad H locs ls cells slots h0 hP hD hS hlo hc hsl => lv_lload hx hb hd (z_lk_at hlo hv) (at2 ad H locs ls cells slots h0 hP hD hS hlo hc hsl)⟩
  · exact ⟨mo, wf2, wr, fun ad H locs ls cells slots h0 hP hD hS hlo hc hsl => lv_lload_n hx hb hd (Nat.mod_eq_of_lt (z_blt_t h3)) (z_lk_at hlo hv) (at2 ad H locs ls cells slots h0 hP hD hS hlo hc hsl)⟩
theorem zs_aload {X : ZX} {call : ZC} {p : Program} {l : Launch} {e : Env} {R : Room} {s : State} {m : MethodId} {args : Array Value} {below : List Frame} {meth : Method} {c : Code} {y : Nat} {ad0 : Nat → Nat} {D : va_G} {cA : Nat → ClassId} {A : Nat → Prop} {Q : State → Prop} {n0 mc ms : Nat} {r : Option Value ⊕ Nat} {w2 : ZW} (F : z_Fx X p l e R s m args below meth c y ad0 D cA A Q n0 mc ms r w2) {hs : List ZH} {go : Nat → ZL → List Value → ZW → ZR} {nx : ZL → List Value → ZW → ZR} {pc a b cc d len : Nat} {n : Int} {ts : List (Int × Nat)} {lo : ZL} {st : List Value} {w : ZW} {ins : Instr} {ps : List Nat} (hd : decode (z_mb y) pc = .ok (ins, len)) (hk : z_k_aload y pc len a b cc d n ts ins ps = true) (hgo : ∀ t lo st w, go t lo st w = some (r, w2) → z_Gd X p l e R s m args below meth c y ad0 D cA A Q n0 mc ms r w2 t lo st w) (hnx : ∀ lo st w, nx lo st w = some (r, w2) → z_Gd X p l e R s m args below meth c y ad0 D cA A Q n0 mc ms r w2 (pc + len) lo st w) (h : z_o_aload X call hs go nx pc a b cc d n ts lo st w = some (r, w2)) : z_Gd X p l e R s m args below meth c y ad0 D cA A Q n0 mc ms r w2 pc lo st w := by
  obtain ⟨hx, hb, hml, hown, hts, hA, hK, hZ, hin, hroom, hret, hexc, hthr⟩ := F
  simp only [z_k_aload, Bool.or_eq_true, Bool.and_eq_true, decide_eq_true_eq] at hk
  unfold z_o_aload at h
  split at h
  case h_2 => cases h
  rename_i x hv
  intro hn0 hw hl hs
  obtain ⟨mo, wf2, wr, at2⟩ := hnx _ _ _ h hn0 hw hl (z_wvs_cons (z_lk_wv hl hv) hs)
  rcases hk with ⟨rfl, h1⟩ | ⟨⟨h3, rfl⟩, h1⟩ <;> have h1 := z_beq_t h1 <;> subst h1
  · exact ⟨mo, wf2, wr, fun ad H locs ls cells slots h0 hP hD hS hlo hc hsl => lv_aload hx hb hd (z_lk_at hlo hv) (at2 ad H locs ls cells slots h0 hP hD hS hlo hc hsl)⟩
  · exact ⟨mo, wf2, wr, fun ad H locs ls cells slots h0 hP hD hS hlo hc hsl => lv_aload_n hx hb hd (Nat.mod_eq_of_lt (z_blt_t h3)) (z_lk_at hlo hv) (at2 ad H locs ls cells slots h0 hP hD hS hlo hc hsl)⟩
theorem zs_istore {X : ZX} {call : ZC} {p : Program} {l : Launch} {e : Env} {R : Room} {s : State} {m : MethodId} {args : Array Value} {below : List Frame} {meth : Method} {c : Code} {y : Nat} {ad0 : Nat → Nat} {D : va_G} {cA : Nat → ClassId} {A : Nat → Prop} {Q : State → Prop} {n0 mc ms : Nat} {r : Option Value ⊕ Nat} {w2 : ZW} (F : z_Fx X p l e R s m args below meth c y ad0 D cA A Q n0 mc ms r w2) {hs : List ZH} {go : Nat → ZL → List Value → ZW → ZR} {nx : ZL → List Value → ZW → ZR} {pc a b cc d len : Nat} {n : Int} {ts : List (Int × Nat)} {lo : ZL} {st : List Value} {w : ZW} {ins : Instr} {ps : List Nat} (hd : decode (z_mb y) pc = .ok (ins, len)) (hk : z_k_istore y pc len a b cc d n ts ins ps = true) (hgo : ∀ t lo st w, go t lo st w = some (r, w2) → z_Gd X p l e R s m args below meth c y ad0 D cA A Q n0 mc ms r w2 t lo st w) (hnx : ∀ lo st w, nx lo st w = some (r, w2) → z_Gd X p l e R s m args below meth c y ad0 D cA A Q n0 mc ms r w2 (pc + len) lo st w) (h : z_o_istore X call hs go nx pc a b cc d n ts lo st w = some (r, w2)) : z_Gd X p l e R s m args below meth c y ad0 D cA A Q n0 mc ms r w2 pc lo st w := by
  obtain ⟨hx, hb, hml, hown, hts, hA, hK, hZ, hin, hroom, hret, hexc, hthr⟩ := F
  simp only [z_k_istore, Bool.or_eq_true, Bool.and_eq_true, decide_eq_true_eq] at hk
  obtain ⟨hlt, hk⟩ := hk
  have hlt := z_blt_t hlt
  obtain ⟨v1, rest, rfl, h5⟩ := z_i1_some h
  have h := h5
  intro hn0 hw hl hs
  obtain ⟨mo, wf2, wr, at2⟩ := hnx _ _ _ h hn0 hw (z_wlo_st1 hl (z_wvs_hd hs)) (z_wvs_tl hs)
  rcases hk with ⟨rfl, h1⟩ | ⟨⟨h3, rfl⟩, h1⟩ <;> have h1 := z_beq_t h1 <;> subst h1
  · exact ⟨mo, wf2, wr, fun ad H locs ls cells slots h0 hP hD hS hlo hc hsl => lv_istore hx hb hd hlo hlt (by rw [z_lm_f1]; rfl) (fun ls2 hl2 => at2 ad H locs ls2 cells slots h0 hP hD hS hl2 hc hsl)⟩
  · exact ⟨mo, wf2, wr, fun ad H locs ls cells slots h0 hP hD hS hlo hc hsl => lv_istore_n hx hb hd (Nat.mod_eq_of_lt (z_blt_t h3)) hlo hlt (by rw [z_lm_f1]; rfl) (fun ls2 hl2 => at2 ad H locs ls2 cells slots h0 hP hD hS hl2 hc hsl)⟩
theorem zs_astore {X : ZX} {call : ZC} {p : Program} {l : Launch} {e : Env} {R : Room} {s : State} {m : MethodId} {args : Array Value} {below : List Frame} {meth : Method} {c : Code} {y : Nat} {ad0 : Nat → Nat} {D : va_G} {cA : Nat → ClassId} {A : Nat → Prop} {Q : State → Prop} {n0 mc ms : Nat} {r : Option Value ⊕ Nat} {w2 : ZW} (F : z_Fx X p l e R s m args below meth c y ad0 D cA A Q n0 mc ms r w2) {hs : List ZH} {go : Nat → ZL → List Value → ZW → ZR} {nx : ZL → List Value → ZW → ZR} {pc a b cc d len : Nat} {n : Int} {ts : List (Int × Nat)} {lo : ZL} {st : List Value} {w : ZW} {ins : Instr} {ps : List Nat} (hd : decode (z_mb y) pc = .ok (ins, len)) (hk : z_k_astore y pc len a b cc d n ts ins ps = true) (hgo : ∀ t lo st w, go t lo st w = some (r, w2) → z_Gd X p l e R s m args below meth c y ad0 D cA A Q n0 mc ms r w2 t lo st w) (hnx : ∀ lo st w, nx lo st w = some (r, w2) → z_Gd X p l e R s m args below meth c y ad0 D cA A Q n0 mc ms r w2 (pc + len) lo st w) (h : z_o_astore X call hs go nx pc a b cc d n ts lo st w = some (r, w2)) : z_Gd X p l e R s m args below meth c y ad0 D cA A Q n0 mc ms r w2 pc lo st w := by
  obtain ⟨hx, hb, hml, hown, hts, hA, hK, hZ, hin, hroom, hret, hexc, hthr⟩ := F
  simp only [z_k_astore, Bool.or_eq_true, Bool.and_eq_true, decide_eq_true_eq] at hk
  obtain ⟨hlt, hk⟩ := hk
  have hlt := z_blt_t hlt
  obtain ⟨v1, rest, rfl, h5⟩ := z_r1_some h
  have h := h5
  intro hn0 hw hl hs
  obtain ⟨mo, wf2, wr, at2⟩ := hnx _ _ _ h hn0 hw (z_wlo_st1 hl (z_wvs_hd hs)) (z_wvs_tl hs)
  rcases hk with ⟨rfl, h1⟩ | ⟨⟨h3, rfl⟩, h1⟩ <;> have h1 := z_beq_t h1 <;> subst h1
  · exact ⟨mo, wf2, wr, fun ad H locs ls cells slots h0 hP hD hS hlo hc hsl => lv_astore hx hb hd hlo hlt (by rw [z_lm_f1]; rfl) (fun ls2 hl2 => at2 ad H locs ls2 cells slots h0 hP hD hS hl2 hc hsl)⟩
  · exact ⟨mo, wf2, wr, fun ad H locs ls cells slots h0 hP hD hS hlo hc hsl => lv_astore_n hx hb hd (Nat.mod_eq_of_lt (z_blt_t h3)) hlo hlt (by rw [z_lm_f1]; rfl) (fun ls2 hl2 => at2 ad H locs ls2 cells slots h0 hP hD hS hl2 hc hsl)⟩
theorem zs_lstore {X : ZX} {call : ZC} {p : Program} {l : Launch} {e : Env} {R : Room} {s : State} {m : MethodId} {args : Array Value} {below : List Frame} {meth : Method} {c : Code} {y : Nat} {ad0 : Nat → Nat} {D : va_G} {cA : Nat → ClassId} {A : Nat → Prop} {Q : State → Prop} {n0 mc ms : Nat} {r : Option Value ⊕ Nat} {w2 : ZW} (F : z_Fx X p l e R s m args below meth c y ad0 D cA A Q n0 mc ms r w2) {hs : List ZH} {go : Nat → ZL → List Value → ZW → ZR} {nx : ZL → List Value → ZW → ZR} {pc a b cc d len : Nat} {n : Int} {ts : List (Int × Nat)} {lo : ZL} {st : List Value} {w : ZW} {ins : Instr} {ps : List Nat} (hd : decode (z_mb y) pc = .ok (ins, len)) (hk : z_k_lstore y pc len a b cc d n ts ins ps = true) (hgo : ∀ t lo st w, go t lo st w = some (r, w2) → z_Gd X p l e R s m args below meth c y ad0 D cA A Q n0 mc ms r w2 t lo st w) (hnx : ∀ lo st w, nx lo st w = some (r, w2) → z_Gd X p l e R s m args below meth c y ad0 D cA A Q n0 mc ms r w2 (pc + len) lo st w) (h : z_o_lstore X call hs go nx pc a b cc d n ts lo st w = some (r, w2)) : z_Gd X p l e R s m args below meth c y ad0 D cA A Q n0 mc ms r w2 pc lo st w := by
  obtain ⟨hx, hb, hml, hown, hts, hA, hK, hZ, hin, hroom, hret, hexc, hthr⟩ := F
  simp only [z_k_lstore, Bool.or_eq_true, Bool.and_eq_true, decide_eq_true_eq] at hk
  obtain ⟨hlt, hk⟩ := hk
  have hlt := z_blt_t hlt
  obtain ⟨v1, rest, rfl, h5⟩ := z_l1_some h
  have h := h5
  intro hn0 hw hl hs
  obtain ⟨mo, wf2, wr, at2⟩ := hnx _ _ _ h hn0 hw (z_wlo_st2 hl (z_wvs_hd hs)) (z_wvs_tl hs)
  rcases hk with ⟨rfl, h1⟩ | ⟨⟨h3, rfl⟩, h1⟩ <;> have h1 := z_beq_t h1 <;> subst h1
  · exact ⟨mo, wf2, wr, fun ad H locs ls cells slots h0 hP hD hS hlo hc hsl => lv_lstore hx hb hd hlo hlt (by rw [z_lm_f2]; rfl) (fun ls2 hl2 => at2 ad H locs ls2 cells slots h0 hP hD hS hl2 hc hsl)⟩
  · exact ⟨mo, wf2, wr, fun ad H locs ls cells slots h0 hP hD hS hlo hc hsl => lv_lstore_n hx hb hd (Nat.mod_eq_of_lt (z_blt_t h3)) hlo hlt (by rw [z_lm_f2]; rfl) (fun ls2 hl2 => at2 ad H locs ls2 cells slots h0 hP hD hS hl2 hc hsl)⟩
theorem zs_iinc {X : ZX} {call : ZC} {p : Program} {l : Launch} {e : Env} {R : Room} {s : State} {m : MethodId} {args : Array Value} {below : List Frame} {meth : Method} {c : Code} {y : Nat} {ad0 : Nat → Nat} {D : va_G} {cA : Nat → ClassId} {A : Nat → Prop} {Q : State → Prop} {n0 mc ms : Nat} {r : Option Value ⊕ Nat} {w2 : ZW} (F : z_Fx X p l e R s m args below meth c y ad0 D cA A Q n0 mc ms r w2) {hs : List ZH} {go : Nat → ZL → List Value → ZW → ZR} {nx : ZL → List Value → ZW → ZR} {pc a b cc d len : Nat} {n : Int} {ts : List (Int × Nat)} {lo : ZL} {st : List Value} {w : ZW} {ins : Instr} {ps : List Nat} (hd : decode (z_mb y) pc = .ok (ins, len)) (hk : z_k_iinc y pc len a b cc d n ts ins ps = true) (hgo : ∀ t lo st w, go t lo st w = some (r, w2) → z_Gd X p l e R s m args below meth c y ad0 D cA A Q n0 mc ms r w2 t lo st w) (hnx : ∀ lo st w, nx lo st w = some (r, w2) → z_Gd X p l e R s m args below meth c y ad0 D cA A Q n0 mc ms r w2 (pc + len) lo st w) (h : z_o_iinc X call hs go nx pc a b cc d n ts lo st w = some (r, w2)) : z_Gd X p l e R s m args below meth c y ad0 D cA A Q n0 mc ms r w2 pc lo st w := by
  obtain ⟨hx, hb, hml, hown, hts, hA, hK, hZ, hin, hroom, hret, hexc, hthr⟩ := F
  simp only [z_k_iinc, Bool.and_eq_true, decide_eq_true_eq] at hk
  obtain ⟨⟨rfl, hlen⟩, hlt⟩ := hk
  have hlen := z_beq_t hlen
  have hlt := z_blt_t hlt
  subst hlen
  unfold z_o_iinc at h
  split at h
  case h_2 => cases h
  rename_i x hv
  intro hn0 hw hl hs
  obtain ⟨mo, wf2, wr, at2⟩ := hnx _ _ _ h hn0 hw (z_wlo_st1 hl (z_wv_i _ _)) hs
  refine ⟨mo, wf2, wr, fun ad H locs ls cells slots h0 hP hD hS hlo hc hsl => ?_⟩
  obtain ⟨k, hk⟩ := List.getElem?_of_mem (List.mem_map.mpr ⟨(a, .int x), z_lk_mem hv, rfl⟩ : (a, .int x) ∈ z_lm ad lo)
  exact lv_iinc hx hb hd hlo hk rfl hlt (by rw [z_lm_f1]; rfl) (fun ls2 hl2 => at2 ad H locs ls2 cells slots h0 hP hD hS hl2 hc hsl)
theorem zs_goto {X : ZX} {call : ZC} {p : Program} {l : Launch} {e : Env} {R : Room} {s : State} {m : MethodId} {args : Array Value} {below : List Frame} {meth : Method} {c : Code} {y : Nat} {ad0 : Nat → Nat} {D : va_G} {cA : Nat → ClassId} {A : Nat → Prop} {Q : State → Prop} {n0 mc ms : Nat} {r : Option Value ⊕ Nat} {w2 : ZW} (F : z_Fx X p l e R s m args below meth c y ad0 D cA A Q n0 mc ms r w2) {hs : List ZH} {go : Nat → ZL → List Value → ZW → ZR} {nx : ZL → List Value → ZW → ZR} {pc a b cc d len : Nat} {n : Int} {ts : List (Int × Nat)} {lo : ZL} {st : List Value} {w : ZW} {ins : Instr} {ps : List Nat} (hd : decode (z_mb y) pc = .ok (ins, len)) (hk : z_k_goto y pc len a b cc d n ts ins ps = true) (hgo : ∀ t lo st w, go t lo st w = some (r, w2) → z_Gd X p l e R s m args below meth c y ad0 D cA A Q n0 mc ms r w2 t lo st w) (hnx : ∀ lo st w, nx lo st w = some (r, w2) → z_Gd X p l e R s m args below meth c y ad0 D cA A Q n0 mc ms r w2 (pc + len) lo st w) (h : z_o_goto X call hs go nx pc a b cc d n ts lo st w = some (r, w2)) : z_Gd X p l e R s m args below meth c y ad0 D cA A Q n0 mc ms r w2 pc lo st w := by
  obtain ⟨hx, hb, hml, hown, hts, hA, hK, hZ, hin, hroom, hret, hexc, hthr⟩ := F
  simp only [z_k_goto, Bool.and_eq_true, decide_eq_true_eq] at hk
  obtain ⟨rfl, hlen⟩ := hk
  have hlen := z_beq_t hlen
  subst hlen
  intro hn0 hw hl hs
  obtain ⟨mo, wf2, wr, at2⟩ := hgo _ _ _ _ h hn0 hw hl hs
  exact ⟨mo, wf2, wr, fun ad H locs ls cells slots h0 hP hD hS hlo hc hsl => lv_goto hx hb hd (by omega) (at2 ad H locs ls cells slots h0 hP hD hS hlo hc hsl)⟩
theorem zs_ifeq {X : ZX} {call : ZC} {p : Program} {l : Launch} {e : Env} {R : Room} {s : State} {m : MethodId} {args : Array Value} {below : List Frame} {meth : Method} {c : Code} {y : Nat} {ad0 : Nat → Nat} {D : va_G} {cA : Nat → ClassId} {A : Nat → Prop} {Q : State → Prop} {n0 mc ms : Nat} {r : Option Value ⊕ Nat} {w2 : ZW} (F : z_Fx X p l e R s m args below meth c y ad0 D cA A Q n0 mc ms r w2) {hs : List ZH} {go : Nat → ZL → List Value → ZW → ZR} {nx : ZL → List Value → ZW → ZR} {pc a b cc d len : Nat} {n : Int} {ts : List (Int × Nat)} {lo : ZL} {st : List Value} {w : ZW} {ins : Instr} {ps : List Nat} (hd : decode (z_mb y) pc = .ok (ins, len)) (hk : z_k_ifeq y pc len a b cc d n ts ins ps = true) (hgo : ∀ t lo st w, go t lo st w = some (r, w2) → z_Gd X p l e R s m args below meth c y ad0 D cA A Q n0 mc ms r w2 t lo st w) (hnx : ∀ lo st w, nx lo st w = some (r, w2) → z_Gd X p l e R s m args below meth c y ad0 D cA A Q n0 mc ms r w2 (pc + len) lo st w) (h : z_o_ifeq X call hs go nx pc a b cc d n ts lo st w = some (r, w2)) : z_Gd X p l e R s m args below meth c y ad0 D cA A Q n0 mc ms r w2 pc lo st w := by
  obtain ⟨hx, hb, hml, hown, hts, hA, hK, hZ, hin, hroom, hret, hexc, hthr⟩ := F
  simp only [z_k_ifeq, Bool.and_eq_true, decide_eq_true_eq] at hk
  obtain ⟨rfl, hlen⟩ := hk
  have hlen := z_beq_t hlen
  subst hlen
  obtain ⟨v1, rest, rfl, h5⟩ := z_i1_some h
  have h := h5
  intro hn0 hw hl hs
  by_cases hz : v1 = 0
  · rw [if_pos hz] at h
    obtain ⟨mo, wf2, wr, at2⟩ := hgo _ _ _ _ h hn0 hw hl (z_wvs_tl hs)
    exact ⟨mo, wf2, wr, fun ad H locs ls cells slots h0 hP hD hS hlo hc hsl => lv_if_eq hx hb hd (tgt := a) (by omega) (fun _ => at2 ad H locs ls cells slots h0 hP hD hS hlo hc hsl) (fun hq => absurd hz hq)⟩
  · rw [if_neg hz] at h
    obtain ⟨mo, wf2, wr, at2⟩ := hnx _ _ _ h hn0 hw hl (z_wvs_tl hs)
    exact ⟨mo, wf2, wr, fun ad H locs ls cells slots h0 hP hD hS hlo hc hsl => lv_if_eq hx hb hd (tgt := a) (by omega) (fun hq => absurd hq hz) (fun _ => at2 ad H locs ls cells slots h0 hP hD hS hlo hc hsl)⟩
theorem zs_ifne {X : ZX} {call : ZC} {p : Program} {l : Launch} {e : Env} {R : Room} {s : State} {m : MethodId} {args : Array Value} {below : List Frame} {meth : Method} {c : Code} {y : Nat} {ad0 : Nat → Nat} {D : va_G} {cA : Nat → ClassId} {A : Nat → Prop} {Q : State → Prop} {n0 mc ms : Nat} {r : Option Value ⊕ Nat} {w2 : ZW} (F : z_Fx X p l e R s m args below meth c y ad0 D cA A Q n0 mc ms r w2) {hs : List ZH} {go : Nat → ZL → List Value → ZW → ZR} {nx : ZL → List Value → ZW → ZR} {pc a b cc d len : Nat} {n : Int} {ts : List (Int × Nat)} {lo : ZL} {st : List Value} {w : ZW} {ins : Instr} {ps : List Nat} (hd : decode (z_mb y) pc = .ok (ins, len)) (hk : z_k_ifne y pc len a b cc d n ts ins ps = true) (hgo : ∀ t lo st w, go t lo st w = some (r, w2) → z_Gd X p l e R s m args below meth c y ad0 D cA A Q n0 mc ms r w2 t lo st w) (hnx : ∀ lo st w, nx lo st w = some (r, w2) → z_Gd X p l e R s m args below meth c y ad0 D cA A Q n0 mc ms r w2 (pc + len) lo st w) (h : z_o_ifne X call hs go nx pc a b cc d n ts lo st w = some (r, w2)) : z_Gd X p l e R s m args below meth c y ad0 D cA A Q n0 mc ms r w2 pc lo st w := by
  obtain ⟨hx, hb, hml, hown, hts, hA, hK, hZ, hin, hroom, hret, hexc, hthr⟩ := F
  simp only [z_k_ifne, Bool.and_eq_true, decide_eq_true_eq] at hk
  obtain ⟨rfl, hlen⟩ := hk
  have hlen := z_beq_t hlen
  subst hlen
  obtain ⟨v1, rest, rfl, h5⟩ := z_i1_some h
  have h := h5
  intro hn0 hw hl hs
  by_cases hz : v1 = 0
  · rw [if_pos hz] at h
    obtain ⟨mo, wf2, wr, at2⟩ := hnx _ _ _ h hn0 hw hl (z_wvs_tl hs)
    exact ⟨mo, wf2, wr, fun ad H locs ls cells slots h0 hP hD hS hlo hc hsl => lv_if_ne hx hb hd (tgt := a) (by omega) (fun hq => absurd hz hq) (fun _ => at2 ad H locs ls cells slots h0 hP hD hS hlo hc hsl)⟩
  · rw [if_neg hz] at h
    obtain ⟨mo, wf2, wr, at2⟩ := hgo _ _ _ _ h hn0 hw hl (z_wvs_tl hs)
    exact ⟨mo, wf2, wr, fun ad H locs ls cells slots h0 hP hD hS hlo hc hsl => lv_if_ne hx hb hd (tgt := a) (by omega) (fun _ => at2 ad H locs ls cells slots h0 hP hD hS hlo hc hsl) (fun hq => absurd hq hz)⟩
theorem zs_iflt {X : ZX} {call : ZC} {p : Program} {l : Launch} {e : Env} {R : Room} {s : State} {m : MethodId} {args : Array Value} {below : List Frame} {meth : Method} {c : Code} {y : Nat} {ad0 : Nat → Nat} {D : va_G} {cA : Nat → ClassId} {A : Nat → Prop} {Q : State → Prop} {n0 mc ms : Nat} {r : Option Value ⊕ Nat} {w2 : ZW} (F : z_Fx X p l e R s m args below meth c y ad0 D cA A Q n0 mc ms r w2) {hs : List ZH} {go : Nat → ZL → List Value → ZW → ZR} {nx : ZL → List Value → ZW → ZR} {pc a b cc d len : Nat} {n : Int} {ts : List (Int × Nat)} {lo : ZL} {st : List Value} {w : ZW} {ins : Instr} {ps : List Nat} (hd : decode (z_mb y) pc = .ok (ins, len)) (hk : z_k_iflt y pc len a b cc d n ts ins ps = true) (hgo : ∀ t lo st w, go t lo st w = some (r, w2) → z_Gd X p l e R s m args below meth c y ad0 D cA A Q n0 mc ms r w2 t lo st w) (hnx : ∀ lo st w, nx lo st w = some (r, w2) → z_Gd X p l e R s m args below meth c y ad0 D cA A Q n0 mc ms r w2 (pc + len) lo st w) (h : z_o_iflt X call hs go nx pc a b cc d n ts lo st w = some (r, w2)) : z_Gd X p l e R s m args below meth c y ad0 D cA A Q n0 mc ms r w2 pc lo st w := by
  obtain ⟨hx, hb, hml, hown, hts, hA, hK, hZ, hin, hroom, hret, hexc, hthr⟩ := F
  simp only [z_k_iflt, Bool.and_eq_true, decide_eq_true_eq] at hk
  obtain ⟨rfl, hlen⟩ := hk
  have hlen := z_beq_t hlen
  subst hlen
  obtain ⟨v1, rest, rfl, h5⟩ := z_i1_some h
  have h := h5
  intro hn0 hw hl hs
  by_cases hz : v1 < 0
  · rw [if_pos hz] at h
    obtain ⟨mo, wf2, wr, at2⟩ := hgo _ _ _ _ h hn0 hw hl (z_wvs_tl hs)
    exact ⟨mo, wf2, wr, fun ad H locs ls cells slots h0 hP hD hS hlo hc hsl => lv_if_lt hx hb hd (tgt := a) (by omega) (fun _ => at2 ad H locs ls cells slots h0 hP hD hS hlo hc hsl) (fun hq => absurd hz hq)⟩
  · rw [if_neg hz] at h
    obtain ⟨mo, wf2, wr, at2⟩ := hnx _ _ _ h hn0 hw hl (z_wvs_tl hs)
    exact ⟨mo, wf2, wr, fun ad H locs ls cells slots h0 hP hD hS hlo hc hsl => lv_if_lt hx hb hd (tgt := a) (by omega) (fun hq => absurd hq hz) (fun _ => at2 ad H locs ls cells slots h0 hP hD hS hlo hc hsl)⟩
theorem zs_ifge {X : ZX} {call : ZC} {p : Program} {l : Launch} {e : Env} {R : Room} {s : State} {m : MethodId} {args : Array Value} {below : List Frame} {meth : Method} {c : Code} {y : Nat} {ad0 : Nat → Nat} {D : va_G} {cA : Nat → ClassId} {A : Nat → Prop} {Q : State → Prop} {n0 mc ms : Nat} {r : Option Value ⊕ Nat} {w2 : ZW} (F : z_Fx X p l e R s m args below meth c y ad0 D cA A Q n0 mc ms r w2) {hs : List ZH} {go : Nat → ZL → List Value → ZW → ZR} {nx : ZL → List Value → ZW → ZR} {pc a b cc d len : Nat} {n : Int} {ts : List (Int × Nat)} {lo : ZL} {st : List Value} {w : ZW} {ins : Instr} {ps : List Nat} (hd : decode (z_mb y) pc = .ok (ins, len)) (hk : z_k_ifge y pc len a b cc d n ts ins ps = true) (hgo : ∀ t lo st w, go t lo st w = some (r, w2) → z_Gd X p l e R s m args below meth c y ad0 D cA A Q n0 mc ms r w2 t lo st w) (hnx : ∀ lo st w, nx lo st w = some (r, w2) → z_Gd X p l e R s m args below meth c y ad0 D cA A Q n0 mc ms r w2 (pc + len) lo st w) (h : z_o_ifge X call hs go nx pc a b cc d n ts lo st w = some (r, w2)) : z_Gd X p l e R s m args below meth c y ad0 D cA A Q n0 mc ms r w2 pc lo st w := by
  obtain ⟨hx, hb, hml, hown, hts, hA, hK, hZ, hin, hroom, hret, hexc, hthr⟩ := F
  simp only [z_k_ifge, Bool.and_eq_true, decide_eq_true_eq] at hk
  obtain ⟨rfl, hlen⟩ := hk
  have hlen := z_beq_t hlen
  subst hlen
  obtain ⟨v1, rest, rfl, h5⟩ := z_i1_some h
  have h := h5
  intro hn0 hw hl hs
  by_cases hz : 0 ≤ v1
  · rw [if_pos hz] at h
    obtain ⟨mo, wf2, wr, at2⟩ := hgo _ _ _ _ h hn0 hw hl (z_wvs_tl hs)
    exact ⟨mo, wf2, wr, fun ad H locs ls cells slots h0 hP hD hS hlo hc hsl => lv_if_ge hx hb hd (tgt := a) (by omega) (fun _ => at2 ad H locs ls cells slots h0 hP hD hS hlo hc hsl) (fun hq => absurd hz hq)⟩
  · rw [if_neg hz] at h
    obtain ⟨mo, wf2, wr, at2⟩ := hnx _ _ _ h hn0 hw hl (z_wvs_tl hs)
    exact ⟨mo, wf2, wr, fun ad H locs ls cells slots h0 hP hD hS hlo hc hsl => lv_if_ge hx hb hd (tgt := a) (by omega) (fun hq => absurd hq hz) (fun _ => at2 ad H locs ls cells slots h0 hP hD hS hlo hc hsl)⟩
theorem zs_ifgt {X : ZX} {call : ZC} {p : Program} {l : Launch} {e : Env} {R : Room} {s : State} {m : MethodId} {args : Array Value} {below : List Frame} {meth : Method} {c : Code} {y : Nat} {ad0 : Nat → Nat} {D : va_G} {cA : Nat → ClassId} {A : Nat → Prop} {Q : State → Prop} {n0 mc ms : Nat} {r : Option Value ⊕ Nat} {w2 : ZW} (F : z_Fx X p l e R s m args below meth c y ad0 D cA A Q n0 mc ms r w2) {hs : List ZH} {go : Nat → ZL → List Value → ZW → ZR} {nx : ZL → List Value → ZW → ZR} {pc a b cc d len : Nat} {n : Int} {ts : List (Int × Nat)} {lo : ZL} {st : List Value} {w : ZW} {ins : Instr} {ps : List Nat} (hd : decode (z_mb y) pc = .ok (ins, len)) (hk : z_k_ifgt y pc len a b cc d n ts ins ps = true) (hgo : ∀ t lo st w, go t lo st w = some (r, w2) → z_Gd X p l e R s m args below meth c y ad0 D cA A Q n0 mc ms r w2 t lo st w) (hnx : ∀ lo st w, nx lo st w = some (r, w2) → z_Gd X p l e R s m args below meth c y ad0 D cA A Q n0 mc ms r w2 (pc + len) lo st w) (h : z_o_ifgt X call hs go nx pc a b cc d n ts lo st w = some (r, w2)) : z_Gd X p l e R s m args below meth c y ad0 D cA A Q n0 mc ms r w2 pc lo st w := by
  obtain ⟨hx, hb, hml, hown, hts, hA, hK, hZ, hin, hroom, hret, hexc, hthr⟩ := F
  simp only [z_k_ifgt, Bool.and_eq_true, decide_eq_true_eq] at hk
  obtain ⟨rfl, hlen⟩ := hk
  have hlen := z_beq_t hlen
  subst hlen
  obtain ⟨v1, rest, rfl, h5⟩ := z_i1_some h
  have h := h5
  intro hn0 hw hl hs
  by_cases hz : 0 < v1
  · rw [if_pos hz] at h
    obtain ⟨mo, wf2, wr, at2⟩ := hgo _ _ _ _ h hn0 hw hl (z_wvs_tl hs)
    exact ⟨mo, wf2, wr, fun ad H locs ls cells slots h0 hP hD hS hlo hc hsl => lv_if_gt hx hb hd (tgt := a) (by omega) (fun _ => at2 ad H locs ls cells slots h0 hP hD hS hlo hc hsl) (fun hq => absurd hz hq)⟩
  · rw [if_neg hz] at h
    obtain ⟨mo, wf2, wr, at2⟩ := hnx _ _ _ h hn0 hw hl (z_wvs_tl hs)
    exact ⟨mo, wf2, wr, fun ad H locs ls cells slots h0 hP hD hS hlo hc hsl => lv_if_gt hx hb hd (tgt := a) (by omega) (fun hq => absurd hq hz) (fun _ => at2 ad H locs ls cells slots h0 hP hD hS hlo hc hsl)⟩
theorem zs_ifle {X : ZX} {call : ZC} {p : Program} {l : Launch} {e : Env} {R : Room} {s : State} {m : MethodId} {args : Array Value} {below : List Frame} {meth : Method} {c : Code} {y : Nat} {ad0 : Nat → Nat} {D : va_G} {cA : Nat → ClassId} {A : Nat → Prop} {Q : State → Prop} {n0 mc ms : Nat} {r : Option Value ⊕ Nat} {w2 : ZW} (F : z_Fx X p l e R s m args below meth c y ad0 D cA A Q n0 mc ms r w2) {hs : List ZH} {go : Nat → ZL → List Value → ZW → ZR} {nx : ZL → List Value → ZW → ZR} {pc a b cc d len : Nat} {n : Int} {ts : List (Int × Nat)} {lo : ZL} {st : List Value} {w : ZW} {ins : Instr} {ps : List Nat} (hd : decode (z_mb y) pc = .ok (ins, len)) (hk : z_k_ifle y pc len a b cc d n ts ins ps = true) (hgo : ∀ t lo st w, go t lo st w = some (r, w2) → z_Gd X p l e R s m args below meth c y ad0 D cA A Q n0 mc ms r w2 t lo st w) (hnx : ∀ lo st w, nx lo st w = some (r, w2) → z_Gd X p l e R s m args below meth c y ad0 D cA A Q n0 mc ms r w2 (pc + len) lo st w) (h : z_o_ifle X call hs go nx pc a b cc d n ts lo st w = some (r, w2)) : z_Gd X p l e R s m args below meth c y ad0 D cA A Q n0 mc ms r w2 pc lo st w := by
  obtain ⟨hx, hb, hml, hown, hts, hA, hK, hZ, hin, hroom, hret, hexc, hthr⟩ := F
  simp only [z_k_ifle, Bool.and_eq_true, decide_eq_true_eq] at hk
  obtain ⟨rfl, hlen⟩ := hk
  have hlen := z_beq_t hlen
  subst hlen
  obtain ⟨v1, rest, rfl, h5⟩ := z_i1_some h
  have h := h5
  intro hn0 hw hl hs
  by_cases hz : v1 ≤ 0
  · rw [if_pos hz] at h
    obtain ⟨mo, wf2, wr, at2⟩ := hgo _ _ _ _ h hn0 hw hl (z_wvs_tl hs)
    exact ⟨mo, wf2, wr, fun ad H locs ls cells slots h0 hP hD hS hlo hc hsl => lv_if_le hx hb hd (tgt := a) (by omega) (fun _ => at2 ad H locs ls cells slots h0 hP hD hS hlo hc hsl) (fun hq => absurd hz hq)⟩
  · rw [if_neg hz] at h
    obtain ⟨mo, wf2, wr, at2⟩ := hnx _ _ _ h hn0 hw hl (z_wvs_tl hs)
    exact ⟨mo, wf2, wr, fun ad H locs ls cells slots h0 hP hD hS hlo hc hsl => lv_if_le hx hb hd (tgt := a) (by omega) (fun hq => absurd hq hz) (fun _ => at2 ad H locs ls cells slots h0 hP hD hS hlo hc hsl)⟩
theorem zs_icmpeq {X : ZX} {call : ZC} {p : Program} {l : Launch} {e : Env} {R : Room} {s : State} {m : MethodId} {args : Array Value} {below : List Frame} {meth : Method} {c : Code} {y : Nat} {ad0 : Nat → Nat} {D : va_G} {cA : Nat → ClassId} {A : Nat → Prop} {Q : State → Prop} {n0 mc ms : Nat} {r : Option Value ⊕ Nat} {w2 : ZW} (F : z_Fx X p l e R s m args below meth c y ad0 D cA A Q n0 mc ms r w2) {hs : List ZH} {go : Nat → ZL → List Value → ZW → ZR} {nx : ZL → List Value → ZW → ZR} {pc a b cc d len : Nat} {n : Int} {ts : List (Int × Nat)} {lo : ZL} {st : List Value} {w : ZW} {ins : Instr} {ps : List Nat} (hd : decode (z_mb y) pc = .ok (ins, len)) (hk : z_k_icmpeq y pc len a b cc d n ts ins ps = true) (hgo : ∀ t lo st w, go t lo st w = some (r, w2) → z_Gd X p l e R s m args below meth c y ad0 D cA A Q n0 mc ms r w2 t lo st w) (hnx : ∀ lo st w, nx lo st w = some (r, w2) → z_Gd X p l e R s m args below meth c y ad0 D cA A Q n0 mc ms r w2 (pc + len) lo st w) (h : z_o_icmpeq X call hs go nx pc a b cc d n ts lo st w = some (r, w2)) : z_Gd X p l e R s m args below meth c y ad0 D cA A Q n0 mc ms r w2 pc lo st w := by
  obtain ⟨hx, hb, hml, hown, hts, hA, hK, hZ, hin, hroom, hret, hexc, hthr⟩ := F
  simp only [z_k_icmpeq, Bool.and_eq_true, decide_eq_true_eq] at hk
  obtain ⟨rfl, hlen⟩ := hk
  have hlen := z_beq_t hlen
  subst hlen
  obtain ⟨v1, v2, rest, rfl, h5⟩ := z_ii_some h
  have h := h5
  intro hn0 hw hl hs
  by_cases hz : v1 = v2
  · rw [if_pos hz] at h
    obtain ⟨mo, wf2, wr, at2⟩ := hgo _ _ _ _ h hn0 hw hl (z_wvs_tl (z_wvs_tl hs))
    exact ⟨mo, wf2, wr, fun ad H locs ls cells slots h0 hP hD hS hlo hc hsl => lv_icmp_eq hx hb hd (tgt := a) (by omega) (fun _ => at2 ad H locs ls cells slots h0 hP hD hS hlo hc hsl) (fun hq => absurd hz hq)⟩
  · rw [if_neg hz] at h
    obtain ⟨mo, wf2, wr, at2⟩ := hnx _ _ _ h hn0 hw hl (z_wvs_tl (z_wvs_tl hs))
    exact ⟨mo, wf2, wr, fun ad H locs ls cells slots h0 hP hD hS hlo hc hsl => lv_icmp_eq hx hb hd (tgt := a) (by omega) (fun hq => absurd hq hz) (fun _ => at2 ad H locs ls cells slots h0 hP hD hS hlo hc hsl)⟩
theorem zs_icmpne {X : ZX} {call : ZC} {p : Program} {l : Launch} {e : Env} {R : Room} {s : State} {m : MethodId} {args : Array Value} {below : List Frame} {meth : Method} {c : Code} {y : Nat} {ad0 : Nat → Nat} {D : va_G} {cA : Nat → ClassId} {A : Nat → Prop} {Q : State → Prop} {n0 mc ms : Nat} {r : Option Value ⊕ Nat} {w2 : ZW} (F : z_Fx X p l e R s m args below meth c y ad0 D cA A Q n0 mc ms r w2) {hs : List ZH} {go : Nat → ZL → List Value → ZW → ZR} {nx : ZL → List Value → ZW → ZR} {pc a b cc d len : Nat} {n : Int} {ts : List (Int × Nat)} {lo : ZL} {st : List Value} {w : ZW} {ins : Instr} {ps : List Nat} (hd : decode (z_mb y) pc = .ok (ins, len)) (hk : z_k_icmpne y pc len a b cc d n ts ins ps = true) (hgo : ∀ t lo st w, go t lo st w = some (r, w2) → z_Gd X p l e R s m args below meth c y ad0 D cA A Q n0 mc ms r w2 t lo st w) (hnx : ∀ lo st w, nx lo st w = some (r, w2) → z_Gd X p l e R s m args below meth c y ad0 D cA A Q n0 mc ms r w2 (pc + len) lo st w) (h : z_o_icmpne X call hs go nx pc a b cc d n ts lo st w = some (r, w2)) : z_Gd X p l e R s m args below meth c y ad0 D cA A Q n0 mc ms r w2 pc lo st w := by
  obtain ⟨hx, hb, hml, hown, hts, hA, hK, hZ, hin, hroom, hret, hexc, hthr⟩ := F
  simp only [z_k_icmpne, Bool.and_eq_true, decide_eq_true_eq] at hk
  obtain ⟨rfl, hlen⟩ := hk
  have hlen := z_beq_t hlen
  subst hlen
  obtain ⟨v1, v2, rest, rfl, h5⟩ := z_ii_some h
  have h := h5
  intro hn0 hw hl hs
  by_cases hz : v1 = v2
  · rw [if_pos hz] at h
    obtain ⟨mo, wf2, wr, at2⟩ := hnx _ _ _ h hn0 hw hl (z_wvs_tl (z_wvs_tl hs))
    exact ⟨mo, wf2, wr, fun ad H locs ls cells slots h0 hP hD hS hlo hc hsl => lv_icmp_ne hx hb hd (tgt := a) (by omega) (fun hq => absurd hz hq) (fun _ => at2 ad H locs ls cells slots h0 hP hD hS hlo hc hsl)⟩
  · rw [if_neg hz] at h
    obtain ⟨mo, wf2, wr, at2⟩ := hgo _ _ _ _ h hn0 hw hl (z_wvs_tl (z_wvs_tl hs))
    exact ⟨mo, wf2, wr, fun ad H locs ls cells slots h0 hP hD hS hlo hc hsl => lv_icmp_ne hx hb hd (tgt := a) (by omega) (fun _ => at2 ad H locs ls cells slots h0 hP hD hS hlo hc hsl) (fun hq => absurd hq hz)⟩
theorem zs_icmplt {X : ZX} {call : ZC} {p : Program} {l : Launch} {e : Env} {R : Room} {s : State} {m : MethodId} {args : Array Value} {below : List Frame} {meth : Method} {c : Code} {y : Nat} {ad0 : Nat → Nat} {D : va_G} {cA : Nat → ClassId} {A : Nat → Prop} {Q : State → Prop} {n0 mc ms : Nat} {r : Option Value ⊕ Nat} {w2 : ZW} (F : z_Fx X p l e R s m args below meth c y ad0 D cA A Q n0 mc ms r w2) {hs : List ZH} {go : Nat → ZL → List Value → ZW → ZR} {nx : ZL → List Value → ZW → ZR} {pc a b cc d len : Nat} {n : Int} {ts : List (Int × Nat)} {lo : ZL} {st : List Value} {w : ZW} {ins : Instr} {ps : List Nat} (hd : decode (z_mb y) pc = .ok (ins, len)) (hk : z_k_icmplt y pc len a b cc d n ts ins ps = true) (hgo : ∀ t lo st w, go t lo st w = some (r, w2) → z_Gd X p l e R s m args below meth c y ad0 D cA A Q n0 mc ms r w2 t lo st w) (hnx : ∀ lo st w, nx lo st w = some (r, w2) → z_Gd X p l e R s m args below meth c y ad0 D cA A Q n0 mc ms r w2 (pc + len) lo st w) (h : z_o_icmplt X call hs go nx pc a b cc d n ts lo st w = some (r, w2)) : z_Gd X p l e R s m args below meth c y ad0 D cA A Q n0 mc ms r w2 pc lo st w := by
  obtain ⟨hx, hb, hml, hown, hts, hA, hK, hZ, hin, hroom, hret, hexc, hthr⟩ := F
  simp only [z_k_icmplt, Bool.and_eq_true, decide_eq_true_eq] at hk
  obtain ⟨rfl, hlen⟩ := hk
  have hlen := z_beq_t hlen
  subst hlen
  obtain ⟨v1, v2, rest, rfl, h5⟩ := z_ii_some h
  have h := h5
  intro hn0 hw hl hs
  by_cases hz : v1 < v2
  · rw [if_pos hz] at h
    obtain ⟨mo, wf2, wr, at2⟩ := hgo _ _ _ _ h hn0 hw hl (z_wvs_tl (z_wvs_tl hs))
    exact ⟨mo, wf2, wr, fun ad H locs ls cells slots h0 hP hD hS hlo hc hsl => lv_icmp_lt hx hb hd (tgt := a) (by omega) (fun _ => at2 ad H locs ls cells slots h0 hP hD hS hlo hc hsl) (fun hq => absurd hz hq)⟩
  · rw [if_neg hz] at h
    obtain ⟨mo, wf2, wr, at2⟩ := hnx _ _ _ h hn0 hw hl (z_wvs_tl (z_wvs_tl hs))
    exact ⟨mo, wf2, wr, fun ad H locs ls cells slots h0 hP hD hS hlo hc hsl => lv_icmp_lt hx hb hd (tgt := a) (by omega) (fun hq => absurd hq hz) (fun _ => at2 ad H locs ls cells slots h0 hP hD hS hlo hc hsl)⟩
theorem zs_icmpge {X : ZX} {call : ZC} {p : Program} {l : Launch} {e : Env} {R : Room} {s : State} {m : MethodId} {args : Array Value} {below : List Frame} {meth : Method} {c : Code} {y : Nat} {ad0 : Nat → Nat} {D : va_G} {cA : Nat → ClassId} {A : Nat → Prop} {Q : State → Prop} {n0 mc ms : Nat} {r : Option Value ⊕ Nat} {w2 : ZW} (F : z_Fx X p l e R s m args below meth c y ad0 D cA A Q n0 mc ms r w2) {hs : List ZH} {go : Nat → ZL → List Value → ZW → ZR} {nx : ZL → List Value → ZW → ZR} {pc a b cc d len : Nat} {n : Int} {ts : List (Int × Nat)} {lo : ZL} {st : List Value} {w : ZW} {ins : Instr} {ps : List Nat} (hd : decode (z_mb y) pc = .ok (ins, len)) (hk : z_k_icmpge y pc len a b cc d n ts ins ps = true) (hgo : ∀ t lo st w, go t lo st w = some (r, w2) → z_Gd X p l e R s m args below meth c y ad0 D cA A Q n0 mc ms r w2 t lo st w) (hnx : ∀ lo st w, nx lo st w = some (r, w2) → z_Gd X p l e R s m args below meth c y ad0 D cA A Q n0 mc ms r w2 (pc + len) lo st w) (h : z_o_icmpge X call hs go nx pc a b cc d n ts lo st w = some (r, w2)) : z_Gd X p l e R s m args below meth c y ad0 D cA A Q n0 mc ms r w2 pc lo st w := by
  obtain ⟨hx, hb, hml, hown, hts, hA, hK, hZ, hin, hroom, hret, hexc, hthr⟩ := F
  simp only [z_k_icmpge, Bool.and_eq_true, decide_eq_true_eq] at hk
  obtain ⟨rfl, hlen⟩ := hk
  have hlen := z_beq_t hlen
  subst hlen
  obtain ⟨v1, v2, rest, rfl, h5⟩ := z_ii_some h
  have h := h5
  intro hn0 hw hl hs
  by_cases hz : v2 ≤ v1
  · rw [if_pos hz] at h
    obtain ⟨mo, wf2, wr, at2⟩ := hgo _ _ _ _ h hn0 hw hl (z_wvs_tl (z_wvs_tl hs))
    exact ⟨mo, wf2, wr, fun ad H locs ls cells slots h0 hP hD hS hlo hc hsl => lv_icmp_ge hx hb hd (tgt := a) (by omega) (fun _ => at2 ad H locs ls cells slots h0 hP hD hS hlo hc hsl) (fun hq => absurd hz hq)⟩
  · rw [if_neg hz] at h
    obtain ⟨mo, wf2, wr, at2⟩ := hnx _ _ _ h hn0 hw hl (z_wvs_tl (z_wvs_tl hs))
    exact ⟨mo, wf2, wr, fun ad H locs ls cells slots h0 hP hD hS hlo hc hsl => lv_icmp_ge hx hb hd (tgt := a) (by omega) (fun hq => absurd hq hz) (fun _ => at2 ad H locs ls cells slots h0 hP hD hS hlo hc hsl)⟩
theorem zs_icmpgt {X : ZX} {call : ZC} {p : Program} {l : Launch} {e : Env} {R : Room} {s : State} {m : MethodId} {args : Array Value} {below : List Frame} {meth : Method} {c : Code} {y : Nat} {ad0 : Nat → Nat} {D : va_G} {cA : Nat → ClassId} {A : Nat → Prop} {Q : State → Prop} {n0 mc ms : Nat} {r : Option Value ⊕ Nat} {w2 : ZW} (F : z_Fx X p l e R s m args below meth c y ad0 D cA A Q n0 mc ms r w2) {hs : List ZH} {go : Nat → ZL → List Value → ZW → ZR} {nx : ZL → List Value → ZW → ZR} {pc a b cc d len : Nat} {n : Int} {ts : List (Int × Nat)} {lo : ZL} {st : List Value} {w : ZW} {ins : Instr} {ps : List Nat} (hd : decode (z_mb y) pc = .ok (ins, len)) (hk : z_k_icmpgt y pc len a b cc d n ts ins ps = true) (hgo : ∀ t lo st w, go t lo st w = some (r, w2) → z_Gd X p l e R s m args below meth c y ad0 D cA A Q n0 mc ms r w2 t lo st w) (hnx : ∀ lo st w, nx lo st w = some (r, w2) → z_Gd X p l e R s m args below meth c y ad0 D cA A Q n0 mc ms r w2 (pc + len) lo st w) (h : z_o_icmpgt X call hs go nx pc a b cc d n ts lo st w = some (r, w2)) : z_Gd X p l e R s m args below meth c y ad0 D cA A Q n0 mc ms r w2 pc lo st w := by
  obtain ⟨hx, hb, hml, hown, hts, hA, hK, hZ, hin, hroom, hret, hexc, hthr⟩ := F
  simp only [z_k_icmpgt, Bool.and_eq_true, decide_eq_true_eq] at hk
  obtain ⟨rfl, hlen⟩ := hk
  have hlen := z_beq_t hlen
  subst hlen
  obtain ⟨v1, v2, rest, rfl, h5⟩ := z_ii_some h
  have h := h5
  intro hn0 hw hl hs
  by_cases hz : v2 < v1
  · rw [if_pos hz] at h
    obtain ⟨mo, wf2, wr, at2⟩ := hgo _ _ _ _ h hn0 hw hl (z_wvs_tl (z_wvs_tl hs))
    exact ⟨mo, wf2, wr, fun ad H locs ls cells slots h0 hP hD hS hlo hc hsl => lv_icmp_gt hx hb hd (tgt := a) (by omega) (fun _ => at2 ad H locs ls cells slots h0 hP hD hS hlo hc hsl) (fun hq => absurd hz hq)⟩
  · rw [if_neg hz] at h
    obtain ⟨mo, wf2, wr, at2⟩ := hnx _ _ _ h hn0 hw hl (z_wvs_tl (z_wvs_tl hs))
    exact ⟨mo, wf2, wr, fun ad H locs ls cells slots h0 hP hD hS hlo hc hsl => lv_icmp_gt hx hb hd (tgt := a) (by omega) (fun hq => absurd hq hz) (fun _ => at2 ad H locs ls cells slots h0 hP hD hS hlo hc hsl)⟩
theorem zs_icmple {X : ZX} {call : ZC} {p : Program} {l : Launch} {e : Env} {R : Room} {s : State} {m : MethodId} {args : Array Value} {below : List Frame} {meth : Method} {c : Code} {y : Nat} {ad0 : Nat → Nat} {D : va_G} {cA : Nat → ClassId} {A : Nat → Prop} {Q : State → Prop} {n0 mc ms : Nat} {r : Option Value ⊕ Nat} {w2 : ZW} (F : z_Fx X p l e R s m args below meth c y ad0 D cA A Q n0 mc ms r w2) {hs : List ZH} {go : Nat → ZL → List Value → ZW → ZR} {nx : ZL → List Value → ZW → ZR} {pc a b cc d len : Nat} {n : Int} {ts : List (Int × Nat)} {lo : ZL} {st : List Value} {w : ZW} {ins : Instr} {ps : List Nat} (hd : decode (z_mb y) pc = .ok (ins, len)) (hk : z_k_icmple y pc len a b cc d n ts ins ps = true) (hgo : ∀ t lo st w, go t lo st w = some (r, w2) → z_Gd X p l e R s m args below meth c y ad0 D cA A Q n0 mc ms r w2 t lo st w) (hnx : ∀ lo st w, nx lo st w = some (r, w2) → z_Gd X p l e R s m args below meth c y ad0 D cA A Q n0 mc ms r w2 (pc + len) lo st w) (h : z_o_icmple X call hs go nx pc a b cc d n ts lo st w = some (r, w2)) : z_Gd X p l e R s m args below meth c y ad0 D cA A Q n0 mc ms r w2 pc lo st w := by
  obtain ⟨hx, hb, hml, hown, hts, hA, hK, hZ, hin, hroom, hret, hexc, hthr⟩ := F
  simp only [z_k_icmple, Bool.and_eq_true, decide_eq_true_eq] at hk
  obtain ⟨rfl, hlen⟩ := hk
  have hlen := z_beq_t hlen
  subst hlen
  obtain ⟨v1, v2, rest, rfl, h5⟩ := z_ii_some h
  have h := h5
  intro hn0 hw hl hs
  by_cases hz : v1 ≤ v2
  · rw [if_pos hz] at h
    obtain ⟨mo, wf2, wr, at2⟩ := hgo _ _ _ _ h hn0 hw hl (z_wvs_tl (z_wvs_tl hs))
    exact ⟨mo, wf2, wr, fun ad H locs ls cells slots h0 hP hD hS hlo hc hsl => lv_icmp_le hx hb hd (tgt := a) (by omega) (fun _ => at2 ad H locs ls cells slots h0 hP hD hS hlo hc hsl) (fun hq => absurd hz hq)⟩
  · rw [if_neg hz] at h
    obtain ⟨mo, wf2, wr, at2⟩ := hnx _ _ _ h hn0 hw hl (z_wvs_tl (z_wvs_tl hs))
    exact ⟨mo, wf2, wr, fun ad H locs ls cells slots h0 hP hD hS hlo hc hsl => lv_icmp_le hx hb hd (tgt := a) (by omega) (fun hq => absurd hq hz) (fun _ => at2 ad H locs ls cells slots h0 hP hD hS hlo hc hsl)⟩
