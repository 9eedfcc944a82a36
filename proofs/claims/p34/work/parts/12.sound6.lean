/-! SOUND, 6: the operations by number; runs from a place to a cut -/
theorem zs_acmpeq {X : ZX} {call : ZC} {p : Program} {l : Launch} {e : Env} {R : Room} {s : State} {m : MethodId} {args : Array Value} {below : List Frame} {meth : Method} {c : Code} {y : Nat} {ad0 : Nat → Nat} {D : va_G} {cA : Nat → ClassId} {A : Nat → Prop} {Q : State → Prop} {n0 mc ms : Nat} {r : Option Value ⊕ Nat} {w2 : ZW} (F : z_Fx X p l e R s m args below meth c y ad0 D cA A Q n0 mc ms r w2) {hs : List ZH} {go : Nat → ZL → List Value → ZW → ZR} {nx : ZL → List Value → ZW → ZR} {pc a b cc d len : Nat} {n : Int} {ts : List (Int × Nat)} {lo : ZL} {st : List Value} {w : ZW} {ins : Instr} {ps : List Nat} (hd : decode (z_mb y) pc = .ok (ins, len)) (hk : z_k_acmpeq y pc len a b cc d n ts ins ps = true) (hgo : ∀ t lo st w, go t lo st w = some (r, w2) → z_Gd X p l e R s m args below meth c y ad0 D cA A Q n0 mc ms r w2 t lo st w) (hnx : ∀ lo st w, nx lo st w = some (r, w2) → z_Gd X p l e R s m args below meth c y ad0 D cA A Q n0 mc ms r w2 (pc + len) lo st w) (h : z_o_acmpeq X call hs go nx pc a b cc d n ts lo st w = some (r, w2)) : z_Gd X p l e R s m args below meth c y ad0 D cA A Q n0 mc ms r w2 pc lo st w := by
  obtain ⟨hx, hb, hml, hown, hts, hA, hK, hZ, hin, hroom, hret, hexc, hthr⟩ := F
  simp only [z_k_acmpeq, Bool.and_eq_true, decide_eq_true_eq] at hk
  obtain ⟨rfl, hlen⟩ := hk
  have hlen := z_beq_t hlen
  subst hlen
  unfold z_o_acmpeq at h
  split at h
  · rename_i v2 v1 rest
    obtain ⟨hq, h5⟩ := z_gd_some h
    have hq := z_beq_t hq
    subst hq
    intro hn0 hw hl hs
    obtain ⟨mo, wf2, wr, at2⟩ := hgo _ _ _ _ h5 hn0 hw hl (z_wvs_tl (z_wvs_tl hs))
    exact ⟨mo, wf2, wr, fun ad H locs ls cells slots h0 hP hD hS hlo hc hsl => lv_acmp_eq (rx := some (ad v1)) (ry := some (ad v1)) hx hb hd (by omega) (fun _ => at2 ad H locs ls cells slots h0 hP hD hS hlo hc hsl) (fun q => absurd rfl q)⟩
  · cases h
theorem zs_mmaxi {X : ZX} {call : ZC} {p : Program} {l : Launch} {e : Env} {R : Room} {s : State} {m : MethodId} {args : Array Value} {below : List Frame} {meth : Method} {c : Code} {y : Nat} {ad0 : Nat → Nat} {D : va_G} {cA : Nat → ClassId} {A : Nat → Prop} {Q : State → Prop} {n0 mc ms : Nat} {r : Option Value ⊕ Nat} {w2 : ZW} (F : z_Fx X p l e R s m args below meth c y ad0 D cA A Q n0 mc ms r w2) {hs : List ZH} {go : Nat → ZL → List Value → ZW → ZR} {nx : ZL → List Value → ZW → ZR} {pc a b cc d len : Nat} {n : Int} {ts : List (Int × Nat)} {lo : ZL} {st : List Value} {w : ZW} {ins : Instr} {ps : List Nat} (hd : decode (z_mb y) pc = .ok (ins, len)) (hk : z_k_mmaxi y pc len a b cc d n ts ins ps = true) (hgo : ∀ t lo st w, go t lo st w = some (r, w2) → z_Gd X p l e R s m args below meth c y ad0 D cA A Q n0 mc ms r w2 t lo st w) (hnx : ∀ lo st w, nx lo st w = some (r, w2) → z_Gd X p l e R s m args below meth c y ad0 D cA A Q n0 mc ms r w2 (pc + len) lo st w) (h : z_o_mmaxi X call hs go nx pc a b cc d n ts lo st w = some (r, w2)) : z_Gd X p l e R s m args below meth c y ad0 D cA A Q n0 mc ms r w2 pc lo st w := by
  obtain ⟨hx, hb, hml, hown, hts, hA, hK, hZ, hin, hroom, hret, hexc, hthr⟩ := F
  simp only [z_k_mmaxi, Bool.and_eq_true, decide_eq_true_eq] at hk
  obtain ⟨⟨⟨⟨⟨rfl, hlen⟩, hw0⟩, hw1⟩, hw2⟩, hw3⟩ := hk
  have hlen := z_beq_t hlen
  subst hlen
  obtain ⟨v1, v2, rest, rfl, h5⟩ := z_ii_some h
  obtain ⟨hsm, h6⟩ := z_gd_some h5
  intro hn0 hw hl hs
  obtain ⟨mo, wf2, wr, at2⟩ := hnx _ _ _ h6 hn0 hw hl (z_wvs_i (z_wvs_tl (z_wvs_tl hs)))
  have hsm2 := fun ad : Nat → Nat => z_sm_map ad hsm
  exact ⟨mo, wf2, wr, fun ad H locs ls cells slots h0 hP hD hS hlo hc hsl => va_mmax hx hb (hml.trans hlo.1.symm) hown (hts _ (z_wp_in hw0)) (hts _ (z_wp_in hw1)) (hts _ (z_wp_in hw2)) (hts _ (z_wp_in hw3)) (by omega) (by have := hsm2 ad; omega) (by omega) (by omega) hd (at2 ad H locs ls cells slots h0 hP hD hS hlo hc hsl)⟩
theorem zs_mmini {X : ZX} {call : ZC} {p : Program} {l : Launch} {e : Env} {R : Room} {s : State} {m : MethodId} {args : Array Value} {below : List Frame} {meth : Method} {c : Code} {y : Nat} {ad0 : Nat → Nat} {D : va_G} {cA : Nat → ClassId} {A : Nat → Prop} {Q : State → Prop} {n0 mc ms : Nat} {r : Option Value ⊕ Nat} {w2 : ZW} (F : z_Fx X p l e R s m args below meth c y ad0 D cA A Q n0 mc ms r w2) {hs : List ZH} {go : Nat → ZL → List Value → ZW → ZR} {nx : ZL → List Value → ZW → ZR} {pc a b cc d len : Nat} {n : Int} {ts : List (Int × Nat)} {lo : ZL} {st : List Value} {w : ZW} {ins : Instr} {ps : List Nat} (hd : decode (z_mb y) pc = .ok (ins, len)) (hk : z_k_mmini y pc len a b cc d n ts ins ps = true) (hgo : ∀ t lo st w, go t lo st w = some (r, w2) → z_Gd X p l e R s m args below meth c y ad0 D cA A Q n0 mc ms r w2 t lo st w) (hnx : ∀ lo st w, nx lo st w = some (r, w2) → z_Gd X p l e R s m args below meth c y ad0 D cA A Q n0 mc ms r w2 (pc + len) lo st w) (h : z_o_mmini X call hs go nx pc a b cc d n ts lo st w = some (r, w2)) : z_Gd X p l e R s m args below meth c y ad0 D cA A Q n0 mc ms r w2 pc lo st w := by
  obtain ⟨hx, hb, hml, hown, hts, hA, hK, hZ, hin, hroom, hret, hexc, hthr⟩ := F
  simp only [z_k_mmini, Bool.and_eq_true, decide_eq_true_eq] at hk
  obtain ⟨⟨⟨⟨⟨rfl, hlen⟩, hw0⟩, hw1⟩, hw2⟩, hw3⟩ := hk
  have hlen := z_beq_t hlen
  subst hlen
  obtain ⟨v1, v2, rest, rfl, h5⟩ := z_ii_some h
  obtain ⟨hsm, h6⟩ := z_gd_some h5
  intro hn0 hw hl hs
  obtain ⟨mo, wf2, wr, at2⟩ := hnx _ _ _ h6 hn0 hw hl (z_wvs_i (z_wvs_tl (z_wvs_tl hs)))
  have hsm2 := fun ad : Nat → Nat => z_sm_map ad hsm
  exact ⟨mo, wf2, wr, fun ad H locs ls cells slots h0 hP hD hS hlo hc hsl => va_mmin hx hb (hml.trans hlo.1.symm) hown (hts _ (z_wp_in hw0)) (hts _ (z_wp_in hw1)) (hts _ (z_wp_in hw2)) (hts _ (z_wp_in hw3)) (by omega) (by have := hsm2 ad; omega) (by omega) (by omega) hd (at2 ad H locs ls cells slots h0 hP hD hS hlo hc hsl)⟩
theorem zs_mabsi {X : ZX} {call : ZC} {p : Program} {l : Launch} {e : Env} {R : Room} {s : State} {m : MethodId} {args : Array Value} {below : List Frame} {meth : Method} {c : Code} {y : Nat} {ad0 : Nat → Nat} {D : va_G} {cA : Nat → ClassId} {A : Nat → Prop} {Q : State → Prop} {n0 mc ms : Nat} {r : Option Value ⊕ Nat} {w2 : ZW} (F : z_Fx X p l e R s m args below meth c y ad0 D cA A Q n0 mc ms r w2) {hs : List ZH} {go : Nat → ZL → List Value → ZW → ZR} {nx : ZL → List Value → ZW → ZR} {pc a b cc d len : Nat} {n : Int} {ts : List (Int × Nat)} {lo : ZL} {st : List Value} {w : ZW} {ins : Instr} {ps : List Nat} (hd : decode (z_mb y) pc = .ok (ins, len)) (hk : z_k_mabsi y pc len a b cc d n ts ins ps = true) (hgo : ∀ t lo st w, go t lo st w = some (r, w2) → z_Gd X p l e R s m args below meth c y ad0 D cA A Q n0 mc ms r w2 t lo st w) (hnx : ∀ lo st w, nx lo st w = some (r, w2) → z_Gd X p l e R s m args below meth c y ad0 D cA A Q n0 mc ms r w2 (pc + len) lo st w) (h : z_o_mabsi X call hs go nx pc a b cc d n ts lo st w = some (r, w2)) : z_Gd X p l e R s m args below meth c y ad0 D cA A Q n0 mc ms r w2 pc lo st w := by
  obtain ⟨hx, hb, hml, hown, hts, hA, hK, hZ, hin, hroom, hret, hexc, hthr⟩ := F
  simp only [z_k_mabsi, Bool.and_eq_true, decide_eq_true_eq] at hk
  obtain ⟨⟨⟨⟨⟨rfl, hlen⟩, hw0⟩, hw1⟩, hw2⟩, hw3⟩ := hk
  have hlen := z_beq_t hlen
  subst hlen
  obtain ⟨v1, rest, rfl, h5⟩ := z_i1_some h
  obtain ⟨hsm, h6⟩ := z_gd_some h5
  intro hn0 hw hl hs
  obtain ⟨mo, wf2, wr, at2⟩ := hnx _ _ _ h6 hn0 hw hl (z_wvs_i (z_wvs_tl hs))
  have hsm2 := fun ad : Nat → Nat => z_sm_map ad hsm
  exact ⟨mo, wf2, wr, fun ad H locs ls cells slots h0 hP hD hS hlo hc hsl => va_mabs hx hb (hml.trans hlo.1.symm) hown (hts _ (z_wp_in hw0)) (hts _ (z_wp_in hw1)) (hts _ (z_wp_in hw2)) (hts _ (z_wp_in hw3)) (by omega) (by have := hsm2 ad; omega) (by omega) (by omega) hd (at2 ad H locs ls cells slots h0 hP hD hS hlo hc hsl)⟩
theorem zs_mmaxl {X : ZX} {call : ZC} {p : Program} {l : Launch} {e : Env} {R : Room} {s : State} {m : MethodId} {args : Array Value} {below : List Frame} {meth : Method} {c : Code} {y : Nat} {ad0 : Nat → Nat} {D : va_G} {cA : Nat → ClassId} {A : Nat → Prop} {Q : State → Prop} {n0 mc ms : Nat} {r : Option Value ⊕ Nat} {w2 : ZW} (F : z_Fx X p l e R s m args below meth c y ad0 D cA A Q n0 mc ms r w2) {hs : List ZH} {go : Nat → ZL → List Value → ZW → ZR} {nx : ZL → List Value → ZW → ZR} {pc a b cc d len : Nat} {n : Int} {ts : List (Int × Nat)} {lo : ZL} {st : List Value} {w : ZW} {ins : Instr} {ps : List Nat} (hd : decode (z_mb y) pc = .ok (ins, len)) (hk : z_k_mmaxl y pc len a b cc d n ts ins ps = true) (hgo : ∀ t lo st w, go t lo st w = some (r, w2) → z_Gd X p l e R s m args below meth c y ad0 D cA A Q n0 mc ms r w2 t lo st w) (hnx : ∀ lo st w, nx lo st w = some (r, w2) → z_Gd X p l e R s m args below meth c y ad0 D cA A Q n0 mc ms r w2 (pc + len) lo st w) (h : z_o_mmaxl X call hs go nx pc a b cc d n ts lo st w = some (r, w2)) : z_Gd X p l e R s m args below meth c y ad0 D cA A Q n0 mc ms r w2 pc lo st w := by
  obtain ⟨hx, hb, hml, hown, hts, hA, hK, hZ, hin, hroom, hret, hexc, hthr⟩ := F
  simp only [z_k_mmaxl, Bool.and_eq_true, decide_eq_true_eq] at hk
  obtain ⟨⟨⟨⟨⟨rfl, hlen⟩, hw0⟩, hw1⟩, hw2⟩, hw3⟩ := hk
  have hlen := z_beq_t hlen
  subst hlen
  obtain ⟨v1, v2, rest, rfl, h5⟩ := z_ll_some h
  obtain ⟨hsm, h6⟩ := z_gd_some h5
  intro hn0 hw hl hs
  obtain ⟨mo, wf2, wr, at2⟩ := hnx _ _ _ h6 hn0 hw hl (z_wvs_l (z_wvs_tl (z_wvs_tl hs)))
  have hsm2 := fun ad : Nat → Nat => z_sm_map ad hsm
  exact ⟨mo, wf2, wr, fun ad H locs ls cells slots h0 hP hD hS hlo hc hsl => va_mmax_long hx hb (hml.trans hlo.1.symm) hown (hts _ (z_wp_in hw0)) (hts _ (z_wp_in hw1)) (hts _ (z_wp_in hw2)) (hts _ (z_wp_in hw3)) (by omega) (by have := hsm2 ad; omega) (by omega) (by omega) hd (at2 ad H locs ls cells slots h0 hP hD hS hlo hc hsl)⟩
theorem zs_mminl {X : ZX} {call : ZC} {p : Program} {l : Launch} {e : Env} {R : Room} {s : State} {m : MethodId} {args : Array Value} {below : List Frame} {meth : Method} {c : Code} {y : Nat} {ad0 : Nat → Nat} {D : va_G} {cA : Nat → ClassId} {A : Nat → Prop} {Q : State → Prop} {n0 mc ms : Nat} {r : Option Value ⊕ Nat} {w2 : ZW} (F : z_Fx X p l e R s m args below meth c y ad0 D cA A Q n0 mc ms r w2) {hs : List ZH} {go : Nat → ZL → List Value → ZW → ZR} {nx : ZL → List Value → ZW → ZR} {pc a b cc d len : Nat} {n : Int} {ts : List (Int × Nat)} {lo : ZL} {st : List Value} {w : ZW} {ins : Instr} {ps : List Nat} (hd : decode (z_mb y) pc = .ok (ins, len)) (hk : z_k_mminl y pc len a b cc d n ts ins ps = true) (hgo : ∀ t lo st w, go t lo st w = some (r, w2) → z_Gd X p l e R s m args below meth c y ad0 D cA A Q n0 mc ms r w2 t lo st w) (hnx : ∀ lo st w, nx lo st w = some (r, w2) → z_Gd X p l e R s m args below meth c y ad0 D cA A Q n0 mc ms r w2 (pc + len) lo st w) (h : z_o_mminl X call hs go nx pc a b cc d n ts lo st w = some (r, w2)) : z_Gd X p l e R s m args below meth c y ad0 D cA A Q n0 mc ms r w2 pc lo st w := by
  obtain ⟨hx, hb, hml, hown, hts, hA, hK, hZ, hin, hroom, hret, hexc, hthr⟩ := F
  simp only [z_k_mminl, Bool.and_eq_true, decide_eq_true_eq] at hk
  obtain ⟨⟨⟨⟨⟨rfl, hlen⟩, hw0⟩, hw1⟩, hw2⟩, hw3⟩ := hk
  have hlen := z_beq_t hlen
  subst hlen
  obtain ⟨v1, v2, rest, rfl, h5⟩ := z_ll_some h
  obtain ⟨hsm, h6⟩ := z_gd_some h5
  intro hn0 hw hl hs
  obtain ⟨mo, wf2, wr, at2⟩ := hnx _ _ _ h6 hn0 hw hl (z_wvs_l (z_wvs_tl (z_wvs_tl hs)))
  have hsm2 := fun ad : Nat → Nat => z_sm_map ad hsm
  exact ⟨mo, wf2, wr, fun ad H locs ls cells slots h0 hP hD hS hlo hc hsl => va_mmin_long hx hb (hml.trans hlo.1.symm) hown (hts _ (z_wp_in hw0)) (hts _ (z_wp_in hw1)) (hts _ (z_wp_in hw2)) (hts _ (z_wp_in hw3)) (by omega) (by have := hsm2 ad; omega) (by omega) (by omega) hd (at2 ad H locs ls cells slots h0 hP hD hS hlo hc hsl)⟩
theorem zs_mabsl {X : ZX} {call : ZC} {p : Program} {l : Launch} {e : Env} {R : Room} {s : State} {m : MethodId} {args : Array Value} {below : List Frame} {meth : Method} {c : Code} {y : Nat} {ad0 : Nat → Nat} {D : va_G} {cA : Nat → ClassId} {A : Nat → Prop} {Q : State → Prop} {n0 mc ms : Nat} {r : Option Value ⊕ Nat} {w2 : ZW} (F : z_Fx X p l e R s m args below meth c y ad0 D cA A Q n0 mc ms r w2) {hs : List ZH} {go : Nat → ZL → List Value → ZW → ZR} {nx : ZL → List Value → ZW → ZR} {pc a b cc d len : Nat} {n : Int} {ts : List (Int × Nat)} {lo : ZL} {st : List Value} {w : ZW} {ins : Instr} {ps : List Nat} (hd : decode (z_mb y) pc = .ok (ins, len)) (hk : z_k_mabsl y pc len a b cc d n ts ins ps = true) (hgo : ∀ t lo st w, go t lo st w = some (r, w2) → z_Gd X p l e R s m args below meth c y ad0 D cA A Q n0 mc ms r w2 t lo st w) (hnx : ∀ lo st w, nx lo st w = some (r, w2) → z_Gd X p l e R s m args below meth c y ad0 D cA A Q n0 mc ms r w2 (pc + len) lo st w) (h : z_o_mabsl X call hs go nx pc a b cc d n ts lo st w = some (r, w2)) : z_Gd X p l e R s m args below meth c y ad0 D cA A Q n0 mc ms r w2 pc lo st w := by
  obtain ⟨hx, hb, hml, hown, hts, hA, hK, hZ, hin, hroom, hret, hexc, hthr⟩ := F
  simp only [z_k_mabsl, Bool.and_eq_true, decide_eq_true_eq] at hk
  obtain ⟨⟨⟨⟨⟨rfl, hlen⟩, hw0⟩, hw1⟩, hw2⟩, hw3⟩ := hk
  have hlen := z_beq_t hlen
  subst hlen
  obtain ⟨v1, rest, rfl, h5⟩ := z_l1_some h
  obtain ⟨hsm, h6⟩ := z_gd_some h5
  intro hn0 hw hl hs
  obtain ⟨mo, wf2, wr, at2⟩ := hnx _ _ _ h6 hn0 hw hl (z_wvs_l (z_wvs_tl hs))
  have hsm2 := fun ad : Nat → Nat => z_sm_map ad hsm
  exact ⟨mo, wf2, wr, fun ad H locs ls cells slots h0 hP hD hS hlo hc hsl => va_mabs_long hx hb (hml.trans hlo.1.symm) hown (hts _ (z_wp_in hw0)) (hts _ (z_wp_in hw1)) (hts _ (z_wp_in hw2)) (hts _ (z_wp_in hw3)) (by omega) (by have := hsm2 ad; omega) (by omega) (by omega) hd (at2 ad H locs ls cells slots h0 hP hD hS hlo hc hsl)⟩
theorem zs_step {X : ZX} {call : ZC} {p : Program} {l : Launch} {e : Env} {R : Room} {s : State} {m : MethodId} {args : Array Value} {below : List Frame} {meth : Method} {c : Code} {y : Nat} {ad0 : Nat → Nat} {D : va_G} {cA : Nat → ClassId} {A : Nat → Prop} {Q : State → Prop} {n0 mc ms dep : Nat} {r : Option Value ⊕ Nat} {w2 : ZW} (F : z_Fx X p l e R s m args below meth c y ad0 D cA A Q n0 mc ms r w2) (hC : z_Ct X l call dep) (hdep : dep + 4 ≤ R.frames ∧ 44 * dep + 114 ≤ R.locals) {go : Nat → ZL → List Value → ZW → ZR} {nx : ZL → List Value → ZW → ZR} {pc a b cc d len : Nat} {n : Int} {ts : List (Int × Nat)} {lo : ZL} {st : List Value} {w : ZW} {ins : Instr} {ps : List Nat} (hgo : ∀ t lo st w, go t lo st w = some (r, w2) → z_Gd X p l e R s m args below meth c y ad0 D cA A Q n0 mc ms r w2 t lo st w) : ∀ (o : Nat), o < 93 → (o = 92 ∨ decode (z_mb y) pc = .ok (ins, len)) → z_ke y pc o len a b cc d n ts ins ps = true → (z_nf o = false → ∀ lo st w, nx lo st w = some (r, w2) → z_Gd X p l e R s m args below meth c y ad0 D cA A Q n0 mc ms r w2 (pc + len) lo st w) → z_step X call (z_mh y) go nx pc o a b cc d n ts lo st w = some (r, w2) → z_Gd X p l e R s m args below meth c y ad0 D cA A Q n0 mc ms r w2 pc lo st w
  | 0, _, hd, hk, hnx, h => zs_aconst_null F (a := a) (b := b) (cc := cc) (d := d) (len := len) (n := n) (ts := ts) (ps := ps) (call := call) (hs := z_mh y) (hd.resolve_left (by decide)) hk hgo (hnx rfl) h
  | 1, _, hd, hk, hnx, h => zs_iconst F (a := a) (b := b) (cc := cc) (d := d) (len := len) (n := n) (ts := ts) (ps := ps) (call := call) (hs := z_mh y) (hd.resolve_left (by decide)) hk hgo (hnx rfl) h
  | 2, _, hd, hk, hnx, h => zs_newarrayD F (a := a) (b := b) (cc := cc) (d := d) (len := len) (n := n) (ts := ts) (ps := ps) (call := call) (hs := z_mh y) (hd.resolve_left (by decide)) hk hgo (hnx rfl) h
  | 3, _, hd, hk, hnx, h => zs_lconst F (a := a) (b := b) (cc := cc) (d := d) (len := len) (n := n) (ts := ts) (ps := ps) (call := call) (hs := z_mh y) (hd.resolve_left (by decide)) hk hgo (hnx rfl) h
  | 4, _, hd, hk, hnx, h => zs_iload F (a := a) (b := b) (cc := cc) (d := d) (len := len) (n := n) (ts := ts) (ps := ps) (call := call) (hs := z_mh y) (hd.resolve_left (by decide)) hk hgo (hnx rfl) h
  | 5, _, hd, hk, hnx, h => zs_lload F (a := a) (b := b) (cc := cc) (d := d) (len := len) (n := n) (ts := ts) (ps := ps) (call := call) (hs := z_mh y) (hd.resolve_left (by decide)) hk hgo (hnx rfl) h
  | 6, _, hd, hk, hnx, h => zs_aload F (a := a) (b := b) (cc := cc) (d := d) (len := len) (n := n) (ts := ts) (ps := ps) (call := call) (hs := z_mh y) (hd.resolve_left (by decide)) hk hgo (hnx rfl) h
  | 7, _, hd, hk, hnx, h => zs_istore F (a := a) (b := b) (cc := cc) (d := d) (len := len) (n := n) (ts := ts) (ps := ps) (call := call) (hs := z_mh y) (hd.resolve_left (by decide)) hk hgo (hnx rfl) h
  | 8, _, hd, hk, hnx, h => zs_lstore F (a := a) (b := b) (cc := cc) (d := d) (len := len) (n := n) (ts := ts) (ps := ps) (call := call) (hs := z_mh y) (hd.resolve_left (by decide)) hk hgo (hnx rfl) h
  | 9, _, hd, hk, hnx, h => zs_astore F (a := a) (b := b) (cc := cc) (d := d) (len := len) (n := n) (ts := ts) (ps := ps) (call := call) (hs := z_mh y) (hd.resolve_left (by decide)) hk hgo (hnx rfl) h
  | 10, _, hd, hk, hnx, h => zs_iinc F (a := a) (b := b) (cc := cc) (d := d) (len := len) (n := n) (ts := ts) (ps := ps) (call := call) (hs := z_mh y) (hd.resolve_left (by decide)) hk hgo (hnx rfl) h
  | 11, _, hd, hk, hnx, h => zs_iadd F (a := a) (b := b) (cc := cc) (d := d) (len := len) (n := n) (ts := ts) (ps := ps) (call := call) (hs := z_mh y) (hd.resolve_left (by decide)) hk hgo (hnx rfl) h
  | 12, _, hd, hk, hnx, h => zs_isub F (a := a) (b := b) (cc := cc) (d := d) (len := len) (n := n) (ts := ts) (ps := ps) (call := call) (hs := z_mh y) (hd.resolve_left (by decide)) hk hgo (hnx rfl) h
  | 13, _, hd, hk, hnx, h => zs_imul F (a := a) (b := b) (cc := cc) (d := d) (len := len) (n := n) (ts := ts) (ps := ps) (call := call) (hs := z_mh y) (hd.resolve_left (by decide)) hk hgo (hnx rfl) h
  | 14, _, hd, hk, hnx, h => zs_idiv F (a := a) (b := b) (cc := cc) (d := d) (len := len) (n := n) (ts := ts) (ps := ps) (call := call) (hs := z_mh y) (hd.resolve_left (by decide)) hk hgo (hnx rfl) h
  | 15, _, hd, hk, hnx, h => zs_irem F (a := a) (b := b) (cc := cc) (d := d) (len := len) (n := n) (ts := ts) (ps := ps) (call := call) (hs := z_mh y) (hd.resolve_left (by decide)) hk hgo (hnx rfl) h
  | 16, _, hd, hk, hnx, h => zs_ineg F (a := a) (b := b) (cc := cc) (d := d) (len := len) (n := n) (ts := ts) (ps := ps) (call := call) (hs := z_mh y) (hd.resolve_left (by decide)) hk hgo (hnx rfl) h
  | 17, _, hd, hk, hnx, h => zs_iand F (a := a) (b := b) (cc := cc) (d := d) (len := len) (n := n) (ts := ts) (ps := ps) (call := call) (hs := z_mh y) (hd.resolve_left (by decide)) hk hgo (hnx rfl) h
  | 18, _, hd, hk, hnx, h => zs_ior F (a := a) (b := b) (cc := cc) (d := d) (len := len) (n := n) (ts := ts) (ps := ps) (call := call) (hs := z_mh y) (hd.resolve_left (by decide)) hk hgo (hnx rfl) h
  | 19, _, hd, hk, hnx, h => zs_ixor F (a := a) (b := b) (cc := cc) (d := d) (len := len) (n := n) (ts := ts) (ps := ps) (call := call) (hs := z_mh y) (hd.resolve_left (by decide)) hk hgo (hnx rfl) h
  | 20, _, hd, hk, hnx, h => zs_ishl F (a := a) (b := b) (cc := cc) (d := d) (len := len) (n := n) (ts := ts) (ps := ps) (call := call) (hs := z_mh y) (hd.resolve_left (by decide)) hk hgo (hnx rfl) h
  | 21, _, hd, hk, hnx, h => zs_ishr F (a := a) (b := b) (cc := cc) (d := d) (len := len) (n := n) (ts := ts) (ps := ps) (call := call) (hs := z_mh y) (hd.resolve_left (by decide)) hk hgo (hnx rfl) h
  | 22, _, hd, hk, hnx, h => zs_iushr F (a := a) (b := b) (cc := cc) (d := d) (len := len) (n := n) (ts := ts) (ps := ps) (call := call) (hs := z_mh y) (hd.resolve_left (by decide)) hk hgo (hnx rfl) h
  | 23, _, hd, hk, hnx, h => zs_ladd F (a := a) (b := b) (cc := cc) (d := d) (len := len) (n := n) (ts := ts) (ps := ps) (call := call) (hs := z_mh y) (hd.resolve_left (by decide)) hk hgo (hnx rfl) h
  | 24, _, hd, hk, hnx, h => zs_lsub F (a := a) (b := b) (cc := cc) (d := d) (len := len) (n := n) (ts := ts) (ps := ps) (call := call) (hs := z_mh y) (hd.resolve_left (by decide)) hk hgo (hnx rfl) h
  | 25, _, hd, hk, hnx, h => zs_lmul F (a := a) (b := b) (cc := cc) (d := d) (len := len) (n := n) (ts := ts) (ps := ps) (call := call) (hs := z_mh y) (hd.resolve_left (by decide)) hk hgo (hnx rfl) h
  | 26, _, hd, hk, hnx, h => zs_ldiv F (a := a) (b := b) (cc := cc) (d := d) (len := len) (n := n) (ts := ts) (ps := ps) (call := call) (hs := z_mh y) (hd.resolve_left (by decide)) hk hgo (hnx rfl) h
  | 27, _, hd, hk, hnx, h => zs_lneg F (a := a) (b := b) (cc := cc) (d := d) (len := len) (n := n) (ts := ts) (ps := ps) (call := call) (hs := z_mh y) (hd.resolve_left (by decide)) hk hgo (hnx rfl) h
  | 28, _, hd, hk, hnx, h => zs_land F (a := a) (b := b) (cc := cc) (d := d) (len := len) (n := n) (ts := ts) (ps := ps) (call := call) (hs := z_mh y) (hd.resolve_left (by decide)) hk hgo (hnx rfl) h
  | 29, _, hd, hk, hnx, h => zs_lor F (a := a) (b := b) (cc := cc) (d := d) (len := len) (n := n) (ts := ts) (ps := ps) (call := call) (hs := z_mh y) (hd.resolve_left (by decide)) hk hgo (hnx rfl) h
  | 30, _, hd, hk, hnx, h => zs_lshl F (a := a) (b := b) (cc := cc) (d := d) (len := len) (n := n) (ts := ts) (ps := ps) (call := call) (hs := z_mh y) (hd.resolve_left (by decide)) hk hgo (hnx rfl) h
  | 31, _, hd, hk, hnx, h => zs_lshr F (a := a) (b := b) (cc := cc) (d := d) (len := len) (n := n) (ts := ts) (ps := ps) (call := call) (hs := z_mh y) (hd.resolve_left (by decide)) hk hgo (hnx rfl) h
  | 32, _, hd, hk, hnx, h => zs_lushr F (a := a) (b := b) (cc := cc) (d := d) (len := len) (n := n) (ts := ts) (ps := ps) (call := call) (hs := z_mh y) (hd.resolve_left (by decide)) hk hgo (hnx rfl) h
  | 33, _, hd, hk, hnx, h => zs_lcmp F (a := a) (b := b) (cc := cc) (d := d) (len := len) (n := n) (ts := ts) (ps := ps) (call := call) (hs := z_mh y) (hd.resolve_left (by decide)) hk hgo (hnx rfl) h
  | 34, _, hd, hk, hnx, h => zs_i2l F (a := a) (b := b) (cc := cc) (d := d) (len := len) (n := n) (ts := ts) (ps := ps) (call := call) (hs := z_mh y) (hd.resolve_left (by decide)) hk hgo (hnx rfl) h
  | 35, _, hd, hk, hnx, h => zs_l2i F (a := a) (b := b) (cc := cc) (d := d) (len := len) (n := n) (ts := ts) (ps := ps) (call := call) (hs := z_mh y) (hd.resolve_left (by decide)) hk hgo (hnx rfl) h
  | 36, _, hd, hk, hnx, h => zs_dup F (a := a) (b := b) (cc := cc) (d := d) (len := len) (n := n) (ts := ts) (ps := ps) (call := call) (hs := z_mh y) (hd.resolve_left (by decide)) hk hgo (hnx rfl) h
  | 37, _, hd, hk, hnx, h => zs_dup2 F (a := a) (b := b) (cc := cc) (d := d) (len := len) (n := n) (ts := ts) (ps := ps) (call := call) (hs := z_mh y) (hd.resolve_left (by decide)) hk hgo (hnx rfl) h
  | 38, _, hd, hk, hnx, h => zs_dup_x1 F (a := a) (b := b) (cc := cc) (d := d) (len := len) (n := n) (ts := ts) (ps := ps) (call := call) (hs := z_mh y) (hd.resolve_left (by decide)) hk hgo (hnx rfl) h
  | 39, _, hd, hk, hnx, h => zs_pop F (a := a) (b := b) (cc := cc) (d := d) (len := len) (n := n) (ts := ts) (ps := ps) (call := call) (hs := z_mh y) (hd.resolve_left (by decide)) hk hgo (hnx rfl) h
  | 40, _, hd, hk, _, h => zs_goto F (nx := fun _ _ _ => none) (a := a) (b := b) (cc := cc) (d := d) (len := len) (n := n) (ts := ts) (ps := ps) (call := call) (hs := z_mh y) (hd.resolve_left (by decide)) hk hgo (fun _ _ _ q => by cases q) h
  | 41, _, hd, hk, hnx, h => zs_ifeq F (a := a) (b := b) (cc := cc) (d := d) (len := len) (n := n) (ts := ts) (ps := ps) (call := call) (hs := z_mh y) (hd.resolve_left (by decide)) hk hgo (hnx rfl) h
  | 42, _, hd, hk, hnx, h => zs_ifne F (a := a) (b := b) (cc := cc) (d := d) (len := len) (n := n) (ts := ts) (ps := ps) (call := call) (hs := z_mh y) (hd.resolve_left (by decide)) hk hgo (hnx rfl) h
  | 43, _, hd, hk, hnx, h => zs_iflt F (a := a) (b := b) (cc := cc) (d := d) (len := len) (n := n) (ts := ts) (ps := ps) (call := call) (hs := z_mh y) (hd.resolve_left (by decide)) hk hgo (hnx rfl) h
  | 44, _, hd, hk, hnx, h => zs_ifge F (a := a) (b := b) (cc := cc) (d := d) (len := len) (n := n) (ts := ts) (ps := ps) (call := call) (hs := z_mh y) (hd.resolve_left (by decide)) hk hgo (hnx rfl) h
  | 45, _, hd, hk, hnx, h => zs_ifgt F (a := a) (b := b) (cc := cc) (d := d) (len := len) (n := n) (ts := ts) (ps := ps) (call := call) (hs := z_mh y) (hd.resolve_left (by decide)) hk hgo (hnx rfl) h
  | 46, _, hd, hk, hnx, h => zs_ifle F (a := a) (b := b) (cc := cc) (d := d) (len := len) (n := n) (ts := ts) (ps := ps) (call := call) (hs := z_mh y) (hd.resolve_left (by decide)) hk hgo (hnx rfl) h
  | 47, _, hd, hk, hnx, h => zs_icmpeq F (a := a) (b := b) (cc := cc) (d := d) (len := len) (n := n) (ts := ts) (ps := ps) (call := call) (hs := z_mh y) (hd.resolve_left (by decide)) hk hgo (hnx rfl) h
  | 48, _, hd, hk, hnx, h => zs_icmpne F (a := a) (b := b) (cc := cc) (d := d) (len := len) (n := n) (ts := ts) (ps := ps) (call := call) (hs := z_mh y) (hd.resolve_left (by decide)) hk hgo (hnx rfl) h
  | 49, _, hd, hk, hnx, h => zs_icmplt F (a := a) (b := b) (cc := cc) (d := d) (len := len) (n := n) (ts := ts) (ps := ps) (call := call) (hs := z_mh y) (hd.resolve_left (by decide)) hk hgo (hnx rfl) h
  | 50, _, hd, hk, hnx, h => zs_icmpge F (a := a) (b := b) (cc := cc) (d := d) (len := len) (n := n) (ts := ts) (ps := ps) (call := call) (hs := z_mh y) (hd.resolve_left (by decide)) hk hgo (hnx rfl) h
  | 51, _, hd, hk, hnx, h => zs_icmpgt F (a := a) (b := b) (cc := cc) (d := d) (len := len) (n := n) (ts := ts) (ps := ps) (call := call) (hs := z_mh y) (hd.resolve_left (by decide)) hk hgo (hnx rfl) h
  | 52, _, hd, hk, hnx, h => zs_icmple F (a := a) (b := b) (cc := cc) (d := d) (len := len) (n := n) (ts := ts) (ps := ps) (call := call) (hs := z_mh y) (hd.resolve_left (by decide)) hk hgo (hnx rfl) h
  | 53, _, hd, hk, hnx, h => zs_acmpeq F (a := a) (b := b) (cc := cc) (d := d) (len := len) (n := n) (ts := ts) (ps := ps) (call := call) (hs := z_mh y) (hd.resolve_left (by decide)) hk hgo (hnx rfl) h
  | 54, _, hd, hk, _, h => zs_switch F (nx := fun _ _ _ => none) (a := a) (b := b) (cc := cc) (d := d) (len := len) (n := n) (ts := ts) (ps := ps) (call := call) (hd.resolve_left (by decide)) hk hgo (fun _ _ _ q => by cases q) h
  | 55, _, hd, hk, hnx, h => zs_getfield F (a := a) (b := b) (cc := cc) (d := d) (len := len) (n := n) (ts := ts) (ps := ps) (call := call) (hs := z_mh y) (hd.resolve_left (by decide)) hk hgo (hnx rfl) h
  | 56, _, hd, hk, hnx, h => zs_putfield F (a := a) (b := b) (cc := cc) (d := d) (len := len) (n := n) (ts := ts) (ps := ps) (call := call) (hs := z_mh y) (hd.resolve_left (by decide)) hk hgo (hnx rfl) h
  | 57, _, hd, hk, hnx, h => zs_getstatic F (a := a) (b := b) (cc := cc) (d := d) (len := len) (n := n) (ts := ts) (ps := ps) (call := call) (hs := z_mh y) (hd.resolve_left (by decide)) hk hgo (hnx rfl) h
  | 58, _, hd, hk, hnx, h => zs_iaload F (a := a) (b := b) (cc := cc) (d := d) (len := len) (n := n) (ts := ts) (ps := ps) (call := call) (hs := z_mh y) (hd.resolve_left (by decide)) hk hgo (hnx rfl) h
  | 59, _, hd, hk, hnx, h => zs_baload F (a := a) (b := b) (cc := cc) (d := d) (len := len) (n := n) (ts := ts) (ps := ps) (call := call) (hs := z_mh y) (hd.resolve_left (by decide)) hk hgo (hnx rfl) h
  | 60, _, hd, hk, hnx, h => zs_laload F (a := a) (b := b) (cc := cc) (d := d) (len := len) (n := n) (ts := ts) (ps := ps) (call := call) (hs := z_mh y) (hd.resolve_left (by decide)) hk hgo (hnx rfl) h
  | 61, _, hd, hk, hnx, h => zs_aaload F (a := a) (b := b) (cc := cc) (d := d) (len := len) (n := n) (ts := ts) (ps := ps) (call := call) (hs := z_mh y) (hd.resolve_left (by decide)) hk hgo (hnx rfl) h
  | 62, _, hd, hk, hnx, h => zs_iastore F (a := a) (b := b) (cc := cc) (d := d) (len := len) (n := n) (ts := ts) (ps := ps) (call := call) (hs := z_mh y) (hd.resolve_left (by decide)) hk hgo (hnx rfl) h
  | 63, _, hd, hk, hnx, h => zs_bastore F (a := a) (b := b) (cc := cc) (d := d) (len := len) (n := n) (ts := ts) (ps := ps) (call := call) (hs := z_mh y) (hd.resolve_left (by decide)) hk hgo (hnx rfl) h
  | 64, _, hd, hk, hnx, h => zs_lastore F (a := a) (b := b) (cc := cc) (d := d) (len := len) (n := n) (ts := ts) (ps := ps) (call := call) (hs := z_mh y) (hd.resolve_left (by decide)) hk hgo (hnx rfl) h
  | 65, _, hd, hk, hnx, h => zs_aastore F (a := a) (b := b) (cc := cc) (d := d) (len := len) (n := n) (ts := ts) (ps := ps) (call := call) (hs := z_mh y) (hd.resolve_left (by decide)) hk hgo (hnx rfl) h
  | 66, _, hd, hk, hnx, h => zs_arraylength F (a := a) (b := b) (cc := cc) (d := d) (len := len) (n := n) (ts := ts) (ps := ps) (call := call) (hs := z_mh y) (hd.resolve_left (by decide)) hk hgo (hnx rfl) h
  | 67, _, hd, hk, hnx, h => zs_checkcast F (a := a) (b := b) (cc := cc) (d := d) (len := len) (n := n) (ts := ts) (ps := ps) (call := call) (hs := z_mh y) (hd.resolve_left (by decide)) hk hgo (hnx rfl) h
  | 68, _, hd, hk, _, h => zs_throw F (nx := fun _ _ _ => none) (a := a) (b := b) (cc := cc) (d := d) (len := len) (n := n) (ts := ts) (ps := ps) (call := call) (hd.resolve_left (by decide)) hk hgo (fun _ _ _ q => by cases q) h
  | 69, _, hd, hk, hnx, h => zs_new F (a := a) (b := b) (cc := cc) (d := d) (len := len) (n := n) (ts := ts) (ps := ps) (call := call) (hd.resolve_left (by decide)) hk hgo (hnx rfl) h
  | 70, _, hd, hk, hnx, h => zs_newarray F (a := a) (b := b) (cc := cc) (d := d) (len := len) (n := n) (ts := ts) (ps := ps) (call := call) (hd.resolve_left (by decide)) hk hgo (hnx rfl) h
  | 71, _, hd, hk, hnx, h => zs_anewarray F (a := a) (b := b) (cc := cc) (d := d) (len := len) (n := n) (ts := ts) (ps := ps) (call := call) (hd.resolve_left (by decide)) hk hgo (hnx rfl) h
  | 72, _, hd, hk, hnx, h => zs_arraycopy F (a := a) (b := b) (cc := cc) (d := d) (len := len) (n := n) (ts := ts) (ps := ps) (call := call) (hd.resolve_left (by decide)) hk hgo (hnx rfl) h
  | 73, _, hd, hk, hnx, h => zs_invokestatic F (a := a) (b := b) (cc := cc) (d := d) (len := len) (n := n) (ts := ts) (ps := ps) (call := call) hC hdep (hd.resolve_left (by decide)) hk hgo (hnx rfl) h
  | 74, _, hd, hk, hnx, h => zs_invokevirtual F (a := a) (b := b) (cc := cc) (d := d) (len := len) (n := n) (ts := ts) (ps := ps) (call := call) hC hdep (hd.resolve_left (by decide)) hk hgo (hnx rfl) h
  | 75, _, hd, hk, hnx, h => zs_objinit F (a := a) (b := b) (cc := cc) (d := d) (len := len) (n := n) (ts := ts) (ps := ps) (call := call) (hd.resolve_left (by decide)) hk hgo (hnx rfl) h
  | 76, _, hd, hk, hnx, h => zs_invokespecial F (a := a) (b := b) (cc := cc) (d := d) (len := len) (n := n) (ts := ts) (ps := ps) (call := call) hC hdep (hd.resolve_left (by decide)) hk hgo (hnx rfl) h
  | 77, _, hd, hk, _, h => zs_ireturn F (nx := fun _ _ _ => none) (a := a) (b := b) (cc := cc) (d := d) (len := len) (n := n) (ts := ts) (ps := ps) (call := call) (hs := z_mh y) (hd.resolve_left (by decide)) hk hgo (fun _ _ _ q => by cases q) h
  | 78, _, hd, hk, _, h => zs_zreturn F (nx := fun _ _ _ => none) (a := a) (b := b) (cc := cc) (d := d) (len := len) (n := n) (ts := ts) (ps := ps) (call := call) (hs := z_mh y) (hd.resolve_left (by decide)) hk hgo (fun _ _ _ q => by cases q) h
  | 79, _, hd, hk, _, h => zs_lreturn F (nx := fun _ _ _ => none) (a := a) (b := b) (cc := cc) (d := d) (len := len) (n := n) (ts := ts) (ps := ps) (call := call) (hs := z_mh y) (hd.resolve_left (by decide)) hk hgo (fun _ _ _ q => by cases q) h
  | 80, _, hd, hk, _, h => zs_areturn F (nx := fun _ _ _ => none) (a := a) (b := b) (cc := cc) (d := d) (len := len) (n := n) (ts := ts) (ps := ps) (call := call) (hs := z_mh y) (hd.resolve_left (by decide)) hk hgo (fun _ _ _ q => by cases q) h
  | 81, _, hd, hk, _, h => zs_return_ F (nx := fun _ _ _ => none) (a := a) (b := b) (cc := cc) (d := d) (len := len) (n := n) (ts := ts) (ps := ps) (call := call) (hs := z_mh y) (hd.resolve_left (by decide)) hk hgo (fun _ _ _ q => by cases q) h
  | 82, _, hd, hk, hnx, h => zs_strcall F (a := a) (b := b) (cc := cc) (d := d) (len := len) (n := n) (ts := ts) (ps := ps) (call := call) hC hdep (hd.resolve_left (by decide)) hk hgo (hnx rfl) h
  | 83, _, hd, hk, hnx, h => zs_scriptload F (a := a) (b := b) (cc := cc) (d := d) (len := len) (n := n) (ts := ts) (ps := ps) (call := call) (hs := z_mh y) (hd.resolve_left (by decide)) hk hgo (hnx rfl) h
  | 84, _, hd, hk, hnx, h => zs_bendload F (a := a) (b := b) (cc := cc) (d := d) (len := len) (n := n) (ts := ts) (ps := ps) (call := call) (hs := z_mh y) (hd.resolve_left (by decide)) hk hgo (hnx rfl) h
  | 85, _, hd, hk, hnx, h => zs_scriptlen F (a := a) (b := b) (cc := cc) (d := d) (len := len) (n := n) (ts := ts) (ps := ps) (call := call) (hs := z_mh y) (hd.resolve_left (by decide)) hk hgo (hnx rfl) h
  | 86, _, hd, hk, hnx, h => zs_mmaxi F (a := a) (b := b) (cc := cc) (d := d) (len := len) (n := n) (ts := ts) (ps := ps) (call := call) (hs := z_mh y) (hd.resolve_left (by decide)) hk hgo (hnx rfl) h
  | 87, _, hd, hk, hnx, h => zs_mmini F (a := a) (b := b) (cc := cc) (d := d) (len := len) (n := n) (ts := ts) (ps := ps) (call := call) (hs := z_mh y) (hd.resolve_left (by decide)) hk hgo (hnx rfl) h
  | 88, _, hd, hk, hnx, h => zs_mabsi F (a := a) (b := b) (cc := cc) (d := d) (len := len) (n := n) (ts := ts) (ps := ps) (call := call) (hs := z_mh y) (hd.resolve_left (by decide)) hk hgo (hnx rfl) h
  | 89, _, hd, hk, hnx, h => zs_mmaxl F (a := a) (b := b) (cc := cc) (d := d) (len := len) (n := n) (ts := ts) (ps := ps) (call := call) (hs := z_mh y) (hd.resolve_left (by decide)) hk hgo (hnx rfl) h
  | 90, _, hd, hk, hnx, h => zs_mminl F (a := a) (b := b) (cc := cc) (d := d) (len := len) (n := n) (ts := ts) (ps := ps) (call := call) (hs := z_mh y) (hd.resolve_left (by decide)) hk hgo (hnx rfl) h
  | 91, _, hd, hk, hnx, h => zs_mabsl F (a := a) (b := b) (cc := cc) (d := d) (len := len) (n := n) (ts := ts) (ps := ps) (call := call) (hs := z_mh y) (hd.resolve_left (by decide)) hk hgo (hnx rfl) h
  | 92, _, _, _, _, h => by cases h
  | k + 93, h, _, _, _, _ => absurd h (by omega)
theorem z_lk_norm {l : List Nat} {lo : ZL} {q : Nat × Value} : q ∈ z_norm l lo → q ∈ lo := by
  induction l with
  | nil => intro h; cases h
  | cons i is ih =>
    intro h
    unfold z_norm at h
    split at h
    · rename_i v hv
      rcases List.mem_cons.mp h with h5 | h5
      · rw [h5]; exact z_lk_mem hv
      · exact ih h5
    · exact ih h
theorem z_Gd_norm {X : ZX} {p : Program} {l : Launch} {e : Env} {R : Room} {s : State} {m : MethodId} {args : Array Value} {below : List Frame} {meth : Method} {c : Code} {y : Nat} {ad0 : Nat → Nat} {D : va_G} {cA : Nat → ClassId} {A : Nat → Prop} {Q : State → Prop} {n0 mc ms : Nat} {r : Option Value ⊕ Nat} {w2 : ZW} {pc : Nat} {l1 : List Nat} {lo : ZL} {st : List Value} {w : ZW} (h : z_Gd X p l e R s m args below meth c y ad0 D cA A Q n0 mc ms r w2 pc (z_norm l1 lo) st w) : z_Gd X p l e R s m args below meth c y ad0 D cA A Q n0 mc ms r w2 pc lo st w := by
  intro hn0 hw hl hs
  obtain ⟨mo, wf2, wr, at2⟩ := h hn0 hw (fun q hq => hl q (z_lk_norm hq)) hs
  refine ⟨mo, wf2, wr, fun ad H locs ls cells slots h0 hP hD hS hlo hc hsl => ?_⟩
  refine at2 ad H locs ls cells slots h0 hP hD hS ⟨hlo.1, hlo.2.1, fun q hq => ?_⟩ hc hsl
  obtain ⟨q9, hq9, e9⟩ := List.mem_map.mp hq
  exact hlo.2.2 q (List.mem_map.mpr ⟨q9, z_lk_norm hq9, e9⟩)
/-- a stretch of a method's instructions, all right -/
def z_Sg (y : Nat) (es : List ZE) : Prop := ∃ is : List (Instr × List Nat), es.length = is.length ∧ (∀ q ∈ es.zip is, z_okE y q.1 q.2 = true) ∧ z_okA es = true
theorem z_Sg.tail {y : Nat} {e : ZE} {es : List ZE} (h : z_Sg y (e :: es)) : z_Sg y es := by
  obtain ⟨is, h1, h2, h3⟩ := h
  cases is with
  | nil => cases h1
  | cons i is =>
    refine ⟨is, Nat.succ.inj h1, fun q hq => h2 q (List.mem_cons_of_mem _ hq), ?_⟩
    simp only [z_okA, Bool.and_eq_true] at h3
    exact h3.2
theorem z_Sg.drop {y : Nat} {t : Nat} {es : List ZE} : z_Sg y es → z_Sg y (z_drop t es) := by
  induction es with
  | nil => exact id
  | cons e es ih =>
    intro h
    show z_Sg y (z_c (Nat.beq e.1 t) (e :: es) (z_drop t es))
    cases Nat.beq e.1 t
    · exact ih h.tail
    · exact h
theorem z_drop_hd {t : Nat} {es : List ZE} {e : ZE} {es1 : List ZE} : z_drop t es = e :: es1 → e.1 = t := by
  induction es with
  | nil => intro h; cases h
  | cons x es ih =>
    intro h
    have h5 : z_c (Nat.beq x.1 t) (x :: es) (z_drop t es) = e :: es1 := h
    cases hb : Nat.beq x.1 t with
    | true => rw [hb] at h5; cases h5; exact z_beq_t hb
    | false => rw [hb] at h5; exact ih h5
theorem z_Sg.me {y : Nat} (h : z_okM y = true) : z_Sg y (z_me y) := by
  simp only [z_okM, z_okH, z_okZ, Bool.and_eq_true] at h
  obtain ⟨⟨⟨⟨⟨_, h2⟩, h3⟩, _⟩, _⟩, h6⟩ := h
  exact ⟨z_mi y, z_beq_t h3, fun q hq => List.all_eq_true.mp h6 q hq, h2⟩
theorem z_exec_sound {X : ZX} {call : ZC} {p : Program} {l : Launch} {e : Env} {R : Room} {s : State} {m : MethodId} {args : Array Value} {below : List Frame} {meth : Method} {c : Code} {y : Nat} {ad0 : Nat → Nat} {D : va_G} {cA : Nat → ClassId} {A : Nat → Prop} {Q : State → Prop} {n0 mc ms dep : Nat} {r : Option Value ⊕ Nat} {w2 : ZW} (F : z_Fx X p l e R s m args below meth c y ad0 D cA A Q n0 mc ms r w2) (hC : z_Ct X l call dep) (hdep : dep + 4 ≤ R.frames ∧ 44 * dep + 114 ≤ R.locals) {cuts : List (Nat × List Nat)} {jmp : Nat → ZL → List Value → ZW → ZR} (hj : ∀ t lo st w, jmp t lo st w = some (r, w2) → z_Gd X p l e R s m args below meth c y ad0 D cA A Q n0 mc ms r w2 t lo st w) : ∀ (k : Nat) (es : List ZE) (fs : List Bool) (lo : ZL) (st : List Value) (w : ZW) (pc : Nat), z_Sg y es → (∀ e es1, es = e :: es1 → e.1 = pc) → z_exec X call (z_mh y) cuts jmp k es fs lo st w = some (r, w2) → z_Gd X p l e R s m args below meth c y ad0 D cA A Q n0 mc ms r w2 pc lo st w := by
  intro k
  induction k with
  | zero => intro es fs lo st w pc _ _ h; simp [z_exec] at h
  | succ k ih =>
    intro es fs lo st w pc hS hp h
    cases es with
    | nil => simp [z_exec] at h
    | cons e0 es =>
      cases fs with
      | nil => simp [z_exec] at h
      | cons f fs =>
        obtain ⟨pc1, o, len, ⟨a, b, c1, d, n⟩, ts⟩ := e0
        have hpc : pc1 = pc := hp _ _ rfl
        subst hpc
        have hT := hS.tail
        obtain ⟨is, h1, h2, h3⟩ := hS
        cases is with
        | nil => cases h1
        | cons i is =>
          have hk := h2 ((pc1, o, len, (a, b, c1, d, n), ts), i) List.mem_cons_self
          simp only [z_okE, Bool.and_eq_true, Bool.or_eq_true, decide_eq_true_eq] at hk
          obtain ⟨⟨hlt, hd⟩, hk⟩ := hk
          simp only [z_okA, Bool.and_eq_true] at h3
          rw [z_exec] at h
          refine zs_step F hC hdep ?_ o (z_blt_t hlt) (hd.imp z_beq_t id) hk ?_ h
          · intro t lo st w h
            split at h
            · exact z_Gd_norm (hj _ _ _ _ h)
            · exact ih _ _ _ _ _ _ hT.drop (fun e es1 he => z_drop_hd he) h
          · intro hnf lo st w h
            split at h
            · split at h
              · exact z_Gd_norm (hj _ _ _ _ h)
              · cases h
            · refine ih _ _ _ _ _ _ hT (fun e es1 he => ?_) h
              subst he
              have h5 := h3.1
              simp only [hnf, Bool.false_or] at h5
              exact z_beq_t h5
theorem z_loop_sound {X : ZX} {call : ZC} {p : Program} {l : Launch} {e : Env} {R : Room} {s : State} {m : MethodId} {args : Array Value} {below : List Frame} {meth : Method} {c : Code} {y : Nat} {ad0 : Nat → Nat} {D : va_G} {cA : Nat → ClassId} {A : Nat → Prop} {Q : State → Prop} {n0 mc ms dep : Nat} {r : Option Value ⊕ Nat} {w2 : ZW} (F : z_Fx X p l e R s m args below meth c y ad0 D cA A Q n0 mc ms r w2) (hC : z_Ct X l call dep) (hdep : dep + 4 ≤ R.frames ∧ 44 * dep + 114 ≤ R.locals) (hok : z_okM y = true) {cf : Nat → List (Nat × List Nat)} {ff : Nat → List Bool} : ∀ (k pc : Nat) (lo : ZL) (st : List Value) (w : ZW), z_loop X cf ff call y k pc lo st w = some (r, w2) → z_Gd X p l e R s m args below meth c y ad0 D cA A Q n0 mc ms r w2 pc lo st w := by
  intro k
  induction k with
  | zero => intro pc lo st w h; cases h
  | succ k ih =>
    intro pc lo st w h
    rw [z_loop] at h
    exact z_exec_sound F hC hdep ih 4000 _ _ lo st w pc (z_Sg.me hok).drop (fun e es1 he => z_drop_hd he) h
