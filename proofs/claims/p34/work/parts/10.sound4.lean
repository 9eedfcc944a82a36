/-! SOUND, 4: new cells, calls, switches, exceptions -/
theorem z_sm_le : ∀ {st : List Value} {n : Nat}, z_sm st n = true → (st.map fun v => v.category).sum ≤ n
  | [], n, _ => Nat.zero_le n
  | v :: r, n, h => by
    have h : z_c (z_c2 v) (z_c (Nat.ble 2 n) (z_sm r (n - 2)) false) (z_c (Nat.ble 1 n) (z_sm r (n - 1)) false) = true := h
    rw [List.map_cons, List.sum_cons]
    have hc := lv_cat v
    cases h2 : z_c2 v with
    | true =>
      rw [h2] at h
      cases h3 : Nat.ble 2 n with
      | true =>
        rw [h3] at h
        have h4 := z_sm_le (st := r) (n := n - 2) h
        have := z_ble_t h3
        omega
      | false => rw [h3] at h; cases h
    | false =>
      rw [h2] at h
      cases h3 : Nat.ble 1 n with
      | true =>
        rw [h3] at h
        have h4 := z_sm_le (st := r) (n := n - 1) h
        have := z_ble_t h3
        have h5 : v.category ≠ 2 := fun e => by rw [z_c2_eq, e] at h2; cases h2
        omega
      | false => rw [h3] at h; cases h
theorem z_sm_map {st : List Value} {n : Nat} (ad : Nat → Nat) (h : z_sm st n = true) : ((st.map (z_v ad)).map fun v => v.category).sum ≤ n := by
  rw [List.map_map]
  rw [show (fun v : Value => v.category) ∘ z_v ad = fun v => v.category from funext (fun v => z_v_cat ad v)]
  exact z_sm_le h
theorem z_ofN (b : Nat) : Int32.ofInt (b : Int) = nI b := by
  apply Int32.toBitVec_inj.mp
  show BitVec.ofInt 32 (b : Int) = BitVec.ofNat 32 b
  exact BitVec.ofInt_natCast 32 b
theorem z_dflt {ad : Nat → Nat} {t : FieldType} {n : Nat} {fI : Nat → Int32} {fL : Nat → Int64} {fR : Nat → Option Nat} {k : Nat} (ht : z_tyk t n = true) (h : fI k = 0 ∧ fL k = 0 ∧ fR k = none) : defaultValue t = z_v ad (z_fr fI fL fR k n) := by
  obtain ⟨h1, h2, h3⟩ := h
  unfold z_tyk at ht
  split at ht
  · show _ = Value.int (fI k); rw [h1]; rfl
  · show _ = Value.int (fI k); rw [h1]; rfl
  · show _ = Value.long (fL k); rw [h2]; rfl
  · show _ = z_v ad (va_rf (fR k)); rw [h3]; rfl
  · show _ = z_v ad (va_rf (fR k)); rw [h3]; rfl
  · cases ht
/-- the address of a new cell -/
def z_ad (ad : Nat → Nat) (n q : Nat) : Nat → Nat := fun a => if a = n then q else ad a
theorem z_ad_ag {ad : Nat → Nat} {n q : Nat} (hn : n < 1000) : z_ag n ad (z_ad ad n q) := fun a ha => if_neg (by omega)
theorem z_ad_n {ad : Nat → Nat} {n q : Nat} : z_ad ad n q n = q := if_pos rfl
theorem zs_new {X : ZX} {call : ZC} {p : Program} {l : Launch} {e : Env} {R : Room} {s : State} {m : MethodId} {args : Array Value} {below : List Frame} {meth : Method} {c : Code} {y : Nat} {ad0 : Nat → Nat} {D : va_G} {cA : Nat → ClassId} {A : Nat → Prop} {Q : State → Prop} {n0 mc ms : Nat} {r : Option Value ⊕ Nat} {w2 : ZW} (F : z_Fx X p l e R s m args below meth c y ad0 D cA A Q n0 mc ms r w2) {go : Nat → ZL → List Value → ZW → ZR} {nx : ZL → List Value → ZW → ZR} {pc a b cc d len : Nat} {n : Int} {ts : List (Int × Nat)} {lo : ZL} {st : List Value} {w : ZW} {ins : Instr} {ps : List Nat} (hd : decode (z_mb y) pc = .ok (ins, len)) (hk : z_k_new y pc len a b cc d n ts ins ps = true) (hgo : ∀ t lo st w, go t lo st w = some (r, w2) → z_Gd X p l e R s m args below meth c y ad0 D cA A Q n0 mc ms r w2 t lo st w) (hnx : ∀ lo st w, nx lo st w = some (r, w2) → z_Gd X p l e R s m args below meth c y ad0 D cA A Q n0 mc ms r w2 (pc + len) lo st w) (h : z_o_new X call (z_mh y) go nx pc a b cc d n ts lo st w = some (r, w2)) : z_Gd X p l e R s m args below meth c y ad0 D cA A Q n0 mc ms r w2 pc lo st w := by
  obtain ⟨hx, hb, hml, hown, hts, hA, hK, hZ, hin, hroom, hret, hexc, hthr⟩ := F
  simp only [z_k_new, Bool.and_eq_true, decide_eq_true_eq] at hk
  obtain ⟨⟨⟨⟨⟨⟨rfl, hlen⟩, ha⟩, hcc⟩, hk1⟩, hk2⟩, hk3⟩ := hk
  have hlen := z_beq_t hlen
  have ha := z_blt_t ha
  have hcc := z_beq_t hcc
  subst hlen hcc
  obtain ⟨hok, h5⟩ := z_gd_some h
  simp only [Bool.and_eq_true] at hok
  have hkn := z_beq_t hok.1
  have hlt := z_blt_t hok.2
  intro hn0 hw hl hs
  have hz : ∀ k, z_I w w.2.1 k = 0 ∧ z_L w w.2.1 k = 0 ∧ z_R w w.2.1 k = none := fun k => hw.2.2.1 _ k (Nat.le_refl _)
  obtain ⟨mo, wf2, wr, at2⟩ := hnx _ _ _ h5 (Nat.le_succ_of_le hn0) (z_wf_mk hw _ hlt) (z_wlo_mono (Nat.le_succ _) hl) (z_wvs_cons (z_wv_r (Or.inl (Nat.lt_succ_self _))) (z_wvs_mono (Nat.le_succ _) hs))
  have m3 : w.2.2.1 + 1 ≤ w2.2.2.1 := mo.2.2.1
  have m4 : w.2.2.2.1 + z_N a ≤ w2.2.2.2.1 := mo.2.2.2
  refine ⟨⟨mo.1, Nat.le_of_succ_le mo.2.1, Nat.le_of_succ_le m3, Nat.le_of_add_right_le m4⟩, wf2, wr, fun ad H locs ls cells slots h0 hP hD hS hlo hc hsl => ?_⟩
  refine va_new (ci := a) (fs := z_fs ad a (z_I w w.2.1) (z_L w w.2.1) (z_R w w.2.1)) hx hb hts (z_inG ha) (z_fty a) (fun k hk => (z_fty_at ha hk).1) hown (hts _ (z_wp_in hk1)) (hts _ (z_wp_in hk2)) (hts _ (z_wp_in hk3)) hK hP hD hS hA (z_cl_at ha) (fun j hj => ?_) (by omega) (by omega) hd (fun q H1 hP1 hD1 hS1 => ?_)
  · rw [z_dflt (ad := ad) (z_fty_at ha hj).2 (hz j)]
    show _ = (z_fs ad a (z_I w w.2.1) (z_L w w.2.1) (z_R w w.2.1)).getD j .null
    rw [List.getD_eq_getElem?_getD, z_fs_at hj]
    rfl
  · have hpush : z_ws ad cA w ++ [(q, .inr (a, z_fs ad a (z_I w w.2.1) (z_L w w.2.1) (z_R w w.2.1)))] = z_ws (z_ad ad w.2.1 q) cA (z_mk w (z_N a)) := by
      refine z_ws_push hw rfl rfl rfl rfl (z_ad_ag hlt) z_ad_n ?_
      show z_er (z_ad ad w.2.1 q) cA w.2.1 (z_I w w.2.1) (z_L w w.2.1) (z_R w w.2.1) = _
      rw [z_er_ag (z_ad_ag hlt) (fun k b hb => by rw [(hz k).2.2] at hb; cases hb)]
      exact z_e_obj (w := w) hkn ha
    rw [hpush] at hP1 hD1
    have hg := at2 (z_ad ad w.2.1 q) H1 locs ls (cells + 1) (slots + z_N a) (z_ag_tr hn0 h0 (z_ad_ag hlt)) hP1 hD1 hS1 (by rw [z_lm_ag (z_ad_ag hlt) hl]; exact hlo) (by show cells + 1 + (w2.2.2.1 - (w.2.2.1 + 1)) ≤ mc; omega) (by show slots + z_N a + (w2.2.2.2.1 - (w.2.2.2.1 + z_N a)) ≤ ms; omega)
    have hg : W p l e R s m args below meth c H1 locs (cells + 1) (slots + z_N a) Q (F0 m (pc + 3) ls (.ref (z_ad ad w.2.1 q w.2.1) :: st.map (z_v (z_ad ad w.2.1 q)))) := hg
    rw [z_ad_n, z_map_ag (z_ad_ag hlt) hs] at hg
    exact hg
theorem z_ra {D : va_G} {cA : Nat → ClassId} {cB : ClassId} {s : State} {ty : FieldType} {t0 k : Nat} (hK : va_K D z_cl (z_tys cA ++ [(cB, ty)]) s) (ht : (z_tys cA ++ [(cB, ty)])[t0]? = some (cA k, ty)) : cB = cA k := by
  have h1 : va_RA s cB ty := (hK.2 3 (cB, ty) rfl).2
  have h2 : va_RA s (cA k) ty := (hK.2 t0 (cA k, ty) ht).2
  have key : ∀ {c : ClassId}, va_RA s c ty → s.vm.findClass ("[" ++ ty.toString) = some c := by
    intro c h
    cases ty with
    | object C => obtain ⟨_, _, _, _, _, h⟩ := h; exact h
    | _ => exact h
  exact Option.some.inj ((key h1).symm.trans (key h2))
theorem z_arr0 {w : ZW} (hw : z_wf w) : z_I w w.2.1 = (fun _ => 0) ∧ z_L w w.2.1 = (fun _ => 0) ∧ z_R w w.2.1 = fun _ => none :=
  ⟨funext fun k => (hw.2.2.1 _ k (Nat.le_refl _)).1, funext fun k => (hw.2.2.1 _ k (Nat.le_refl _)).2.1, funext fun k => (hw.2.2.1 _ k (Nat.le_refl _)).2.2⟩
theorem zs_newarray {X : ZX} {call : ZC} {p : Program} {l : Launch} {e : Env} {R : Room} {s : State} {m : MethodId} {args : Array Value} {below : List Frame} {meth : Method} {c : Code} {y : Nat} {ad0 : Nat → Nat} {D : va_G} {cA : Nat → ClassId} {A : Nat → Prop} {Q : State → Prop} {n0 mc ms : Nat} {r : Option Value ⊕ Nat} {w2 : ZW} (F : z_Fx X p l e R s m args below meth c y ad0 D cA A Q n0 mc ms r w2) {go : Nat → ZL → List Value → ZW → ZR} {nx : ZL → List Value → ZW → ZR} {pc a b cc d len : Nat} {n : Int} {ts : List (Int × Nat)} {lo : ZL} {st : List Value} {w : ZW} {ins : Instr} {ps : List Nat} (hd : decode (z_mb y) pc = .ok (ins, len)) (hk : z_k_newarray y pc len a b cc d n ts ins ps = true) (hgo : ∀ t lo st w, go t lo st w = some (r, w2) → z_Gd X p l e R s m args below meth c y ad0 D cA A Q n0 mc ms r w2 t lo st w) (hnx : ∀ lo st w, nx lo st w = some (r, w2) → z_Gd X p l e R s m args below meth c y ad0 D cA A Q n0 mc ms r w2 (pc + len) lo st w) (h : z_o_newarray X call (z_mh y) go nx pc a b cc d n ts lo st w = some (r, w2)) : z_Gd X p l e R s m args below meth c y ad0 D cA A Q n0 mc ms r w2 pc lo st w := by
  obtain ⟨hx, hb, hml, hown, hts, hA, hK, hZ, hin, hroom, hret, hexc, hthr⟩ := F
  simp only [z_k_newarray, Bool.and_eq_true, Bool.or_eq_true, decide_eq_true_eq] at hk
  obtain ⟨⟨hlen, hnb, hb5⟩, hk⟩ := hk
  have hlen := z_beq_t hlen
  subst hlen hnb
  obtain ⟨v1, rest, rfl, h5⟩ := z_i1_some h
  by_cases hv : v1 = Int32.ofInt (b : Int)
  case neg => rw [if_neg hv] at h5; cases h5
  rw [if_pos hv] at h5
  obtain ⟨hok, h6⟩ := z_gd_some h5
  simp only [Bool.and_eq_true] at hok
  have hkn := z_beq_t hok.1.1
  have hlt := z_blt_t hok.1.2
  have hkx := z_beq_t hok.2
  intro hn0 hw hl hs
  obtain ⟨mo, wf2, wr, at2⟩ := hnx _ _ _ h6 (Nat.le_succ_of_le hn0) (z_wf_mk hw _ hlt) (z_wlo_mono (Nat.le_succ _) hl) (z_wvs_cons (z_wv_r (Or.inl (Nat.lt_succ_self _))) (z_wvs_mono (Nat.le_succ _) (z_wvs_tl hs)))
  have m3 : w.2.2.1 + 1 ≤ w2.2.2.1 := mo.2.2.1
  have m4 : w.2.2.2.1 + b ≤ w2.2.2.2.1 := mo.2.2.2
  refine ⟨⟨mo.1, Nat.le_of_succ_le mo.2.1, Nat.le_of_succ_le m3, Nat.le_of_add_right_le m4⟩, wf2, wr, fun ad H locs ls cells slots h0 hP hD hS hlo hc hsl => ?_⟩
  have hkl : ∀ q : Nat, z_kl (z_ad ad w.2.1 q) w.2.1 = b := fun q => by
    rw [z_kl_x hZ (show z_ad ad w.2.1 q 1002 = ad0 1002 from (z_ad_ag hlt 1002 (Or.inr (by omega))).trans (h0 1002 (Or.inr (by omega)))) w.2.1]
    exact hkx
  have fin : ∀ (q : Nat) (H1 : Heap), va_P D z_cl (z_ws (z_ad ad w.2.1 q) cA (z_mk w b)) H1 → va_D A (z_ws (z_ad ad w.2.1 q) cA (z_mk w b)) → va_S A s.heap H1 locs → W p l e R s m args below meth c H1 locs (cells + 1) (slots + b) Q (F0 m (pc + 2) ls (.ref q :: rest.map (z_v ad))) := by
    intro q H1 hP1 hD1 hS1
    have hg := at2 (z_ad ad w.2.1 q) H1 locs ls (cells + 1) (slots + b) (z_ag_tr hn0 h0 (z_ad_ag hlt)) hP1 hD1 hS1 (by rw [z_lm_ag (z_ad_ag hlt) hl]; exact hlo) (by show cells + 1 + (w2.2.2.1 - (w.2.2.1 + 1)) ≤ mc; omega) (by show slots + b + (w2.2.2.2.1 - (w.2.2.2.1 + b)) ≤ ms; omega)
    have hg : W p l e R s m args below meth c H1 locs (cells + 1) (slots + b) Q (F0 m (pc + 2) ls (.ref (z_ad ad w.2.1 q w.2.1) :: rest.map (z_v (z_ad ad w.2.1 q)))) := hg
    rw [z_ad_n, z_map_ag (z_ad_ag hlt) (z_wvs_tl hs)] at hg
    exact hg
  show W p l e R s m args below meth c H locs cells slots Q (F0 m pc ls (.int v1 :: rest.map (z_v ad)))
  rw [hv, z_ofN]
  rcases hk with hk | hk
  · obtain ⟨⟨rfl, rfl⟩, hk1⟩ := hk
    refine va_newa hx hb (hts _ (z_wp_in hk1)) (ty := .int) rfl hK hP hD hS hA (N' := b) (a0 := (b, .inl (fun _ => 0))) (fun _ => rfl) (nI_pos (by omega)) (nI_clamp (by omega)) (by show b * 4 ≤ 536870912; omega) (by omega) (by omega) hd (fun q cB H1 hK1 hP1 hD1 hS1 => ?_)
    have hcB := z_ra (t0 := 0) (k := 20) hK1 rfl
    subst hcB
    have hpush : z_ws ad cA w ++ [(q, .inl (cA 20, (b, .inl (fun _ => 0))))] = z_ws (z_ad ad w.2.1 q) cA (z_mk w b) := by
      refine z_ws_push hw rfl rfl rfl rfl (z_ad_ag hlt) z_ad_n ?_
      rw [z_e_int (w := z_mk w b) hkn rfl]
      show Sum.inl (cA 20, z_kl (z_ad ad w.2.1 q) w.2.1, _) = _
      rw [hkl]
      show Sum.inl (cA 20, b, Sum.inl (z_I w w.2.1)) = _
      rw [(z_arr0 hw).1]
    rw [hpush] at hP1 hD1
    exact fin q H1 hP1 hD1 hS1
  · obtain ⟨⟨rfl, rfl⟩, hk1⟩ := hk
    refine va_newa hx hb (hts _ (z_wp_in hk1)) (ty := .long) rfl hK hP hD hS hA (N' := b) (a0 := (b, .inr (.inl (fun _ => 0)))) (fun _ => rfl) (nI_pos (by omega)) (nI_clamp (by omega)) (by show b * 8 ≤ 536870912; omega) (by omega) (by omega) hd (fun q cB H1 hK1 hP1 hD1 hS1 => ?_)
    have hcB := z_ra (t0 := 1) (k := 21) hK1 rfl
    subst hcB
    have hpush : z_ws ad cA w ++ [(q, .inl (cA 21, (b, .inr (.inl (fun _ => 0)))))] = z_ws (z_ad ad w.2.1 q) cA (z_mk w b) := by
      refine z_ws_push hw rfl rfl rfl rfl (z_ad_ag hlt) z_ad_n ?_
      rw [z_e_long (w := z_mk w b) hkn]
      show Sum.inl (cA 21, z_kl (z_ad ad w.2.1 q) w.2.1, _) = _
      rw [hkl]
      show Sum.inl (cA 21, b, Sum.inr (Sum.inl (z_L w w.2.1))) = _
      rw [(z_arr0 hw).2.1]
    rw [hpush] at hP1 hD1
    exact fin q H1 hP1 hD1 hS1
theorem zs_newarrayD {X : ZX} {call : ZC} {p : Program} {l : Launch} {e : Env} {R : Room} {s : State} {m : MethodId} {args : Array Value} {below : List Frame} {meth : Method} {c : Code} {y : Nat} {ad0 : Nat → Nat} {D : va_G} {cA : Nat → ClassId} {A : Nat → Prop} {Q : State → Prop} {n0 mc ms : Nat} {r : Option Value ⊕ Nat} {w2 : ZW} (F : z_Fx X p l e R s m args below meth c y ad0 D cA A Q n0 mc ms r w2) {hs : List ZH} {go : Nat → ZL → List Value → ZW → ZR} {nx : ZL → List Value → ZW → ZR} {pc a b cc d len : Nat} {n : Int} {ts : List (Int × Nat)} {lo : ZL} {st : List Value} {w : ZW} {ins : Instr} {ps : List Nat} (hd : decode (z_mb y) pc = .ok (ins, len)) (hk : z_k_newarrayD y pc len a b cc d n ts ins ps = true) (hgo : ∀ t lo st w, go t lo st w = some (r, w2) → z_Gd X p l e R s m args below meth c y ad0 D cA A Q n0 mc ms r w2 t lo st w) (hnx : ∀ lo st w, nx lo st w = some (r, w2) → z_Gd X p l e R s m args below meth c y ad0 D cA A Q n0 mc ms r w2 (pc + len) lo st w) (h : z_o_newarrayD X call hs go nx pc a b cc d n ts lo st w = some (r, w2)) : z_Gd X p l e R s m args below meth c y ad0 D cA A Q n0 mc ms r w2 pc lo st w := by
  obtain ⟨hx, hb, hml, hown, hts, hA, hK, hZ, hin, hroom, hret, hexc, hthr⟩ := F
  simp only [z_k_newarrayD, Bool.and_eq_true, decide_eq_true_eq] at hk
  obtain ⟨⟨rfl, hlen⟩, hk1⟩ := hk
  have hlen := z_beq_t hlen
  subst hlen
  obtain ⟨v1, rest, rfl, h5⟩ := z_i1_some h
  generalize hbq : z_mny X = b9 at h5
  have hb9 : b9 ≤ 10 := by rw [← hbq]; exact z_mny_le X
  by_cases hv : v1 = Int32.ofInt (b9 : Int)
  case neg => rw [if_neg hv] at h5; cases h5
  rw [if_pos hv] at h5
  obtain ⟨hok, h6⟩ := z_gd_some h5
  have hw57 : w.2.1 = 57 := z_beq_t hok
  have hkn : z_kd w.2.1 = 20 := by rw [hw57]; rfl
  have hlt : w.2.1 < 1000 := by omega
  intro hn0 hw hl hs
  obtain ⟨mo, wf2, wr, at2⟩ := hnx _ _ _ h6 (Nat.le_succ_of_le hn0) (z_wf_mk hw _ hlt) (z_wlo_mono (Nat.le_succ _) hl) (z_wvs_cons (z_wv_r (Or.inl (Nat.lt_succ_self _))) (z_wvs_mono (Nat.le_succ _) (z_wvs_tl hs)))
  have m3 : w.2.2.1 + 1 ≤ w2.2.2.1 := mo.2.2.1
  have m4 : w.2.2.2.1 + b9 ≤ w2.2.2.2.1 := mo.2.2.2
  refine ⟨⟨mo.1, Nat.le_of_succ_le mo.2.1, Nat.le_of_succ_le m3, Nat.le_of_add_right_le m4⟩, wf2, wr, fun ad H locs ls cells slots h0 hP hD hS hlo hc hsl => ?_⟩
  have hkl : ∀ q : Nat, z_kl (z_ad ad w.2.1 q) w.2.1 = b9 := fun q => by
    rw [z_kl_x hZ (show z_ad ad w.2.1 q 1002 = ad0 1002 from (z_ad_ag hlt 1002 (Or.inr (by omega))).trans (h0 1002 (Or.inr (by omega)))) w.2.1, hw57]
    exact hbq
  have fin : ∀ (q : Nat) (H1 : Heap), va_P D z_cl (z_ws (z_ad ad w.2.1 q) cA (z_mk w b9)) H1 → va_D A (z_ws (z_ad ad w.2.1 q) cA (z_mk w b9)) → va_S A s.heap H1 locs → W p l e R s m args below meth c H1 locs (cells + 1) (slots + b9) Q (F0 m (pc + 2) ls (.ref q :: rest.map (z_v ad))) := by
    intro q H1 hP1 hD1 hS1
    have hg := at2 (z_ad ad w.2.1 q) H1 locs ls (cells + 1) (slots + b9) (z_ag_tr hn0 h0 (z_ad_ag hlt)) hP1 hD1 hS1 (by rw [z_lm_ag (z_ad_ag hlt) hl]; exact hlo) (by show cells + 1 + (w2.2.2.1 - (w.2.2.1 + 1)) ≤ mc; omega) (by show slots + b9 + (w2.2.2.2.1 - (w.2.2.2.1 + b9)) ≤ ms; omega)
    have hg : W p l e R s m args below meth c H1 locs (cells + 1) (slots + b9) Q (F0 m (pc + 2) ls (.ref (z_ad ad w.2.1 q w.2.1) :: rest.map (z_v (z_ad ad w.2.1 q)))) := hg
    rw [z_ad_n, z_map_ag (z_ad_ag hlt) (z_wvs_tl hs)] at hg
    exact hg
  show W p l e R s m args below meth c H locs cells slots Q (F0 m pc ls (.int v1 :: rest.map (z_v ad)))
  rw [hv, z_ofN]
  refine va_newa hx hb (hts _ (z_wp_in hk1)) (ty := .int) rfl hK hP hD hS hA (N' := b9) (a0 := (b9, .inl (fun _ => 0))) (fun _ => rfl) (nI_pos (by omega)) (nI_clamp (by omega)) (by show b9 * 4 ≤ 536870912; omega) (by omega) (by omega) hd (fun q cB H1 hK1 hP1 hD1 hS1 => ?_)
  have hcB := z_ra (t0 := 0) (k := 20) hK1 rfl
  subst hcB
  have hpush : z_ws ad cA w ++ [(q, .inl (cA 20, (b9, .inl (fun _ => 0))))] = z_ws (z_ad ad w.2.1 q) cA (z_mk w b9) := by
    refine z_ws_push hw rfl rfl rfl rfl (z_ad_ag hlt) z_ad_n ?_
    rw [z_e_int (w := z_mk w b9) hkn rfl]
    show Sum.inl (cA 20, z_kl (z_ad ad w.2.1 q) w.2.1, _) = _
    rw [hkl]
    show Sum.inl (cA 20, b9, Sum.inl (z_I w w.2.1)) = _
    rw [(z_arr0 hw).1]
  rw [hpush] at hP1 hD1
  exact fin q H1 hP1 hD1 hS1
theorem zs_anewarray {X : ZX} {call : ZC} {p : Program} {l : Launch} {e : Env} {R : Room} {s : State} {m : MethodId} {args : Array Value} {below : List Frame} {meth : Method} {c : Code} {y : Nat} {ad0 : Nat → Nat} {D : va_G} {cA : Nat → ClassId} {A : Nat → Prop} {Q : State → Prop} {n0 mc ms : Nat} {r : Option Value ⊕ Nat} {w2 : ZW} (F : z_Fx X p l e R s m args below meth c y ad0 D cA A Q n0 mc ms r w2) {go : Nat → ZL → List Value → ZW → ZR} {nx : ZL → List Value → ZW → ZR} {pc a b cc d len : Nat} {n : Int} {ts : List (Int × Nat)} {lo : ZL} {st : List Value} {w : ZW} {ins : Instr} {ps : List Nat} (hd : decode (z_mb y) pc = .ok (ins, len)) (hk : z_k_anewarray y pc len a b cc d n ts ins ps = true) (hgo : ∀ t lo st w, go t lo st w = some (r, w2) → z_Gd X p l e R s m args below meth c y ad0 D cA A Q n0 mc ms r w2 t lo st w) (hnx : ∀ lo st w, nx lo st w = some (r, w2) → z_Gd X p l e R s m args below meth c y ad0 D cA A Q n0 mc ms r w2 (pc + len) lo st w) (h : z_o_anewarray X call (z_mh y) go nx pc a b cc d n ts lo st w = some (r, w2)) : z_Gd X p l e R s m args below meth c y ad0 D cA A Q n0 mc ms r w2 pc lo st w := by
  obtain ⟨hx, hb, hml, hown, hts, hA, hK, hZ, hin, hroom, hret, hexc, hthr⟩ := F
  simp only [z_k_anewarray, Bool.and_eq_true, Bool.or_eq_true, decide_eq_true_eq] at hk
  obtain ⟨⟨⟨rfl, hlen⟩, hk1⟩, hk2⟩ := hk
  have hlen := z_beq_t hlen
  subst hlen
  obtain ⟨v1, rest, rfl, h5⟩ := z_i1_some h
  by_cases hv : v1 = Int32.ofInt 10
  case neg => rw [if_neg hv] at h5; cases h5
  rw [if_pos hv] at h5
  obtain ⟨hok, h6⟩ := z_gd_some h5
  simp only [Bool.and_eq_true] at hok
  have hkn := z_beq_t hok.1.1
  have hlt := z_blt_t hok.1.2
  have hkx := z_beq_t hok.2
  intro hn0 hw hl hs
  obtain ⟨mo, wf2, wr, at2⟩ := hnx _ _ _ h6 (Nat.le_succ_of_le hn0) (z_wf_mk hw _ hlt) (z_wlo_mono (Nat.le_succ _) hl) (z_wvs_cons (z_wv_r (Or.inl (Nat.lt_succ_self _))) (z_wvs_mono (Nat.le_succ _) (z_wvs_tl hs)))
  have m3 : w.2.2.1 + 1 ≤ w2.2.2.1 := mo.2.2.1
  have m4 : w.2.2.2.1 + 10 ≤ w2.2.2.2.1 := mo.2.2.2
  refine ⟨⟨mo.1, Nat.le_of_succ_le mo.2.1, Nat.le_of_succ_le m3, Nat.le_of_add_right_le m4⟩, wf2, wr, fun ad H locs ls cells slots h0 hP hD hS hlo hc hsl => ?_⟩
  show W p l e R s m args below meth c H locs cells slots Q (F0 m pc ls (.int v1 :: rest.map (z_v ad)))
  rw [hv, show (Int32.ofInt 10 : Int32) = nI 10 from z_ofN 10]
  refine va_newq hx hb hown (hts _ (z_wp_in hk1)) (va_AO.of (hZ.1 _ (z_wb_in hk2))) hK hP hD hS hA (N' := 10) (nI_pos (by omega)) (nI_clamp (by omega)) (by omega) (by omega) (by omega) hd (fun q cB H1 hK1 hP1 hD1 hS1 => ?_)
  have hcB := z_ra (t0 := 2) (k := 23) hK1 rfl
  subst hcB
  have hkl : z_kl (z_ad ad w.2.1 q) w.2.1 = 10 := by
    rw [z_kl_x hZ (show z_ad ad w.2.1 q 1002 = ad0 1002 from (z_ad_ag hlt 1002 (Or.inr (by omega))).trans (h0 1002 (Or.inr (by omega)))) w.2.1]
    exact hkx
  have hpush : z_ws ad cA w ++ [(q, .inl (cA 23, (10, .inr (.inr (.inr (.inr (fun _ => none)))))))] = z_ws (z_ad ad w.2.1 q) cA (z_mk w 10) := by
    refine z_ws_push hw rfl rfl rfl rfl (z_ad_ag hlt) z_ad_n ?_
    rw [z_e_ref (w := z_mk w 10) hkn]
    show Sum.inl (cA 23, z_kl (z_ad ad w.2.1 q) w.2.1, Sum.inr (Sum.inr (Sum.inr (Sum.inr (fun k => (z_R w w.2.1 k).map _))))) = _
    rw [hkl, (z_arr0 hw).2.2]
    rfl
  rw [hpush] at hP1 hD1
  have hg := at2 (z_ad ad w.2.1 q) H1 locs ls (cells + 1) (slots + 10) (z_ag_tr hn0 h0 (z_ad_ag hlt)) hP1 hD1 hS1 (by rw [z_lm_ag (z_ad_ag hlt) hl]; exact hlo) (by show cells + 1 + (w2.2.2.1 - (w.2.2.1 + 1)) ≤ mc; omega) (by show slots + 10 + (w2.2.2.2.1 - (w.2.2.2.1 + 10)) ≤ ms; omega)
  have hg : W p l e R s m args below meth c H1 locs (cells + 1) (slots + 10) Q (F0 m (pc + 3) ls (.ref (z_ad ad w.2.1 q w.2.1) :: rest.map (z_v (z_ad ad w.2.1 q)))) := hg
  rw [z_ad_n, z_map_ag (z_ad_ag hlt) (z_wvs_tl hs)] at hg
  exact hg
theorem zs_objinit {X : ZX} {call : ZC} {p : Program} {l : Launch} {e : Env} {R : Room} {s : State} {m : MethodId} {args : Array Value} {below : List Frame} {meth : Method} {c : Code} {y : Nat} {ad0 : Nat → Nat} {D : va_G} {cA : Nat → ClassId} {A : Nat → Prop} {Q : State → Prop} {n0 mc ms : Nat} {r : Option Value ⊕ Nat} {w2 : ZW} (F : z_Fx X p l e R s m args below meth c y ad0 D cA A Q n0 mc ms r w2) {go : Nat → ZL → List Value → ZW → ZR} {nx : ZL → List Value → ZW → ZR} {pc a b cc d len : Nat} {n : Int} {ts : List (Int × Nat)} {lo : ZL} {st : List Value} {w : ZW} {ins : Instr} {ps : List Nat} (hd : decode (z_mb y) pc = .ok (ins, len)) (hk : z_k_objinit y pc len a b cc d n ts ins ps = true) (hgo : ∀ t lo st w, go t lo st w = some (r, w2) → z_Gd X p l e R s m args below meth c y ad0 D cA A Q n0 mc ms r w2 t lo st w) (hnx : ∀ lo st w, nx lo st w = some (r, w2) → z_Gd X p l e R s m args below meth c y ad0 D cA A Q n0 mc ms r w2 (pc + len) lo st w) (h : z_o_objinit X call (z_mh y) go nx pc a b cc d n ts lo st w = some (r, w2)) : z_Gd X p l e R s m args below meth c y ad0 D cA A Q n0 mc ms r w2 pc lo st w := by
  obtain ⟨hx, hb, hml, hown, hts, hA, hK, hZ, hin, hroom, hret, hexc, hthr⟩ := F
  simp only [z_k_objinit, Bool.and_eq_true, decide_eq_true_eq] at hk
  obtain ⟨⟨⟨⟨rfl, hlen⟩, hk1⟩, hk2⟩, hk3⟩ := hk
  have hlen := z_beq_t hlen
  subst hlen
  obtain ⟨v1, rest, rfl, h5⟩ := z_r1_some h
  obtain ⟨hsm, h6⟩ := z_gd_some h5
  intro hn0 hw hl hs
  obtain ⟨mo, wf2, wr, at2⟩ := hnx _ _ _ h6 hn0 hw hl (z_wvs_tl hs)
  refine ⟨mo, wf2, wr, fun ad H locs ls cells slots h0 hP hD hS hlo hc hsl => ?_⟩
  have hsm2 := z_sm_map ad hsm
  have hro := hroom.2.1
  refine W.objInit hx hb hown (hts _ (z_wp_in hk1)) (hts _ (z_wp_in hk2)) (hts _ (z_wp_in hk3)) rfl (hlo.1.trans hml.symm) rfl hd (Nat.le_trans (by decide) hroom.1) ?_ (at2 ad H locs ls cells slots h0 hP hD hS hlo hc hsl)
  show 2 * (F0 m pc ls (st := _)).monitorRoom + _ + 12 ≤ R.locals
  have hm0 : (F0 m pc ls ((Value.ref v1 :: rest).map (z_v ad))).monitorRoom = 0 := rfl
  omega
theorem zs_arraycopy {X : ZX} {call : ZC} {p : Program} {l : Launch} {e : Env} {R : Room} {s : State} {m : MethodId} {args : Array Value} {below : List Frame} {meth : Method} {c : Code} {y : Nat} {ad0 : Nat → Nat} {D : va_G} {cA : Nat → ClassId} {A : Nat → Prop} {Q : State → Prop} {n0 mc ms : Nat} {r : Option Value ⊕ Nat} {w2 : ZW} (F : z_Fx X p l e R s m args below meth c y ad0 D cA A Q n0 mc ms r w2) {go : Nat → ZL → List Value → ZW → ZR} {nx : ZL → List Value → ZW → ZR} {pc a b cc d len : Nat} {n : Int} {ts : List (Int × Nat)} {lo : ZL} {st : List Value} {w : ZW} {ins : Instr} {ps : List Nat} (hd : decode (z_mb y) pc = .ok (ins, len)) (hk : z_k_arraycopy y pc len a b cc d n ts ins ps = true) (hgo : ∀ t lo st w, go t lo st w = some (r, w2) → z_Gd X p l e R s m args below meth c y ad0 D cA A Q n0 mc ms r w2 t lo st w) (hnx : ∀ lo st w, nx lo st w = some (r, w2) → z_Gd X p l e R s m args below meth c y ad0 D cA A Q n0 mc ms r w2 (pc + len) lo st w) (h : z_o_arraycopy X call (z_mh y) go nx pc a b cc d n ts lo st w = some (r, w2)) : z_Gd X p l e R s m args below meth c y ad0 D cA A Q n0 mc ms r w2 pc lo st w := by
  exact absurd (show (none : ZR) = some (r, w2) from h) (fun q => by cases q)
theorem z_sw_some {x : Int32} {go : Nat → ZR} : ∀ {ts : List (Int × Nat)} {d : Nat} {z}, z_sw x go ts d = some z → (∃ (k : Nat) (v : Int) (t : Nat), ts[k]? = some (v, t) ∧ x = Int32.ofInt v ∧ (∀ j, j < k → ∀ q : Int × Nat, ts[j]? = some q → x ≠ Int32.ofInt q.1) ∧ go t = some z) ∨ ((∀ q : Int × Nat, q ∈ ts → x ≠ Int32.ofInt q.1) ∧ go d = some z)
  | [], d, z, h => Or.inr ⟨fun q hq => (by cases hq), h⟩
  | (v, t) :: ts, d, z, h => by
    have h : (if x = Int32.ofInt v then go t else z_sw x go ts d) = some z := h
    by_cases hx : x = Int32.ofInt v
    · rw [if_pos hx] at h
      exact Or.inl ⟨0, v, t, rfl, hx, fun j hj => absurd hj (Nat.not_lt_zero j), h⟩
    · rw [if_neg hx] at h
      rcases z_sw_some h with ⟨k, v2, t2, h1, h2, h3, h4⟩ | ⟨h1, h2⟩
      · refine Or.inl ⟨k + 1, v2, t2, h1, h2, fun j hj q hq => ?_, h4⟩
        cases j with
        | zero => rw [List.getElem?_cons_zero] at hq; cases hq; exact hx
        | succ j => rw [List.getElem?_cons_succ] at hq; exact h3 j (by omega) q hq
      · refine Or.inr ⟨fun q hq => ?_, h2⟩
        rcases List.mem_cons.mp hq with rfl | hq
        · exact hx
        · exact h1 q hq
theorem z_sw_sub {x : Int32} {n : Int} (h1 : -1000000 ≤ n) (h2 : n ≤ 2000000) : x = Int32.ofInt n ↔ x.toInt = n := by
  have e : (Int32.ofInt n).toInt = n := Int32.toInt_ofInt_of_le (by omega) (by omega)
  constructor
  · rintro rfl; exact e
  · intro h; exact Int32.toInt_inj.mp (h.trans e.symm)
theorem z_look {x : Int} {pc : Nat} {d : Int} : ∀ {ts : List (Int × Nat)} {k : Nat} {v : Int} {t : Nat}, ts[k]? = some (v, t) → x = v → (∀ j, j < k → ∀ q : Int × Nat, ts[j]? = some q → x ≠ q.1) → Op.lookupswitch.offset (ts.map (fun q => (q.1, (q.2 : Int) - (pc : Int)))) d x = (t : Int) - (pc : Int)
  | [], k, v, t, h, _, _ => by simp at h
  | (v0, t0) :: ts, 0, v, t, h, hx, _ => by
    rw [List.getElem?_cons_zero] at h
    have e := Option.some.inj h
    show (if v0 = x then (t0 : Int) - (pc : Int) else _) = _
    have e1 : v0 = v := congrArg Prod.fst e
    have e2 : t0 = t := congrArg Prod.snd e
    rw [if_pos (e1.trans hx.symm), e2]
  | (v0, t0) :: ts, k + 1, v, t, h, hx, hj => by
    rw [List.getElem?_cons_succ] at h
    show (if v0 = x then _ else _) = _
    rw [if_neg (fun e => hj 0 (Nat.succ_pos k) (v0, t0) rfl e.symm)]
    exact z_look h hx (fun j hjk q hq => hj (j + 1) (by omega) q (by rw [List.getElem?_cons_succ]; exact hq))
theorem z_look0 {x : Int} {pc : Nat} {d : Int} : ∀ {ts : List (Int × Nat)}, (∀ q : Int × Nat, q ∈ ts → x ≠ q.1) → Op.lookupswitch.offset (ts.map (fun q => (q.1, (q.2 : Int) - (pc : Int)))) d x = d
  | [], _ => rfl
  | (v0, t0) :: ts, h => by
    show (if v0 = x then _ else _) = _
    rw [if_neg (fun e => h (v0, t0) List.mem_cons_self e.symm)]
    exact z_look0 (fun q hq => h q (List.mem_cons_of_mem _ hq))
theorem zs_switch {X : ZX} {call : ZC} {p : Program} {l : Launch} {e : Env} {R : Room} {s : State} {m : MethodId} {args : Array Value} {below : List Frame} {meth : Method} {c : Code} {y : Nat} {ad0 : Nat → Nat} {D : va_G} {cA : Nat → ClassId} {A : Nat → Prop} {Q : State → Prop} {n0 mc ms : Nat} {r : Option Value ⊕ Nat} {w2 : ZW} (F : z_Fx X p l e R s m args below meth c y ad0 D cA A Q n0 mc ms r w2) {go : Nat → ZL → List Value → ZW → ZR} {nx : ZL → List Value → ZW → ZR} {pc a b cc d len : Nat} {n : Int} {ts : List (Int × Nat)} {lo : ZL} {st : List Value} {w : ZW} {ins : Instr} {ps : List Nat} (hd : decode (z_mb y) pc = .ok (ins, len)) (hk : z_k_switch y pc len a b cc d n ts ins ps = true) (hgo : ∀ t lo st w, go t lo st w = some (r, w2) → z_Gd X p l e R s m args below meth c y ad0 D cA A Q n0 mc ms r w2 t lo st w) (hnx : ∀ lo st w, nx lo st w = some (r, w2) → z_Gd X p l e R s m args below meth c y ad0 D cA A Q n0 mc ms r w2 (pc + len) lo st w) (h : z_o_switch X call (z_mh y) go nx pc a b cc d n ts lo st w = some (r, w2)) : z_Gd X p l e R s m args below meth c y ad0 D cA A Q n0 mc ms r w2 pc lo st w := by
  obtain ⟨hx, hb, hml, hown, hts, hA, hK, hZ, hin, hroom, hret, hexc, hthr⟩ := F
  simp only [z_k_switch, Bool.or_eq_true, Bool.and_eq_true, decide_eq_true_eq] at hk
  obtain ⟨v1, rest, rfl, h5⟩ := z_i1_some h
  intro hn0 hw hl hs
  rcases hk with ⟨rfl, hts1, hn1, hn2, hn3⟩ | ⟨⟨rfl, hsorted⟩, hr⟩
  · have hat : ∀ (k : Nat) (v : Int) (t : Nat), ts[k]? = some (v, t) → v = n + (k : Int) ∧ k < ts.length := fun k v t hk => by
      have h1 : (ts.map (fun q => q.1))[k]? = some v := by rw [List.getElem?_map, hk]; rfl
      have hlt : k < ts.length := (List.getElem?_eq_some_iff.mp hk).1
      rw [hts1, List.getElem?_map, List.getElem?_range hlt] at h1
      exact ⟨(Option.some.inj h1).symm, hlt⟩
    rcases z_sw_some h5 with ⟨k, v, t, hk, hx1, -, h6⟩ | ⟨hno, h6⟩
    · obtain ⟨rfl, hlt⟩ := hat k v t hk
      have hxi := (z_sw_sub (by omega) (by omega)).mp hx1
      obtain ⟨mo, wf2, wr, at2⟩ := hgo _ _ _ _ h6 hn0 hw hl (z_wvs_tl hs)
      refine ⟨mo, wf2, wr, fun ad H locs ls cells slots h0 hP hD hS hlo hc hsl => lv_tableIn hx hb (off := (t : Int) - (pc : Int)) (tgt := t) hd (by omega) (by omega) ?_ (by omega) (at2 ad H locs ls cells slots h0 hP hD hS hlo hc hsl)⟩
      rw [hxi, show (n + (k : Int) - n).toNat = k by omega, List.getElem?_toArray, List.getElem?_map, hk]
      rfl
    · obtain ⟨mo, wf2, wr, at2⟩ := hgo _ _ _ _ h6 hn0 hw hl (z_wvs_tl hs)
      refine ⟨mo, wf2, wr, fun ad H locs ls cells slots h0 hP hD hS hlo hc hsl => lv_tableOut hx hb (tgt := a) hd ?_ (by omega) (at2 ad H locs ls cells slots h0 hP hD hS hlo hc hsl)⟩
      rcases Int.lt_or_le v1.toInt n with h7 | h7
      · exact Or.inl h7
      · refine Or.inr ?_
        rcases Int.lt_or_le (n + (ts.length : Int) - 1) v1.toInt with h8 | h8
        · exact h8
        · exfalso
          have hlt : (v1.toInt - n).toNat < ts.length := by omega
          have hq : ts[(v1.toInt - n).toNat]? = some ts[(v1.toInt - n).toNat] := List.getElem?_eq_getElem hlt
          have h9 := hat _ ts[(v1.toInt - n).toNat].1 ts[(v1.toInt - n).toNat].2 hq
          exact hno _ (List.mem_of_getElem? hq) ((z_sw_sub (by omega) (by omega)).mpr (by omega))
  · have hrg : ∀ q ∈ ts, -1000000 ≤ q.1 ∧ q.1 ≤ 1000000 := fun q hq => by
      have := List.all_eq_true.mp hr q hq
      simpa using this
    have hps : ((ts.map (fun q => (q.1, (q.2 : Int) - (pc : Int)))).toArray.toList.zip ((ts.map (fun q => (q.1, (q.2 : Int) - (pc : Int)))).toArray.toList.drop 1)).all (fun (a, next) => a.1 < next.1) = true := by
      rw [List.toList_toArray]
      rw [← List.map_drop, List.zip_map, List.all_map]
      refine List.all_eq_true.mpr (fun q hq => ?_)
      have := List.all_eq_true.mp hsorted q hq
      simpa using this
    rcases z_sw_some h5 with ⟨k, v, t, hk, hx1, hj, h6⟩ | ⟨hno, h6⟩
    · have hv := hrg _ (List.mem_of_getElem? hk)
      have hxi := (z_sw_sub hv.1 (by omega)).mp hx1
      obtain ⟨mo, wf2, wr, at2⟩ := hgo _ _ _ _ h6 hn0 hw hl (z_wvs_tl hs)
      refine ⟨mo, wf2, wr, fun ad H locs ls cells slots h0 hP hD hS hlo hc hsl => lv_lookup hx hb (off := (t : Int) - (pc : Int)) (tgt := t) hd hps ?_ (by omega) (at2 ad H locs ls cells slots h0 hP hD hS hlo hc hsl)⟩
      rw [List.toList_toArray]
      refine z_look hk hxi (fun j hjk q hq e => hj j hjk q hq ?_)
      have hq2 := hrg _ (List.mem_of_getElem? hq)
      exact (z_sw_sub hq2.1 (by omega)).mpr e
    · obtain ⟨mo, wf2, wr, at2⟩ := hgo _ _ _ _ h6 hn0 hw hl (z_wvs_tl hs)
      refine ⟨mo, wf2, wr, fun ad H locs ls cells slots h0 hP hD hS hlo hc hsl => lv_lookup hx hb (off := (a : Int) - (pc : Int)) (tgt := a) hd hps ?_ (by omega) (at2 ad H locs ls cells slots h0 hP hD hS hlo hc hsl)⟩
      rw [List.toList_toArray]
      refine z_look0 (fun q hq e => hno q hq ?_)
      have hq2 := hrg _ hq
      exact (z_sw_sub hq2.1 (by omega)).mpr e
theorem zs_throw {X : ZX} {call : ZC} {p : Program} {l : Launch} {e : Env} {R : Room} {s : State} {m : MethodId} {args : Array Value} {below : List Frame} {meth : Method} {c : Code} {y : Nat} {ad0 : Nat → Nat} {D : va_G} {cA : Nat → ClassId} {A : Nat → Prop} {Q : State → Prop} {n0 mc ms : Nat} {r : Option Value ⊕ Nat} {w2 : ZW} (F : z_Fx X p l e R s m args below meth c y ad0 D cA A Q n0 mc ms r w2) {go : Nat → ZL → List Value → ZW → ZR} {nx : ZL → List Value → ZW → ZR} {pc a b cc d len : Nat} {n : Int} {ts : List (Int × Nat)} {lo : ZL} {st : List Value} {w : ZW} {ins : Instr} {ps : List Nat} (hd : decode (z_mb y) pc = .ok (ins, len)) (hk : z_k_throw y pc len a b cc d n ts ins ps = true) (hgo : ∀ t lo st w, go t lo st w = some (r, w2) → z_Gd X p l e R s m args below meth c y ad0 D cA A Q n0 mc ms r w2 t lo st w) (hnx : ∀ lo st w, nx lo st w = some (r, w2) → z_Gd X p l e R s m args below meth c y ad0 D cA A Q n0 mc ms r w2 (pc + len) lo st w) (h : z_o_throw X call (z_mh y) go nx pc a b cc d n ts lo st w = some (r, w2)) : z_Gd X p l e R s m args below meth c y ad0 D cA A Q n0 mc ms r w2 pc lo st w := by
  exact absurd (show (none : ZR) = some (r, w2) from h) (fun q => by cases q)
