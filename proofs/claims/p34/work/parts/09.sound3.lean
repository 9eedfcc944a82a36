/-! SOUND, 3: fields, rows, new cells, returns -/
/-- where the words of each class's fields stand -/
def z_lp : List (List Nat) := [[1080, 1076, 1078], [1049, 1051, 1053], [1174, 1176, 1178], [1086, 1088], [2039, 2041, 2043, 2045, 2047, 2049, 2051, 2053, 2055], [1238, 2000, 2002, 2004, 2006, 2008, 2010, 2012, 2014, 2016, 2018, 2020, 2022, 2024], [1141, 1143, 1145, 1147, 1149, 1151, 1153, 1155, 1157, 1159, 1161, 1163], [2071, 2073, 2075, 2077, 2079, 2081, 2083, 2085], [1112, 1114, 1116, 1118, 1120, 1122, 1124, 1126, 1128, 1130, 1132, 1134], [1194, 1196, 1198, 1200, 1202, 1204, 1206, 1208, 1210, 1212, 1214, 1216, 1218, 1220], [2162, 2164, 2166, 2168, 2170, 2172, 2174, 2176, 2178, 2180, 2182, 2184, 2186, 2188, 2190], [2098, 2100, 2102, 2104, 2106, 2108, 2110, 2112, 2114, 2116, 2118]]
theorem z_inG_all : (List.range 12).all (fun c => (List.range (z_N c)).all (fun k => z_wp (z_lp.getD c []) k (u_lay (z_C c) (z_T c) k))) = true := by decide +kernel
theorem z_inG {c : Nat} (hc : c < 12) : ∀ w ∈ u_ws (z_C c) (z_T c) (z_N c), w ∈ z_G := by
  intro w hw
  obtain ⟨k, hk, rfl⟩ := List.mem_map.mp hw
  have h1 := List.all_eq_true.mp z_inG_all c (List.mem_range.mpr hc)
  exact z_wp_in (List.all_eq_true.mp h1 k hk)
def z_fty (c k : Nat) : FieldType := (parseFieldDescriptor (z_T c k).2.2.1).getD .int
/-- the kind of a field's type is as its number says -/
def z_tyk (t : FieldType) (n : Nat) : Bool := match t, n with
  | .int, 0 => true
  | .boolean, 1 => true
  | .long, 2 => true
  | .object _, 3 => true
  | .array _, 3 => true
  | _, _ => false
theorem z_fty_all : (List.range 12).all (fun c => (List.range (z_N c)).all (fun k => decide (parseFieldDescriptor (z_T c k).2.2.1 = some (z_fty c k)) && z_tyk (z_fty c k) (z_tc c k))) = true := by decide +kernel
theorem z_fty_at {c k : Nat} (hc : c < 12) (hk : k < z_N c) : parseFieldDescriptor (z_T c k).2.2.1 = some (z_fty c k) ∧ z_tyk (z_fty c k) (z_tc c k) = true := by
  have h1 := List.all_eq_true.mp z_fty_all c (List.mem_range.mpr hc)
  have h2 := List.all_eq_true.mp h1 k (List.mem_range.mpr hk)
  simp only [Bool.and_eq_true, decide_eq_true_eq] at h2
  exact h2
def z_nd : List String → Bool
  | [] => true
  | a :: l => !(l.contains a) && z_nd l
theorem z_nd_ne : ∀ {l : List String}, z_nd l = true → ∀ {i j : Nat} {a b : String}, l[i]? = some a → l[j]? = some b → i ≠ j → a ≠ b
  | [], _, i, j, a, b, hi, _, _ => by simp at hi
  | x :: l, h, i, j, a, b, hi, hj, hij => by
    simp only [z_nd, Bool.and_eq_true, Bool.not_eq_true', List.contains_eq_mem, decide_eq_false_iff_not] at h
    cases i with
    | zero =>
      cases j with
      | zero => exact absurd rfl hij
      | succ j =>
        rw [List.getElem?_cons_zero] at hi
        rw [List.getElem?_cons_succ] at hj
        cases hi
        intro e
        exact h.1 (e ▸ List.mem_of_getElem? hj)
    | succ i =>
      rw [List.getElem?_cons_succ] at hi
      cases j with
      | zero =>
        rw [List.getElem?_cons_zero] at hj
        cases hj
        intro e
        exact h.1 (e ▸ List.mem_of_getElem? hi)
      | succ j =>
        rw [List.getElem?_cons_succ] at hj
        exact z_nd_ne h.2 hi hj (fun e => hij (by rw [e]))
theorem z_getD_map {α β : Type} {l : List α} {f : α → β} {k : Nat} {d : α} (hk : k < l.length) : (l.map f)[k]? = some (f (l.getD k d)) := by
  rw [List.getElem?_map, List.getElem?_eq_getElem hk, List.getD_eq_getElem?_getD, List.getElem?_eq_getElem hk]
  rfl
theorem z_nm_all : (List.range 12).all (fun c => z_nd ((z_FL.getD c []).map (fun q => q.2.1))) = true := by decide +kernel
theorem z_nm {c : Nat} (hc : c < 12) : ∀ a, a < z_N c → ∀ b, b < z_N c → a ≠ b → (z_T c a).2.1 ≠ (z_T c b).2.1 := by
  intro a ha b hb hab
  have h1 := List.all_eq_true.mp z_nm_all c (List.mem_range.mpr hc)
  have key : ∀ k, k < z_N c → ((z_FL.getD c []).map (fun q => q.2.1))[k]? = some (z_T c k).2.1 := fun k hk => z_getD_map hk
  exact z_nd_ne h1 (key a ha) (key b hb) hab
theorem z_kd_i {w : ZW} (hw : z_wf w) {x c : Nat} (hok : z_ok w x c = true) : x < w.2.1 ∧ z_kd x = c := z_ok_kd hw hok
theorem z_link {X : ZX} {bB bX bS bE : Nat} {A : Nat → Prop} {s : State} {args : Array Value} {H : Heap} (hK : z_K X bB bX bS bE A s H) {w : Cond} (hw : w ∈ z_B) : w.before args s = true := z_bw_use (List.mem_filter.mp hw).2 (hK.1 w hw)
theorem z_fr_wv {w : ZW} (hw : z_wf w) (x k t : Nat) : z_wv w.2.1 (z_fr (z_I w x) (z_L w x) (z_R w x) k t) := by
  intro b hb
  unfold z_fr at hb
  split at hb
  · cases hq : z_R w x k with
    | none => rw [hq] at hb; cases hb
    | some q => rw [hq] at hb; cases hb; exact hw.2.2.2 x k b hq
  · cases hb
  · cases hb
theorem z_vpin {i : Int32} {n : Nat} (h : z_in i n = true) : vp_in i n := by
  rw [z_in_eq] at h
  simp only [Bool.and_eq_true, Bool.not_eq_true', decide_eq_false_iff_not] at h
  rintro (q | q)
  · exact h.1 q
  · exact absurd (z_blt_t h.2) (Nat.not_lt.mpr q)
theorem z_b1_01 {x : Int32} (h : z_b1 x = true) : x = 0 ∨ x = 1 := by
  rw [z_b1_eq] at h
  simp only [Bool.or_eq_true, beq_iff_eq] at h
  exact h
theorem zs_getfield {X : ZX} {call : ZC} {p : Program} {l : Launch} {e : Env} {R : Room} {s : State} {m : MethodId} {args : Array Value} {below : List Frame} {meth : Method} {c : Code} {y : Nat} {ad0 : Nat → Nat} {D : va_G} {cA : Nat → ClassId} {A : Nat → Prop} {Q : State → Prop} {n0 mc ms : Nat} {r : Option Value ⊕ Nat} {w2 : ZW} (F : z_Fx X p l e R s m args below meth c y ad0 D cA A Q n0 mc ms r w2) {hs : List ZH} {go : Nat → ZL → List Value → ZW → ZR} {nx : ZL → List Value → ZW → ZR} {pc a b cc d len : Nat} {n : Int} {ts : List (Int × Nat)} {lo : ZL} {st : List Value} {w : ZW} {ins : Instr} {ps : List Nat} (hd : decode (z_mb y) pc = .ok (ins, len)) (hk : z_k_getfield y pc len a b cc d n ts ins ps = true) (hgo : ∀ t lo st w, go t lo st w = some (r, w2) → z_Gd X p l e R s m args below meth c y ad0 D cA A Q n0 mc ms r w2 t lo st w) (hnx : ∀ lo st w, nx lo st w = some (r, w2) → z_Gd X p l e R s m args below meth c y ad0 D cA A Q n0 mc ms r w2 (pc + len) lo st w) (h : z_o_getfield X call hs go nx pc a b cc d n ts lo st w = some (r, w2)) : z_Gd X p l e R s m args below meth c y ad0 D cA A Q n0 mc ms r w2 pc lo st w := by
  obtain ⟨hx, hb, hml, hown, hts, hA, hK, hZ, hin, hroom, hret, hexc, hthr⟩ := F
  simp only [z_k_getfield, Bool.and_eq_true, decide_eq_true_eq] at hk
  obtain ⟨⟨⟨⟨⟨rfl, hlen⟩, ha⟩, hbn⟩, hcc⟩, hln⟩ := hk
  have hlen := z_beq_t hlen
  have ha := z_blt_t ha
  have hbn := z_blt_t hbn
  have hcc := z_beq_t hcc
  subst hlen hcc
  obtain ⟨x, rest, rfl, h5⟩ := z_r1_some h
  have h := h5
  obtain ⟨hok, h⟩ := z_gd_some h
  intro hn0 hw hl hs
  obtain ⟨hxn, hxk⟩ := z_ok_kd hw hok
  obtain ⟨mo, wf2, wr, at2⟩ := hnx _ _ _ h hn0 hw hl (z_wvs_cons (z_fr_wv hw x b (z_tc a b)) (z_wvs_tl hs))
  refine ⟨mo, wf2, wr, fun ad H locs ls cells slots h0 hP hD hS hlo hc hsl => ?_⟩
  have hg := at2 ad H locs ls cells slots h0 hP hD hS hlo hc hsl
  have he : (z_ws ad cA w)[x]? = some (ad x, .inr (a, z_fs ad a (z_I w x) (z_L w x) (z_R w x))) := by rw [z_ws_at hxn, z_e_obj hxk ha]
  simp only [Bool.or_eq_true, Bool.and_eq_true] at hln
  rcases hln with (h1 | h1) | ⟨h1, h2⟩
  · exact va_get hx hb hts (z_inG ha) hown hK hP x he (z_cl_at ha) b hbn (hts _ (z_wp_in h1)) (fun _ h9 => h9) (z_fs_at hbn) hd hg
  · exact va_getN hx hb hts (z_inG ha) hown hK hP x he (z_cl_at ha) b hbn (z_link hZ (z_wb_in h1)) (fun _ h9 => h9) (z_fs_at hbn) hd hg
  · exact va_get hx hb hts (z_inG ha) hown hK hP x he (z_cl_at ha) b hbn (hts _ (z_wp_in h1)) (fun x9 h9 => u_same (hts _ (z_wp_in h2)) x9 h9) (z_fs_at hbn) hd hg
/-- a field's new value: what the worlds say before and behind -/
theorem z_put_some {w : ZW} {x k t : Nat} {v : Value} {kk : ZW → ZR} {z} (h : z_put w x k t v kk = some z) : ∃ w1 : ZW, kk w1 = some z ∧ w1.1 = w.1 ∧ w1.2.1 = w.2.1 ∧ w1.2.2.1 = w.2.2.1 ∧ w1.2.2.2.1 = w.2.2.2.1 ∧ (∀ q, q ≠ x → z_I w1 q = z_I w q ∧ z_L w1 q = z_L w q ∧ z_R w1 q = z_R w q) ∧ (∀ j, j ≠ k → z_I w1 x j = z_I w x j ∧ z_L w1 x j = z_L w x j ∧ z_R w1 x j = z_R w x j) ∧ z_fr (z_I w1 x) (z_L w1 x) (z_R w1 x) k t = v ∧ (z_wf w → x < w.2.1 → z_wv w.2.1 v → z_wf w1) ∧ (t = 1 → v = .int 0 ∨ v = .int 1) ∧ ((t = 0 ∧ ∃ i, v = .int i) ∨ (t = 1 ∧ ∃ i, v = .int i) ∨ (t = 2 ∧ ∃ i, v = .long i) ∨ (t = 3 ∧ (v = .null ∨ ∃ b, v = .ref b))) := by
  unfold z_put at h
  split at h
  · rename_i i
    refine ⟨_, h, rfl, rfl, rfl, rfl, fun q hq => ⟨z_up_ne _ _ _ hq, rfl, rfl⟩, fun j hj => ⟨by show z_up (z_I w) x k i x j = _; rw [z_up_at, if_neg hj], rfl, rfl⟩, ?_, fun h1 h2 _ => z_wf_si h1 h2, fun h => absurd h (by decide), Or.inl ⟨rfl, _, rfl⟩⟩
    show Value.int (z_up (z_I w) x k i x k) = _
    rw [z_up_at, if_pos rfl]
  · rename_i i
    obtain ⟨hb1, h⟩ := z_gd_some h
    refine ⟨_, h, rfl, rfl, rfl, rfl, fun q hq => ⟨z_up_ne _ _ _ hq, rfl, rfl⟩, fun j hj => ⟨by show z_up (z_I w) x k i x j = _; rw [z_up_at, if_neg hj], rfl, rfl⟩, ?_, fun h1 h2 _ => z_wf_si h1 h2, fun _ => (z_b1_01 hb1).imp (congrArg Value.int) (congrArg Value.int), Or.inr (Or.inl ⟨rfl, _, rfl⟩)⟩
    show Value.int (z_up (z_I w) x k i x k) = _
    rw [z_up_at, if_pos rfl]
  · rename_i i
    refine ⟨_, h, rfl, rfl, rfl, rfl, fun q hq => ⟨rfl, z_up_ne _ _ _ hq, rfl⟩, fun j hj => ⟨rfl, by show z_up (z_L w) x k i x j = _; rw [z_up_at, if_neg hj], rfl⟩, ?_, fun h1 h2 _ => z_wf_sl h1 h2, fun h => absurd h (by decide), Or.inr (Or.inr (Or.inl ⟨rfl, _, rfl⟩))⟩
    show Value.long (z_up (z_L w) x k i x k) = _
    rw [z_up_at, if_pos rfl]
  · rename_i i
    refine ⟨_, h, rfl, rfl, rfl, rfl, fun q hq => ⟨rfl, rfl, z_up_ne _ _ _ hq⟩, fun j hj => ⟨rfl, rfl, by show z_up (z_R w) x k (some i) x j = _; rw [z_up_at, if_neg hj]⟩, ?_, fun h1 h2 h3 => z_wf_sr h1 h2 (fun b hb => by cases hb; exact h3 i rfl), fun h => absurd h (by decide), Or.inr (Or.inr (Or.inr ⟨rfl, Or.inr ⟨_, rfl⟩⟩))⟩
    show va_rf (z_up (z_R w) x k (some i) x k) = _
    rw [z_up_at, if_pos rfl]
    rfl
  · refine ⟨_, h, rfl, rfl, rfl, rfl, fun q hq => ⟨rfl, rfl, z_up_ne _ _ _ hq⟩, fun j hj => ⟨rfl, rfl, by show z_up (z_R w) x k none x j = _; rw [z_up_at, if_neg hj]⟩, ?_, fun h1 h2 h3 => z_wf_sr h1 h2 (fun b hb => by cases hb), fun h => absurd h (by decide), Or.inr (Or.inr (Or.inr ⟨rfl, Or.inl rfl⟩))⟩
    show va_rf (z_up (z_R w) x k none x k) = _
    rw [z_up_at, if_pos rfl]
    rfl
  · cases h
/-- what a field may hold, by its type's number -/
theorem z_fits {ad : Nat → Nat} {t : FieldType} {n : Nat} {v : Value} (ht : z_tyk t n = true) (h1 : n = 1 → v = .int 0 ∨ v = .int 1) (hv : (n = 0 ∧ ∃ i, v = .int i) ∨ (n = 1 ∧ ∃ i, v = .int i) ∨ (n = 2 ∧ ∃ i, v = .long i) ∨ (n = 3 ∧ (v = .null ∨ ∃ b, v = .ref b))) : narrow t (z_v ad v) = z_v ad v ∧ fits t (z_v ad v) = true := by
  unfold z_tyk at ht
  split at ht
  · rcases hv with ⟨_, i, rfl⟩ | ⟨h, _⟩ | ⟨h, _⟩ | ⟨h, _⟩ <;> first | exact ⟨rfl, rfl⟩ | cases h
  · rcases h1 rfl with rfl | rfl
    · show narrow .boolean (.int 0) = .int 0 ∧ fits .boolean (.int 0) = true
      decide
    · show narrow .boolean (.int 1) = .int 1 ∧ fits .boolean (.int 1) = true
      decide
  · rcases hv with ⟨h, _⟩ | ⟨h, _⟩ | ⟨_, i, rfl⟩ | ⟨h, _⟩ <;> first | exact ⟨rfl, rfl⟩ | cases h
  · rcases hv with ⟨h, _⟩ | ⟨h, _⟩ | ⟨h, _⟩ | ⟨_, rfl | ⟨b, rfl⟩⟩ <;> first | exact ⟨rfl, rfl⟩ | cases h
  · rcases hv with ⟨h, _⟩ | ⟨h, _⟩ | ⟨h, _⟩ | ⟨_, rfl | ⟨b, rfl⟩⟩ <;> first | exact ⟨rfl, rfl⟩ | cases h
  · cases ht
theorem zs_putfield {X : ZX} {call : ZC} {p : Program} {l : Launch} {e : Env} {R : Room} {s : State} {m : MethodId} {args : Array Value} {below : List Frame} {meth : Method} {c : Code} {y : Nat} {ad0 : Nat → Nat} {D : va_G} {cA : Nat → ClassId} {A : Nat → Prop} {Q : State → Prop} {n0 mc ms : Nat} {r : Option Value ⊕ Nat} {w2 : ZW} (F : z_Fx X p l e R s m args below meth c y ad0 D cA A Q n0 mc ms r w2) {hs : List ZH} {go : Nat → ZL → List Value → ZW → ZR} {nx : ZL → List Value → ZW → ZR} {pc a b cc d len : Nat} {n : Int} {ts : List (Int × Nat)} {lo : ZL} {st : List Value} {w : ZW} {ins : Instr} {ps : List Nat} (hd : decode (z_mb y) pc = .ok (ins, len)) (hk : z_k_putfield y pc len a b cc d n ts ins ps = true) (hgo : ∀ t lo st w, go t lo st w = some (r, w2) → z_Gd X p l e R s m args below meth c y ad0 D cA A Q n0 mc ms r w2 t lo st w) (hnx : ∀ lo st w, nx lo st w = some (r, w2) → z_Gd X p l e R s m args below meth c y ad0 D cA A Q n0 mc ms r w2 (pc + len) lo st w) (h : z_o_putfield X call hs go nx pc a b cc d n ts lo st w = some (r, w2)) : z_Gd X p l e R s m args below meth c y ad0 D cA A Q n0 mc ms r w2 pc lo st w := by
  obtain ⟨hx, hb, hml, hown, hts, hA, hK, hZ, hin, hroom, hret, hexc, hthr⟩ := F
  simp only [z_k_putfield, Bool.and_eq_true, decide_eq_true_eq] at hk
  obtain ⟨⟨⟨⟨⟨⟨rfl, hlen⟩, ha⟩, hbn⟩, hcc⟩, hln⟩, hfin⟩ := hk
  have hlen := z_beq_t hlen
  have ha := z_blt_t ha
  have hbn := z_blt_t hbn
  have hcc := z_beq_t hcc
  subst hlen hcc
  unfold z_o_putfield at h
  split at h
  case h_2 => cases h
  rename_i v x rest
  obtain ⟨hok, h⟩ := z_gd_some h
  obtain ⟨w1, h, e1, e2, e3, e4, ho, hj, hv, hwf, hv1, hvt⟩ := z_put_some h
  intro hn0 hw hl hs
  obtain ⟨hxn, hxk⟩ := z_ok_kd hw hok
  obtain ⟨mo, wf2, wr, at2⟩ := hnx _ _ _ h (by rw [e2]; exact hn0) (hwf hw hxn (z_wvs_hd hs)) (by rw [e2]; exact hl) (by rw [e2]; exact z_wvs_tl (z_wvs_tl hs))
  refine ⟨⟨e1.symm.trans mo.1, by rw [← e2]; exact mo.2.1, by rw [← e3]; exact mo.2.2.1, by rw [← e4]; exact mo.2.2.2⟩, wf2, wr, fun ad H locs ls cells slots h0 hP hD hS hlo hc hsl => ?_⟩
  have he : (z_ws ad cA w)[x]? = some (ad x, .inr (a, z_fs ad a (z_I w x) (z_L w x) (z_R w x))) := by rw [z_ws_at hxn, z_e_obj hxk ha]
  have hset : (z_ws ad cA w).set x (ad x, .inr (a, (z_fs ad a (z_I w x) (z_L w x) (z_R w x)).set b (z_v ad v))) = z_ws ad cA w1 := by
    refine z_ws_set e2 hxn ?_ (fun q hq => ?_)
    · rw [z_e_obj hxk ha, z_fs_set hbn (by rw [hv]) hj]
    · obtain ⟨q1, q2, q3⟩ := ho q hq
      unfold z_e
      rw [q1, q2, q3]
  obtain ⟨hft, hfk⟩ := z_fty_at ha hbn
  obtain ⟨hnar, hfit⟩ := z_fits (ad := ad) hfk hv1 hvt
  have hlen2 : b < (z_fs ad a (z_I w x) (z_L w x) (z_R w x)).length := by rw [z_fs_len]; exact hbn
  have kk : ∀ (H1 : Heap) (locs1 : List Loc), va_P D z_cl ((z_ws ad cA w).set x (ad x, .inr (a, (z_fs ad a (z_I w x) (z_L w x) (z_R w x)).set b (z_v ad v)))) H1 → va_D A ((z_ws ad cA w).set x (ad x, .inr (a, (z_fs ad a (z_I w x) (z_L w x) (z_R w x)).set b (z_v ad v)))) → va_S A s.heap H1 locs1 → W p l e R s m args below meth c H1 locs1 cells slots Q (F0 m (pc + 3) ls (rest.map (z_v ad))) := by
    intro H1 locs1 hP1 hD1 hS1
    rw [hset] at hP1 hD1
    exact at2 ad H1 locs1 ls cells slots h0 hP1 hD1 hS1 hlo (by rw [e3]; exact hc) (by rw [e4]; exact hsl)
  simp only [Bool.or_eq_true, Bool.and_eq_true, decide_eq_true_eq] at hln hfin
  rcases hfin with hf | ⟨⟨hi, hdec⟩, h1⟩
  · rcases hln with (h1 | h1) | ⟨h1, h2⟩
    · exact va_put hx hb hts (z_inG ha) (z_fty a) (fun k hk => (z_fty_at ha hk).1) (z_nm ha) hown hK hP hD hS x he (z_cl_at ha) b hbn (hts _ (z_wp_in h1)) (fun _ h9 => h9) hf hft hnar hfit hlen2 hd kk
    · exact va_putN hx hb hts (z_inG ha) (z_fty a) (fun k hk => (z_fty_at ha hk).1) (z_nm ha) hown hK hP hD hS x he (z_cl_at ha) b hbn (z_link hZ (z_wb_in h1)) (fun _ h9 => h9) hf hft hnar hfit hlen2 hd kk
    · exact va_put hx hb hts (z_inG ha) (z_fty a) (fun k hk => (z_fty_at ha hk).1) (z_nm ha) hown hK hP hD hS x he (z_cl_at ha) b hbn (hts _ (z_wp_in h1)) (fun x9 h9 => u_same (hts _ (z_wp_in h2)) x9 h9) hf hft hnar hfit hlen2 hd kk
  · cases hf9 : (z_T a b).2.2.2 with
    | false => exact va_put hx hb hts (z_inG ha) (z_fty a) (fun k hk => (z_fty_at ha hk).1) (z_nm ha) hown hK hP hD hS x he (z_cl_at ha) b hbn (hts _ (z_wp_in h1)) (fun _ h9 => h9) hf9 hft hnar hfit hlen2 hd kk
    | true => exact va_putF hx hb hts (z_inG ha) (z_fty a) (fun k hk => (z_fty_at ha hk).1) (z_nm ha) hown hK hP hD hS x he (z_cl_at ha) b hbn (hts _ (z_wp_in h1)) (fun _ h9 => h9) hf9 (hin hi) hdec hft hnar hfit hlen2 hd kk
theorem zs_getstatic {X : ZX} {call : ZC} {p : Program} {l : Launch} {e : Env} {R : Room} {s : State} {m : MethodId} {args : Array Value} {below : List Frame} {meth : Method} {c : Code} {y : Nat} {ad0 : Nat → Nat} {D : va_G} {cA : Nat → ClassId} {A : Nat → Prop} {Q : State → Prop} {n0 mc ms : Nat} {r : Option Value ⊕ Nat} {w2 : ZW} (F : z_Fx X p l e R s m args below meth c y ad0 D cA A Q n0 mc ms r w2) {hs : List ZH} {go : Nat → ZL → List Value → ZW → ZR} {nx : ZL → List Value → ZW → ZR} {pc a b cc d len : Nat} {n : Int} {ts : List (Int × Nat)} {lo : ZL} {st : List Value} {w : ZW} {ins : Instr} {ps : List Nat} (hd : decode (z_mb y) pc = .ok (ins, len)) (hk : z_k_getstatic y pc len a b cc d n ts ins ps = true) (hgo : ∀ t lo st w, go t lo st w = some (r, w2) → z_Gd X p l e R s m args below meth c y ad0 D cA A Q n0 mc ms r w2 t lo st w) (hnx : ∀ lo st w, nx lo st w = some (r, w2) → z_Gd X p l e R s m args below meth c y ad0 D cA A Q n0 mc ms r w2 (pc + len) lo st w) (h : z_o_getstatic X call hs go nx pc a b cc d n ts lo st w = some (r, w2)) : z_Gd X p l e R s m args below meth c y ad0 D cA A Q n0 mc ms r w2 pc lo st w := by
  obtain ⟨hx, hb, hml, hown, hts, hA, hK, hZ, hin, hroom, hret, hexc, hthr⟩ := F
  simp only [z_k_getstatic, Bool.or_eq_true, Bool.and_eq_true, decide_eq_true_eq] at hk
  obtain ⟨⟨rfl, hlen⟩, hk⟩ := hk
  have hlen := z_beq_t hlen
  subst hlen
  intro hn0 hw hl hs
  rcases hk with ⟨h1, h2⟩ | ⟨h1, h2⟩ <;> have h1 := z_beq_t h1 <;> subst h1
  · obtain ⟨mo, wf2, wr, at2⟩ := hnx _ _ _ h hn0 hw hl (z_wvs_cons (z_wv_r (Or.inr (by omega))) hs)
    refine ⟨mo, wf2, wr, fun ad H locs ls cells slots h0 hP hD hS hlo hc hsl => ?_⟩
    have hg : W p l e R s m args below meth c H locs cells slots Q (F0 m (pc + 3) ls (.ref (ad 1000) :: st.map (z_v ad))) := at2 ad H locs ls cells slots h0 hP hD hS hlo hc hsl
    rw [h0 1000 (Or.inr (by omega))] at hg
    exact va_gets hx hb hZ.2.2.2.1 hS hown (hts _ (z_wp_in h2)) (fun _ h9 => h9) hd hg
  · obtain ⟨mo, wf2, wr, at2⟩ := hnx _ _ _ h hn0 hw hl (z_wvs_cons (z_wv_r (Or.inr (by omega))) hs)
    refine ⟨mo, wf2, wr, fun ad H locs ls cells slots h0 hP hD hS hlo hc hsl => ?_⟩
    have hg : W p l e R s m args below meth c H locs cells slots Q (F0 m (pc + 3) ls (.ref (ad 1003) :: st.map (z_v ad))) := at2 ad H locs ls cells slots h0 hP hD hS hlo hc hsl
    rw [h0 1003 (Or.inr (by omega))] at hg
    exact va_gets hx hb hZ.2.2.2.2.2.1 hS hown (hts _ (z_wp_in h2)) (fun _ h9 => h9) hd hg
theorem zs_iaload {X : ZX} {call : ZC} {p : Program} {l : Launch} {e : Env} {R : Room} {s : State} {m : MethodId} {args : Array Value} {below : List Frame} {meth : Method} {c : Code} {y : Nat} {ad0 : Nat → Nat} {D : va_G} {cA : Nat → ClassId} {A : Nat → Prop} {Q : State → Prop} {n0 mc ms : Nat} {r : Option Value ⊕ Nat} {w2 : ZW} (F : z_Fx X p l e R s m args below meth c y ad0 D cA A Q n0 mc ms r w2) {hs : List ZH} {go : Nat → ZL → List Value → ZW → ZR} {nx : ZL → List Value → ZW → ZR} {pc a b cc d len : Nat} {n : Int} {ts : List (Int × Nat)} {lo : ZL} {st : List Value} {w : ZW} {ins : Instr} {ps : List Nat} (hd : decode (z_mb y) pc = .ok (ins, len)) (hk : z_k_iaload y pc len a b cc d n ts ins ps = true) (hgo : ∀ t lo st w, go t lo st w = some (r, w2) → z_Gd X p l e R s m args below meth c y ad0 D cA A Q n0 mc ms r w2 t lo st w) (hnx : ∀ lo st w, nx lo st w = some (r, w2) → z_Gd X p l e R s m args below meth c y ad0 D cA A Q n0 mc ms r w2 (pc + len) lo st w) (h : z_o_iaload X call hs go nx pc a b cc d n ts lo st w = some (r, w2)) : z_Gd X p l e R s m args below meth c y ad0 D cA A Q n0 mc ms r w2 pc lo st w := by
  obtain ⟨hx, hb, hml, hown, hts, hA, hK, hZ, hin, hroom, hret, hexc, hthr⟩ := F
  simp only [z_k_iaload, Bool.and_eq_true, decide_eq_true_eq] at hk
  obtain ⟨rfl, hlen⟩ := hk
  have hlen := z_beq_t hlen
  subst hlen
  obtain ⟨x, i, rest, rfl, h5⟩ := z_ir_some h
  have h := h5
  obtain ⟨hok, h⟩ := z_gd_some h
  obtain ⟨hi, h⟩ := z_gd_some h
  intro hn0 hw hl hs
  obtain ⟨hxn, hxk⟩ := z_ok_kd hw hok
  obtain ⟨mo, wf2, wr, at2⟩ := hnx _ _ _ h hn0 hw hl (z_wvs_i (z_wvs_tl (z_wvs_tl hs)))
  refine ⟨mo, wf2, wr, fun ad H locs ls cells slots h0 hP hD hS hlo hc hsl => ?_⟩
  have hkl := z_kl_x hZ (h0 1002 (Or.inr (by omega))) x
  rw [← hkl] at hi
  have hg := at2 ad H locs ls cells slots h0 hP hD hS hlo hc hsl
  exact va_iald hx hb hK hP x 0 (by rw [z_ws_at hxn, z_e_int hxk rfl]) rfl (z_vpin hi) hd hg
theorem zs_baload {X : ZX} {call : ZC} {p : Program} {l : Launch} {e : Env} {R : Room} {s : State} {m : MethodId} {args : Array Value} {below : List Frame} {meth : Method} {c : Code} {y : Nat} {ad0 : Nat → Nat} {D : va_G} {cA : Nat → ClassId} {A : Nat → Prop} {Q : State → Prop} {n0 mc ms : Nat} {r : Option Value ⊕ Nat} {w2 : ZW} (F : z_Fx X p l e R s m args below meth c y ad0 D cA A Q n0 mc ms r w2) {hs : List ZH} {go : Nat → ZL → List Value → ZW → ZR} {nx : ZL → List Value → ZW → ZR} {pc a b cc d len : Nat} {n : Int} {ts : List (Int × Nat)} {lo : ZL} {st : List Value} {w : ZW} {ins : Instr} {ps : List Nat} (hd : decode (z_mb y) pc = .ok (ins, len)) (hk : z_k_baload y pc len a b cc d n ts ins ps = true) (hgo : ∀ t lo st w, go t lo st w = some (r, w2) → z_Gd X p l e R s m args below meth c y ad0 D cA A Q n0 mc ms r w2 t lo st w) (hnx : ∀ lo st w, nx lo st w = some (r, w2) → z_Gd X p l e R s m args below meth c y ad0 D cA A Q n0 mc ms r w2 (pc + len) lo st w) (h : z_o_baload X call hs go nx pc a b cc d n ts lo st w = some (r, w2)) : z_Gd X p l e R s m args below meth c y ad0 D cA A Q n0 mc ms r w2 pc lo st w := by
  exact absurd (show (none : ZR) = some (r, w2) from h) (fun q => by cases q)
theorem zs_laload {X : ZX} {call : ZC} {p : Program} {l : Launch} {e : Env} {R : Room} {s : State} {m : MethodId} {args : Array Value} {below : List Frame} {meth : Method} {c : Code} {y : Nat} {ad0 : Nat → Nat} {D : va_G} {cA : Nat → ClassId} {A : Nat → Prop} {Q : State → Prop} {n0 mc ms : Nat} {r : Option Value ⊕ Nat} {w2 : ZW} (F : z_Fx X p l e R s m args below meth c y ad0 D cA A Q n0 mc ms r w2) {hs : List ZH} {go : Nat → ZL → List Value → ZW → ZR} {nx : ZL → List Value → ZW → ZR} {pc a b cc d len : Nat} {n : Int} {ts : List (Int × Nat)} {lo : ZL} {st : List Value} {w : ZW} {ins : Instr} {ps : List Nat} (hd : decode (z_mb y) pc = .ok (ins, len)) (hk : z_k_laload y pc len a b cc d n ts ins ps = true) (hgo : ∀ t lo st w, go t lo st w = some (r, w2) → z_Gd X p l e R s m args below meth c y ad0 D cA A Q n0 mc ms r w2 t lo st w) (hnx : ∀ lo st w, nx lo st w = some (r, w2) → z_Gd X p l e R s m args below meth c y ad0 D cA A Q n0 mc ms r w2 (pc + len) lo st w) (h : z_o_laload X call hs go nx pc a b cc d n ts lo st w = some (r, w2)) : z_Gd X p l e R s m args below meth c y ad0 D cA A Q n0 mc ms r w2 pc lo st w := by
  obtain ⟨hx, hb, hml, hown, hts, hA, hK, hZ, hin, hroom, hret, hexc, hthr⟩ := F
  simp only [z_k_laload, Bool.and_eq_true, decide_eq_true_eq] at hk
  obtain ⟨rfl, hlen⟩ := hk
  have hlen := z_beq_t hlen
  subst hlen
  obtain ⟨x, i, rest, rfl, h5⟩ := z_ir_some h
  have h := h5
  obtain ⟨hok, h⟩ := z_gd_some h
  obtain ⟨hi, h⟩ := z_gd_some h
  intro hn0 hw hl hs
  obtain ⟨hxn, hxk⟩ := z_ok_kd hw hok
  obtain ⟨mo, wf2, wr, at2⟩ := hnx _ _ _ h hn0 hw hl (z_wvs_l (z_wvs_tl (z_wvs_tl hs)))
  refine ⟨mo, wf2, wr, fun ad H locs ls cells slots h0 hP hD hS hlo hc hsl => ?_⟩
  have hkl := z_kl_x hZ (h0 1002 (Or.inr (by omega))) x
  rw [← hkl] at hi
  have hg := at2 ad H locs ls cells slots h0 hP hD hS hlo hc hsl
  exact va_lald hx hb hK hP x 1 (by rw [z_ws_at hxn, z_e_long hxk]) rfl (z_vpin hi) hd hg
theorem zs_aaload {X : ZX} {call : ZC} {p : Program} {l : Launch} {e : Env} {R : Room} {s : State} {m : MethodId} {args : Array Value} {below : List Frame} {meth : Method} {c : Code} {y : Nat} {ad0 : Nat → Nat} {D : va_G} {cA : Nat → ClassId} {A : Nat → Prop} {Q : State → Prop} {n0 mc ms : Nat} {r : Option Value ⊕ Nat} {w2 : ZW} (F : z_Fx X p l e R s m args below meth c y ad0 D cA A Q n0 mc ms r w2) {hs : List ZH} {go : Nat → ZL → List Value → ZW → ZR} {nx : ZL → List Value → ZW → ZR} {pc a b cc d len : Nat} {n : Int} {ts : List (Int × Nat)} {lo : ZL} {st : List Value} {w : ZW} {ins : Instr} {ps : List Nat} (hd : decode (z_mb y) pc = .ok (ins, len)) (hk : z_k_aaload y pc len a b cc d n ts ins ps = true) (hgo : ∀ t lo st w, go t lo st w = some (r, w2) → z_Gd X p l e R s m args below meth c y ad0 D cA A Q n0 mc ms r w2 t lo st w) (hnx : ∀ lo st w, nx lo st w = some (r, w2) → z_Gd X p l e R s m args below meth c y ad0 D cA A Q n0 mc ms r w2 (pc + len) lo st w) (h : z_o_aaload X call hs go nx pc a b cc d n ts lo st w = some (r, w2)) : z_Gd X p l e R s m args below meth c y ad0 D cA A Q n0 mc ms r w2 pc lo st w := by
  obtain ⟨hx, hb, hml, hown, hts, hA, hK, hZ, hin, hroom, hret, hexc, hthr⟩ := F
  simp only [z_k_aaload, Bool.and_eq_true, decide_eq_true_eq] at hk
  obtain ⟨rfl, hlen⟩ := hk
  have hlen := z_beq_t hlen
  subst hlen
  obtain ⟨x, i, rest, rfl, h5⟩ := z_ir_some h
  have h := h5
  obtain ⟨hok, h⟩ := z_gd_some h
  obtain ⟨hi, h⟩ := z_gd_some h
  intro hn0 hw hl hs
  obtain ⟨hxn, hxk⟩ := z_ok_kd hw hok
  obtain ⟨mo, wf2, wr, at2⟩ := hnx _ _ _ h hn0 hw hl (z_wvs_cons (fun q hq => by
    cases e9 : z_R w x i.toNatClampNeg with
    | none => rw [e9] at hq; cases hq
    | some z => rw [e9] at hq; cases hq; exact hw.2.2.2 x _ q e9) (z_wvs_tl (z_wvs_tl hs)))
  refine ⟨mo, wf2, wr, fun ad H locs ls cells slots h0 hP hD hS hlo hc hsl => ?_⟩
  have hkl := z_kl_x hZ (h0 1002 (Or.inr (by omega))) x
  rw [← hkl] at hi
  have hg : W p l e R s m args below meth c H locs cells slots Q (F0 m (pc + 1) ls (z_v ad (va_rf (z_R w x i.toNatClampNeg)) :: rest.map (z_v ad))) := at2 ad H locs ls cells slots h0 hP hD hS hlo hc hsl
  rw [z_rf_v] at hg
  exact va_aldq hx hb hK hP x 2 (by rw [z_ws_at hxn, z_e_ref hxk]) rfl (z_vpin hi) hd hg
theorem zs_iastore {X : ZX} {call : ZC} {p : Program} {l : Launch} {e : Env} {R : Room} {s : State} {m : MethodId} {args : Array Value} {below : List Frame} {meth : Method} {c : Code} {y : Nat} {ad0 : Nat → Nat} {D : va_G} {cA : Nat → ClassId} {A : Nat → Prop} {Q : State → Prop} {n0 mc ms : Nat} {r : Option Value ⊕ Nat} {w2 : ZW} (F : z_Fx X p l e R s m args below meth c y ad0 D cA A Q n0 mc ms r w2) {hs : List ZH} {go : Nat → ZL → List Value → ZW → ZR} {nx : ZL → List Value → ZW → ZR} {pc a b cc d len : Nat} {n : Int} {ts : List (Int × Nat)} {lo : ZL} {st : List Value} {w : ZW} {ins : Instr} {ps : List Nat} (hd : decode (z_mb y) pc = .ok (ins, len)) (hk : z_k_iastore y pc len a b cc d n ts ins ps = true) (hgo : ∀ t lo st w, go t lo st w = some (r, w2) → z_Gd X p l e R s m args below meth c y ad0 D cA A Q n0 mc ms r w2 t lo st w) (hnx : ∀ lo st w, nx lo st w = some (r, w2) → z_Gd X p l e R s m args below meth c y ad0 D cA A Q n0 mc ms r w2 (pc + len) lo st w) (h : z_o_iastore X call hs go nx pc a b cc d n ts lo st w = some (r, w2)) : z_Gd X p l e R s m args below meth c y ad0 D cA A Q n0 mc ms r w2 pc lo st w := by
  obtain ⟨hx, hb, hml, hown, hts, hA, hK, hZ, hin, hroom, hret, hexc, hthr⟩ := F
  simp only [z_k_iastore, Bool.and_eq_true, decide_eq_true_eq] at hk
  obtain ⟨rfl, hlen⟩ := hk
  have hlen := z_beq_t hlen
  subst hlen
  obtain ⟨x, i, v1, rest, rfl, h5⟩ := z_iir_some h
  have h := h5
  obtain ⟨hok, h⟩ := z_gd_some h
  obtain ⟨hi, h⟩ := z_gd_some h
  intro hn0 hw hl hs
  obtain ⟨hxn, hxk⟩ := z_ok_kd hw hok
  obtain ⟨mo, wf2, wr, at2⟩ := hnx _ _ _ h hn0 (z_wf_si hw hxn) hl (z_wvs_tl (z_wvs_tl (z_wvs_tl hs)))
  refine ⟨mo, wf2, wr, fun ad H locs ls cells slots h0 hP hD hS hlo hc hsl => ?_⟩
  have hkl := z_kl_x hZ (h0 1002 (Or.inr (by omega))) x
  rw [← hkl] at hi
  have hset : (z_ws ad cA w).set x (ad x, .inl (cA 20, z_kl ad x, .inl (upd (z_I w x) i.toNatClampNeg v1))) = z_ws ad cA (z_si w x i.toNatClampNeg v1) := by
    refine z_ws_set rfl hxn ?_ (fun q hq => ?_)
    · rw [z_e_int hxk rfl]
      show Sum.inl (cA 20, z_kl ad x, Sum.inl (z_up (z_I w) x i.toNatClampNeg v1 x)) = _
      rw [z_up_row]; rfl
    · show z_er ad cA q (z_up (z_I w) x i.toNatClampNeg v1 q) (z_L w q) (z_R w q) = _
      rw [z_up_ne _ _ _ hq]; rfl
  refine va_iast hx hb hK hP hD hS x 0 (by rw [z_ws_at hxn, z_e_int hxk rfl]) rfl (z_vpin hi) hd (fun H1 locs1 hP1 hD1 hS1 => ?_)
  rw [hset] at hP1 hD1
  exact at2 ad H1 locs1 ls cells slots h0 hP1 hD1 hS1 hlo hc hsl
theorem zs_bastore {X : ZX} {call : ZC} {p : Program} {l : Launch} {e : Env} {R : Room} {s : State} {m : MethodId} {args : Array Value} {below : List Frame} {meth : Method} {c : Code} {y : Nat} {ad0 : Nat → Nat} {D : va_G} {cA : Nat → ClassId} {A : Nat → Prop} {Q : State → Prop} {n0 mc ms : Nat} {r : Option Value ⊕ Nat} {w2 : ZW} (F : z_Fx X p l e R s m args below meth c y ad0 D cA A Q n0 mc ms r w2) {hs : List ZH} {go : Nat → ZL → List Value → ZW → ZR} {nx : ZL → List Value → ZW → ZR} {pc a b cc d len : Nat} {n : Int} {ts : List (Int × Nat)} {lo : ZL} {st : List Value} {w : ZW} {ins : Instr} {ps : List Nat} (hd : decode (z_mb y) pc = .ok (ins, len)) (hk : z_k_bastore y pc len a b cc d n ts ins ps = true) (hgo : ∀ t lo st w, go t lo st w = some (r, w2) → z_Gd X p l e R s m args below meth c y ad0 D cA A Q n0 mc ms r w2 t lo st w) (hnx : ∀ lo st w, nx lo st w = some (r, w2) → z_Gd X p l e R s m args below meth c y ad0 D cA A Q n0 mc ms r w2 (pc + len) lo st w) (h : z_o_bastore X call hs go nx pc a b cc d n ts lo st w = some (r, w2)) : z_Gd X p l e R s m args below meth c y ad0 D cA A Q n0 mc ms r w2 pc lo st w := by
  exact absurd (show (none : ZR) = some (r, w2) from h) (fun q => by cases q)
theorem zs_lastore {X : ZX} {call : ZC} {p : Program} {l : Launch} {e : Env} {R : Room} {s : State} {m : MethodId} {args : Array Value} {below : List Frame} {meth : Method} {c : Code} {y : Nat} {ad0 : Nat → Nat} {D : va_G} {cA : Nat → ClassId} {A : Nat → Prop} {Q : State → Prop} {n0 mc ms : Nat} {r : Option Value ⊕ Nat} {w2 : ZW} (F : z_Fx X p l e R s m args below meth c y ad0 D cA A Q n0 mc ms r w2) {hs : List ZH} {go : Nat → ZL → List Value → ZW → ZR} {nx : ZL → List Value → ZW → ZR} {pc a b cc d len : Nat} {n : Int} {ts : List (Int × Nat)} {lo : ZL} {st : List Value} {w : ZW} {ins : Instr} {ps : List Nat} (hd : decode (z_mb y) pc = .ok (ins, len)) (hk : z_k_lastore y pc len a b cc d n ts ins ps = true) (hgo : ∀ t lo st w, go t lo st w = some (r, w2) → z_Gd X p l e R s m args below meth c y ad0 D cA A Q n0 mc ms r w2 t lo st w) (hnx : ∀ lo st w, nx lo st w = some (r, w2) → z_Gd X p l e R s m args below meth c y ad0 D cA A Q n0 mc ms r w2 (pc + len) lo st w) (h : z_o_lastore X call hs go nx pc a b cc d n ts lo st w = some (r, w2)) : z_Gd X p l e R s m args below meth c y ad0 D cA A Q n0 mc ms r w2 pc lo st w := by
  obtain ⟨hx, hb, hml, hown, hts, hA, hK, hZ, hin, hroom, hret, hexc, hthr⟩ := F
  simp only [z_k_lastore, Bool.and_eq_true, decide_eq_true_eq] at hk
  obtain ⟨rfl, hlen⟩ := hk
  have hlen := z_beq_t hlen
  subst hlen
  obtain ⟨x, i, v1, rest, rfl, h5⟩ := z_lir_some h
  have h := h5
  obtain ⟨hok, h⟩ := z_gd_some h
  obtain ⟨hi, h⟩ := z_gd_some h
  intro hn0 hw hl hs
  obtain ⟨hxn, hxk⟩ := z_ok_kd hw hok
  obtain ⟨mo, wf2, wr, at2⟩ := hnx _ _ _ h hn0 (z_wf_sl hw hxn) hl (z_wvs_tl (z_wvs_tl (z_wvs_tl hs)))
  refine ⟨mo, wf2, wr, fun ad H locs ls cells slots h0 hP hD hS hlo hc hsl => ?_⟩
  have hkl := z_kl_x hZ (h0 1002 (Or.inr (by omega))) x
  rw [← hkl] at hi
  have hset : (z_ws ad cA w).set x (ad x, .inl (cA 21, z_kl ad x, .inr (.inl (vp_updL (z_L w x) i.toNatClampNeg v1)))) = z_ws ad cA (z_sl w x i.toNatClampNeg v1) := by
    refine z_ws_set rfl hxn ?_ (fun q hq => ?_)
    · rw [z_e_long hxk]
      show Sum.inl (cA 21, z_kl ad x, Sum.inr (Sum.inl (z_up (z_L w) x i.toNatClampNeg v1 x))) = _
      rw [z_up_row]; rfl
    · show z_er ad cA q (z_I w q) (z_up (z_L w) x i.toNatClampNeg v1 q) (z_R w q) = _
      rw [z_up_ne _ _ _ hq]; rfl
  refine va_last hx hb hK hP hD hS x 1 (by rw [z_ws_at hxn, z_e_long hxk]) rfl (z_vpin hi) hd (fun H1 locs1 hP1 hD1 hS1 => ?_)
  rw [hset] at hP1 hD1
  exact at2 ad H1 locs1 ls cells slots h0 hP1 hD1 hS1 hlo hc hsl
theorem zs_aastore {X : ZX} {call : ZC} {p : Program} {l : Launch} {e : Env} {R : Room} {s : State} {m : MethodId} {args : Array Value} {below : List Frame} {meth : Method} {c : Code} {y : Nat} {ad0 : Nat → Nat} {D : va_G} {cA : Nat → ClassId} {A : Nat → Prop} {Q : State → Prop} {n0 mc ms : Nat} {r : Option Value ⊕ Nat} {w2 : ZW} (F : z_Fx X p l e R s m args below meth c y ad0 D cA A Q n0 mc ms r w2) {hs : List ZH} {go : Nat → ZL → List Value → ZW → ZR} {nx : ZL → List Value → ZW → ZR} {pc a b cc d len : Nat} {n : Int} {ts : List (Int × Nat)} {lo : ZL} {st : List Value} {w : ZW} {ins : Instr} {ps : List Nat} (hd : decode (z_mb y) pc = .ok (ins, len)) (hk : z_k_aastore y pc len a b cc d n ts ins ps = true) (hgo : ∀ t lo st w, go t lo st w = some (r, w2) → z_Gd X p l e R s m args below meth c y ad0 D cA A Q n0 mc ms r w2 t lo st w) (hnx : ∀ lo st w, nx lo st w = some (r, w2) → z_Gd X p l e R s m args below meth c y ad0 D cA A Q n0 mc ms r w2 (pc + len) lo st w) (h : z_o_aastore X call hs go nx pc a b cc d n ts lo st w = some (r, w2)) : z_Gd X p l e R s m args below meth c y ad0 D cA A Q n0 mc ms r w2 pc lo st w := by
  obtain ⟨hx, hb, hml, hown, hts, hA, hK, hZ, hin, hroom, hret, hexc, hthr⟩ := F
  simp only [z_k_aastore, Bool.and_eq_true, decide_eq_true_eq] at hk
  obtain ⟨⟨rfl, hlen⟩, hcast⟩ := hk
  have hlen := z_beq_t hlen
  subst hlen
  obtain ⟨x, i, v1, rest, rfl, h5⟩ := z_rir_some h
  have h := h5
  obtain ⟨hok, h⟩ := z_gd_some h
  obtain ⟨hi, h⟩ := z_gd_some h
  obtain ⟨hok1, h⟩ := z_gd_some h
  intro hn0 hw hl hs
  obtain ⟨hxn, hxk⟩ := z_ok_kd hw hok
  obtain ⟨hvn, hvk⟩ := z_ok_kd hw hok1
  obtain ⟨mo, wf2, wr, at2⟩ := hnx _ _ _ h hn0 (z_wf_sr hw hxn (fun q hq => by cases hq; exact Or.inl hvn)) hl (z_wvs_tl (z_wvs_tl (z_wvs_tl hs)))
  refine ⟨mo, wf2, wr, fun ad H locs ls cells slots h0 hP hD hS hlo hc hsl => ?_⟩
  have hkl := z_kl_x hZ (h0 1002 (Or.inr (by omega))) x
  rw [← hkl] at hi
  have hset : (z_ws ad cA w).set x (ad x, .inl (cA 23, z_kl ad x, .inr (.inr (.inr (.inr (va_up (fun k => (z_R w x k).map ad) i.toNatClampNeg (some (ad v1)))))))) = z_ws ad cA (z_sr w x i.toNatClampNeg (some v1)) := by
    refine z_ws_set rfl hxn ?_ (fun q hq => ?_)
    · rw [z_e_ref hxk]
      show Sum.inl (cA 23, z_kl ad x, Sum.inr (Sum.inr (Sum.inr (Sum.inr (fun k => (z_up (z_R w) x i.toNatClampNeg (some v1) x k).map ad))))) = _
      have e9 : (fun k => (z_up (z_R w) x i.toNatClampNeg (some v1) x k).map ad) = va_up (fun k => (z_R w x k).map ad) i.toNatClampNeg (some (ad v1)) := by
        funext k
        rw [z_up_at]
        show _ = if k = i.toNatClampNeg then some (ad v1) else (z_R w x k).map ad
        by_cases hk : k = i.toNatClampNeg
        · rw [if_pos hk, if_pos hk]; rfl
        · rw [if_neg hk, if_neg hk]
      rw [e9]
    · show z_er ad cA q (z_I w q) (z_L w q) (z_up (z_R w) x i.toNatClampNeg (some v1) q) = _
      rw [z_up_ne _ _ _ hq]; rfl
  refine va_astqO hx hb hK hP hD hS x 2 v1 10 (E := "java/lang/Object") (r := (z_C 10, z_T 10, z_N 10)) (by rw [z_ws_at hxn, z_e_ref hxk]) rfl (hZ.1 _ (z_wb_in hcast)) (by rw [z_ws_at hvn, z_e_obj hvk (by decide)]) (z_cl_at (by decide)) (z_vpin hi) hd (fun H1 locs1 hP1 hD1 hS1 => ?_)
  rw [hset] at hP1 hD1
  exact at2 ad H1 locs1 ls cells slots h0 hP1 hD1 hS1 hlo hc hsl
theorem z_kd_arr {k : Nat} (h1 : 20 ≤ k) (h2 : k ≤ 23) : k = 20 ∨ k = 21 ∨ k = 22 ∨ k = 23 := by omega
theorem z_kd_far {x : Nat} (h : 64 ≤ x) : z_kd x = 99 := by
  have hb : ∀ k : Nat, k ≤ 63 → Nat.blt x k = false := fun k hk => by
    cases hq : Nat.blt x k with
    | false => rfl
    | true => have := z_blt_t hq; omega
  unfold z_kd
  simp only [hb 1 (by omega), hb 2 (by omega), hb 3 (by omega), hb 4 (by omega), hb 5 (by omega), hb 6 (by omega), hb 7 (by omega), hb 31 (by omega), hb 32 (by omega), hb 47 (by omega), hb 48 (by omega), hb 55 (by omega), hb 56 (by omega), hb 59 (by omega), hb 60 (by omega), hb 61 (by omega), hb 62 (by omega), hb 63 (by omega), cond_false]
theorem z_kd_22 (x : Nat) : z_kd x ≠ 22 := by
  rcases Nat.lt_or_ge x 64 with h | h
  · have h1 : (List.range 64).all (fun x => !Nat.beq (z_kd x) 22) = true := by decide +kernel
    have h2 := List.all_eq_true.mp h1 x (List.mem_range.mpr h)
    intro e
    rw [e] at h2
    exact absurd h2 (by decide)
  · intro e
    rw [z_kd_far h] at e
    exact absurd e (by decide)
theorem zs_arraylength {X : ZX} {call : ZC} {p : Program} {l : Launch} {e : Env} {R : Room} {s : State} {m : MethodId} {args : Array Value} {below : List Frame} {meth : Method} {c : Code} {y : Nat} {ad0 : Nat → Nat} {D : va_G} {cA : Nat → ClassId} {A : Nat → Prop} {Q : State → Prop} {n0 mc ms : Nat} {r : Option Value ⊕ Nat} {w2 : ZW} (F : z_Fx X p l e R s m args below meth c y ad0 D cA A Q n0 mc ms r w2) {hs : List ZH} {go : Nat → ZL → List Value → ZW → ZR} {nx : ZL → List Value → ZW → ZR} {pc a b cc d len : Nat} {n : Int} {ts : List (Int × Nat)} {lo : ZL} {st : List Value} {w : ZW} {ins : Instr} {ps : List Nat} (hd : decode (z_mb y) pc = .ok (ins, len)) (hk : z_k_arraylength y pc len a b cc d n ts ins ps = true) (hgo : ∀ t lo st w, go t lo st w = some (r, w2) → z_Gd X p l e R s m args below meth c y ad0 D cA A Q n0 mc ms r w2 t lo st w) (hnx : ∀ lo st w, nx lo st w = some (r, w2) → z_Gd X p l e R s m args below meth c y ad0 D cA A Q n0 mc ms r w2 (pc + len) lo st w) (h : z_o_arraylength X call hs go nx pc a b cc d n ts lo st w = some (r, w2)) : z_Gd X p l e R s m args below meth c y ad0 D cA A Q n0 mc ms r w2 pc lo st w := by
  obtain ⟨hx, hb, hml, hown, hts, hA, hK, hZ, hin, hroom, hret, hexc, hthr⟩ := F
  simp only [z_k_arraylength, Bool.and_eq_true, decide_eq_true_eq] at hk
  obtain ⟨rfl, hlen⟩ := hk
  have hlen := z_beq_t hlen
  subst hlen
  obtain ⟨x, rest, rfl, h5⟩ := z_r1_some h
  have h := h5
  intro hn0 hw hl hs
  cases hq : Nat.beq x 1003 with
  | true =>
    rw [hq] at h
    have hq := z_beq_t hq
    subst hq
    obtain ⟨mo, wf2, wr, at2⟩ := hnx _ _ _ h hn0 hw hl (z_wvs_i (z_wvs_tl hs))
    refine ⟨mo, wf2, wr, fun ad H locs ls cells slots h0 hP hD hS hlo hc hsl => ?_⟩
    show W p l e R s m args below meth c H locs cells slots Q (F0 m pc ls (.ref (ad 1003) :: rest.map (z_v ad)))
    rw [h0 1003 (Or.inr (by omega))]
    exact va_tlen hx hb hZ.2.2.2.2.2.2.1 hS rfl hd (at2 ad H locs ls cells slots h0 hP hD hS hlo hc hsl)
  | false =>
    rw [hq] at h
    obtain ⟨hok, h⟩ := z_gd_some h
    simp only [Bool.and_eq_true] at hok
    have hxn := z_al_lt hw hok.1.1
    obtain ⟨mo, wf2, wr, at2⟩ := hnx _ _ _ h hn0 hw hl (z_wvs_i (z_wvs_tl hs))
    refine ⟨mo, wf2, wr, fun ad H locs ls cells slots h0 hP hD hS hlo hc hsl => ?_⟩
    have hg := at2 ad H locs ls cells slots h0 hP hD hS hlo hc hsl
    have hkl := z_kl_x hZ (h0 1002 (Or.inr (by omega))) x
    rw [← hkl] at hg
    rcases z_kd_arr (z_ble_t hok.1.2) (z_ble_t hok.2) with hk | hk | hk | hk
    · exact va_alen hx hb hK hP x 0 (x := (z_kl ad x, .inl (z_I w x))) (by rw [z_ws_at hxn, z_e_int hk rfl]) (ty := .int) rfl rfl hd hg
    · exact va_alen hx hb hK hP x 1 (x := (z_kl ad x, .inr (.inl (z_L w x)))) (by rw [z_ws_at hxn, z_e_long hk]) (ty := .long) rfl rfl hd hg
    · exact absurd hk (z_kd_22 x)
    · exact va_alen hx hb hK hP x 2 (x := (z_kl ad x, .inr (.inr (.inr (.inr (fun k => (z_R w x k).map ad)))))) (by rw [z_ws_at hxn, z_e_ref hk]) (ty := .object "java/lang/Object") rfl rfl hd hg
theorem zs_checkcast {X : ZX} {call : ZC} {p : Program} {l : Launch} {e : Env} {R : Room} {s : State} {m : MethodId} {args : Array Value} {below : List Frame} {meth : Method} {c : Code} {y : Nat} {ad0 : Nat → Nat} {D : va_G} {cA : Nat → ClassId} {A : Nat → Prop} {Q : State → Prop} {n0 mc ms : Nat} {r : Option Value ⊕ Nat} {w2 : ZW} (F : z_Fx X p l e R s m args below meth c y ad0 D cA A Q n0 mc ms r w2) {hs : List ZH} {go : Nat → ZL → List Value → ZW → ZR} {nx : ZL → List Value → ZW → ZR} {pc a b cc d len : Nat} {n : Int} {ts : List (Int × Nat)} {lo : ZL} {st : List Value} {w : ZW} {ins : Instr} {ps : List Nat} (hd : decode (z_mb y) pc = .ok (ins, len)) (hk : z_k_checkcast y pc len a b cc d n ts ins ps = true) (hgo : ∀ t lo st w, go t lo st w = some (r, w2) → z_Gd X p l e R s m args below meth c y ad0 D cA A Q n0 mc ms r w2 t lo st w) (hnx : ∀ lo st w, nx lo st w = some (r, w2) → z_Gd X p l e R s m args below meth c y ad0 D cA A Q n0 mc ms r w2 (pc + len) lo st w) (h : z_o_checkcast X call hs go nx pc a b cc d n ts lo st w = some (r, w2)) : z_Gd X p l e R s m args below meth c y ad0 D cA A Q n0 mc ms r w2 pc lo st w := by
  obtain ⟨hx, hb, hml, hown, hts, hA, hK, hZ, hin, hroom, hret, hexc, hthr⟩ := F
  simp only [z_k_checkcast, Bool.and_eq_true, decide_eq_true_eq] at hk
  obtain ⟨⟨⟨rfl, hlen⟩, ha⟩, h1⟩ := hk
  have hlen := z_beq_t hlen
  have ha := z_beq_t ha
  subst hlen ha
  obtain ⟨x, rest, rfl, h5⟩ := z_r1_some h
  have h := h5
  obtain ⟨hok, h⟩ := z_gd_some h
  intro hn0 hw hl hs
  obtain ⟨hxn, hxk⟩ := z_ok_kd hw hok
  obtain ⟨mo, wf2, wr, at2⟩ := hnx _ _ _ h hn0 hw hl hs
  refine ⟨mo, wf2, wr, fun ad H locs ls cells slots h0 hP hD hS hlo hc hsl => ?_⟩
  have he : (z_ws ad cA w)[x]? = some (ad x, .inr (10, z_fs ad 10 (z_I w x) (z_L w x) (z_R w x))) := by rw [z_ws_at hxn, z_e_obj hxk (by decide)]
  exact va_castS hx hb hown (hts _ (z_wp_in h1)) (hK.1 10 _ (z_cl_at (by decide))).2 (va_recv hK hP (z_cl_at (c := 10) (by decide)) he) hd (at2 ad H locs ls cells slots h0 hP hD hS hlo hc hsl)
theorem zs_scriptload {X : ZX} {call : ZC} {p : Program} {l : Launch} {e : Env} {R : Room} {s : State} {m : MethodId} {args : Array Value} {below : List Frame} {meth : Method} {c : Code} {y : Nat} {ad0 : Nat → Nat} {D : va_G} {cA : Nat → ClassId} {A : Nat → Prop} {Q : State → Prop} {n0 mc ms : Nat} {r : Option Value ⊕ Nat} {w2 : ZW} (F : z_Fx X p l e R s m args below meth c y ad0 D cA A Q n0 mc ms r w2) {hs : List ZH} {go : Nat → ZL → List Value → ZW → ZR} {nx : ZL → List Value → ZW → ZR} {pc a b cc d len : Nat} {n : Int} {ts : List (Int × Nat)} {lo : ZL} {st : List Value} {w : ZW} {ins : Instr} {ps : List Nat} (hd : decode (z_mb y) pc = .ok (ins, len)) (hk : z_k_scriptload y pc len a b cc d n ts ins ps = true) (hgo : ∀ t lo st w, go t lo st w = some (r, w2) → z_Gd X p l e R s m args below meth c y ad0 D cA A Q n0 mc ms r w2 t lo st w) (hnx : ∀ lo st w, nx lo st w = some (r, w2) → z_Gd X p l e R s m args below meth c y ad0 D cA A Q n0 mc ms r w2 (pc + len) lo st w) (h : z_o_scriptload X call hs go nx pc a b cc d n ts lo st w = some (r, w2)) : z_Gd X p l e R s m args below meth c y ad0 D cA A Q n0 mc ms r w2 pc lo st w := by
  obtain ⟨hx, hb, hml, hown, hts, hA, hK, hZ, hin, hroom, hret, hexc, hthr⟩ := F
  simp only [z_k_scriptload, Bool.and_eq_true, decide_eq_true_eq] at hk
  obtain ⟨rfl, hlen⟩ := hk
  have hlen := z_beq_t hlen
  subst hlen
  obtain ⟨x, i, rest, rfl, h5⟩ := z_ir_some h
  have h := h5
  obtain ⟨hq, h6⟩ := z_gd_some h
  obtain ⟨hi, h7⟩ := z_gd_some h6
  have hq := z_beq_t hq
  subst hq
  intro hn0 hw hl hs
  obtain ⟨mo, wf2, wr, at2⟩ := hnx _ _ _ h7 hn0 hw hl (z_wvs_i (z_wvs_tl (z_wvs_tl hs)))
  refine ⟨mo, wf2, wr, fun ad H locs ls cells slots h0 hP hD hS hlo hc hsl => ?_⟩
  show W p l e R s m args below meth c H locs cells slots Q (F0 m pc ls (.int i :: .ref (ad 1001) :: rest.map (z_v ad)))
  rw [h0 1001 (Or.inr (by omega))]
  exact va_ti hx hb hZ.2.2.2.2.2.2.2.1 hS (z_vpin hi) rfl hd (at2 ad H locs ls cells slots h0 hP hD hS hlo hc hsl)
theorem zs_bendload {X : ZX} {call : ZC} {p : Program} {l : Launch} {e : Env} {R : Room} {s : State} {m : MethodId} {args : Array Value} {below : List Frame} {meth : Method} {c : Code} {y : Nat} {ad0 : Nat → Nat} {D : va_G} {cA : Nat → ClassId} {A : Nat → Prop} {Q : State → Prop} {n0 mc ms : Nat} {r : Option Value ⊕ Nat} {w2 : ZW} (F : z_Fx X p l e R s m args below meth c y ad0 D cA A Q n0 mc ms r w2) {hs : List ZH} {go : Nat → ZL → List Value → ZW → ZR} {nx : ZL → List Value → ZW → ZR} {pc a b cc d len : Nat} {n : Int} {ts : List (Int × Nat)} {lo : ZL} {st : List Value} {w : ZW} {ins : Instr} {ps : List Nat} (hd : decode (z_mb y) pc = .ok (ins, len)) (hk : z_k_bendload y pc len a b cc d n ts ins ps = true) (hgo : ∀ t lo st w, go t lo st w = some (r, w2) → z_Gd X p l e R s m args below meth c y ad0 D cA A Q n0 mc ms r w2 t lo st w) (hnx : ∀ lo st w, nx lo st w = some (r, w2) → z_Gd X p l e R s m args below meth c y ad0 D cA A Q n0 mc ms r w2 (pc + len) lo st w) (h : z_o_bendload X call hs go nx pc a b cc d n ts lo st w = some (r, w2)) : z_Gd X p l e R s m args below meth c y ad0 D cA A Q n0 mc ms r w2 pc lo st w := by
  obtain ⟨hx, hb, hml, hown, hts, hA, hK, hZ, hin, hroom, hret, hexc, hthr⟩ := F
  simp only [z_k_bendload, Bool.and_eq_true, decide_eq_true_eq] at hk
  obtain ⟨rfl, hlen⟩ := hk
  have hlen := z_beq_t hlen
  subst hlen
  obtain ⟨x, i, rest, rfl, h5⟩ := z_ir_some h
  have h := h5
  obtain ⟨hq, h6⟩ := z_gd_some h
  obtain ⟨hi, h7⟩ := z_gd_some h6
  have hq := z_beq_t hq
  subst hq
  intro hn0 hw hl hs
  obtain ⟨mo, wf2, wr, at2⟩ := hnx _ _ _ h7 hn0 hw hl (z_wvs_i (z_wvs_tl (z_wvs_tl hs)))
  refine ⟨mo, wf2, wr, fun ad H locs ls cells slots h0 hP hD hS hlo hc hsl => ?_⟩
  show W p l e R s m args below meth c H locs cells slots Q (F0 m pc ls (.int i :: .ref (ad 1000) :: rest.map (z_v ad)))
  rw [h0 1000 (Or.inr (by omega))]
  exact va_ti hx hb hZ.2.2.2.2.1 hS (z_vpin hi) rfl hd (at2 ad H locs ls cells slots h0 hP hD hS hlo hc hsl)
theorem zs_scriptlen {X : ZX} {call : ZC} {p : Program} {l : Launch} {e : Env} {R : Room} {s : State} {m : MethodId} {args : Array Value} {below : List Frame} {meth : Method} {c : Code} {y : Nat} {ad0 : Nat → Nat} {D : va_G} {cA : Nat → ClassId} {A : Nat → Prop} {Q : State → Prop} {n0 mc ms : Nat} {r : Option Value ⊕ Nat} {w2 : ZW} (F : z_Fx X p l e R s m args below meth c y ad0 D cA A Q n0 mc ms r w2) {hs : List ZH} {go : Nat → ZL → List Value → ZW → ZR} {nx : ZL → List Value → ZW → ZR} {pc a b cc d len : Nat} {n : Int} {ts : List (Int × Nat)} {lo : ZL} {st : List Value} {w : ZW} {ins : Instr} {ps : List Nat} (hd : decode (z_mb y) pc = .ok (ins, len)) (hk : z_k_scriptlen y pc len a b cc d n ts ins ps = true) (hgo : ∀ t lo st w, go t lo st w = some (r, w2) → z_Gd X p l e R s m args below meth c y ad0 D cA A Q n0 mc ms r w2 t lo st w) (hnx : ∀ lo st w, nx lo st w = some (r, w2) → z_Gd X p l e R s m args below meth c y ad0 D cA A Q n0 mc ms r w2 (pc + len) lo st w) (h : z_o_scriptlen X call hs go nx pc a b cc d n ts lo st w = some (r, w2)) : z_Gd X p l e R s m args below meth c y ad0 D cA A Q n0 mc ms r w2 pc lo st w := by
  obtain ⟨hx, hb, hml, hown, hts, hA, hK, hZ, hin, hroom, hret, hexc, hthr⟩ := F
  simp only [z_k_scriptlen, Bool.and_eq_true, decide_eq_true_eq] at hk
  obtain ⟨rfl, hlen⟩ := hk
  have hlen := z_beq_t hlen
  subst hlen
  obtain ⟨x, rest, rfl, h5⟩ := z_r1_some h
  have h := h5
  obtain ⟨hq, h7⟩ := z_gd_some h
  have hq := z_beq_t hq
  subst hq
  intro hn0 hw hl hs
  obtain ⟨mo, wf2, wr, at2⟩ := hnx _ _ _ h7 hn0 hw hl (z_wvs_i (z_wvs_tl hs))
  refine ⟨mo, wf2, wr, fun ad H locs ls cells slots h0 hP hD hS hlo hc hsl => ?_⟩
  show W p l e R s m args below meth c H locs cells slots Q (F0 m pc ls (.ref (ad 1001) :: rest.map (z_v ad)))
  rw [h0 1001 (Or.inr (by omega))]
  exact va_tlen hx hb hZ.2.2.2.2.2.2.2.1 hS rfl hd (at2 ad H locs ls cells slots h0 hP hD hS hlo hc hsl)
theorem zs_ireturn {X : ZX} {call : ZC} {p : Program} {l : Launch} {e : Env} {R : Room} {s : State} {m : MethodId} {args : Array Value} {below : List Frame} {meth : Method} {c : Code} {y : Nat} {ad0 : Nat → Nat} {D : va_G} {cA : Nat → ClassId} {A : Nat → Prop} {Q : State → Prop} {n0 mc ms : Nat} {r : Option Value ⊕ Nat} {w2 : ZW} (F : z_Fx X p l e R s m args below meth c y ad0 D cA A Q n0 mc ms r w2) {hs : List ZH} {go : Nat → ZL → List Value → ZW → ZR} {nx : ZL → List Value → ZW → ZR} {pc a b cc d len : Nat} {n : Int} {ts : List (Int × Nat)} {lo : ZL} {st : List Value} {w : ZW} {ins : Instr} {ps : List Nat} (hd : decode (z_mb y) pc = .ok (ins, len)) (hk : z_k_ireturn y pc len a b cc d n ts ins ps = true) (hgo : ∀ t lo st w, go t lo st w = some (r, w2) → z_Gd X p l e R s m args below meth c y ad0 D cA A Q n0 mc ms r w2 t lo st w) (hnx : ∀ lo st w, nx lo st w = some (r, w2) → z_Gd X p l e R s m args below meth c y ad0 D cA A Q n0 mc ms r w2 (pc + len) lo st w) (h : z_o_ireturn X call hs go nx pc a b cc d n ts lo st w = some (r, w2)) : z_Gd X p l e R s m args below meth c y ad0 D cA A Q n0 mc ms r w2 pc lo st w := by
  obtain ⟨hx, hb, hml, hown, hts, hA, hK, hZ, hin, hroom, hret, hexc, hthr⟩ := F
  simp only [z_k_ireturn, Bool.and_eq_true, decide_eq_true_eq] at hk
  obtain ⟨⟨rfl, hty⟩, hlen⟩ := hk
  have hlen := z_beq_t hlen
  subst hlen
  unfold z_o_ireturn at h
  split at h
  case h_2 => cases h
  rename_i x
  cases h
  intro hn0 hw hl hs
  refine ⟨z_mo_rf _, hw, fun v hv => by cases hv; exact z_wvs_hd hs, fun ad H locs ls cells slots h0 hP hD hS hlo hc hsl => ?_⟩
  exact hret _ ad H locs ls cells slots pc _ rfl (Or.inl ⟨rfl, _, rfl, Or.inl hty⟩) hd h0 hP hD hS (by omega) (by omega)
theorem zs_lreturn {X : ZX} {call : ZC} {p : Program} {l : Launch} {e : Env} {R : Room} {s : State} {m : MethodId} {args : Array Value} {below : List Frame} {meth : Method} {c : Code} {y : Nat} {ad0 : Nat → Nat} {D : va_G} {cA : Nat → ClassId} {A : Nat → Prop} {Q : State → Prop} {n0 mc ms : Nat} {r : Option Value ⊕ Nat} {w2 : ZW} (F : z_Fx X p l e R s m args below meth c y ad0 D cA A Q n0 mc ms r w2) {hs : List ZH} {go : Nat → ZL → List Value → ZW → ZR} {nx : ZL → List Value → ZW → ZR} {pc a b cc d len : Nat} {n : Int} {ts : List (Int × Nat)} {lo : ZL} {st : List Value} {w : ZW} {ins : Instr} {ps : List Nat} (hd : decode (z_mb y) pc = .ok (ins, len)) (hk : z_k_lreturn y pc len a b cc d n ts ins ps = true) (hgo : ∀ t lo st w, go t lo st w = some (r, w2) → z_Gd X p l e R s m args below meth c y ad0 D cA A Q n0 mc ms r w2 t lo st w) (hnx : ∀ lo st w, nx lo st w = some (r, w2) → z_Gd X p l e R s m args below meth c y ad0 D cA A Q n0 mc ms r w2 (pc + len) lo st w) (h : z_o_lreturn X call hs go nx pc a b cc d n ts lo st w = some (r, w2)) : z_Gd X p l e R s m args below meth c y ad0 D cA A Q n0 mc ms r w2 pc lo st w := by
  obtain ⟨hx, hb, hml, hown, hts, hA, hK, hZ, hin, hroom, hret, hexc, hthr⟩ := F
  simp only [z_k_lreturn, Bool.and_eq_true, decide_eq_true_eq] at hk
  obtain ⟨⟨rfl, hty⟩, hlen⟩ := hk
  have hlen := z_beq_t hlen
  subst hlen
  unfold z_o_lreturn at h
  split at h
  case h_2 => cases h
  rename_i x
  cases h
  intro hn0 hw hl hs
  refine ⟨z_mo_rf _, hw, fun v hv => by cases hv; exact z_wvs_hd hs, fun ad H locs ls cells slots h0 hP hD hS hlo hc hsl => ?_⟩
  exact hret _ ad H locs ls cells slots pc _ rfl (Or.inr (Or.inl ⟨rfl, _, rfl, hty⟩)) hd h0 hP hD hS (by omega) (by omega)
theorem zs_zreturn {X : ZX} {call : ZC} {p : Program} {l : Launch} {e : Env} {R : Room} {s : State} {m : MethodId} {args : Array Value} {below : List Frame} {meth : Method} {c : Code} {y : Nat} {ad0 : Nat → Nat} {D : va_G} {cA : Nat → ClassId} {A : Nat → Prop} {Q : State → Prop} {n0 mc ms : Nat} {r : Option Value ⊕ Nat} {w2 : ZW} (F : z_Fx X p l e R s m args below meth c y ad0 D cA A Q n0 mc ms r w2) {hs : List ZH} {go : Nat → ZL → List Value → ZW → ZR} {nx : ZL → List Value → ZW → ZR} {pc a b cc d len : Nat} {n : Int} {ts : List (Int × Nat)} {lo : ZL} {st : List Value} {w : ZW} {ins : Instr} {ps : List Nat} (hd : decode (z_mb y) pc = .ok (ins, len)) (hk : z_k_zreturn y pc len a b cc d n ts ins ps = true) (hgo : ∀ t lo st w, go t lo st w = some (r, w2) → z_Gd X p l e R s m args below meth c y ad0 D cA A Q n0 mc ms r w2 t lo st w) (hnx : ∀ lo st w, nx lo st w = some (r, w2) → z_Gd X p l e R s m args below meth c y ad0 D cA A Q n0 mc ms r w2 (pc + len) lo st w) (h : z_o_zreturn X call hs go nx pc a b cc d n ts lo st w = some (r, w2)) : z_Gd X p l e R s m args below meth c y ad0 D cA A Q n0 mc ms r w2 pc lo st w := by
  obtain ⟨hx, hb, hml, hown, hts, hA, hK, hZ, hin, hroom, hret, hexc, hthr⟩ := F
  simp only [z_k_zreturn, Bool.and_eq_true, decide_eq_true_eq] at hk
  obtain ⟨⟨rfl, hty⟩, hlen⟩ := hk
  have hlen := z_beq_t hlen
  subst hlen
  unfold z_o_zreturn at h
  split at h
  case h_2 => cases h
  rename_i x
  obtain ⟨h01, h⟩ := z_gd_some h
  cases h
  intro hn0 hw hl hs
  refine ⟨z_mo_rf _, hw, fun v hv => by cases hv; exact z_wvs_hd hs, fun ad H locs ls cells slots h0 hP hD hS hlo hc hsl => ?_⟩
  exact hret _ ad H locs ls cells slots pc _ rfl (Or.inl ⟨rfl, _, rfl, Or.inr ⟨hty, h01⟩⟩) hd h0 hP hD hS (by omega) (by omega)
theorem zs_areturn {X : ZX} {call : ZC} {p : Program} {l : Launch} {e : Env} {R : Room} {s : State} {m : MethodId} {args : Array Value} {below : List Frame} {meth : Method} {c : Code} {y : Nat} {ad0 : Nat → Nat} {D : va_G} {cA : Nat → ClassId} {A : Nat → Prop} {Q : State → Prop} {n0 mc ms : Nat} {r : Option Value ⊕ Nat} {w2 : ZW} (F : z_Fx X p l e R s m args below meth c y ad0 D cA A Q n0 mc ms r w2) {hs : List ZH} {go : Nat → ZL → List Value → ZW → ZR} {nx : ZL → List Value → ZW → ZR} {pc a b cc d len : Nat} {n : Int} {ts : List (Int × Nat)} {lo : ZL} {st : List Value} {w : ZW} {ins : Instr} {ps : List Nat} (hd : decode (z_mb y) pc = .ok (ins, len)) (hk : z_k_areturn y pc len a b cc d n ts ins ps = true) (hgo : ∀ t lo st w, go t lo st w = some (r, w2) → z_Gd X p l e R s m args below meth c y ad0 D cA A Q n0 mc ms r w2 t lo st w) (hnx : ∀ lo st w, nx lo st w = some (r, w2) → z_Gd X p l e R s m args below meth c y ad0 D cA A Q n0 mc ms r w2 (pc + len) lo st w) (h : z_o_areturn X call hs go nx pc a b cc d n ts lo st w = some (r, w2)) : z_Gd X p l e R s m args below meth c y ad0 D cA A Q n0 mc ms r w2 pc lo st w := by
  obtain ⟨hx, hb, hml, hown, hts, hA, hK, hZ, hin, hroom, hret, hexc, hthr⟩ := F
  simp only [z_k_areturn, Bool.and_eq_true, decide_eq_true_eq] at hk
  obtain ⟨⟨rfl, hlen⟩, hty⟩ := hk
  have hlen := z_beq_t hlen
  subst hlen
  unfold z_o_areturn at h
  split at h
  case h_2 => cases h
  rename_i x
  cases h
  intro hn0 hw hl hs
  refine ⟨z_mo_rf _, hw, fun v hv => by cases hv; exact z_wvs_hd hs, fun ad H locs ls cells slots h0 hP hD hS hlo hc hsl => ?_⟩
  exact hret _ ad H locs ls cells slots pc _ rfl (Or.inr (Or.inr (Or.inl ⟨rfl, _, rfl, z_beq_t hty⟩))) hd h0 hP hD hS (by omega) (by omega)
theorem zs_return_ {X : ZX} {call : ZC} {p : Program} {l : Launch} {e : Env} {R : Room} {s : State} {m : MethodId} {args : Array Value} {below : List Frame} {meth : Method} {c : Code} {y : Nat} {ad0 : Nat → Nat} {D : va_G} {cA : Nat → ClassId} {A : Nat → Prop} {Q : State → Prop} {n0 mc ms : Nat} {r : Option Value ⊕ Nat} {w2 : ZW} (F : z_Fx X p l e R s m args below meth c y ad0 D cA A Q n0 mc ms r w2) {hs : List ZH} {go : Nat → ZL → List Value → ZW → ZR} {nx : ZL → List Value → ZW → ZR} {pc a b cc d len : Nat} {n : Int} {ts : List (Int × Nat)} {lo : ZL} {st : List Value} {w : ZW} {ins : Instr} {ps : List Nat} (hd : decode (z_mb y) pc = .ok (ins, len)) (hk : z_k_return_ y pc len a b cc d n ts ins ps = true) (hgo : ∀ t lo st w, go t lo st w = some (r, w2) → z_Gd X p l e R s m args below meth c y ad0 D cA A Q n0 mc ms r w2 t lo st w) (hnx : ∀ lo st w, nx lo st w = some (r, w2) → z_Gd X p l e R s m args below meth c y ad0 D cA A Q n0 mc ms r w2 (pc + len) lo st w) (h : z_o_return_ X call hs go nx pc a b cc d n ts lo st w = some (r, w2)) : z_Gd X p l e R s m args below meth c y ad0 D cA A Q n0 mc ms r w2 pc lo st w := by
  obtain ⟨hx, hb, hml, hown, hts, hA, hK, hZ, hin, hroom, hret, hexc, hthr⟩ := F
  simp only [z_k_return_, Bool.and_eq_true, decide_eq_true_eq] at hk
  obtain ⟨⟨rfl, hty⟩, hlen⟩ := hk
  have hlen := z_beq_t hlen
  subst hlen
  unfold z_o_return_ at h
  split at h
  case h_2 => cases h
  cases h
  intro hn0 hw hl hs
  refine ⟨z_mo_rf _, hw, fun v hv => (by cases hv), fun ad H locs ls cells slots h0 hP hD hS hlo hc hsl => ?_⟩
  exact hret _ ad H locs ls cells slots pc _ rfl (Or.inr (Or.inr (Or.inr ⟨rfl, rfl, hty⟩))) hd h0 hP hD hS (by omega) (by omega)
theorem zs_dead {X : ZX} {call : ZC} {p : Program} {l : Launch} {e : Env} {R : Room} {s : State} {m : MethodId} {args : Array Value} {below : List Frame} {meth : Method} {c : Code} {y : Nat} {ad0 : Nat → Nat} {D : va_G} {cA : Nat → ClassId} {A : Nat → Prop} {Q : State → Prop} {n0 mc ms : Nat} {r : Option Value ⊕ Nat} {w2 : ZW} (F : z_Fx X p l e R s m args below meth c y ad0 D cA A Q n0 mc ms r w2) {hs : List ZH} {go : Nat → ZL → List Value → ZW → ZR} {nx : ZL → List Value → ZW → ZR} {pc a b cc d len : Nat} {n : Int} {ts : List (Int × Nat)} {lo : ZL} {st : List Value} {w : ZW} {ins : Instr} {ps : List Nat} (hd : decode (z_mb y) pc = .ok (ins, len)) (hk : z_k_dead y pc len a b cc d n ts ins ps = true) (hgo : ∀ t lo st w, go t lo st w = some (r, w2) → z_Gd X p l e R s m args below meth c y ad0 D cA A Q n0 mc ms r w2 t lo st w) (hnx : ∀ lo st w, nx lo st w = some (r, w2) → z_Gd X p l e R s m args below meth c y ad0 D cA A Q n0 mc ms r w2 (pc + len) lo st w) (h : z_o_dead X call hs go nx pc a b cc d n ts lo st w = some (r, w2)) : z_Gd X p l e R s m args below meth c y ad0 D cA A Q n0 mc ms r w2 pc lo st w := by
  obtain ⟨hx, hb, hml, hown, hts, hA, hK, hZ, hin, hroom, hret, hexc, hthr⟩ := F
  cases h
