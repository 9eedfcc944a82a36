/-! SOUND, 10: String.length and String.charAt of the text -/
theorem z_SK.same {bS : Nat} {A : Nat → Prop} {u U : State} {H : Heap} (h : z_SK bS A u H) (ha : u.vm.Alike U.vm) : z_SK bS A U H := by
  obtain ⟨⟨h1, h2⟩, bV, h3⟩ := h
  exact ⟨⟨h1.moved ha, h2.moved ha⟩, bV, h3.moved ha⟩
theorem z_SK.go {bS : Nat} {A B : Nat → Prop} {s U : State} {H : Heap} {locs : List Loc} (h : z_SK bS A s s.heap) (hS : va_S A s.heap H locs) (hB : ∀ q, B q → A q) (hW : s.WarmedH U.vm) (hU : U.heap = H) : z_SK bS B U U.heap := by
  obtain ⟨⟨h1, h2⟩, bV, h3⟩ := h
  have ha := hW.alike
  have hk := hS.2.1
  rw [hU]
  exact ⟨⟨((h1.moved ha).kept hk).narrow hB, ((h2.moved ha).kept hk).narrow hB⟩, bV, ((h3.moved ha).kept hk).narrow hB⟩
def z_Ph (bS sz : Nat) (av : List Value) : Array Value → State → Prop := va_Pc av (fun U => U.heap.size = sz ∧ z_SK bS (fun q => sz ≤ q) U U.heap)
abbrev z_tf : Nat → Value := fun j => .int (([(List.range z_txl).map z_ch].getD 0 []).getD j 0)
def z_Pl (bS sz bV : Nat) (av : List Value) : Array Value → State → Prop := va_Pc av (fun U => U.heap.size = sz ∧ z_SK bS (fun q => sz ≤ q) U U.heap ∧ va_T .byte bV z_txl z_tf (fun q => sz ≤ q) U U.heap)
theorem z_Pl_blind {bS sz bV : Nat} {av : List Value} : FrameBlind (z_Pl bS sz bV av) := fun a U g mk q => by
  obtain ⟨q0, q1, q2, q3⟩ := q
  exact ⟨q0, q1, z_SK.same (u := U) (U := U.calling g mk a) q2 (Vm.Alike.refl U.vm), q3.moved (u := U) (U := U.calling g mk a) (Vm.Alike.refl U.vm)⟩
theorem z_chk : ∀ k : Nat, k < 92 → (((([(List.range z_txl).map z_ch].getD 0 []).getD k 0 &&& 255).toUInt32 % 65536).toInt32 = z_ch k ∧ narrow .char (.int (z_ch k)) = .int (z_ch k)) := by decide +kernel
def z_Qh (sz : Nat) (v : Option Value) : Array Value → State → Outcome → State → Prop := fun _ st o t => o = .returned v ∧ va_F (fun q => sz ≤ q) st t
theorem z_Ph_blind {bS sz : Nat} {av : List Value} : FrameBlind (z_Ph bS sz av) := fun a U g mk q => by
  obtain ⟨q0, q1, q2⟩ := q
  exact ⟨q0, q1, z_SK.same (u := U) (U := U.calling g mk a) q2 (Vm.Alike.refl U.vm)⟩
theorem z_hpre {bS : Nat} {A : Nat → Prop} {s : State} {H : Heap} {locs : List Loc} {av : List Value} (h : z_SK bS A s s.heap) (hS : va_S A s.heap H locs) (hA : ∀ q, s.heap.size ≤ q → A q) : ∀ U : State, U.heap = H → s.WarmedH U.vm → z_Ph bS H.size av av.toArray U := fun U hU hW => ⟨rfl, by rw [hU], h.go hS (fun q hq => hA q (Nat.le_trans hS.1 hq)) hW hU⟩
theorem z_hcall {p : Program} {l : Launch} {e : Env} {R : Room} {s : State} {m : MethodId} {args : Array Value} {below : List Frame} {meth : Method} {c : Code} {H : Heap} {locs : List Loc} {cells slots : Nat} {Q : State → Prop} {A : Nat → Prop} {pc : Nat} {ls : Array Slot} {st0 rest : List Value} {aa : Array Value} {v : Option Value}
    (hr : va_Run p l e R s m args below meth c H locs cells slots 0 0 (F0 m pc ls st0) rest (z_Qh H.size v aa) (fun q => H.size ≤ q)) (hS : va_S A s.heap H locs) (hA : ∀ q, s.heap.size ≤ q → A q)
    (kk : ∀ (H1 : Heap) (locs1 : List Loc), va_S A s.heap H1 locs1 → H.size ≤ H1.size → (∀ q : Nat, q < H.size → H1[q]? = H[q]?) → W p l e R s m args below meth c H1 locs1 cells slots Q (F0 m (pc + 3) ls (v.toList ++ rest))) : W p l e R s m args below meth c H locs cells slots Q (F0 m pc ls st0) := by
  intro T hT X
  obtain ⟨v9, st₀, t, T', L, h0, X', hL, e1, e2, ⟨hv, hz, hk⟩, st⟩ := hr T hT X
  cases hv
  rw [h0] at hz hk
  have hk2 : ∀ q : Nat, q < H.size → T'.heap[q]? = H[q]? := fun q hq => by rw [e1]; exact hk q hq (Nat.not_le.mpr hq)
  have hge : H.size ≤ T'.heap.size := by rw [e1]; exact hz
  have hSS : va_S A s.heap T'.heap (locs ++ L) := ⟨Nat.le_trans hS.1 hge, fun q hq hn => (hk2 q (Nat.lt_of_lt_of_le hq hS.1)).trans (hS.2.1 q hq hn), fun z hz => by
    rcases List.mem_append.mp hz with h5 | h5
    · exact hS.2.2 z h5
    · exact hA _ (Nat.le_trans hS.1 (hL z h5))⟩
  obtain ⟨t2, a1, b1⟩ := kk T'.heap (locs ++ L) hSS hge hk2 T' rfl X'
  exact ⟨t2, st t2 a1, b1⟩
def z_rh (d : Nat) : Room := { frames := d, cells := 0, slots := 0, locals := 22 * d }
theorem z_CBh {R : Room} {s : State} {args : Array Value} {own : String} {idx : Nat} {y : MethodName} {bytes : ByteArray} {maxL n d : Nat} {ret : Option FieldType} (hts : ∀ w ∈ z_G, w.before args s = true) (hcw : Cond.code y bytes maxL ret ∈ z_G) (hini : Cond.initialized y.cls ∈ z_G) (hl : Cond.methodLink own idx y ∈ z_G)
    (hn : y.cls ≠ "java/lang/invoke/MethodHandle" ∧ y.cls ≠ "java/lang/invoke/VarHandle" ∧ (parseMethodDescriptor y.desc).map (fun d => d.parameters.length) = some n) (hR : d + 1 ≤ R.frames ∧ 8 + (maxL + 11) + 22 * d ≤ R.locals) : CallB R s args own idx y bytes maxL ret (Cond.code y bytes maxL ret :: z_G) (z_rh d) 0 0 n :=
  callB_of n hts (fun w hw => by
    rcases List.mem_cons.mp hw with rfl | hw
    · exact ⟨hcw, z_G_good _ hcw⟩
    · exact ⟨hw, z_G_good _ hw⟩) rfl rfl rfl (hts _ hini) (hts _ hl) hn hR
theorem z_vpin_lt {i : Int32} {N : Nat} (hN : N < 2 ^ 31) (h : vp_in i N) : ¬ i < 0 ∧ i < Int32.ofNat N := by
  have h0 : ¬ i < 0 := fun q => h (Or.inl q)
  have h1 : ¬ N ≤ i.toNatClampNeg := fun q => h (Or.inr q)
  refine ⟨h0, ?_⟩
  have hz : (0 : Int) ≤ i.toInt := by
    have := Int32.not_lt.mp h0
    simpa using Int32.le_iff_toInt_le.mp this
  rw [Int32.lt_iff_toInt_lt]
  have e1 : (Int32.ofNat N).toInt = (N : Int) := nI_toInt hN
  rw [e1]
  have e2 : i.toInt.toNat = i.toNatClampNeg := rfl
  omega
abbrev z_y_cod : MethodName := ⟨"java/lang/String", "coder", "()B"⟩
abbrev z_c_cod : Cond := .code z_y_cod prog_25_method_152_code 1 (some .byte)
abbrev z_y_lat : MethodName := ⟨"java/lang/String", "isLatin1", "()Z"⟩
abbrev z_c_lat : Cond := .code z_y_lat prog_25_method_154_code 1 (some .boolean)
abbrev z_y_prc : MethodName := ⟨"jdk/internal/util/Preconditions", "checkIndex", "(IILjava/util/function/BiFunction;)I"⟩
abbrev z_c_prc : Cond := .code z_y_prc prog_43_method_11_code 3 (some .int)
abbrev z_y_chk : MethodName := ⟨"java/lang/String", "checkIndex", "(II)V"⟩
abbrev z_c_chk : Cond := .code z_y_chk prog_25_method_155_code 2 none
abbrev z_y_lca : MethodName := ⟨"java/lang/StringLatin1", "charAt", "([BI)C"⟩
abbrev z_c_lca : Cond := .code z_y_lca prog_26_method_2_code 2 (some .char)
theorem z_m_c_cod : (z_c_cod : Cond) ∈ z_G := List.mem_filter.mpr ⟨by decide +kernel, by decide +kernel⟩
theorem z_m_c_lat : (z_c_lat : Cond) ∈ z_G := List.mem_filter.mpr ⟨by decide +kernel, by decide +kernel⟩
theorem z_m_c_prc : (z_c_prc : Cond) ∈ z_G := List.mem_filter.mpr ⟨by decide +kernel, by decide +kernel⟩
theorem z_m_c_chk : (z_c_chk : Cond) ∈ z_G := List.mem_filter.mpr ⟨by decide +kernel, by decide +kernel⟩
theorem z_m_c_lca : (z_c_lca : Cond) ∈ z_G := List.mem_filter.mpr ⟨by decide +kernel, by decide +kernel⟩
theorem z_m_iS : (.initialized "java/lang/String" : Cond) ∈ z_G := List.mem_filter.mpr ⟨by decide +kernel, by decide +kernel⟩
theorem z_m_iP : (.initialized "jdk/internal/util/Preconditions" : Cond) ∈ z_G := List.mem_filter.mpr ⟨by decide +kernel, by decide +kernel⟩
theorem z_m_iL : (.initialized "java/lang/StringLatin1" : Cond) ∈ z_G := List.mem_filter.mpr ⟨by decide +kernel, by decide +kernel⟩
theorem z_m_l_cod : (.methodLink "java/lang/String" 335 z_y_cod : Cond) ∈ z_G := List.mem_filter.mpr ⟨by decide +kernel, by decide +kernel⟩
theorem z_m_l_lat : (.methodLink "java/lang/String" 492 z_y_lat : Cond) ∈ z_G := List.mem_filter.mpr ⟨by decide +kernel, by decide +kernel⟩
theorem z_m_l_lca : (.methodLink "java/lang/String" 495 z_y_lca : Cond) ∈ z_G := List.mem_filter.mpr ⟨by decide +kernel, by decide +kernel⟩
theorem z_m_l_chk : (.methodLink "java/lang/StringLatin1" 9 z_y_chk : Cond) ∈ z_G := List.mem_filter.mpr ⟨by decide +kernel, by decide +kernel⟩
theorem z_m_l_prc : (.methodLink "java/lang/String" 1059 z_y_prc : Cond) ∈ z_G := List.mem_filter.mpr ⟨by decide +kernel, by decide +kernel⟩
theorem z_m_n_cod : (.instanceMethod z_y_cod : Cond) ∈ z_G := List.mem_filter.mpr ⟨by decide +kernel, by decide +kernel⟩
theorem z_m_s_cod : (.selects "java/lang/String" z_y_cod z_y_cod : Cond) ∈ z_G := List.mem_filter.mpr ⟨by decide +kernel, by decide +kernel⟩
theorem z_m_n_lat : (.instanceMethod z_y_lat : Cond) ∈ z_G := List.mem_filter.mpr ⟨by decide +kernel, by decide +kernel⟩
theorem z_m_s_lat : (.selects "java/lang/String" z_y_lat z_y_lat : Cond) ∈ z_G := List.mem_filter.mpr ⟨by decide +kernel, by decide +kernel⟩
theorem z_m_t_prc : (.static z_y_prc : Cond) ∈ z_G := List.mem_filter.mpr ⟨by decide +kernel, by decide +kernel⟩
theorem z_m_t_chk : (.static z_y_chk : Cond) ∈ z_G := List.mem_filter.mpr ⟨by decide +kernel, by decide +kernel⟩
theorem z_m_t_lca : (.static z_y_lca : Cond) ∈ z_G := List.mem_filter.mpr ⟨by decide +kernel, by decide +kernel⟩
theorem z_m_f_cs : (.fieldLink "java/lang/String" 38 "java/lang/String" "COMPACT_STRINGS" "Z" : Cond) ∈ z_G := List.mem_filter.mpr ⟨by decide +kernel, by decide +kernel⟩
theorem z_m_f_co : (.fieldLink "java/lang/String" 15 "java/lang/String" "coder" "B" : Cond) ∈ z_G := List.mem_filter.mpr ⟨by decide +kernel, by decide +kernel⟩
theorem z_m_f_va : (.fieldLink "java/lang/String" 9 "java/lang/String" "value" "[B" : Cond) ∈ z_G := List.mem_filter.mpr ⟨by decide +kernel, by decide +kernel⟩
theorem z_m_f_fm : (.fieldLink "java/lang/String" 1053 "jdk/internal/util/Preconditions" "SIOOBE_FORMATTER" "Ljava/util/function/BiFunction;" : Cond) ∈ z_G := List.mem_filter.mpr ⟨by decide +kernel, by decide +kernel⟩
theorem z_h_cod (l : Launch) (bS sz : Nat)  : Met l z_y_cod (z_c_cod :: z_G) (z_rh 0) (z_Ph bS sz ([.ref bS])) (z_Qh sz (some (.int 0))) 0 0 (fun q => sz ≤ q) := by
  refine Met.ofW (cc := prog_25_method_152_code) (maxL := 1) (ret := (some .byte)) (by decide +kernel) rfl ?_
  intro p e s m args below meth c s₁ B hml hv
  obtain ⟨rfl, hsz, hZ⟩ := hv
  have hx := B.exec
  have hb := B.bytes
  have hr := B.returns
  have htsA := atoms_spec (ws := z_c_cod :: z_G) B.pre
  have hts : ∀ w ∈ z_G, w.before _ s = true := fun w hw => htsA w (List.mem_cons_of_mem _ hw)
  have hown : s.vm.findClass "java/lang/String" = some m.cls := findClass_of_methodNamed B.named
  have hlocks := B.notSynchronized
  subst hsz
  have hA : ∀ q : Nat, s.heap.size ≤ q → (fun q => s.heap.size ≤ q) q := fun q h => h
  have hS : va_S (fun q => s.heap.size ≤ q) s.heap s.heap [] := va_S.rf
  have hl := lv_entry ([.ref bS]) (n := 1) (by first | exact Nat.le_of_ble_eq_true rfl | (cases x <;> exact Nat.le_of_ble_eq_true rfl))
  rw [lg_entry_eq]
  generalize (lg_sl ([.ref bS]) ++ List.replicate (1 - (lg_sl ([.ref bS])).length) Slot.unset).toArray = ls at hl ⊢
  have hl : lv_has ls 1 [(0, .ref bS)] := hl
  obtain ⟨⟨hZ1, hZ2⟩, bV, hZ3, _⟩ := hZ
  obtain ⟨g1, g2, g3, g4⟩ := hZ3 0 (by decide)
  refine va_gets hx hb hZ1 hS hown (hts _ z_m_f_cs) (fun x h9 => h9) (by decide +kernel) ?_
  refine lv_if_eq (off := 10) (tgt := 13) hx hb (by decide +kernel) (by decide) (fun q => absurd q (by decide)) (fun _ => ?_)
  refine lv_aload_n (k := 0) hx hb (by decide +kernel) rfl (lv_at hl 0 rfl) ?_
  refine vk_getf hx hb g2 hS hown (hts _ z_m_f_co) (fun x h9 => h9) (by decide +kernel) ?_
  refine lv_goto (off := 4) (tgt := 14) hx hb (by decide +kernel) (by decide) ?_
  exact W.zret (ty := .byte) hx hb hr (by decide +kernel) (fun t ht hW => ⟨rfl, hS.F ht⟩) hS.2.2 (by decide +kernel)
theorem z_h_lat (l : Launch) (bS sz : Nat)  : Met l z_y_lat (z_c_lat :: z_G) (z_rh 0) (z_Ph bS sz ([.ref bS])) (z_Qh sz (some (.int 1))) 0 0 (fun q => sz ≤ q) := by
  refine Met.ofW (cc := prog_25_method_154_code) (maxL := 1) (ret := (some .boolean)) (by decide +kernel) rfl ?_
  intro p e s m args below meth c s₁ B hml hv
  obtain ⟨rfl, hsz, hZ⟩ := hv
  have hx := B.exec
  have hb := B.bytes
  have hr := B.returns
  have htsA := atoms_spec (ws := z_c_lat :: z_G) B.pre
  have hts : ∀ w ∈ z_G, w.before _ s = true := fun w hw => htsA w (List.mem_cons_of_mem _ hw)
  have hown : s.vm.findClass "java/lang/String" = some m.cls := findClass_of_methodNamed B.named
  have hlocks := B.notSynchronized
  subst hsz
  have hA : ∀ q : Nat, s.heap.size ≤ q → (fun q => s.heap.size ≤ q) q := fun q h => h
  have hS : va_S (fun q => s.heap.size ≤ q) s.heap s.heap [] := va_S.rf
  have hl := lv_entry ([.ref bS]) (n := 1) (by first | exact Nat.le_of_ble_eq_true rfl | (cases x <;> exact Nat.le_of_ble_eq_true rfl))
  rw [lg_entry_eq]
  generalize (lg_sl ([.ref bS]) ++ List.replicate (1 - (lg_sl ([.ref bS])).length) Slot.unset).toArray = ls at hl ⊢
  have hl : lv_has ls 1 [(0, .ref bS)] := hl
  obtain ⟨⟨hZ1, hZ2⟩, bV, hZ3, _⟩ := hZ
  obtain ⟨g1, g2, g3, g4⟩ := hZ3 0 (by decide)
  refine va_gets hx hb hZ1 hS hown (hts _ z_m_f_cs) (fun x h9 => h9) (by decide +kernel) ?_
  refine lv_if_eq (off := 14) (tgt := 17) hx hb (by decide +kernel) (by decide) (fun q => absurd q (by decide)) (fun _ => ?_)
  refine lv_aload_n (k := 0) hx hb (by decide +kernel) rfl (lv_at hl 0 rfl) ?_
  refine vk_getf hx hb g2 hS hown (hts _ z_m_f_co) (fun x h9 => h9) (by decide +kernel) ?_
  refine lv_if_ne (off := 7) (tgt := 17) hx hb (by decide +kernel) (by decide) (fun q => absurd rfl q) (fun _ => ?_)
  refine lv_iconst (n := 1) (v := 1) hx hb (by decide +kernel) (by decide) ?_
  refine lv_goto (off := 4) (tgt := 18) hx hb (by decide +kernel) (by decide) ?_
  exact W.zret (ty := .boolean) hx hb hr (by decide +kernel) (fun t ht hW => ⟨rfl, hS.F ht⟩) hS.2.2 (by decide +kernel)
theorem z_h_prc (l : Launch) (bS sz : Nat) (i n : Int32) (x : Option Nat) (h0 : ¬ i < 0) (h1 : i < n) : Met l z_y_prc (z_c_prc :: z_G) (z_rh 0) (z_Ph bS sz ([.int i, .int n, va_rf x])) (z_Qh sz (some (.int i))) 0 0 (fun q => sz ≤ q) := by
  refine Met.ofW (cc := prog_43_method_11_code) (maxL := 3) (ret := (some .int)) (by decide +kernel) rfl ?_
  intro p e s m args below meth c s₁ B hml hv
  obtain ⟨rfl, hsz, hZ⟩ := hv
  have hx := B.exec
  have hb := B.bytes
  have hr := B.returns
  have htsA := atoms_spec (ws := z_c_prc :: z_G) B.pre
  have hts : ∀ w ∈ z_G, w.before _ s = true := fun w hw => htsA w (List.mem_cons_of_mem _ hw)
  have hown : s.vm.findClass "jdk/internal/util/Preconditions" = some m.cls := findClass_of_methodNamed B.named
  have hlocks := B.notSynchronized
  subst hsz
  have hA : ∀ q : Nat, s.heap.size ≤ q → (fun q => s.heap.size ≤ q) q := fun q h => h
  have hS : va_S (fun q => s.heap.size ≤ q) s.heap s.heap [] := va_S.rf
  have hl := lv_entry ([.int i, .int n, va_rf x]) (n := 3) (by first | exact Nat.le_of_ble_eq_true rfl | (cases x <;> exact Nat.le_of_ble_eq_true rfl))
  rw [lg_entry_eq]
  generalize (lg_sl ([.int i, .int n, va_rf x]) ++ List.replicate (3 - (lg_sl ([.int i, .int n, va_rf x])).length) Slot.unset).toArray = ls at hl ⊢
  have hl : lv_has ls 3 [(0, .int i), (1, .int n), (2, va_rf x)] := by cases x <;> exact hl
  refine lv_iload_n (k := 0) hx hb (by decide +kernel) rfl (lv_at hl 0 rfl) ?_
  refine lv_if_lt (off := 8) (tgt := 9) hx hb (by decide +kernel) (by decide) (fun q => absurd q h0) (fun _ => ?_)
  refine lv_iload_n (k := 0) hx hb (by decide +kernel) rfl (lv_at hl 0 rfl) ?_
  refine lv_iload_n (k := 1) hx hb (by decide +kernel) rfl (lv_at hl 1 rfl) ?_
  refine lv_icmp_lt (off := 10) (tgt := 16) hx hb (by decide +kernel) (by decide) (fun _ => ?_) (fun q => absurd h1 q)
  refine lv_iload_n (k := 0) hx hb (by decide +kernel) rfl (lv_at hl 0 rfl) ?_
  exact W.iret hx hb hr (fun t ht hW => ⟨rfl, hS.F ht⟩) hS.2.2 (by decide +kernel)
theorem z_h_chk (l : Launch) (bS sz : Nat) (i n : Int32) (h0 : ¬ i < 0) (h1 : i < n) : Met l z_y_chk (z_c_chk :: z_G) (z_rh 1) (z_Ph bS sz ([.int i, .int n])) (z_Qh sz (none)) 0 0 (fun q => sz ≤ q) := by
  refine Met.ofW (cc := prog_25_method_155_code) (maxL := 2) (ret := none) (by decide +kernel) rfl ?_
  intro p e s m args below meth c s₁ B hml hv
  obtain ⟨rfl, hsz, hZ⟩ := hv
  have hx := B.exec
  have hb := B.bytes
  have hr := B.returns
  have htsA := atoms_spec (ws := z_c_chk :: z_G) B.pre
  have hts : ∀ w ∈ z_G, w.before _ s = true := fun w hw => htsA w (List.mem_cons_of_mem _ hw)
  have hown : s.vm.findClass "java/lang/String" = some m.cls := findClass_of_methodNamed B.named
  have hlocks := B.notSynchronized
  subst hsz
  have hA : ∀ q : Nat, s.heap.size ≤ q → (fun q => s.heap.size ≤ q) q := fun q h => h
  have hS : va_S (fun q => s.heap.size ≤ q) s.heap s.heap [] := va_S.rf
  have hl := lv_entry ([.int i, .int n]) (n := 2) (by first | exact Nat.le_of_ble_eq_true rfl | (cases x <;> exact Nat.le_of_ble_eq_true rfl))
  rw [lg_entry_eq]
  generalize (lg_sl ([.int i, .int n]) ++ List.replicate (2 - (lg_sl ([.int i, .int n])).length) Slot.unset).toArray = ls at hl ⊢
  have hl : lv_has ls 2 [(0, .int i), (1, .int n)] := hl
  refine lv_iload_n (k := 0) hx hb (by decide +kernel) rfl (lv_at hl 0 rfl) ?_
  refine lv_iload_n (k := 1) hx hb (by decide +kernel) rfl (lv_at hl 1 rfl) ?_
  have hg : ∃ x : Option Nat, va_Z "jdk/internal/util/Preconditions" "SIOOBE_FORMATTER" "Ljava/util/function/BiFunction;" (va_rf x) (fun q => s.heap.size ≤ q) s s.heap := by
    rcases hZ.1.2 with h | ⟨t, h⟩
    · exact ⟨none, h⟩
    · exact ⟨some t, h⟩
  obtain ⟨x, hg⟩ := hg
  refine va_gets hx hb hg hS hown (hts _ z_m_f_fm) (fun x h9 => h9) (by decide +kernel) ?_
  refine z_hcall (v := some (.int i)) (va_runS (As := [.int i, .int n, va_rf x]) (rest := []) (Pc := z_Ph bS s.heap.size [.int i, .int n, va_rf x]) ⟨hx, hb, hml, hown, hts⟩ (z_h_prc l bS s.heap.size i n x h0 h1) ⟨z_CBh (n := 3) hts z_m_c_prc z_m_iP z_m_l_prc ⟨by decide +kernel, by decide +kernel, by decide +kernel⟩ ⟨by decide, by decide⟩, hts _ z_m_t_prc⟩ ⟨z_Ph_blind, z_hpre hZ hS hA⟩ rfl rfl hl.1 rfl (lv_room (Nat.le_of_ble_eq_true rfl)) (show decode prog_25_method_155_code 5 = .ok (.invokestatic 1059, 3) by decide +kernel) ⟨Nat.zero_le _, Nat.zero_le _⟩) hS hA (fun H locs hS hge hkp => ?_)
  refine lv_pop hx hb (by decide +kernel) rfl ?_
  exact W.vret hx hb hr (fun t ht hW => ⟨rfl, hS.F ht⟩) hS.2.2 (by decide +kernel)
theorem z_h_lca (l : Launch) (bS sz bV : Nat) (i : Int32) (hi : vp_in i z_txl) : Met l z_y_lca (z_c_lca :: z_G) (z_rh 2) (z_Pl bS sz bV [.ref bV, .int i]) (z_Qh sz (some (.int (z_ch i.toNatClampNeg)))) 0 0 (fun q => sz ≤ q) := by
  refine Met.ofW (cc := prog_26_method_2_code) (maxL := 2) (ret := (some .char)) (by decide +kernel) rfl ?_
  intro p e s m args below meth c s₁ B hml hv
  obtain ⟨rfl, hsz, hZ, hT⟩ := hv
  have hx := B.exec
  have hb := B.bytes
  have hr := B.returns
  have htsA := atoms_spec (ws := z_c_lca :: z_G) B.pre
  have hts : ∀ w ∈ z_G, w.before _ s = true := fun w hw => htsA w (List.mem_cons_of_mem _ hw)
  have hown : s.vm.findClass "java/lang/StringLatin1" = some m.cls := findClass_of_methodNamed B.named
  have hlocks := B.notSynchronized
  subst hsz
  have hA : ∀ q : Nat, s.heap.size ≤ q → (fun q => s.heap.size ≤ q) q := fun q h => h
  have hS : va_S (fun q => s.heap.size ≤ q) s.heap s.heap [] := va_S.rf
  have hl := lv_entry ([.ref bV, .int i]) (n := 2) (by first | exact Nat.le_of_ble_eq_true rfl | (cases x <;> exact Nat.le_of_ble_eq_true rfl))
  rw [lg_entry_eq]
  generalize (lg_sl ([.ref bV, .int i]) ++ List.replicate (2 - (lg_sl ([.ref bV, .int i])).length) Slot.unset).toArray = ls at hl ⊢
  have hl : lv_has ls 2 [(0, .ref bV), (1, .int i)] := hl
  have hi2 : ¬ i < 0 ∧ i < Int32.ofNat z_txl := z_vpin_lt (by decide) hi
  have hk9 : i.toNatClampNeg < 92 := by
    have h1 : ¬ z_txl ≤ i.toNatClampNeg := fun q => hi (Or.inr q)
    exact Nat.not_le.mp h1
  obtain ⟨hv1, hv2⟩ := z_chk _ hk9
  refine lv_iload_n (k := 1) hx hb (by decide +kernel) rfl (lv_at hl 1 rfl) ?_
  refine lv_aload_n (k := 0) hx hb (by decide +kernel) rfl (lv_at hl 0 rfl) ?_
  refine va_tlen hx hb hT hS rfl (by decide +kernel) ?_
  refine z_hcall (v := none) (va_runS (As := [.int i, .int (Int32.ofNat z_txl)]) (rest := []) (Pc := z_Ph bS s.heap.size [.int i, .int (Int32.ofNat z_txl)]) ⟨hx, hb, hml, hown, hts⟩ (z_h_chk l bS s.heap.size i (Int32.ofNat z_txl) hi2.1 hi2.2) ⟨z_CBh (n := 2) hts z_m_c_chk z_m_iS z_m_l_chk ⟨by decide +kernel, by decide +kernel, by decide +kernel⟩ ⟨by decide, by decide⟩, hts _ z_m_t_chk⟩ ⟨z_Ph_blind, z_hpre hZ hS hA⟩ rfl rfl hl.1 rfl (lv_room (Nat.le_of_ble_eq_true rfl)) (show decode prog_26_method_2_code 3 = .ok (.invokestatic 9, 3) by decide +kernel) ⟨Nat.zero_le _, Nat.zero_le _⟩) hS hA (fun H locs hS hge hkp => ?_)
  refine lv_aload_n (k := 0) hx hb (by decide +kernel) rfl (lv_at hl 0 rfl) ?_
  refine lv_iload_n (k := 1) hx hb (by decide +kernel) rfl (lv_at hl 1 rfl) ?_
  refine va_tb hx hb hT hS hi rfl (by decide +kernel) ?_
  refine lv_sipush (n := 255) (v := 255) hx hb (by decide +kernel) (by decide) ?_
  refine lv_iand hx hb (by decide +kernel) ?_
  refine lv_i2c hx hb (by decide +kernel) hv1 ?_
  exact W.zret (ty := .char) hx hb hr hv2 (fun t ht hW => ⟨rfl, hS.F ht⟩) hS.2.2 (by decide +kernel)
theorem z_b_len {X : ZX} {l : Launch} (d : Nat) (w : ZW) (ad : Nat → Nat) (D : va_G) (cA : Nat → ClassId) (sz k n : Nat) : vx_Met l (z_mn2 900) (z_cw 900 :: z_G) (z_rm d k n) (z_Pc X ad D cA sz [.ref 1002] w) (z_Qc ad D cA sz w (.inl (some (.int (Int32.ofNat z_txl)))) w) (z_XC ad D cA sz w (.inl (some (.int (Int32.ofNat z_txl)))) w) k n (va_A (z_ws ad cA w) sz) := by
    refine vx_ofW (cc := z_slc) (maxL := 1) (ret := some .int) (by decide +kernel) rfl ?_
    intro p e s m args below meth c s₁ B hml htt hv
    obtain ⟨rfl, hsz, hP, hK, hD0, hZ⟩ := hv
    have hx := B.exec
    have hb := B.bytes
    have hr := B.returns
    have htsA := atoms_spec B.pre
    have hts : ∀ w ∈ z_G, w.before _ s = true := fun w hw => htsA w (List.mem_cons_of_mem _ hw)
    have hown : s.vm.findClass "java/lang/String" = some m.cls := findClass_of_methodNamed B.named
    have hlocks := B.notSynchronized
    subst hsz
    have hD := hD0.self (sz := s.heap.size)
    have hA : ∀ q : Nat, s.heap.size ≤ q → va_A (z_ws ad cA w) s.heap.size q := fun q h => Or.inr h
    have hS : va_S (va_A (z_ws ad cA w) s.heap.size) s.heap s.heap [] := va_S.rf
    have hSK : z_SK (ad 1002) (va_A (z_ws ad cA w) s.heap.size) s s.heap := hZ.2.2.2.2.2.2.2.2.2
    obtain ⟨⟨hZ1, hZ2⟩, bV, hZ3, hZ4⟩ := hSK
    have hSK : z_SK (ad 1002) (va_A (z_ws ad cA w) s.heap.size) s s.heap := ⟨⟨hZ1, hZ2⟩, bV, hZ3, hZ4⟩
    obtain ⟨g1, g2, g3, g4⟩ := hZ3 0 (by decide)
    have hl := lv_entry ([.ref (ad 1002)]) (n := 1) (Nat.le_of_ble_eq_true rfl)
    have hent : entryFrame m ([Value.ref 1002].map (z_v ad)).toArray 1 = F0 m 0 ((lg_sl [.ref (ad 1002)] ++ List.replicate (1 - (lg_sl [.ref (ad 1002)]).length) Slot.unset).toArray) [] := lg_entry_eq m [.ref (ad 1002)] 1
    rw [hent]
    generalize (lg_sl ([.ref (ad 1002)]) ++ List.replicate (1 - (lg_sl ([.ref (ad 1002)])).length) Slot.unset).toArray = ls at hl ⊢
    have hl : lv_has ls 1 [(0, .ref (ad 1002))] := hl
    refine lv_aload_n (k := 0) hx hb (by decide +kernel) rfl (lv_at hl 0 rfl) ?_
    refine vk_getf hx hb g3 hS hown (hts _ z_m_f_va) (fun x h9 => h9) (by decide +kernel) ?_
    refine va_tlen hx hb g4 hS (v := Int32.ofNat z_txl) rfl (by decide +kernel) ?_
    refine lv_aload_n (k := 0) hx hb (by decide +kernel) rfl (lv_at hl 0 rfl) ?_
    refine z_hcall (v := some (.int 0)) (va_runV (As := []) (rest := [.int (Int32.ofNat z_txl)]) (C := "java/lang/String") (b := ad 1002) (Pc := z_Ph (ad 1002) s.heap.size [.ref (ad 1002)]) ⟨hx, hb, hml, hown, hts⟩ (z_h_cod l (ad 1002) s.heap.size) ⟨z_CBh (n := 0) hts z_m_c_cod z_m_iS z_m_l_cod ⟨by decide +kernel, by decide +kernel, by decide +kernel⟩ ⟨by show 0 + 1 ≤ d + 12; omega, by show 8 + (1 + 11) + 22 * 0 ≤ 64 * d + 400; omega⟩, hts _ z_m_n_cod, hts _ z_m_s_cod⟩ ⟨z_Ph_blind, ?_, z_hpre hSK hS hA⟩ rfl rfl hl.1 rfl (lv_room (Nat.le_of_ble_eq_true rfl)) (show decode z_slc 6 = .ok (.invokevirtual 335, 3) by decide +kernel) ⟨Nat.zero_le _, Nat.zero_le _⟩) hS hA (fun H locs hS hge hkp => ?_)
    · obtain ⟨cell, h1, h2, h3, -⟩ := g1
      exact ⟨cell, h1, h2, h3⟩
    refine lv_ishr hx hb (by decide +kernel) ?_
    rw [show (Int32.ofNat z_txl) >>> ((0 : Int32) &&& 31) = Int32.ofNat z_txl by decide +kernel]
    exact vx_ret (W.widen (k := k) (n := n) (Nat.zero_le _) (Nat.zero_le _) (W.iret hx hb hr (fun t ht hW => ⟨⟨_, ad, rfl, rfl, z_ag_rf _ _, by rw [ht]; exact hP.kept (fun k q hk => hkp q.1 (vx_lt hP hk)), va_K.moved hW.alike hK, hD⟩, hS.F ht⟩) hS.2.2 (by decide +kernel)))
theorem z_b_chr {X : ZX} {l : Launch} (d : Nat) (w : ZW) (ad : Nat → Nat) (D : va_G) (cA : Nat → ClassId) (sz k n : Nat) (i : Int32) (hi : z_in i z_txl = true) : vx_Met l (z_mn2 901) (z_cw 901 :: z_G) (z_rm d k n) (z_Pc X ad D cA sz [.ref 1002, .int i] w) (z_Qc ad D cA sz w (.inl (some (.int (z_ch i.toNatClampNeg)))) w) (z_XC ad D cA sz w (.inl (some (.int (z_ch i.toNatClampNeg)))) w) k n (va_A (z_ws ad cA w) sz) := by
    have hvp : vp_in i z_txl := z_vpin hi
    have hk9 : i.toNatClampNeg < 92 := by
      have h1 : ¬ z_txl ≤ i.toNatClampNeg := fun q => hvp (Or.inr q)
      exact Nat.not_le.mp h1
    obtain ⟨hv1, hv2⟩ := z_chk _ hk9
    refine vx_ofW (cc := z_scc) (maxL := 2) (ret := some .char) (by decide +kernel) rfl ?_
    intro p e s m args below meth c s₁ B hml htt hv
    obtain ⟨rfl, hsz, hP, hK, hD0, hZ⟩ := hv
    have hx := B.exec
    have hb := B.bytes
    have hr := B.returns
    have htsA := atoms_spec B.pre
    have hts : ∀ w ∈ z_G, w.before _ s = true := fun w hw => htsA w (List.mem_cons_of_mem _ hw)
    have hown : s.vm.findClass "java/lang/String" = some m.cls := findClass_of_methodNamed B.named
    have hlocks := B.notSynchronized
    subst hsz
    have hD := hD0.self (sz := s.heap.size)
    have hA : ∀ q : Nat, s.heap.size ≤ q → va_A (z_ws ad cA w) s.heap.size q := fun q h => Or.inr h
    have hS : va_S (va_A (z_ws ad cA w) s.heap.size) s.heap s.heap [] := va_S.rf
    have hSK : z_SK (ad 1002) (va_A (z_ws ad cA w) s.heap.size) s s.heap := hZ.2.2.2.2.2.2.2.2.2
    obtain ⟨⟨hZ1, hZ2⟩, bV, hZ3, hZ4⟩ := hSK
    have hSK : z_SK (ad 1002) (va_A (z_ws ad cA w) s.heap.size) s s.heap := ⟨⟨hZ1, hZ2⟩, bV, hZ3, hZ4⟩
    obtain ⟨g1, g2, g3, g4⟩ := hZ3 0 (by decide)
    have hl := lv_entry ([.ref (ad 1002), .int i]) (n := 2) (Nat.le_of_ble_eq_true rfl)
    have hent : entryFrame m ([Value.ref 1002, Value.int i].map (z_v ad)).toArray 2 = F0 m 0 ((lg_sl [.ref (ad 1002), .int i] ++ List.replicate (2 - (lg_sl [.ref (ad 1002), .int i]).length) Slot.unset).toArray) [] := lg_entry_eq m [.ref (ad 1002), .int i] 2
    rw [hent]
    generalize (lg_sl ([.ref (ad 1002), .int i]) ++ List.replicate (2 - (lg_sl ([.ref (ad 1002), .int i])).length) Slot.unset).toArray = ls at hl ⊢
    have hl : lv_has ls 2 [(0, .ref (ad 1002)), (1, .int i)] := hl
    refine lv_aload_n (k := 0) hx hb (by decide +kernel) rfl (lv_at hl 0 rfl) ?_
    refine z_hcall (v := some (.int 1)) (va_runV (As := []) (rest := []) (C := "java/lang/String") (b := ad 1002) (Pc := z_Ph (ad 1002) s.heap.size [.ref (ad 1002)]) ⟨hx, hb, hml, hown, hts⟩ (z_h_lat l (ad 1002) s.heap.size) ⟨z_CBh (n := 0) hts z_m_c_lat z_m_iS z_m_l_lat ⟨by decide +kernel, by decide +kernel, by decide +kernel⟩ ⟨by show 0 + 1 ≤ d + 12; omega, by show 8 + (1 + 11) + 22 * 0 ≤ 64 * d + 400; omega⟩, hts _ z_m_n_lat, hts _ z_m_s_lat⟩ ⟨z_Ph_blind, ?_, z_hpre hSK hS hA⟩ rfl rfl hl.1 rfl (lv_room (Nat.le_of_ble_eq_true rfl)) (show decode z_scc 1 = .ok (.invokevirtual 492, 3) by decide +kernel) ⟨Nat.zero_le _, Nat.zero_le _⟩) hS hA (fun H locs hS hge hkp0 => ?_)
    · obtain ⟨cell, h1, h2, h3, -⟩ := g1
      exact ⟨cell, h1, h2, h3⟩
    refine lv_if_eq (off := 12) (tgt := 16) hx hb (by decide +kernel) (by decide) (fun q => absurd q (by decide)) (fun _ => ?_)
    refine lv_aload_n (k := 0) hx hb (by decide +kernel) rfl (lv_at hl 0 rfl) ?_
    refine vk_getf hx hb g3 hS hown (hts _ z_m_f_va) (fun x h9 => h9) (by decide +kernel) ?_
    refine lv_iload_n (k := 1) hx hb (by decide +kernel) rfl (lv_at hl 1 rfl) ?_
    refine z_hcall (v := some (.int (z_ch i.toNatClampNeg))) (va_runS (As := [.ref bV, .int i]) (rest := []) (Pc := z_Pl (ad 1002) H.size bV [.ref bV, .int i]) ⟨hx, hb, hml, hown, hts⟩ (z_h_lca l (ad 1002) H.size bV i hvp) ⟨z_CBh (n := 2) hts z_m_c_lca z_m_iL z_m_l_lca ⟨by decide +kernel, by decide +kernel, by decide +kernel⟩ ⟨by show 2 + 1 ≤ d + 12; omega, by show 8 + (2 + 11) + 22 * 2 ≤ 64 * d + 400; omega⟩, hts _ z_m_t_lca⟩ ⟨z_Pl_blind, fun U hU hW => ⟨rfl, by rw [hU], hSK.go hS (fun q hq => hA q (Nat.le_trans hS.1 hq)) hW hU, by rw [hU]; exact ((g4.moved hW.alike).kept hS.2.1).narrow (fun q hq => hA q (Nat.le_trans hS.1 hq))⟩⟩ rfl rfl hl.1 rfl (lv_room (Nat.le_of_ble_eq_true rfl)) (show decode z_scc 12 = .ok (.invokestatic 495, 3) by decide +kernel) ⟨Nat.zero_le _, Nat.zero_le _⟩) hS hA (fun H1 locs1 hS1 hge1 hkp1 => ?_)
    exact vx_ret (W.widen (k := k) (n := n) (Nat.zero_le _) (Nat.zero_le _) (W.zret (ty := .char) hx hb hr hv2 (fun t ht hW => ⟨⟨_, ad, rfl, rfl, z_ag_rf _ _, by rw [ht]; exact hP.kept (fun k q hk => (hkp1 q.1 (Nat.lt_of_lt_of_le (vx_lt hP hk) hge)).trans (hkp0 q.1 (vx_lt hP hk))), va_K.moved hW.alike hK, hD⟩, hS1.F ht⟩) hS1.2.2 (by decide +kernel)))
theorem z_bt_sound (X : ZX) (l : Launch) : z_Bt X l := by
  intro d y av w r1 w1 h hw hav ad D cA sz
  unfold z_bt at h
  split at h
  · rename_i a
    obtain ⟨hg, h5⟩ := z_gd_some h
    cases h5
    simp only [Bool.and_eq_true] at hg
    have e1 := z_beq_t hg.1
    have e2 := z_beq_t hg.2
    subst e1 e2
    exact z_b_len d w ad D cA sz _ _
  · rename_i a i
    obtain ⟨hg, h5⟩ := z_gd_some h
    cases h5
    simp only [Bool.and_eq_true] at hg
    have e1 := z_beq_t hg.1.1
    have e2 := z_beq_t hg.1.2
    subst e1 e2
    exact z_b_chr d w ad D cA sz _ _ i hg.2
  · cases h
