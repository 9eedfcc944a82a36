/-! SOUND, 1: a world of the small machine as cells of the machine -/
/-- how long a row is: one of them as the script tells, kept beside the addresses -/
abbrev z_kl (ad : Nat → Nat) (a : Nat) : Nat := cond (Nat.beq a 57) (ad 1002) (z_kl0 a)
theorem z_beq_t {a b : Nat} (h : Nat.beq a b = true) : a = b := Nat.eq_of_beq_eq_true h
theorem z_beq_ne {a b : Nat} (h : a ≠ b) : Nat.beq a b = false := by
  cases hb : Nat.beq a b
  · rfl
  · exact absurd (Nat.eq_of_beq_eq_true hb) h
theorem z_blt_t {a b : Nat} (h : Nat.blt a b = true) : a < b := Nat.le_of_ble_eq_true h
theorem z_ble_t {a b : Nat} (h : Nat.ble a b = true) : a ≤ b := Nat.le_of_ble_eq_true h
theorem z_gd_some {b : Bool} {x : ZR} {v} (h : z_gd b x = some v) : b = true ∧ x = some v := by
  cases b
  · cases h
  · exact ⟨rfl, h⟩
theorem z_up_at {α : Type} (f : Nat → Nat → α) (a k : Nat) (v : α) (j : Nat) : z_up f a k v a j = if j = k then v else f a j := by
  show z_c (Nat.beq a a) (z_c (Nat.beq j k) v (f a j)) (f a j) = _
  rw [Nat.beq_refl]
  show z_c (Nat.beq j k) v (f a j) = _
  by_cases h : j = k
  · rw [if_pos h, h, Nat.beq_refl]
  · rw [if_neg h, z_beq_ne h]
theorem z_up_row {α : Type} (f : Nat → Nat → α) (a k : Nat) (v : α) : z_up f a k v a = fun j => if j = k then v else f a j := funext (z_up_at f a k v)
theorem z_up_ne {α : Type} (f : Nat → Nat → α) {a b : Nat} (k : Nat) (v : α) (h : b ≠ a) : z_up f a k v b = f b := by
  funext j
  show z_c (Nat.beq b a) (z_c (Nat.beq j k) v (f b j)) (f b j) = _
  rw [z_beq_ne h]
abbrev z_cl : List vw_C := (List.range 12).map (fun c => (z_C c, z_T c, z_N c))
theorem z_cl_at {c : Nat} (h : c < 12) : z_cl[c]? = some (z_C c, z_T c, z_N c) := by
  simp [z_cl, List.getElem?_map, List.getElem?_range h]
def z_tys (cA : Nat → ClassId) : List (ClassId × FieldType) := [(cA 20, .int), (cA 21, .long), (cA 23, .object "java/lang/Object")]
def z_v (ad : Nat → Nat) : Value → Value
  | .ref a => .ref (ad a)
  | v => v
abbrev z_fr (fI : Nat → Int32) (fL : Nat → Int64) (fR : Nat → Option Nat) (k t : Nat) : Value := match t with
  | 3 => va_rf (fR k)
  | 2 => .long (fL k)
  | _ => .int (fI k)
def z_fs (ad : Nat → Nat) (c : Nat) (fI : Nat → Int32) (fL : Nat → Int64) (fR : Nat → Option Nat) : List Value := (List.range (z_N c)).map (fun k => z_v ad (z_fr fI fL fR k (z_tc c k)))
def z_er (ad : Nat → Nat) (cA : Nat → ClassId) (a : Nat) (fI : Nat → Int32) (fL : Nat → Int64) (fR : Nat → Option Nat) : va_E :=
  if z_kd a < 12 then .inr (z_kd a, z_fs ad (z_kd a) fI fL fR)
  else .inl (cA (z_kd a), z_kl ad a, if z_kd a = 21 then .inr (.inl fL) else if z_kd a = 23 then .inr (.inr (.inr (.inr (fun k => (fR k).map ad)))) else .inl fI)
def z_e (ad : Nat → Nat) (cA : Nat → ClassId) (w : ZW) (a : Nat) : va_E := z_er ad cA a (z_I w a) (z_L w a) (z_R w a)
def z_ws (ad : Nat → Nat) (cA : Nat → ClassId) (w : ZW) : va_W := (List.range w.2.1).map (fun a => (ad a, z_e ad cA w a))
def z_wv (n : Nat) (v : Value) : Prop := ∀ a, v = .ref a → a < n ∨ 1000 ≤ a
def z_wvs (n : Nat) (st : List Value) : Prop := ∀ v ∈ st, z_wv n v
def z_wlo (n : Nat) (lo : ZL) : Prop := ∀ q ∈ lo, z_wv n q.2
def z_wf (w : ZW) : Prop := w.1 ≤ w.2.1 ∧ w.2.1 ≤ 1000 ∧ (∀ a k, w.2.1 ≤ a → z_I w a k = 0 ∧ z_L w a k = 0 ∧ z_R w a k = none) ∧ ∀ a k b, z_R w a k = some b → b < w.2.1 ∨ 1000 ≤ b
def z_mo (w w' : ZW) : Prop := w.1 = w'.1 ∧ w.2.1 ≤ w'.2.1 ∧ w.2.2.1 ≤ w'.2.2.1 ∧ w.2.2.2.1 ≤ w'.2.2.2.1
def z_wr (r : Option Value ⊕ Nat) (w' : ZW) : Prop := ∀ v, r = .inl (some v) → z_wv w'.2.1 v
def z_ag (n : Nat) (ad ad' : Nat → Nat) : Prop := ∀ a, a < n ∨ 1000 ≤ a → ad' a = ad a
def z_lm (ad : Nat → Nat) (lo : ZL) : List (Nat × Value) := lo.map (fun q => (q.1, z_v ad q.2))
theorem z_v_cat (ad : Nat → Nat) (v : Value) : (z_v ad v).category = v.category := by cases v <;> rfl
theorem z_v_ag {n : Nat} {ad ad' : Nat → Nat} (h : z_ag n ad ad') {v : Value} (hv : z_wv n v) : z_v ad' v = z_v ad v := by
  cases v with
  | ref a => exact congrArg Value.ref (h a (hv a rfl))
  | _ => rfl
theorem z_wvs_cons {n : Nat} {v : Value} {st : List Value} (h1 : z_wv n v) (h2 : z_wvs n st) : z_wvs n (v :: st) := fun x hx => by
  rcases List.mem_cons.mp hx with rfl | h
  · exact h1
  · exact h2 x h
theorem z_wv_i (n : Nat) (x : Int32) : z_wv n (.int x) := fun a h => by cases h
theorem z_wv_l (n : Nat) (x : Int64) : z_wv n (.long x) := fun a h => by cases h
theorem z_wv_n (n : Nat) : z_wv n .null := fun a h => by cases h
theorem z_wv_r {n a : Nat} (h : a < n ∨ 1000 ≤ a) : z_wv n (.ref a) := fun b e => by cases e; exact h
theorem z_wvs_i {n : Nat} {x : Int32} {st : List Value} (h : z_wvs n st) : z_wvs n (.int x :: st) := z_wvs_cons (z_wv_i n x) h
theorem z_wvs_l {n : Nat} {x : Int64} {st : List Value} (h : z_wvs n st) : z_wvs n (.long x :: st) := z_wvs_cons (z_wv_l n x) h
theorem z_wvs_hd {n : Nat} {v : Value} {st : List Value} (h : z_wvs n (v :: st)) : z_wv n v := h v List.mem_cons_self
theorem z_wvs_tl {n : Nat} {v : Value} {st : List Value} (h : z_wvs n (v :: st)) : z_wvs n st := fun x hx => h x (List.mem_cons_of_mem _ hx)
theorem z_wv_mono {n k : Nat} (hk : n ≤ k) {v : Value} (h : z_wv n v) : z_wv k v := fun a e => (h a e).imp (fun h => Nat.lt_of_lt_of_le h hk) id
theorem z_wvs_mono {n k : Nat} (hk : n ≤ k) {st : List Value} (h : z_wvs n st) : z_wvs k st := fun v hv => z_wv_mono hk (h v hv)
theorem z_wlo_mono {n k : Nat} (hk : n ≤ k) {lo : ZL} (h : z_wlo n lo) : z_wlo k lo := fun v hv => z_wv_mono hk (h v hv)
theorem z_ag_rf (n : Nat) (ad : Nat → Nat) : z_ag n ad ad := fun _ _ => rfl
theorem z_ag_tr {n k : Nat} {a b c : Nat → Nat} (hk : n ≤ k) (h1 : z_ag n a b) (h2 : z_ag k b c) : z_ag n a c := fun x hx => (h2 x (hx.imp (fun h => Nat.lt_of_lt_of_le h hk) id)).trans (h1 x hx)
theorem z_mo_rf (w : ZW) : z_mo w w := ⟨rfl, Nat.le_refl _, Nat.le_refl _, Nat.le_refl _⟩
theorem z_mo_tr {a b c : ZW} (h1 : z_mo a b) (h2 : z_mo b c) : z_mo a c := ⟨h1.1.trans h2.1, Nat.le_trans h1.2.1 h2.2.1, Nat.le_trans h1.2.2.1 h2.2.2.1, Nat.le_trans h1.2.2.2 h2.2.2.2⟩
theorem z_map_ag {n : Nat} {ad ad' : Nat → Nat} (h : z_ag n ad ad') {st : List Value} (hs : z_wvs n st) : st.map (z_v ad') = st.map (z_v ad) := List.map_congr_left (fun v hv => z_v_ag h (hs v hv))
theorem z_lm_ag {n : Nat} {ad ad' : Nat → Nat} (h : z_ag n ad ad') {lo : ZL} (hs : z_wlo n lo) : z_lm ad' lo = z_lm ad lo := List.map_congr_left (fun q hq => by rw [z_v_ag h (hs q hq)])
-- the list of cells
theorem z_ws_len (ad : Nat → Nat) (cA : Nat → ClassId) (w : ZW) : (z_ws ad cA w).length = w.2.1 := by simp [z_ws]
theorem z_ws_at {ad : Nat → Nat} {cA : Nat → ClassId} {w : ZW} {a : Nat} (h : a < w.2.1) : (z_ws ad cA w)[a]? = some (ad a, z_e ad cA w a) := by
  simp [z_ws, List.getElem?_map, List.getElem?_range h]
theorem z_ws_set {ad : Nat → Nat} {cA : Nat → ClassId} {w v : ZW} {a : Nat} {x : va_E} (hn : v.2.1 = w.2.1) (ha : a < w.2.1) (he : z_e ad cA v a = x) (ho : ∀ b, b ≠ a → z_e ad cA v b = z_e ad cA w b) : (z_ws ad cA w).set a (ad a, x) = z_ws ad cA v := by
  apply List.ext_getElem?
  intro i
  by_cases hi : i < w.2.1
  · rw [z_ws_at (by rw [hn]; exact hi)]
    by_cases h : i = a
    · subst h
      rw [List.getElem?_set_self (by rw [z_ws_len]; exact hi), he]
    · rw [List.getElem?_set_ne (Ne.symm h), z_ws_at hi, ho i h]
  · rw [List.getElem?_eq_none (by rw [List.length_set, z_ws_len]; omega), List.getElem?_eq_none (by rw [z_ws_len, hn]; omega)]
theorem z_er_ag {n : Nat} {ad ad' : Nat → Nat} (h : z_ag n ad ad') {cA : Nat → ClassId} {a : Nat} {fI : Nat → Int32} {fL : Nat → Int64} {fR : Nat → Option Nat} (hR : ∀ k b, fR k = some b → b < n ∨ 1000 ≤ b) : z_er ad' cA a fI fL fR = z_er ad cA a fI fL fR := by
  have e1 : z_fs ad' (z_kd a) fI fL fR = z_fs ad (z_kd a) fI fL fR := by
    refine List.map_congr_left (fun k _ => z_v_ag h ?_)
    intro b hb
    have : z_fr fI fL fR k (z_tc (z_kd a) k) = .ref b := hb
    unfold z_fr at this
    split at this
    · cases hq : fR k with
      | none => rw [hq] at this; cases this
      | some q => rw [hq] at this; cases this; exact hR k b hq
    · cases this
    · cases this
  have e2 : (fun k => (fR k).map ad') = (fun k => (fR k).map ad) := by
    funext k
    cases hq : fR k with
    | none => rfl
    | some q => exact congrArg some (h q (hR k q hq))
  have e3 : z_kl ad' a = z_kl ad a := by
    unfold z_kl
    rw [h 1002 (Or.inr (by omega))]
  unfold z_er
  rw [e1, e2, e3]
theorem z_ws_push {ad ad' : Nat → Nat} {cA : Nat → ClassId} {w v : ZW} {q : Nat} {x : va_E} (hw : z_wf w) (hn : v.2.1 = w.2.1 + 1) (hI : z_I v = z_I w) (hL : z_L v = z_L w) (hR : z_R v = z_R w) (ha : z_ag w.2.1 ad ad') (hq : ad' w.2.1 = q) (he : z_e ad' cA v w.2.1 = x) : z_ws ad cA w ++ [(q, x)] = z_ws ad' cA v := by
  unfold z_ws
  rw [hn, List.range_succ, List.map_append, List.map_cons, List.map_nil, hq, he]
  congr 1
  refine List.map_congr_left (fun a hm => ?_)
  have hlt := List.mem_range.mp hm
  rw [ha a (Or.inl hlt)]
  congr 1
  unfold z_e
  rw [hI, hL, hR]
  exact (z_er_ag ha (fun k b hb => hw.2.2.2 a k b hb)).symm
-- kinds
theorem z_al_lt {w : ZW} (hw : z_wf w) {a : Nat} (h : z_al w a = true) : a < w.2.1 := by
  simp only [z_al, Bool.or_eq_true] at h
  rcases h with h | h
  · exact Nat.lt_of_lt_of_le (z_blt_t h) hw.1
  · exact z_blt_t h
theorem z_ok_kd {w : ZW} (hw : z_wf w) {a c : Nat} (h : z_ok w a c = true) : a < w.2.1 ∧ z_kd a = c := by
  simp only [z_ok, Bool.and_eq_true] at h
  exact ⟨z_al_lt hw h.1, z_beq_t h.2⟩
theorem z_e_obj {ad : Nat → Nat} {cA : Nat → ClassId} {w : ZW} {a c : Nat} (hc : z_kd a = c) (h : c < 12) : z_e ad cA w a = .inr (c, z_fs ad c (z_I w a) (z_L w a) (z_R w a)) := by
  unfold z_e z_er
  rw [hc, if_pos h]
theorem z_e_int {ad : Nat → Nat} {cA : Nat → ClassId} {w : ZW} {a c : Nat} (hc : z_kd a = c) (h : c = 20) : z_e ad cA w a = .inl (cA c, z_kl ad a, .inl (z_I w a)) := by
  unfold z_e z_er
  rw [hc]
  subst h; rfl
theorem z_e_long {ad : Nat → Nat} {cA : Nat → ClassId} {w : ZW} {a : Nat} (hc : z_kd a = 21) : z_e ad cA w a = .inl (cA 21, z_kl ad a, .inr (.inl (z_L w a))) := by
  unfold z_e z_er
  rw [hc]; rfl
theorem z_e_ref {ad : Nat → Nat} {cA : Nat → ClassId} {w : ZW} {a : Nat} (hc : z_kd a = 23) : z_e ad cA w a = .inl (cA 23, z_kl ad a, .inr (.inr (.inr (.inr (fun k => (z_R w a k).map ad))))) := by
  unfold z_e z_er
  rw [hc]; rfl
theorem z_fs_at {ad : Nat → Nat} {c : Nat} {fI : Nat → Int32} {fL : Nat → Int64} {fR : Nat → Option Nat} {k : Nat} (h : k < z_N c) : (z_fs ad c fI fL fR)[k]? = some (z_v ad (z_fr fI fL fR k (z_tc c k))) := by
  simp [z_fs, List.getElem?_map, List.getElem?_range h]
theorem z_fs_len {ad : Nat → Nat} {c : Nat} {fI : Nat → Int32} {fL : Nat → Int64} {fR : Nat → Option Nat} : (z_fs ad c fI fL fR).length = z_N c := by simp [z_fs]
theorem z_fs_set {ad : Nat → Nat} {c : Nat} {fI gI : Nat → Int32} {fL gL : Nat → Int64} {fR gR : Nat → Option Nat} {k : Nat} (h : k < z_N c) {v : Value} (hv : z_v ad (z_fr gI gL gR k (z_tc c k)) = v) (ho : ∀ j, j ≠ k → gI j = fI j ∧ gL j = fL j ∧ gR j = fR j) : (z_fs ad c fI fL fR).set k v = z_fs ad c gI gL gR := by
  apply List.ext_getElem?
  intro i
  by_cases hi : i < z_N c
  · rw [z_fs_at hi]
    by_cases e : i = k
    · subst e
      rw [List.getElem?_set_self (by rw [z_fs_len]; exact hi), hv]
    · rw [List.getElem?_set_ne (Ne.symm e), z_fs_at hi]
      obtain ⟨h1, h2, h3⟩ := ho i e
      unfold z_fr
      rw [h1, h2, h3]
  · rw [List.getElem?_eq_none (by rw [List.length_set, z_fs_len]; omega), List.getElem?_eq_none (by rw [z_fs_len]; omega)]
theorem z_rf_v (ad : Nat → Nat) (o : Option Nat) : z_v ad (va_rf o) = va_rf (o.map ad) := by cases o <;> rfl
-- the locals
theorem z_lk_mem {lo : ZL} {i : Nat} {v : Value} : z_lk lo i = some v → (i, v) ∈ lo := by
  induction lo with
  | nil => intro h; cases h
  | cons q l ih =>
    obtain ⟨j, x⟩ := q
    intro h
    have h : z_c (Nat.beq j i) (some x) (z_lk l i) = some v := h
    cases hb : Nat.beq j i with
    | true =>
      rw [hb] at h
      cases h
      rw [z_beq_t hb]
      exact List.mem_cons_self
    | false =>
      rw [hb] at h
      exact List.mem_cons_of_mem _ (ih h)
theorem z_lk_at {ad : Nat → Nat} {ls : Array Slot} {nL : Nat} {lo : ZL} (h : lv_has ls nL (z_lm ad lo)) {i : Nat} {v : Value} (hv : z_lk lo i = some v) : ls[i]? = some (.val (z_v ad v)) := h.2.2 (i, z_v ad v) (List.mem_map.mpr ⟨(i, v), z_lk_mem hv, rfl⟩)
theorem z_lk_wv {n : Nat} {lo : ZL} (h : z_wlo n lo) {i : Nat} {v : Value} (hv : z_lk lo i = some v) : z_wv n v := h _ (z_lk_mem hv)
theorem z_c2_eq (v : Value) : z_c2 v = (v.category == 2) := by cases v <;> rfl
theorem z_beq_eq (a b : Nat) : Nat.beq a b = (a == b) := by
  by_cases h : a = b
  · rw [h, Nat.beq_refl]; simp
  · rw [z_beq_ne h]; simp [h]
theorem z_lm_f1 (ad : Nat → Nat) (i : Nat) (lo : ZL) : (z_lm ad lo).filter (fun q => !(q.1 == i) && !(q.1 + 1 == i && q.2.category == 2)) = z_lm ad (z_f1 i lo) := by
  induction lo with
  | nil => rfl
  | cons q l ih =>
    obtain ⟨j, v⟩ := q
    show ((j, z_v ad v) :: z_lm ad l).filter _ = z_lm ad (z_c (Nat.beq j i) (z_f1 i l) (z_c (Nat.beq (j + 1) i && z_c2 v) (z_f1 i l) ((j, v) :: z_f1 i l)))
    rw [List.filter_cons, z_v_cat, ih, z_c2_eq, z_beq_eq, z_beq_eq]
    cases j == i <;> cases (j + 1 == i) <;> cases (v.category == 2) <;> rfl
theorem z_lm_f2 (ad : Nat → Nat) (i : Nat) (lo : ZL) : (z_lm ad lo).filter (fun q => !(q.1 == i) && (!(q.1 == i + 1) && !(q.1 + 1 == i && q.2.category == 2))) = z_lm ad (z_f2 i lo) := by
  induction lo with
  | nil => rfl
  | cons q l ih =>
    obtain ⟨j, v⟩ := q
    show ((j, z_v ad v) :: z_lm ad l).filter _ = z_lm ad (z_c (Nat.beq j i) (z_f2 i l) (z_c (Nat.beq j (i + 1)) (z_f2 i l) (z_c (Nat.beq (j + 1) i && z_c2 v) (z_f2 i l) ((j, v) :: z_f2 i l))))
    rw [List.filter_cons, z_v_cat, ih, z_c2_eq, z_beq_eq, z_beq_eq, z_beq_eq]
    cases j == i <;> cases (j == i + 1) <;> cases (j + 1 == i) <;> cases (v.category == 2) <;> rfl
theorem z_f1_sub (i : Nat) (lo : ZL) : ∀ q ∈ z_f1 i lo, q ∈ lo := by
  induction lo with
  | nil => intro q h; exact h
  | cons q l ih =>
    obtain ⟨j, v⟩ := q
    intro q h
    have h : q ∈ z_c (Nat.beq j i) (z_f1 i l) (z_c (Nat.beq (j + 1) i && z_c2 v) (z_f1 i l) ((j, v) :: z_f1 i l)) := h
    cases h1 : Nat.beq j i <;> cases h2 : (Nat.beq (j + 1) i && z_c2 v) <;> rw [h1, h2] at h
    · rcases List.mem_cons.mp h with e | h
      · rw [e]; exact List.mem_cons_self
      · exact List.mem_cons_of_mem _ (ih q h)
    all_goals exact List.mem_cons_of_mem _ (ih q h)
theorem z_f2_sub (i : Nat) (lo : ZL) : ∀ q ∈ z_f2 i lo, q ∈ lo := by
  induction lo with
  | nil => intro q h; exact h
  | cons q l ih =>
    obtain ⟨j, v⟩ := q
    intro q h
    have h : q ∈ z_c (Nat.beq j i) (z_f2 i l) (z_c (Nat.beq j (i + 1)) (z_f2 i l) (z_c (Nat.beq (j + 1) i && z_c2 v) (z_f2 i l) ((j, v) :: z_f2 i l))) := h
    cases h1 : Nat.beq j i <;> cases h3 : Nat.beq j (i + 1) <;> cases h2 : (Nat.beq (j + 1) i && z_c2 v) <;> rw [h1, h3, h2] at h
    · rcases List.mem_cons.mp h with e | h
      · rw [e]; exact List.mem_cons_self
      · exact List.mem_cons_of_mem _ (ih q h)
    all_goals exact List.mem_cons_of_mem _ (ih q h)
theorem z_wlo_st1 {n : Nat} {lo : ZL} (h : z_wlo n lo) {i : Nat} {v : Value} (hv : z_wv n v) : z_wlo n (z_st1 lo i v) := fun q hq => by
  rcases List.mem_cons.mp hq with rfl | hq
  · exact hv
  · exact h q (z_f1_sub i lo q hq)
theorem z_wlo_st2 {n : Nat} {lo : ZL} (h : z_wlo n lo) {i : Nat} {v : Value} (hv : z_wv n v) : z_wlo n (z_st2 lo i v) := fun q hq => by
  rcases List.mem_cons.mp hq with rfl | hq
  · exact hv
  · exact h q (z_f2_sub i lo q hq)
theorem z_norm_sub (is : List Nat) (lo : ZL) : ∀ q ∈ z_norm is lo, q ∈ lo := by
  induction is with
  | nil => intro q h; cases h
  | cons i is ih =>
    intro q h
    cases hk : z_lk lo i with
    | none =>
      rw [show z_norm (i :: is) lo = z_norm is lo by simp only [z_norm, hk]] at h
      exact ih q h
    | some v =>
      rw [show z_norm (i :: is) lo = (i, v) :: z_norm is lo by simp only [z_norm, hk]] at h
      rcases List.mem_cons.mp h with e | h
      · rw [e]; exact z_lk_mem hk
      · exact ih q h
theorem z_lv_norm {ad : Nat → Nat} {ls : Array Slot} {nL : Nat} {lo : ZL} (is : List Nat) (h : lv_has ls nL (z_lm ad lo)) : lv_has ls nL (z_lm ad (z_norm is lo)) := by
  refine ⟨h.1, h.2.1, fun q hq => ?_⟩
  obtain ⟨x, hx, rfl⟩ := List.mem_map.mp hq
  exact h.2.2 _ (List.mem_map.mpr ⟨x, z_norm_sub is lo x hx, rfl⟩)
theorem z_wlo_norm {n : Nat} {lo : ZL} (is : List Nat) (h : z_wlo n lo) : z_wlo n (z_norm is lo) := fun q hq => h q (z_norm_sub is lo q hq)
-- what the helpers find on the stack
theorem z_ii_some {st : List Value} {k} {x} (h : z_ii st k = some x) : ∃ v1 v2 r, st = .int v2 :: .int v1 :: r ∧ k v1 v2 r = some x := by
  unfold z_ii at h
  split at h
  · exact ⟨_, _, _, rfl, h⟩
  · cases h
theorem z_ll_some {st : List Value} {k} {x} (h : z_ll st k = some x) : ∃ v1 v2 r, st = .long v2 :: .long v1 :: r ∧ k v1 v2 r = some x := by
  unfold z_ll at h
  split at h
  · exact ⟨_, _, _, rfl, h⟩
  · cases h
theorem z_li_some {st : List Value} {k} {x} (h : z_li st k = some x) : ∃ v1 v2 r, st = .int v2 :: .long v1 :: r ∧ k v1 v2 r = some x := by
  unfold z_li at h
  split at h
  · exact ⟨_, _, _, rfl, h⟩
  · cases h
theorem z_i1_some {st : List Value} {k} {x} (h : z_i1 st k = some x) : ∃ v1 r, st = .int v1 :: r ∧ k v1 r = some x := by
  unfold z_i1 at h
  split at h
  · exact ⟨_, _, rfl, h⟩
  · cases h
theorem z_l1_some {st : List Value} {k} {x} (h : z_l1 st k = some x) : ∃ v1 r, st = .long v1 :: r ∧ k v1 r = some x := by
  unfold z_l1 at h
  split at h
  · exact ⟨_, _, rfl, h⟩
  · cases h
theorem z_r1_some {st : List Value} {k} {x} (h : z_r1 st k = some x) : ∃ v1 r, st = .ref v1 :: r ∧ k v1 r = some x := by
  unfold z_r1 at h
  split at h
  · exact ⟨_, _, rfl, h⟩
  · cases h
theorem z_ir_some {st : List Value} {k} {x} (h : z_ir st k = some x) : ∃ a i r, st = .int i :: .ref a :: r ∧ k a i r = some x := by
  unfold z_ir at h
  split at h
  · exact ⟨_, _, _, rfl, h⟩
  · cases h
theorem z_iir_some {st : List Value} {k} {x} (h : z_iir st k = some x) : ∃ a i v r, st = .int v :: .int i :: .ref a :: r ∧ k a i v r = some x := by
  unfold z_iir at h
  split at h
  · exact ⟨_, _, _, _, rfl, h⟩
  · cases h
theorem z_lir_some {st : List Value} {k} {x} (h : z_lir st k = some x) : ∃ a i v r, st = .long v :: .int i :: .ref a :: r ∧ k a i v r = some x := by
  unfold z_lir at h
  split at h
  · exact ⟨_, _, _, _, rfl, h⟩
  · cases h
theorem z_rir_some {st : List Value} {k} {x} (h : z_rir st k = some x) : ∃ a i v r, st = .ref v :: .int i :: .ref a :: r ∧ k a i v r = some x := by
  unfold z_rir at h
  split at h
  · exact ⟨_, _, _, _, rfl, h⟩
  · cases h
theorem z_dup_some {st : List Value} {k} {x} (h : z_dup st k = some x) : ∃ v r, st = v :: r ∧ v.category = 1 ∧ k (v :: v :: r) = some x := by
  unfold z_dup at h
  split at h
  · exact ⟨_, _, rfl, rfl, h⟩
  · exact ⟨_, _, rfl, rfl, h⟩
  · cases h
theorem z_dup2_some {st : List Value} {k} {x} (h : z_dup2 st k = some x) : (∃ v u r, st = v :: u :: r ∧ v.category = 1 ∧ u.category = 1 ∧ k (v :: u :: v :: u :: r) = some x) ∨ ∃ v r, st = v :: r ∧ v.category = 2 ∧ k (v :: v :: r) = some x := by
  unfold z_dup2 at h
  split at h
  · exact Or.inl ⟨_, _, _, rfl, rfl, rfl, h⟩
  · exact Or.inr ⟨_, _, rfl, rfl, h⟩
  · cases h
theorem z_dx1_some {st : List Value} {k} {x} (h : z_dx1 st k = some x) : ∃ v u r, st = v :: u :: r ∧ v.category = 1 ∧ u.category = 1 ∧ k (v :: u :: v :: r) = some x := by
  unfold z_dx1 at h
  split at h
  · exact ⟨_, _, _, rfl, rfl, rfl, h⟩
  · exact ⟨_, _, _, rfl, rfl, rfl, h⟩
  · cases h
theorem z_pop_some {st : List Value} {k} {x} (h : z_pop st k = some x) : ∃ v r, st = v :: r ∧ v.category = 1 ∧ k r = some x := by
  unfold z_pop at h
  split at h
  · exact ⟨_, _, rfl, rfl, h⟩
  · exact ⟨_, _, rfl, rfl, h⟩
  · cases h
theorem z_take_some : ∀ {n : Nat} {acc st : List Value} {k} {x}, z_take n acc st k = some x → ∃ l r, st = l ++ r ∧ l.length = n ∧ k (l.reverse ++ acc) r = some x
  | 0, acc, st, k, x, h => ⟨[], st, rfl, rfl, h⟩
  | n + 1, acc, [], k, x, h => by cases h
  | n + 1, acc, v :: st, k, x, h => by
    obtain ⟨l, r, e, hl, hk⟩ := z_take_some (n := n) h
    exact ⟨v :: l, r, by rw [e]; rfl, by rw [List.length_cons, hl], by rw [List.reverse_cons, List.append_assoc]; exact hk⟩
/-- what kind of answer a call gives -/
theorem z_ret_some {hx : Nat → ZW → ZR} {d : Nat} {rr : ZR} {k} {x} (h : z_ret hx d rr k = some x) : (∃ v w1, rr = some (.inl v, w1) ∧ k v.toList w1 = some x) ∨ ∃ E w1, rr = some (.inr E, w1) ∧ hx E w1 = some x := by
  match d, rr, h with
  | 0, some (.inl none, w1), h => exact Or.inl ⟨none, w1, rfl, h⟩
  | 0, some (.inr E, w1), h => exact Or.inr ⟨E, w1, rfl, h⟩
  | 1, some (.inl (some (.int v)), w1), h => exact Or.inl ⟨some (.int v), w1, rfl, h⟩
  | 1, some (.inr E, w1), h => exact Or.inr ⟨E, w1, rfl, h⟩
  | 2, some (.inl (some (.long v)), w1), h => exact Or.inl ⟨some (.long v), w1, rfl, h⟩
  | 2, some (.inr E, w1), h => exact Or.inr ⟨E, w1, rfl, h⟩
  | n + 3, some (.inl (some (.ref v)), w1), h => exact Or.inl ⟨some (.ref v), w1, rfl, h⟩
  | n + 3, some (.inr E, w1), h => exact Or.inr ⟨E, w1, rfl, h⟩
-- worlds kept by writes
theorem z_wf_si {w : ZW} (hw : z_wf w) {a k : Nat} {v : Int32} (ha : a < w.2.1) : z_wf (z_si w a k v) := by
  refine ⟨hw.1, hw.2.1, fun b j hb => ⟨?_, (hw.2.2.1 b j hb).2⟩, hw.2.2.2⟩
  show z_up (z_I w) a k v b j = 0
  rw [z_up_ne _ _ _ (by intro e; subst e; exact absurd ha (Nat.not_lt.mpr hb))]
  exact (hw.2.2.1 b j hb).1
theorem z_wf_sl {w : ZW} (hw : z_wf w) {a k : Nat} {v : Int64} (ha : a < w.2.1) : z_wf (z_sl w a k v) := by
  refine ⟨hw.1, hw.2.1, fun b j hb => ⟨(hw.2.2.1 b j hb).1, ?_, (hw.2.2.1 b j hb).2.2⟩, hw.2.2.2⟩
  show z_up (z_L w) a k v b j = 0
  rw [z_up_ne _ _ _ (by intro e; subst e; exact absurd ha (Nat.not_lt.mpr hb))]
  exact (hw.2.2.1 b j hb).2.1
theorem z_wf_sr {w : ZW} (hw : z_wf w) {a k : Nat} {v : Option Nat} (ha : a < w.2.1) (hv : ∀ b, v = some b → b < w.2.1 ∨ 1000 ≤ b) : z_wf (z_sr w a k v) := by
  refine ⟨hw.1, hw.2.1, fun b j hb => ⟨(hw.2.2.1 b j hb).1, (hw.2.2.1 b j hb).2.1, ?_⟩, fun b j x hx => ?_⟩
  · show z_up (z_R w) a k v b j = none
    rw [z_up_ne _ _ _ (by intro e; subst e; exact absurd ha (Nat.not_lt.mpr hb))]
    exact (hw.2.2.1 b j hb).2.2
  · have hx : z_up (z_R w) a k v b j = some x := hx
    by_cases e : b = a
    · subst e
      rw [z_up_at] at hx
      by_cases e2 : j = k
      · rw [if_pos e2] at hx; exact hv x hx
      · rw [if_neg e2] at hx; exact hw.2.2.2 b j x hx
    · rw [z_up_ne _ _ _ e] at hx
      exact hw.2.2.2 b j x hx
theorem z_wf_mk {w : ZW} (hw : z_wf w) (k : Nat) (hn : w.2.1 < 1000) : z_wf (z_mk w k) :=
  ⟨Nat.le_succ_of_le hw.1, hn, fun a j h => hw.2.2.1 a j (Nat.le_of_succ_le h), fun a j b h => (hw.2.2.2 a j b h).imp (fun h => Nat.lt_succ_of_lt h) id⟩
theorem z_wf_mx {w : ZW} (hw : z_wf w) : z_wf (z_mx w) := hw
