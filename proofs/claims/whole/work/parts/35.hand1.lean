/-! HAND, 1: entry of a call; what binds and guards do; the row of stands -/
theorem z_en (X : ZX) (d y : Nat) (av : List Value) (lo : ZL) (w : ZW) (r : ZR) (hy : Nat.ble 274 y = false) (hs : z_sm av (z_ml y) = true) (hl : lv_args 0 av = lo)
    (h : z_loop X z_cf z_ff (z_pu (z_run X z_cf z_ff (d + 2))) y 100000000 0 lo [] w = r) : z_pu (z_run X z_cf z_ff (d + 3)) y av w = r := by
  subst hl
  rw [← h, z_pe X d]
  have e : z_pu (z_run X z_cf z_ff (d + 3)) = z_run X z_cf z_ff (d + 3) := z_pe X (d + 1)
  rw [e]
  show z_c (Nat.ble 274 y) (z_bt y av w) (z_gd (z_sm av (z_ml y)) (z_loop X z_cf z_ff (z_run X z_cf z_ff (d + 2)) y z_fuel 0 (lv_args 0 av) [] w)) = _
  rw [hy, hs]
  rfl
theorem z_gd_t (x : ZR) : z_gd true x = x := rfl
theorem z_gd_of {b : Bool} (h : b = true) (x : ZR) : z_gd b x = x := by
  subst h
  rfl
theorem z_bi_v (hx : Nat → ZW → ZR) (v : Int32) (w : ZW) (k : Int32 → ZW → ZR) : z_bi hx (some (.inl (some (.int v)), w)) k = k v w := rfl
theorem z_bi_e (hx : Nat → ZW → ZR) (e : Nat) (w : ZW) (k : Int32 → ZW → ZR) : z_bi hx (some (.inr e, w)) k = hx e w := rfl
theorem z_bi_n (hx : Nat → ZW → ZR) (k : Int32 → ZW → ZR) : z_bi hx none k = none := rfl
theorem z_bi_g (hx : Nat → ZW → ZR) (b : Bool) (r : ZR) (k : Int32 → ZW → ZR) : z_bi hx (z_gd b r) k = z_gd b (z_bi hx r k) := by cases b <;> rfl
theorem z_bi_f (hx : Nat → ZW → ZR) (c : Prop) [Decidable c] (a b : ZR) (k : Int32 → ZW → ZR) : z_bi hx (if c then a else b) k = if c then z_bi hx a k else z_bi hx b k := by split <;> rfl
theorem z_bl_v (hx : Nat → ZW → ZR) (v : Int64) (w : ZW) (k : Int64 → ZW → ZR) : z_bl hx (some (.inl (some (.long v)), w)) k = k v w := rfl
theorem z_bl_e (hx : Nat → ZW → ZR) (e : Nat) (w : ZW) (k : Int64 → ZW → ZR) : z_bl hx (some (.inr e, w)) k = hx e w := rfl
theorem z_bl_n (hx : Nat → ZW → ZR) (k : Int64 → ZW → ZR) : z_bl hx none k = none := rfl
theorem z_bl_g (hx : Nat → ZW → ZR) (b : Bool) (r : ZR) (k : Int64 → ZW → ZR) : z_bl hx (z_gd b r) k = z_gd b (z_bl hx r k) := by cases b <;> rfl
theorem z_bl_f (hx : Nat → ZW → ZR) (c : Prop) [Decidable c] (a b : ZR) (k : Int64 → ZW → ZR) : z_bl hx (if c then a else b) k = if c then z_bl hx a k else z_bl hx b k := by split <;> rfl
theorem z_br_v (hx : Nat → ZW → ZR) (v : Nat) (w : ZW) (k : Nat → ZW → ZR) : z_br hx (some (.inl (some (.ref v)), w)) k = k v w := rfl
theorem z_br_e (hx : Nat → ZW → ZR) (e : Nat) (w : ZW) (k : Nat → ZW → ZR) : z_br hx (some (.inr e, w)) k = hx e w := rfl
theorem z_br_n (hx : Nat → ZW → ZR) (k : Nat → ZW → ZR) : z_br hx none k = none := rfl
theorem z_br_g (hx : Nat → ZW → ZR) (b : Bool) (r : ZR) (k : Nat → ZW → ZR) : z_br hx (z_gd b r) k = z_gd b (z_br hx r k) := by cases b <;> rfl
theorem z_br_f (hx : Nat → ZW → ZR) (c : Prop) [Decidable c] (a b : ZR) (k : Nat → ZW → ZR) : z_br hx (if c then a else b) k = if c then z_br hx a k else z_br hx b k := by split <;> rfl
theorem z_b0_v (hx : Nat → ZW → ZR) (w : ZW) (k : ZW → ZR) : z_b0 hx (some (.inl none, w)) k = k w := rfl
theorem z_b0_e (hx : Nat → ZW → ZR) (e : Nat) (w : ZW) (k : ZW → ZR) : z_b0 hx (some (.inr e, w)) k = hx e w := rfl
theorem z_b0_n (hx : Nat → ZW → ZR) (k : ZW → ZR) : z_b0 hx none k = none := rfl
theorem z_b0_g (hx : Nat → ZW → ZR) (b : Bool) (r : ZR) (k : ZW → ZR) : z_b0 hx (z_gd b r) k = z_gd b (z_b0 hx r k) := by cases b <;> rfl
theorem z_b0_f (hx : Nat → ZW → ZR) (c : Prop) [Decidable c] (a b : ZR) (k : ZW → ZR) : z_b0 hx (if c then a else b) k = if c then z_b0 hx a k else z_b0 hx b k := by split <;> rfl
/-- the k-th stand's cell; with m stands the next cell to be made is that of m -/
def z_sd (k : Nat) : Nat := z_c (Nat.beq k 0) 118 (119 + k)
def z_gg (m : Nat) : Nat := z_c (Nat.beq m 0) 1003 119
def z_sf (m k : Nat) : Option Nat := z_c (Nat.blt k m && Nat.blt k 5) (some (z_sd k)) none
/-- an index of a list of so many: a choice, so that nothing unfolds it by itself -/
theorem z_ix_ex : ∃ f : Int32 → Int32 → Nat → Bool, ∀ i s m, f i s m = (!decide (i < 0) && decide (i < s) && Nat.blt i.toNatClampNeg m && Nat.blt i.toNatClampNeg 5) := ⟨_, fun _ _ _ => rfl⟩
noncomputable def z_ix : Int32 → Int32 → Nat → Bool := z_ix_ex.choose
theorem z_ix_eq (i s : Int32) (m : Nat) : z_ix i s m = (!decide (i < 0) && decide (i < s) && Nat.blt i.toNatClampNeg m && Nat.blt i.toNatClampNeg 5) := z_ix_ex.choose_spec i s m
theorem z_ix_t {i s : Int32} {m : Nat} (h : z_ix i s m = true) : ¬ i < 0 ∧ i < s ∧ i.toNatClampNeg < m ∧ i.toNatClampNeg < 5 := by
  rw [z_ix_eq] at h
  simp only [Bool.and_eq_true, Bool.not_eq_true', decide_eq_false_iff_not, decide_eq_true_eq] at h
  obtain ⟨⟨⟨h1, h2⟩, h3⟩, h4⟩ := h
  refine ⟨h1, h2, ?_, ?_⟩
  · exact Nat.le_of_ble_eq_true h3
  · exact Nat.le_of_ble_eq_true h4
theorem zh_check (X : ZX) (call : ZC) (N : Nat) (w : ZW) (x0 x1 : Int32) : z_loop X z_cf z_ff (z_pu call) 16 (N + 1) 0 [(0, .int x0), (1, .int x1), (2, .null)] [] w = if x0 < 0 then none else if x0 < x1 then some (.inl (some (.int x0)), w) else none := rfl
set_option maxRecDepth 100000 in
theorem zh_elem (X : ZX) (call : ZC) (N n ce sl : Nat) (I : Nat → Nat → Int32) (L : Nat → Nat → Int64) (t u r q g : Nat) (st : Nat → Option Nat) (x1 : Int32) : z_loop X z_cf z_ff (z_pu call) 17 (N + 1) 0 [(0, .ref 5), (1, .int x1)] [] (118, n, ce, sl, I, L, z_rr t u r q g st) = z_gd (z_ok (118, n, ce, sl, I, L, z_rr t u r q g st) g 23) (z_gd (z_in x1 (z_kl g)) (match [va_rf (z_rr t u r q g st g x1.toNatClampNeg)] with
    | [.ref b] => some (.inl (some (.ref b)), (118, n, ce, sl, I, L, z_rr t u r q g st))
    | _ => none)) := rfl
theorem zk_check (X : ZX) (d : Nat) (w : ZW) (x0 x1 : Int32) : z_pu (z_run X z_cf z_ff (d + 3)) 16 [.int x0, .int x1, .null] w = if x0 < 0 then none else if x0 < x1 then some (.inl (some (.int x0)), w) else none :=
  z_en X d _ _ _ _ _ rfl rfl rfl (zh_check X _ 99999999 w x0 x1)
theorem zk_Objects_checkIndex (X : ZX) (d n ce sl : Nat) (I : Nat → Nat → Int32) (L : Nat → Nat → Int64) (t u r q g : Nat) (st : Nat → Option Nat) (x0 x1 : Int32) : z_pu (z_run X z_cf z_ff (d + 4)) 15 [.int x0, .int x1] (118, n, ce, sl, I, L, z_rr t u r q g st) = if x0 < 0 then none else if x0 < x1 then some (.inl (some (.int x0)), (118, n, ce, sl, I, L, z_rr t u r q g st)) else none := by
  refine z_en X (d + 1) _ _ [(0, .int x0), (1, .int x1)] _ _ rfl rfl rfl ?_
  simp only [zb_Objects_checkIndex_0, zk_check, z_bi_f, z_bi_v, z_bi_n, zb_Objects_checkIndex_6]
theorem zk_elem (X : ZX) (d n ce sl : Nat) (I : Nat → Nat → Int32) (L : Nat → Nat → Int64) (t u r q g : Nat) (st : Nat → Option Nat) (x1 : Int32) : z_pu (z_run X z_cf z_ff (d + 3)) 17 [.ref 5, .int x1] (118, n, ce, sl, I, L, z_rr t u r q g st) = z_gd (z_ok (118, n, ce, sl, I, L, z_rr t u r q g st) g 23) (z_gd (z_in x1 (z_kl g)) (match [va_rf (z_rr t u r q g st g x1.toNatClampNeg)] with
    | [.ref b] => some (.inl (some (.ref b)), (118, n, ce, sl, I, L, z_rr t u r q g st))
    | _ => none)) :=
  z_en X d _ _ _ _ _ rfl rfl rfl (zh_elem X _ 99999999 n ce sl I L t u r q g st x1)
theorem z_sd_kd {k : Nat} (h : k < 5) : z_kd (z_sd k) = 10 := by
  rcases k with _ | _ | _ | _ | _ | k
  · rfl
  · rfl
  · rfl
  · rfl
  · rfl
  · omega
theorem z_sd_lt {k m : Nat} (h : k < m) : z_sd k < z_sd m := by
  have e : ∀ j, z_sd j = if j = 0 then 118 else 119 + j := by
    intro j
    cases j <;> rfl
  rw [e, e]
  split <;> split <;> omega
theorem z_okS {k m : Nat} (h : k < m) (h5 : k < 5) (lo ce sl : Nat) (I : Nat → Nat → Int32) (L : Nat → Nat → Int64) (R : Nat → Nat → Option Nat) : z_ok (lo, z_sd m, ce, sl, I, L, R) (z_sd k) 10 = true := by
  have h1 := z_sd_lt h
  show ((Nat.blt (z_sd k) lo || Nat.blt (z_sd k) (z_sd m)) && Nat.beq (z_kd (z_sd k)) 10) = true
  rw [z_sd_kd h5]
  have e : Nat.blt (z_sd k) (z_sd m) = true   := Nat.ble_eq_true_of_le h1
  rw [e, Bool.or_true]
  rfl
theorem zk_ArrayList_get (X : ZX) (d m ce sl : Nat) (I : Nat → Nat → Int32) (L : Nat → Nat → Int64) (t u r q : Nat) (x1 : Int32) : z_pu (z_run X z_cf z_ff (d + 5)) 14 [.ref 5, .int x1] (118, z_sd m, ce, sl, I, L, z_rr t u r q (z_gg m) (z_sf m)) = z_gd (z_ix x1 (I 5 2) m) (some (.inl (some (.ref (z_sd x1.toNatClampNeg))), (118, z_sd m, ce, sl, I, L, z_rr t u r q (z_gg m) (z_sf m)))) := by
  refine z_en X (d + 2) _ _ [(0, .ref 5), (1, .int x1)] _ _ rfl rfl rfl ?_
  simp only [zb_ArrayList_get_0, zk_Objects_checkIndex, zk_elem, z_bi_f, z_bi_v, z_bi_n, zb_ArrayList_get_8]
  by_cases h0 : x1 < 0
  · have e : z_ix x1 (I 5 2) m = false := by
      rw [z_ix_eq]
      simp [h0]
    rw [if_pos h0, e]
  rw [if_neg h0]
  by_cases h1 : x1 < I 5 2
  · rw [if_pos h1]
    cases m with
    | zero =>
      have e : z_ix x1 (I 5 2) 0 = false := by
        rw [z_ix_eq]
        simp [Nat.blt]
      rw [e]
      rfl
    | succ m =>
      have e0 : z_ok (118, z_sd (m + 1), ce, sl, I, L, z_rr t u r q (z_gg (m + 1)) (z_sf (m + 1))) (z_gg (m + 1)) 23 = true := by
        have e1 : Nat.blt 119 (119 + (m + 1)) = true := by
          have : 119 < 119 + (m + 1) := by omega
          exact Nat.ble_eq_true_of_le this
        show ((Nat.blt 119 118 || Nat.blt 119 (119 + (m + 1))) && Nat.beq (z_kd 119) 23) = true
        rw [e1]
        rfl
      rw [e0, z_gd_t]
      have e2 : z_rr t u r q (z_gg (m + 1)) (z_sf (m + 1)) (z_gg (m + 1)) x1.toNatClampNeg = z_sf (m + 1) x1.toNatClampNeg := rfl
      rw [e2]
      have e3 : z_kl (z_gg (m + 1)) = 10 := rfl
      rw [e3]
      unfold z_sf
      by_cases h2 : (Nat.blt x1.toNatClampNeg (m + 1) && Nat.blt x1.toNatClampNeg 5) = true
      · rw [h2]
        simp only [Bool.and_eq_true] at h2
        have h5 : x1.toNatClampNeg < 5 := Nat.le_of_ble_eq_true h2.2
        have e4 : z_in x1 10 = true := by
          rw [z_in_eq]
          have : x1.toNatClampNeg < 10 := by omega
          simp [h0, Nat.blt, Nat.succ_le_of_lt this]
        have e5 : z_ix x1 (I 5 2) (m + 1) = true := by
          rw [z_ix_eq]
          simp [h0, h1, h2.1, h2.2]
        rw [e4, e5]
        show z_br _ (some (.inl (some (.ref (z_sd x1.toNatClampNeg))), _)) _ = _
        rw [z_br_v, zb_ArrayList_get_14]
      · have e5 : z_ix x1 (I 5 2) (m + 1) = false := by
          rw [z_ix_eq]
          simp only [Bool.and_eq_true, not_and] at h2
          simp only [h0, h1, decide_false, decide_true, Bool.not_false, Bool.true_and, Bool.and_eq_false_iff]
          by_cases h3 : Nat.blt x1.toNatClampNeg (m + 1) = true
          · exact Or.inr (Bool.eq_false_iff.mpr (h2 h3))
          · exact Or.inl (Bool.eq_false_iff.mpr h3)
        rw [e5, Bool.eq_false_iff.mpr h2]
        cases z_in x1 10 <;> rfl
  · have e : z_ix x1 (I 5 2) m = false := by
      rw [z_ix_eq]
      simp [h1]
    rw [if_neg h1, e]
theorem z_n0 : ((Int32.ofInt 0 : Int32) = 0) = True := by decide
theorem z_n1 : ((Int32.ofInt 1 : Int32) = 0) = False := by decide
theorem z_n2 : ((Int32.ofInt 2 : Int32) = 0) = False := by decide
theorem z_nn1 : ((Int32.ofInt (-1) : Int32) = 0) = False := by decide
theorem z_beq_s (a : Nat) : Nat.beq a a = true := by
  induction a with
  | zero => rfl
  | succ a ih => exact ih
theorem z_up_s {α : Type} (f : Nat → Nat → α) (a k : Nat) (v : α) : z_up f a k v a k = v := by
  show z_c (Nat.beq a a) (z_c (Nat.beq k k) v (f a k)) (f a k) = v
  rw [z_beq_s, z_beq_s]
theorem z_up_k {α : Type} (f : Nat → Nat → α) (a k j : Nat) (v : α) (h : Nat.beq j k = false) : z_up f a k v a j = f a j := by
  show z_c (Nat.beq a a) (z_c (Nat.beq j k) v (f a j)) (f a j) = f a j
  rw [z_beq_s, h]
theorem z_up_a {α : Type} (f : Nat → Nat → α) (a k b j : Nat) (v : α) (h : Nat.beq b a = false) : z_up f a k v b j = f b j := by
  show z_c (Nat.beq b a) (z_c (Nat.beq j k) v (f b j)) (f b j) = f b j
  rw [h]
theorem zk_Line_at (X : ZX) (d m ce sl : Nat) (I : Nat → Nat → Int32) (L : Nat → Nat → Int64) (t u r q : Nat) (x1 : Int32) : z_pu (z_run X z_cf z_ff (d + 6)) 51 [.ref 1, .int x1] (118, z_sd m, ce, sl, I, L, z_rr t u r q (z_gg m) (z_sf m)) = z_gd (z_ix x1 (I 5 2) m) (some (.inl (some (.ref (z_sd x1.toNatClampNeg))), (118, z_sd m, ce, sl, I, L, z_rr t u r q (z_gg m) (z_sf m)))) := by
  refine z_en X (d + 3) _ _ [(0, .ref 1), (1, .int x1)] _ _ rfl rfl rfl ?_
  simp only [zb_Line_at_0, zk_ArrayList_get, z_br_g, z_br_v, zb_Line_at_8]
  cases h : z_ix x1 (I 5 2) m
  · rfl
  · obtain ⟨_, _, h1, h2⟩ := z_ix_t h
    rw [z_okS h1 h2]
