/-! SOUND, 7: the contract of a call of the small machine -/
theorem z_sl_len : ∀ vs : List Value, (lg_sl vs).length = (vs.map fun v => v.category).sum
  | [] => rfl
  | v :: vs => by
    have ih := z_sl_len vs
    have e1 : lg_sl (v :: vs) = (if v.category = 2 then [.val v, .second] else [.val v]) ++ lg_sl vs := by simp [lg_sl]
    rw [e1, List.length_append, ih, List.map_cons, List.sum_cons]
    cases v <;> rfl
theorem z_lm_args (ad : Nat → Nat) : ∀ (i : Nat) (vs : List Value), z_lm ad (lv_args i vs) = lv_args i (vs.map (z_v ad))
  | _, [] => rfl
  | i, v :: vs => by
    show (i, z_v ad v) :: z_lm ad (lv_args (if v.category = 2 then i + 2 else i + 1) vs) = (i, z_v ad v) :: lv_args (if (z_v ad v).category = 2 then i + 2 else i + 1) (vs.map (z_v ad))
    rw [z_v_cat, z_lm_args ad]
theorem z_wlo_args {n : Nat} : ∀ (i : Nat) (vs : List Value), z_wvs n vs → z_wlo n (lv_args i vs)
  | _, [], _ => fun q h => by cases h
  | i, v :: vs, h => fun q hq => by
    rcases List.mem_cons.mp (show q ∈ (i, v) :: lv_args (if v.category = 2 then i + 2 else i + 1) vs from hq) with h5 | h5
    · rw [h5]; exact z_wvs_hd h
    · exact z_wlo_args _ vs (z_wvs_tl h) q h5
/-- a handler: its exception into a local, a number, a return -/
def z_okI (y h : Nat) (v : Int) : Bool := match decode (z_mb y) h with
  | .ok (.astore i, 2) => Nat.blt i (z_ml y) && decide (decode (z_mb y) (h + 2) = .ok (.iconst v, 1)) && decide (decode (z_mb y) (h + 3) = .ok (.ireturn, 1))
  | .ok (.astore_n i, 1) => Nat.blt (i : Nat) (z_ml y) && decide (decode (z_mb y) (h + 1) = .ok (.iconst v, 1)) && decide (decode (z_mb y) (h + 2) = .ok (.ireturn, 1))
  | _ => false
def z_okR (y : Nat) (a : ZH) (b : Nat × Nat × Nat × Nat) : Bool := decide (z_own y = "RollMillLaw") && Nat.beq a.1 b.1 && Nat.beq a.2.1 b.2.1 && Nat.beq a.2.2.2.2 b.2.2.1 && ((Nat.beq a.2.2.1 0 && Nat.beq b.2.2.2 19) || (Nat.beq a.2.2.1 1 && Nat.beq b.2.2.2 13)) && z_okI y a.2.2.2.2 a.2.2.2.1
def z_okX (y : Nat) : Bool := Nat.beq (z_mh y).length (z_hw y).length && ((z_mh y).zip (z_hw y)).all (fun q => z_okR y q.1 q.2) && decide (z_mh y = [] ∨ z_mr y = some .int)
theorem z_okXs : (List.range 274).all z_okX = true := by decide +kernel
theorem z_w19 : Cond.classLink "RollMillLaw" 19 "java/util/NoSuchElementException" ∈ z_G := List.mem_filter.mpr ⟨by decide +kernel, by decide +kernel⟩
theorem z_w13 : Cond.classLink "RollMillLaw" 13 "java/lang/IllegalArgumentException" ∈ z_G := List.mem_filter.mpr ⟨by decide +kernel, by decide +kernel⟩
theorem z_wc0 : Cond.castable "java/util/NoSuchElementException" "java/util/NoSuchElementException" ∈ z_B := List.mem_filter.mpr ⟨by decide +kernel, rfl⟩
theorem z_wc1 : Cond.castable "java/lang/IllegalArgumentException" "java/lang/IllegalArgumentException" ∈ z_B := List.mem_filter.mpr ⟨by decide +kernel, rfl⟩
theorem z_tabw {p : Program} {l : Launch} {e : Env} {R : Room} {s : State} {m : MethodId} {args : Array Value} {below : List Frame} {meth : Method} {c : Code} {y E q pc cells slots mc ms : Nat} {ce : Cell} {H : Heap} {locs : List Loc} {ls : Array Slot} {rest : List Value} {Qc : Array Value → State → Outcome → State → Prop} {XC : String → State → State → Prop} {free : Addr → Prop} {lv : List (Nat × Value)} {hs0 : List ZH}
    (hx : p.tables.exec = Jvm.exec) (hb : c.code = z_mb y) (hown : s.vm.findClass (z_own y) = some m.cls) (hlocks : meth.locks = false) (hts : ∀ w ∈ z_G, w.before args s = true) (htb : ∀ w ∈ z_B, w.before args s = true)
    (hN1 : va_Nc "java/lang/IllegalArgumentException" "java/util/NoSuchElementException" s) (hN0 : va_Nc "java/util/NoSuchElementException" "java/lang/IllegalArgumentException" s)
    (hE : E ≤ 1) (hcell : H[q]? = some ce) (hv : ce.vm = .none) (hcl : s.vm.findClass (z_xn E) = some ce.cls) (hlv : lv_has ls (z_ml y) lv)
    (hout : z_hd hs0 pc E = none → ∀ t : State, t.heap = H → s.vm.Alike t.vm → XC (z_xn E) s t) (hf : ∀ z ∈ locs, free z.base) (hcm : cells ≤ mc) (hsm : slots ≤ ms)
    (hcat : ∀ v : Int, z_hd hs0 pc E = some v → ∀ (ls : Array Slot) (pc1 : Nat), decode (z_mb y) pc1 = .ok (.ireturn, 1) → W p l e R s m args below meth c H locs cells slots (vx_MQ below Qc XC args s mc ms free) (F0 m pc1 ls [.int (Int32.ofInt v)])) :
    ∀ (hs : List ZH) (hw : List (Nat × Nat × Nat × Nat)) (pre : List ExceptionTableEntry), z_hd hs pc E = z_hd hs0 pc E →
      (∀ z ∈ pre, covers z pc = false ∨ (z.catchType ≠ 0 ∧ ∃ nm : String, (Cond.classLink (z_own y) z.catchType nm).before args s = true ∧ va_Nc (z_xn E) nm s)) →
      c.exceptionTable.toList = pre ++ tableOf hw → hs.length = hw.length → (∀ q ∈ hs.zip hw, z_okR y q.1 q.2 = true) → vx_W p l e R s m args below meth c H locs cells slots (vx_MQ below Qc XC args s mc ms free) (F0 m pc ls rest) q := by
  intro hs
  induction hs with
  | nil =>
    intro hw pre he hp ht hl _
    cases hw with
    | cons b hw => cases hl
    | nil =>
      refine vx_outP hown hlocks (fun z hz => hp z ?_) hcell hv hcl (hout (he.symm.trans rfl)) hf hcm hsm
      rw [ht] at hz
      simpa [tableOf] using hz
  | cons a hs ih =>
    intro hw pre he hp ht hl hok
    cases hw with
    | nil => cases hl
    | cons b hw =>
      have hr := hok (a, b) List.mem_cons_self
      obtain ⟨f, t, E1, v, h⟩ := a
      obtain ⟨f2, t2, h2, ct⟩ := b
      simp only [z_okR, Bool.and_eq_true, Bool.or_eq_true, decide_eq_true_eq] at hr
      obtain ⟨⟨⟨⟨⟨hlaw, hf1⟩, ht1⟩, hh1⟩, hct⟩, hI⟩ := hr
      have hf1 := z_beq_t hf1
      have ht1 := z_beq_t ht1
      have hh1 := z_beq_t hh1
      subst hf1 ht1 hh1
      have hct : ct ≠ 0 ∧ E1 ≤ 1 ∧ (Cond.classLink (z_own y) ct (z_xn E1)).before args s = true ∧ (Cond.castable (z_xn E1) (z_xn E1)).before args s = true := by
        rw [hlaw]
        rcases hct with ⟨q1, q2⟩ | ⟨q1, q2⟩
        · have q1 := z_beq_t q1
          have q2 := z_beq_t q2
          subst q1 q2
          exact ⟨by decide, by decide, hts _ z_w19, htb _ z_wc0⟩
        · have q1 := z_beq_t q1
          have q2 := z_beq_t q2
          subst q1 q2
          exact ⟨by decide, by decide, hts _ z_w13, htb _ z_wc1⟩
      obtain ⟨hct0, hE1, hlink, hcast⟩ := hct
      have he1 : cond (Nat.ble f pc && Nat.blt pc t && Nat.beq E1 E) (some v) (z_hd hs pc E) = z_hd hs0 pc E := he
      have hsplit : c.exceptionTable.toList = pre ++ (⟨f, t, h, ct⟩ : ExceptionTableEntry) :: tableOf hw := ht
      have hsplit2 : c.exceptionTable.toList = (pre ++ [(⟨f, t, h, ct⟩ : ExceptionTableEntry)]) ++ tableOf hw := by rw [hsplit]; simp
      by_cases hc0 : f ≤ pc ∧ pc < t
      · have hcv : (Nat.ble f pc && Nat.blt pc t) = true := by
          rw [Nat.ble_eq_true_of_le hc0.1]
          exact Nat.ble_eq_true_of_le hc0.2
        have hcov : covers (⟨f, t, h, ct⟩ : ExceptionTableEntry) pc = true := by
          simp only [covers, Bool.and_eq_true, decide_eq_true_eq]; exact hc0
        by_cases hEE : E1 = E
        · subst hEE
          rw [hcv, Nat.beq_refl] at he1
          have he2 : z_hd hs0 pc E1 = some v := he1.symm
          refine vx_catch hown pre _ _ hsplit hp hcov hct0 hlink hcast hcell hv hcl ?_
          unfold z_okI at hI
          split at hI
          · rename_i i hdec
            simp only [Bool.and_eq_true, decide_eq_true_eq] at hI
            obtain ⟨⟨hi, hd2⟩, hd3⟩ := hI
            refine lv_astore hx hb hdec hlv (z_blt_t hi) rfl (fun ls1 hl1 => ?_)
            exact lv_iconst hx hb hd2 rfl (hcat v he2 ls1 _ hd3)
          · rename_i i hdec
            simp only [Bool.and_eq_true, decide_eq_true_eq] at hI
            obtain ⟨⟨hi, hd2⟩, hd3⟩ := hI
            refine lv_astore_n hx hb hdec rfl hlv (z_blt_t hi) rfl (fun ls1 hl1 => ?_)
            exact lv_iconst hx hb hd2 rfl (hcat v he2 ls1 _ hd3)
          · cases hI
        · rw [hcv, z_beq_ne hEE] at he1
          refine ih hw _ he1 (fun z hz => ?_) hsplit2 (Nat.succ.inj hl) (fun q hq => hok q (List.mem_cons_of_mem _ hq))
          rcases List.mem_append.mp hz with h5 | h5
          · exact hp z h5
          · cases List.mem_singleton.mp h5
            refine Or.inr ⟨hct0, z_xn E1, hlink, ?_⟩
            have hq : (E = 0 ∧ E1 = 1) ∨ (E = 1 ∧ E1 = 0) := by omega
            rcases hq with ⟨rfl, rfl⟩ | ⟨rfl, rfl⟩
            · exact hN0
            · exact hN1
      · have hcov : covers (⟨f, t, h, ct⟩ : ExceptionTableEntry) pc = false := by
          simp only [covers, Bool.and_eq_false_iff, decide_eq_false_iff_not]; omega
        have hcv : (Nat.ble f pc && Nat.blt pc t) = false := by
          cases hq : (Nat.ble f pc && Nat.blt pc t) with
          | false => rfl
          | true =>
            simp only [Bool.and_eq_true] at hq
            exact absurd ⟨z_ble_t hq.1, z_blt_t hq.2⟩ hc0
        rw [hcv] at he1
        refine ih hw _ he1 (fun z hz => ?_) hsplit2 (Nat.succ.inj hl) (fun q hq => hok q (List.mem_cons_of_mem _ hq))
        rcases List.mem_append.mp hz with h5 | h5
        · exact hp z h5
        · cases List.mem_singleton.mp h5
          exact Or.inl hcov
