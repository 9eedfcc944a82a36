/-! SOUND, 7: the contract of a call of the small machine -/
theorem z_sl_len : ∀ vs : List Value, (lg_sl vs).length = (vs.map fun v => v.category).sum
  | [] => rfl
  | v :: vs => by
    have ih := z_sl_len vs
    have e1 : lg_sl (v :: vs) = (if v.category = 2 then [.val v, .second] else [.val v]) ++ lg_sl vs := by simp [lg_sl]
    rw [e1, List.length_append, ih, List.map_cons, List.sum_cons]
    cases v <;> rfl
theorem z_lm_args (ad : Nat → Nat) : ∀ (i : Nat) (vs : List Value), z_lm ad (lv_args i vs) = lv_args i (vs.map (z_v ad))
  | _, [] => rfl
  | i, v :: vs => by
    show (i, z_v ad v) :: z_lm ad (lv_args (if v.category = 2 then i + 2 else i + 1) vs) = (i, z_v ad v) :: lv_args (if (z_v ad v).category = 2 then i + 2 else i + 1) (vs.map (z_v ad))
    rw [z_v_cat, z_lm_args ad]
theorem z_wlo_args {n : Nat} : ∀ (i : Nat) (vs : List Value), z_wvs n vs → z_wlo n (lv_args i vs)
  | _, [], _ => fun q h => by cases h
  | i, v :: vs, h => fun q hq => by
    rcases List.mem_cons.mp (show q ∈ (i, v) :: lv_args (if v.category = 2 then i + 2 else i + 1) vs from hq) with h5 | h5
    · rw [h5]; exact z_wvs_hd h
    · exact z_wlo_args _ vs (z_wvs_tl h) q h5
theorem z_mh0 : (List.range 56).all (fun y => (z_mh y).isEmpty && (z_hw y).isEmpty) = true := by decide +kernel
