/-! THE INSTRUCTIONS, all of them -/
theorem z_okZ_cut {y k : Nat} {l : List (ZE × Instr × List Nat)} (h1 : z_okZ y (l.take k) = true) (h2 : z_okZ y (l.drop k) = true) : z_okZ y l = true := by
  have h : z_okZ y (l.take k ++ l.drop k) = true := by
    simp only [z_okZ, List.all_append, Bool.and_eq_true]
    exact ⟨h1, h2⟩
  rwa [List.take_append_drop] at h
set_option maxRecDepth 100000 in
theorem z_okL_H : z_okH 55 = true := by decide +kernel
theorem z_ok_55 : z_okM 55 = true := by
  simp only [z_okM, Bool.and_eq_true]
  exact ⟨z_okL_H, (z_okZ_cut z_okL_0 (z_okZ_cut z_okL_1 (z_okZ_cut z_okL_2 (z_okZ_cut z_okL_3 (z_okZ_cut z_okL_4 (z_okZ_cut z_okL_5 (z_okZ_cut z_okL_6 (z_okZ_cut z_okL_7 z_okL_8))))))))⟩
theorem z_ok_all : ∀ y : Nat, y < 56 → z_me y = [] ∨ z_okM y = true
  | 0, _ => Or.inr z_ok_0
  | 1, _ => Or.inr z_ok_1
  | 2, _ => Or.inr z_ok_2
  | 3, _ => Or.inr z_ok_3
  | 4, _ => Or.inr z_ok_4
  | 5, _ => Or.inr z_ok_5
  | 6, _ => Or.inr z_ok_6
  | 7, _ => Or.inr z_ok_7
  | 8, _ => Or.inl rfl
  | 9, _ => Or.inl rfl
  | 10, _ => Or.inr z_ok_10
  | 11, _ => Or.inr z_ok_11
  | 12, _ => Or.inr z_ok_12
  | 13, _ => Or.inr z_ok_13
  | 14, _ => Or.inl rfl
  | 15, _ => Or.inl rfl
  | 16, _ => Or.inl rfl
  | 17, _ => Or.inr z_ok_17
  | 18, _ => Or.inr z_ok_18
  | 19, _ => Or.inr z_ok_19
  | 20, _ => Or.inr z_ok_20
  | 21, _ => Or.inr z_ok_21
  | 22, _ => Or.inr z_ok_22
  | 23, _ => Or.inr z_ok_23
  | 24, _ => Or.inr z_ok_24
  | 25, _ => Or.inr z_ok_25
  | 26, _ => Or.inr z_ok_26
  | 27, _ => Or.inr z_ok_27
  | 28, _ => Or.inr z_ok_28
  | 29, _ => Or.inr z_ok_29
  | 30, _ => Or.inr z_ok_30
  | 31, _ => Or.inr z_ok_31
  | 32, _ => Or.inr z_ok_32
  | 33, _ => Or.inr z_ok_33
  | 34, _ => Or.inr z_ok_34
  | 35, _ => Or.inr z_ok_35
  | 36, _ => Or.inr z_ok_36
  | 37, _ => Or.inr z_ok_37
  | 38, _ => Or.inr z_ok_38
  | 39, _ => Or.inr z_ok_39
  | 40, _ => Or.inr z_ok_40
  | 41, _ => Or.inr z_ok_41
  | 42, _ => Or.inr z_ok_42
  | 43, _ => Or.inr z_ok_43
  | 44, _ => Or.inr z_ok_44
  | 45, _ => Or.inr z_ok_45
  | 46, _ => Or.inr z_ok_46
  | 47, _ => Or.inr z_ok_47
  | 48, _ => Or.inr z_ok_48
  | 49, _ => Or.inr z_ok_49
  | 50, _ => Or.inr z_ok_50
  | 51, _ => Or.inr z_ok_51
  | 52, _ => Or.inr z_ok_52
  | 53, _ => Or.inr z_ok_53
  | 54, _ => Or.inr z_ok_54
  | 55, _ => Or.inr z_ok_55
  | k + 56, h => absurd h (by omega)
