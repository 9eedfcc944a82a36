/-! THE METHODS' INSTRUCTIONS, 240, 5 -/
set_option maxRecDepth 100000 in
theorem z_okp240_5 : z_okZ 240 (((((((z_me 240).zip (z_mi 240)).drop 30).drop 30).drop 30).drop 30).drop 30) = true := by decide +kernel
set_option maxRecDepth 100000 in
theorem z_okp240_H : z_okH 240 = true := by decide +kernel
theorem z_okZ_cut {y k : Nat} {l : List (ZE × Instr × List Nat)} (h1 : z_okZ y (l.take k) = true) (h2 : z_okZ y (l.drop k) = true) : z_okZ y l = true := by
  have h : z_okZ y (l.take k ++ l.drop k) = true := by
    simp only [z_okZ, List.all_append, Bool.and_eq_true]
    exact ⟨h1, h2⟩
  rwa [List.take_append_drop] at h
theorem z_ok_240 : z_okM 240 = true := by
  simp only [z_okM, Bool.and_eq_true]
  exact ⟨z_okp240_H, (z_okZ_cut z_okp240_0 (z_okZ_cut z_okp240_1 (z_okZ_cut z_okp240_2 (z_okZ_cut z_okp240_3 (z_okZ_cut z_okp240_4 z_okp240_5)))))⟩
