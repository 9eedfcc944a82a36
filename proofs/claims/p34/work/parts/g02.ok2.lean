/-! THE METHODS' INSTRUCTIONS, 2 -/
set_option maxRecDepth 100000 in
theorem z_ok_34 : z_okM 34 = true := by decide +kernel
set_option maxRecDepth 100000 in
theorem z_ok_35 : z_okM 35 = true := by decide +kernel
set_option maxRecDepth 100000 in
theorem z_ok_36 : z_okM 36 = true := by decide +kernel
set_option maxRecDepth 100000 in
theorem z_ok_37 : z_okM 37 = true := by decide +kernel
set_option maxRecDepth 100000 in
theorem z_ok_38 : z_okM 38 = true := by decide +kernel
set_option maxRecDepth 100000 in
theorem z_ok_39 : z_okM 39 = true := by decide +kernel
