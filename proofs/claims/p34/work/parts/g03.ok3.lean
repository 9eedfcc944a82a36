/-! THE METHODS' INSTRUCTIONS, 3 -/
set_option maxRecDepth 100000 in
theorem z_ok_40 : z_okM 40 = true := by decide +kernel
set_option maxRecDepth 100000 in
theorem z_ok_41 : z_okM 41 = true := by decide +kernel
set_option maxRecDepth 100000 in
theorem z_ok_42 : z_okM 42 = true := by decide +kernel
set_option maxRecDepth 100000 in
theorem z_ok_43 : z_okM 43 = true := by decide +kernel
set_option maxRecDepth 100000 in
theorem z_ok_44 : z_okM 44 = true := by decide +kernel
set_option maxRecDepth 100000 in
theorem z_ok_45 : z_okM 45 = true := by decide +kernel
set_option maxRecDepth 100000 in
theorem z_ok_46 : z_okM 46 = true := by decide +kernel
