/-! THE METHODS' INSTRUCTIONS, 4 -/
set_option maxRecDepth 100000 in
theorem z_ok_47 : z_okM 47 = true := by decide +kernel
set_option maxRecDepth 100000 in
theorem z_ok_48 : z_okM 48 = true := by decide +kernel
set_option maxRecDepth 100000 in
theorem z_ok_49 : z_okM 49 = true := by decide +kernel
set_option maxRecDepth 100000 in
theorem z_ok_50 : z_okM 50 = true := by decide +kernel
set_option maxRecDepth 100000 in
theorem z_ok_51 : z_okM 51 = true := by decide +kernel
set_option maxRecDepth 100000 in
theorem z_ok_52 : z_okM 52 = true := by decide +kernel
set_option maxRecDepth 100000 in
theorem z_ok_53 : z_okM 53 = true := by decide +kernel
