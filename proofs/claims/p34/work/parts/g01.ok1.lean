/-! THE METHODS' INSTRUCTIONS, 1 -/
set_option maxRecDepth 100000 in
theorem z_ok_23 : z_okM 23 = true := by decide +kernel
set_option maxRecDepth 100000 in
theorem z_ok_24 : z_okM 24 = true := by decide +kernel
set_option maxRecDepth 100000 in
theorem z_ok_25 : z_okM 25 = true := by decide +kernel
set_option maxRecDepth 100000 in
theorem z_ok_26 : z_okM 26 = true := by decide +kernel
set_option maxRecDepth 100000 in
theorem z_ok_27 : z_okM 27 = true := by decide +kernel
set_option maxRecDepth 100000 in
theorem z_ok_28 : z_okM 28 = true := by decide +kernel
set_option maxRecDepth 100000 in
theorem z_ok_29 : z_okM 29 = true := by decide +kernel
set_option maxRecDepth 100000 in
theorem z_ok_30 : z_okM 30 = true := by decide +kernel
set_option maxRecDepth 100000 in
theorem z_ok_31 : z_okM 31 = true := by decide +kernel
set_option maxRecDepth 100000 in
theorem z_ok_32 : z_okM 32 = true := by decide +kernel
set_option maxRecDepth 100000 in
theorem z_ok_33 : z_okM 33 = true := by decide +kernel
