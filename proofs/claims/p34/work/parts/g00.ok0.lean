/-! THE METHODS' INSTRUCTIONS, 0 -/
set_option maxRecDepth 100000 in
theorem z_ok_0 : z_okM 0 = true := by decide +kernel
set_option maxRecDepth 100000 in
theorem z_ok_1 : z_okM 1 = true := by decide +kernel
set_option maxRecDepth 100000 in
theorem z_ok_2 : z_okM 2 = true := by decide +kernel
set_option maxRecDepth 100000 in
theorem z_ok_3 : z_okM 3 = true := by decide +kernel
set_option maxRecDepth 100000 in
theorem z_ok_4 : z_okM 4 = true := by decide +kernel
set_option maxRecDepth 100000 in
theorem z_ok_5 : z_okM 5 = true := by decide +kernel
set_option maxRecDepth 100000 in
theorem z_ok_6 : z_okM 6 = true := by decide +kernel
set_option maxRecDepth 100000 in
theorem z_ok_7 : z_okM 7 = true := by decide +kernel
set_option maxRecDepth 100000 in
theorem z_ok_10 : z_okM 10 = true := by decide +kernel
set_option maxRecDepth 100000 in
theorem z_ok_11 : z_okM 11 = true := by decide +kernel
set_option maxRecDepth 100000 in
theorem z_ok_12 : z_okM 12 = true := by decide +kernel
set_option maxRecDepth 100000 in
theorem z_ok_13 : z_okM 13 = true := by decide +kernel
set_option maxRecDepth 100000 in
theorem z_ok_17 : z_okM 17 = true := by decide +kernel
set_option maxRecDepth 100000 in
theorem z_ok_18 : z_okM 18 = true := by decide +kernel
set_option maxRecDepth 100000 in
theorem z_ok_19 : z_okM 19 = true := by decide +kernel
set_option maxRecDepth 100000 in
theorem z_ok_20 : z_okM 20 = true := by decide +kernel
set_option maxRecDepth 100000 in
theorem z_ok_21 : z_okM 21 = true := by decide +kernel
set_option maxRecDepth 100000 in
theorem z_ok_22 : z_okM 22 = true := by decide +kernel
