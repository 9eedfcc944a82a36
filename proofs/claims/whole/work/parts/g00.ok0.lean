/-! THE METHODS' INSTRUCTIONS, 0 -/
set_option maxRecDepth 100000 in
theorem z_ok_0 : z_okM 0 = true := by decide +kernel
set_option maxRecDepth 100000 in
theorem z_ok_1 : z_okM 1 = true := by decide +kernel
set_option maxRecDepth 100000 in
theorem z_ok_2 : z_okM 2 = true := by decide +kernel
set_option maxRecDepth 100000 in
theorem z_ok_3 : z_okM 3 = true := by decide +kernel
set_option maxRecDepth 100000 in
theorem z_ok_4 : z_okM 4 = true := by decide +kernel
set_option maxRecDepth 100000 in
theorem z_ok_5 : z_okM 5 = true := by decide +kernel
set_option maxRecDepth 100000 in
theorem z_ok_6 : z_okM 6 = true := by decide +kernel
set_option maxRecDepth 100000 in
theorem z_ok_7 : z_okM 7 = true := by decide +kernel
set_option maxRecDepth 100000 in
theorem z_ok_10 : z_okM 10 = true := by decide +kernel
set_option maxRecDepth 100000 in
theorem z_ok_11 : z_okM 11 = true := by decide +kernel
set_option maxRecDepth 100000 in
theorem z_ok_14 : z_okM 14 = true := by decide +kernel
set_option maxRecDepth 100000 in
theorem z_ok_15 : z_okM 15 = true := by decide +kernel
set_option maxRecDepth 100000 in
theorem z_ok_16 : z_okM 16 = true := by decide +kernel
set_option maxRecDepth 100000 in
theorem z_ok_17 : z_okM 17 = true := by decide +kernel
set_option maxRecDepth 100000 in
theorem z_ok_18 : z_okM 18 = true := by decide +kernel
set_option maxRecDepth 100000 in
theorem z_ok_21 : z_okM 21 = true := by decide +kernel
set_option maxRecDepth 100000 in
theorem z_ok_22 : z_okM 22 = true := by decide +kernel
set_option maxRecDepth 100000 in
theorem z_ok_23 : z_okM 23 = true := by decide +kernel
set_option maxRecDepth 100000 in
theorem z_ok_24 : z_okM 24 = true := by decide +kernel
set_option maxRecDepth 100000 in
theorem z_ok_25 : z_okM 25 = true := by decide +kernel
set_option maxRecDepth 100000 in
theorem z_ok_26 : z_okM 26 = true := by decide +kernel
set_option maxRecDepth 100000 in
theorem z_ok_27 : z_okM 27 = true := by decide +kernel
set_option maxRecDepth 100000 in
theorem z_ok_28 : z_okM 28 = true := by decide +kernel
set_option maxRecDepth 100000 in
theorem z_ok_29 : z_okM 29 = true := by decide +kernel
set_option maxRecDepth 100000 in
theorem z_ok_30 : z_okM 30 = true := by decide +kernel
set_option maxRecDepth 100000 in
theorem z_ok_31 : z_okM 31 = true := by decide +kernel
set_option maxRecDepth 100000 in
theorem z_ok_32 : z_okM 32 = true := by decide +kernel
