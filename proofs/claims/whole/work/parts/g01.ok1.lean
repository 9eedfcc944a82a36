/-! THE METHODS' INSTRUCTIONS, 1 -/
set_option maxRecDepth 100000 in
theorem z_ok_33 : z_okM 33 = true := by decide +kernel
set_option maxRecDepth 100000 in
theorem z_ok_34 : z_okM 34 = true := by decide +kernel
set_option maxRecDepth 100000 in
theorem z_ok_35 : z_okM 35 = true := by decide +kernel
set_option maxRecDepth 100000 in
theorem z_ok_36 : z_okM 36 = true := by decide +kernel
set_option maxRecDepth 100000 in
theorem z_ok_37 : z_okM 37 = true := by decide +kernel
set_option maxRecDepth 100000 in
theorem z_ok_38 : z_okM 38 = true := by decide +kernel
set_option maxRecDepth 100000 in
theorem z_ok_39 : z_okM 39 = true := by decide +kernel
set_option maxRecDepth 100000 in
theorem z_ok_40 : z_okM 40 = true := by decide +kernel
set_option maxRecDepth 100000 in
theorem z_ok_41 : z_okM 41 = true := by decide +kernel
set_option maxRecDepth 100000 in
theorem z_ok_42 : z_okM 42 = true := by decide +kernel
set_option maxRecDepth 100000 in
theorem z_ok_43 : z_okM 43 = true := by decide +kernel
set_option maxRecDepth 100000 in
theorem z_ok_44 : z_okM 44 = true := by decide +kernel
set_option maxRecDepth 100000 in
theorem z_ok_45 : z_okM 45 = true := by decide +kernel
set_option maxRecDepth 100000 in
theorem z_ok_46 : z_okM 46 = true := by decide +kernel
set_option maxRecDepth 100000 in
theorem z_ok_47 : z_okM 47 = true := by decide +kernel
set_option maxRecDepth 100000 in
theorem z_ok_48 : z_okM 48 = true := by decide +kernel
set_option maxRecDepth 100000 in
theorem z_ok_49 : z_okM 49 = true := by decide +kernel
set_option maxRecDepth 100000 in
theorem z_ok_50 : z_okM 50 = true := by decide +kernel
set_option maxRecDepth 100000 in
theorem z_ok_51 : z_okM 51 = true := by decide +kernel
set_option maxRecDepth 100000 in
theorem z_ok_52 : z_okM 52 = true := by decide +kernel
set_option maxRecDepth 100000 in
theorem z_ok_53 : z_okM 53 = true := by decide +kernel
set_option maxRecDepth 100000 in
theorem z_ok_54 : z_okM 54 = true := by decide +kernel
set_option maxRecDepth 100000 in
theorem z_ok_55 : z_okM 55 = true := by decide +kernel
set_option maxRecDepth 100000 in
theorem z_ok_56 : z_okM 56 = true := by decide +kernel
set_option maxRecDepth 100000 in
theorem z_ok_57 : z_okM 57 = true := by decide +kernel
set_option maxRecDepth 100000 in
theorem z_ok_58 : z_okM 58 = true := by decide +kernel
set_option maxRecDepth 100000 in
theorem z_ok_59 : z_okM 59 = true := by decide +kernel
