/-! THE METHODS' INSTRUCTIONS, 2 -/
set_option maxRecDepth 100000 in
theorem z_ok_60 : z_okM 60 = true := by decide +kernel
set_option maxRecDepth 100000 in
theorem z_ok_61 : z_okM 61 = true := by decide +kernel
set_option maxRecDepth 100000 in
theorem z_ok_62 : z_okM 62 = true := by decide +kernel
set_option maxRecDepth 100000 in
theorem z_ok_63 : z_okM 63 = true := by decide +kernel
set_option maxRecDepth 100000 in
theorem z_ok_64 : z_okM 64 = true := by decide +kernel
set_option maxRecDepth 100000 in
theorem z_ok_65 : z_okM 65 = true := by decide +kernel
set_option maxRecDepth 100000 in
theorem z_ok_66 : z_okM 66 = true := by decide +kernel
set_option maxRecDepth 100000 in
theorem z_ok_67 : z_okM 67 = true := by decide +kernel
set_option maxRecDepth 100000 in
theorem z_ok_68 : z_okM 68 = true := by decide +kernel
set_option maxRecDepth 100000 in
theorem z_ok_69 : z_okM 69 = true := by decide +kernel
set_option maxRecDepth 100000 in
theorem z_ok_70 : z_okM 70 = true := by decide +kernel
set_option maxRecDepth 100000 in
theorem z_ok_71 : z_okM 71 = true := by decide +kernel
set_option maxRecDepth 100000 in
theorem z_ok_72 : z_okM 72 = true := by decide +kernel
set_option maxRecDepth 100000 in
theorem z_ok_73 : z_okM 73 = true := by decide +kernel
set_option maxRecDepth 100000 in
theorem z_ok_74 : z_okM 74 = true := by decide +kernel
set_option maxRecDepth 100000 in
theorem z_ok_75 : z_okM 75 = true := by decide +kernel
set_option maxRecDepth 100000 in
theorem z_ok_76 : z_okM 76 = true := by decide +kernel
set_option maxRecDepth 100000 in
theorem z_ok_77 : z_okM 77 = true := by decide +kernel
set_option maxRecDepth 100000 in
theorem z_ok_78 : z_okM 78 = true := by decide +kernel
set_option maxRecDepth 100000 in
theorem z_ok_79 : z_okM 79 = true := by decide +kernel
set_option maxRecDepth 100000 in
theorem z_ok_80 : z_okM 80 = true := by decide +kernel
set_option maxRecDepth 100000 in
theorem z_ok_81 : z_okM 81 = true := by decide +kernel
set_option maxRecDepth 100000 in
theorem z_ok_82 : z_okM 82 = true := by decide +kernel
set_option maxRecDepth 100000 in
theorem z_ok_83 : z_okM 83 = true := by decide +kernel
set_option maxRecDepth 100000 in
theorem z_ok_84 : z_okM 84 = true := by decide +kernel
set_option maxRecDepth 100000 in
theorem z_ok_85 : z_okM 85 = true := by decide +kernel
set_option maxRecDepth 100000 in
theorem z_ok_86 : z_okM 86 = true := by decide +kernel
