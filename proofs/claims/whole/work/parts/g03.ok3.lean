/-! THE METHODS' INSTRUCTIONS, 3 -/
set_option maxRecDepth 100000 in
theorem z_ok_87 : z_okM 87 = true := by decide +kernel
set_option maxRecDepth 100000 in
theorem z_ok_88 : z_okM 88 = true := by decide +kernel
set_option maxRecDepth 100000 in
theorem z_ok_89 : z_okM 89 = true := by decide +kernel
set_option maxRecDepth 100000 in
theorem z_ok_90 : z_okM 90 = true := by decide +kernel
set_option maxRecDepth 100000 in
theorem z_ok_91 : z_okM 91 = true := by decide +kernel
set_option maxRecDepth 100000 in
theorem z_ok_92 : z_okM 92 = true := by decide +kernel
set_option maxRecDepth 100000 in
theorem z_ok_93 : z_okM 93 = true := by decide +kernel
set_option maxRecDepth 100000 in
theorem z_ok_94 : z_okM 94 = true := by decide +kernel
set_option maxRecDepth 100000 in
theorem z_ok_95 : z_okM 95 = true := by decide +kernel
set_option maxRecDepth 100000 in
theorem z_ok_96 : z_okM 96 = true := by decide +kernel
set_option maxRecDepth 100000 in
theorem z_ok_97 : z_okM 97 = true := by decide +kernel
set_option maxRecDepth 100000 in
theorem z_ok_98 : z_okM 98 = true := by decide +kernel
set_option maxRecDepth 100000 in
theorem z_ok_99 : z_okM 99 = true := by decide +kernel
set_option maxRecDepth 100000 in
theorem z_ok_100 : z_okM 100 = true := by decide +kernel
set_option maxRecDepth 100000 in
theorem z_ok_101 : z_okM 101 = true := by decide +kernel
set_option maxRecDepth 100000 in
theorem z_ok_102 : z_okM 102 = true := by decide +kernel
set_option maxRecDepth 100000 in
theorem z_ok_103 : z_okM 103 = true := by decide +kernel
set_option maxRecDepth 100000 in
theorem z_ok_104 : z_okM 104 = true := by decide +kernel
set_option maxRecDepth 100000 in
theorem z_ok_105 : z_okM 105 = true := by decide +kernel
set_option maxRecDepth 100000 in
theorem z_ok_106 : z_okM 106 = true := by decide +kernel
set_option maxRecDepth 100000 in
theorem z_ok_107 : z_okM 107 = true := by decide +kernel
set_option maxRecDepth 100000 in
theorem z_ok_108 : z_okM 108 = true := by decide +kernel
set_option maxRecDepth 100000 in
theorem z_ok_109 : z_okM 109 = true := by decide +kernel
set_option maxRecDepth 100000 in
theorem z_ok_110 : z_okM 110 = true := by decide +kernel
set_option maxRecDepth 100000 in
theorem z_ok_111 : z_okM 111 = true := by decide +kernel
set_option maxRecDepth 100000 in
theorem z_ok_112 : z_okM 112 = true := by decide +kernel
set_option maxRecDepth 100000 in
theorem z_ok_113 : z_okM 113 = true := by decide +kernel
