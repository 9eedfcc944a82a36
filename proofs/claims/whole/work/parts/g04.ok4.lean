/-! THE METHODS' INSTRUCTIONS, 4 -/
set_option maxRecDepth 100000 in
theorem z_ok_114 : z_okM 114 = true := by decide +kernel
set_option maxRecDepth 100000 in
theorem z_ok_115 : z_okM 115 = true := by decide +kernel
set_option maxRecDepth 100000 in
theorem z_ok_116 : z_okM 116 = true := by decide +kernel
set_option maxRecDepth 100000 in
theorem z_ok_117 : z_okM 117 = true := by decide +kernel
set_option maxRecDepth 100000 in
theorem z_ok_118 : z_okM 118 = true := by decide +kernel
set_option maxRecDepth 100000 in
theorem z_ok_119 : z_okM 119 = true := by decide +kernel
set_option maxRecDepth 100000 in
theorem z_ok_120 : z_okM 120 = true := by decide +kernel
set_option maxRecDepth 100000 in
theorem z_ok_121 : z_okM 121 = true := by decide +kernel
set_option maxRecDepth 100000 in
theorem z_ok_122 : z_okM 122 = true := by decide +kernel
set_option maxRecDepth 100000 in
theorem z_ok_123 : z_okM 123 = true := by decide +kernel
set_option maxRecDepth 100000 in
theorem z_ok_124 : z_okM 124 = true := by decide +kernel
set_option maxRecDepth 100000 in
theorem z_ok_125 : z_okM 125 = true := by decide +kernel
set_option maxRecDepth 100000 in
theorem z_ok_126 : z_okM 126 = true := by decide +kernel
set_option maxRecDepth 100000 in
theorem z_ok_127 : z_okM 127 = true := by decide +kernel
set_option maxRecDepth 100000 in
theorem z_ok_128 : z_okM 128 = true := by decide +kernel
set_option maxRecDepth 100000 in
theorem z_ok_129 : z_okM 129 = true := by decide +kernel
set_option maxRecDepth 100000 in
theorem z_ok_130 : z_okM 130 = true := by decide +kernel
set_option maxRecDepth 100000 in
theorem z_ok_131 : z_okM 131 = true := by decide +kernel
set_option maxRecDepth 100000 in
theorem z_ok_132 : z_okM 132 = true := by decide +kernel
set_option maxRecDepth 100000 in
theorem z_ok_133 : z_okM 133 = true := by decide +kernel
set_option maxRecDepth 100000 in
theorem z_ok_134 : z_okM 134 = true := by decide +kernel
set_option maxRecDepth 100000 in
theorem z_ok_135 : z_okM 135 = true := by decide +kernel
set_option maxRecDepth 100000 in
theorem z_ok_136 : z_okM 136 = true := by decide +kernel
set_option maxRecDepth 100000 in
theorem z_ok_137 : z_okM 137 = true := by decide +kernel
set_option maxRecDepth 100000 in
theorem z_ok_138 : z_okM 138 = true := by decide +kernel
set_option maxRecDepth 100000 in
theorem z_ok_139 : z_okM 139 = true := by decide +kernel
set_option maxRecDepth 100000 in
theorem z_ok_140 : z_okM 140 = true := by decide +kernel
