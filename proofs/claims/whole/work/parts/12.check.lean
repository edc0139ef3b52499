/-! checked: methods 128 to 142 -/
set_option maxRecDepth 100000 in
theorem xv_128 : xvm 128 = true := by decide +kernel
set_option maxRecDepth 100000 in
theorem xv_129 : xvm 129 = true := by decide +kernel
set_option maxRecDepth 100000 in
theorem xv_130 : xvm 130 = true := by decide +kernel
set_option maxRecDepth 100000 in
theorem xv_131 : xvm 131 = true := by decide +kernel
set_option maxRecDepth 100000 in
theorem xv_132 : xvm 132 = true := by decide +kernel
set_option maxRecDepth 100000 in
theorem xv_133 : xvm 133 = true := by decide +kernel
set_option maxRecDepth 100000 in
theorem xv_134 : xvm 134 = true := by decide +kernel
set_option maxRecDepth 100000 in
theorem xv_135 : xvm 135 = true := by decide +kernel
set_option maxRecDepth 100000 in
theorem xv_136 : xvm 136 = true := by decide +kernel
set_option maxRecDepth 100000 in
theorem xv_137 : xvm 137 = true := by decide +kernel
set_option maxRecDepth 100000 in
theorem xv_138 : xvm 138 = true := by decide +kernel
set_option maxRecDepth 100000 in
theorem xv_139 : xvm 139 = true := by decide +kernel
set_option maxRecDepth 100000 in
theorem xv_140 : xvm 140 = true := by decide +kernel
set_option maxRecDepth 100000 in
theorem xv_141 : xvm 141 = true := by decide +kernel
set_option maxRecDepth 100000 in
theorem xv_142 : xvm 142 = true := by decide +kernel
