/-! checked: methods 119 to 127 -/
set_option maxRecDepth 100000 in
theorem xv_119 : xvm 119 = true := by decide +kernel
set_option maxRecDepth 100000 in
theorem xv_120 : xvm 120 = true := by decide +kernel
set_option maxRecDepth 100000 in
theorem xv_121 : xvm 121 = true := by decide +kernel
set_option maxRecDepth 100000 in
theorem xv_122 : xvm 122 = true := by decide +kernel
set_option maxRecDepth 100000 in
theorem xv_123 : xvm 123 = true := by decide +kernel
set_option maxRecDepth 100000 in
theorem xv_124 : xvm 124 = true := by decide +kernel
set_option maxRecDepth 100000 in
theorem xv_125 : xvm 125 = true := by decide +kernel
set_option maxRecDepth 100000 in
theorem xv_126 : xvm 126 = true := by decide +kernel
set_option maxRecDepth 100000 in
theorem xv_127 : xvm 127 = true := by decide +kernel
