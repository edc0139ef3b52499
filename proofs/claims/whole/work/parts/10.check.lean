/-! checked: methods 107 to 118 -/
set_option maxRecDepth 100000 in
theorem xv_107 : xvm 107 = true := by decide +kernel
set_option maxRecDepth 100000 in
theorem xv_108 : xvm 108 = true := by decide +kernel
set_option maxRecDepth 100000 in
theorem xv_109 : xvm 109 = true := by decide +kernel
set_option maxRecDepth 100000 in
theorem xv_110 : xvm 110 = true := by decide +kernel
set_option maxRecDepth 100000 in
theorem xv_111 : xvm 111 = true := by decide +kernel
set_option maxRecDepth 100000 in
theorem xv_112 : xvm 112 = true := by decide +kernel
set_option maxRecDepth 100000 in
theorem xv_113 : xvm 113 = true := by decide +kernel
set_option maxRecDepth 100000 in
theorem xv_114 : xvm 114 = true := by decide +kernel
set_option maxRecDepth 100000 in
theorem xv_115 : xvm 115 = true := by decide +kernel
set_option maxRecDepth 100000 in
theorem xv_116 : xvm 116 = true := by decide +kernel
set_option maxRecDepth 100000 in
theorem xv_117 : xvm 117 = true := by decide +kernel
set_option maxRecDepth 100000 in
theorem xv_118 : xvm 118 = true := by decide +kernel
