/-! checked: methods 92 to 106 -/
set_option maxRecDepth 100000 in
theorem xv_92 : xvm 92 = true := by decide +kernel
set_option maxRecDepth 100000 in
theorem xv_93 : xvm 93 = true := by decide +kernel
set_option maxRecDepth 100000 in
theorem xv_94 : xvm 94 = true := by decide +kernel
set_option maxRecDepth 100000 in
theorem xv_95 : xvm 95 = true := by decide +kernel
set_option maxRecDepth 100000 in
theorem xv_96 : xvm 96 = true := by decide +kernel
set_option maxRecDepth 100000 in
theorem xv_97 : xvm 97 = true := by decide +kernel
set_option maxRecDepth 100000 in
theorem xv_98 : xvm 98 = true := by decide +kernel
set_option maxRecDepth 100000 in
theorem xv_99 : xvm 99 = true := by decide +kernel
set_option maxRecDepth 100000 in
theorem xv_100 : xvm 100 = true := by decide +kernel
set_option maxRecDepth 100000 in
theorem xv_101 : xvm 101 = true := by decide +kernel
set_option maxRecDepth 100000 in
theorem xv_102 : xvm 102 = true := by decide +kernel
set_option maxRecDepth 100000 in
theorem xv_103 : xvm 103 = true := by decide +kernel
set_option maxRecDepth 100000 in
theorem xv_104 : xvm 104 = true := by decide +kernel
set_option maxRecDepth 100000 in
theorem xv_105 : xvm 105 = true := by decide +kernel
set_option maxRecDepth 100000 in
theorem xv_106 : xvm 106 = true := by decide +kernel
