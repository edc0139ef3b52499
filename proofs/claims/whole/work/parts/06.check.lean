/-! checked: methods 27 to 45 -/
set_option maxRecDepth 100000 in
theorem xv_27 : xvm 27 = true := by decide +kernel
set_option maxRecDepth 100000 in
theorem xv_28 : xvm 28 = true := by decide +kernel
set_option maxRecDepth 100000 in
theorem xv_29 : xvm 29 = true := by decide +kernel
set_option maxRecDepth 100000 in
theorem xv_30 : xvm 30 = true := by decide +kernel
set_option maxRecDepth 100000 in
theorem xv_31 : xvm 31 = true := by decide +kernel
set_option maxRecDepth 100000 in
theorem xv_32 : xvm 32 = true := by decide +kernel
set_option maxRecDepth 100000 in
theorem xv_33 : xvm 33 = true := by decide +kernel
set_option maxRecDepth 100000 in
theorem xv_34 : xvm 34 = true := by decide +kernel
set_option maxRecDepth 100000 in
theorem xv_35 : xvm 35 = true := by decide +kernel
set_option maxRecDepth 100000 in
theorem xv_36 : xvm 36 = true := by decide +kernel
set_option maxRecDepth 100000 in
theorem xv_37 : xvm 37 = true := by decide +kernel
set_option maxRecDepth 100000 in
theorem xv_38 : xvm 38 = true := by decide +kernel
set_option maxRecDepth 100000 in
theorem xv_39 : xvm 39 = true := by decide +kernel
set_option maxRecDepth 100000 in
theorem xv_40 : xvm 40 = true := by decide +kernel
set_option maxRecDepth 100000 in
theorem xv_41 : xvm 41 = true := by decide +kernel
set_option maxRecDepth 100000 in
theorem xv_42 : xvm 42 = true := by decide +kernel
set_option maxRecDepth 100000 in
theorem xv_43 : xvm 43 = true := by decide +kernel
set_option maxRecDepth 100000 in
theorem xv_44 : xvm 44 = true := by decide +kernel
set_option maxRecDepth 100000 in
theorem xv_45 : xvm 45 = true := by decide +kernel
