/-! checked: methods 46 to 60 -/
set_option maxRecDepth 100000 in
theorem xv_46 : xvm 46 = true := by decide +kernel
set_option maxRecDepth 100000 in
theorem xv_47 : xvm 47 = true := by decide +kernel
set_option maxRecDepth 100000 in
theorem xv_48 : xvm 48 = true := by decide +kernel
set_option maxRecDepth 100000 in
theorem xv_49 : xvm 49 = true := by decide +kernel
set_option maxRecDepth 100000 in
theorem xv_50 : xvm 50 = true := by decide +kernel
set_option maxRecDepth 100000 in
theorem xv_51 : xvm 51 = true := by decide +kernel
set_option maxRecDepth 100000 in
theorem xv_52 : xvm 52 = true := by decide +kernel
set_option maxRecDepth 100000 in
theorem xv_53 : xvm 53 = true := by decide +kernel
set_option maxRecDepth 100000 in
theorem xv_54 : xvm 54 = true := by decide +kernel
set_option maxRecDepth 100000 in
theorem xv_55 : xvm 55 = true := by decide +kernel
set_option maxRecDepth 100000 in
theorem xv_56 : xvm 56 = true := by decide +kernel
set_option maxRecDepth 100000 in
theorem xv_57 : xvm 57 = true := by decide +kernel
set_option maxRecDepth 100000 in
theorem xv_58 : xvm 58 = true := by decide +kernel
set_option maxRecDepth 100000 in
theorem xv_59 : xvm 59 = true := by decide +kernel
set_option maxRecDepth 100000 in
theorem xv_60 : xvm 60 = true := by decide +kernel
