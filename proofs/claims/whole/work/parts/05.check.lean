/-! checked: methods 0 to 26 -/
set_option maxRecDepth 100000 in
theorem xv_0 : xvm 0 = true := by decide +kernel
set_option maxRecDepth 100000 in
theorem xv_1 : xvm 1 = true := by decide +kernel
set_option maxRecDepth 100000 in
theorem xv_2 : xvm 2 = true := by decide +kernel
set_option maxRecDepth 100000 in
theorem xv_3 : xvm 3 = true := by decide +kernel
set_option maxRecDepth 100000 in
theorem xv_4 : xvm 4 = true := by decide +kernel
set_option maxRecDepth 100000 in
theorem xv_5 : xvm 5 = true := by decide +kernel
set_option maxRecDepth 100000 in
theorem xv_6 : xvm 6 = true := by decide +kernel
set_option maxRecDepth 100000 in
theorem xv_7 : xvm 7 = true := by decide +kernel
set_option maxRecDepth 100000 in
theorem xv_8 : xvm 8 = true := by decide +kernel
set_option maxRecDepth 100000 in
theorem xv_9 : xvm 9 = true := by decide +kernel
set_option maxRecDepth 100000 in
theorem xv_10 : xvm 10 = true := by decide +kernel
set_option maxRecDepth 100000 in
theorem xv_11 : xvm 11 = true := by decide +kernel
set_option maxRecDepth 100000 in
theorem xv_12 : xvm 12 = true := by decide +kernel
set_option maxRecDepth 100000 in
theorem xv_13 : xvm 13 = true := by decide +kernel
set_option maxRecDepth 100000 in
theorem xv_14 : xvm 14 = true := by decide +kernel
set_option maxRecDepth 100000 in
theorem xv_15 : xvm 15 = true := by decide +kernel
set_option maxRecDepth 100000 in
theorem xv_16 : xvm 16 = true := by decide +kernel
set_option maxRecDepth 100000 in
theorem xv_17 : xvm 17 = true := by decide +kernel
set_option maxRecDepth 100000 in
theorem xv_18 : xvm 18 = true := by decide +kernel
set_option maxRecDepth 100000 in
theorem xv_19 : xvm 19 = true := by decide +kernel
set_option maxRecDepth 100000 in
theorem xv_20 : xvm 20 = true := by decide +kernel
set_option maxRecDepth 100000 in
theorem xv_21 : xvm 21 = true := by decide +kernel
set_option maxRecDepth 100000 in
theorem xv_22 : xvm 22 = true := by decide +kernel
set_option maxRecDepth 100000 in
theorem xv_23 : xvm 23 = true := by decide +kernel
set_option maxRecDepth 100000 in
theorem xv_24 : xvm 24 = true := by decide +kernel
set_option maxRecDepth 100000 in
theorem xv_25 : xvm 25 = true := by decide +kernel
set_option maxRecDepth 100000 in
theorem xv_26 : xvm 26 = true := by decide +kernel
