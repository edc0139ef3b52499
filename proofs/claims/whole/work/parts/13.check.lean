/-! checked: methods 143 to 143 -/
set_option maxRecDepth 100000 in
theorem xv_143 : xvm 143 = true := by decide +kernel
