/-! checked: methods 61 to 91 -/
set_option maxRecDepth 100000 in
theorem xv_61 : xvm 61 = true := by decide +kernel
set_option maxRecDepth 100000 in
theorem xv_62 : xvm 62 = true := by decide +kernel
set_option maxRecDepth 100000 in
theorem xv_63 : xvm 63 = true := by decide +kernel
set_option maxRecDepth 100000 in
theorem xv_64 : xvm 64 = true := by decide +kernel
set_option maxRecDepth 100000 in
theorem xv_65 : xvm 65 = true := by decide +kernel
set_option maxRecDepth 100000 in
theorem xv_66 : xvm 66 = true := by decide +kernel
set_option maxRecDepth 100000 in
theorem xv_67 : xvm 67 = true := by decide +kernel
set_option maxRecDepth 100000 in
theorem xv_68 : xvm 68 = true := by decide +kernel
set_option maxRecDepth 100000 in
theorem xv_69 : xvm 69 = true := by decide +kernel
set_option maxRecDepth 100000 in
theorem xv_70 : xvm 70 = true := by decide +kernel
set_option maxRecDepth 100000 in
theorem xv_71 : xvm 71 = true := by decide +kernel
set_option maxRecDepth 100000 in
theorem xv_72 : xvm 72 = true := by decide +kernel
set_option maxRecDepth 100000 in
theorem xv_73 : xvm 73 = true := by decide +kernel
set_option maxRecDepth 100000 in
theorem xv_74 : xvm 74 = true := by decide +kernel
set_option maxRecDepth 100000 in
theorem xv_75 : xvm 75 = true := by decide +kernel
set_option maxRecDepth 100000 in
theorem xv_76 : xvm 76 = true := by decide +kernel
set_option maxRecDepth 100000 in
theorem xv_77 : xvm 77 = true := by decide +kernel
set_option maxRecDepth 100000 in
theorem xv_78 : xvm 78 = true := by decide +kernel
set_option maxRecDepth 100000 in
theorem xv_79 : xvm 79 = true := by decide +kernel
set_option maxRecDepth 100000 in
theorem xv_80 : xvm 80 = true := by decide +kernel
set_option maxRecDepth 100000 in
theorem xv_81 : xvm 81 = true := by decide +kernel
set_option maxRecDepth 100000 in
theorem xv_82 : xvm 82 = true := by decide +kernel
set_option maxRecDepth 100000 in
theorem xv_83 : xvm 83 = true := by decide +kernel
set_option maxRecDepth 100000 in
theorem xv_84 : xvm 84 = true := by decide +kernel
set_option maxRecDepth 100000 in
theorem xv_85 : xvm 85 = true := by decide +kernel
set_option maxRecDepth 100000 in
theorem xv_86 : xvm 86 = true := by decide +kernel
set_option maxRecDepth 100000 in
theorem xv_87 : xvm 87 = true := by decide +kernel
set_option maxRecDepth 100000 in
theorem xv_88 : xvm 88 = true := by decide +kernel
set_option maxRecDepth 100000 in
theorem xv_89 : xvm 89 = true := by decide +kernel
set_option maxRecDepth 100000 in
theorem xv_90 : xvm 90 = true := by decide +kernel
set_option maxRecDepth 100000 in
theorem xv_91 : xvm 91 = true := by decide +kernel
