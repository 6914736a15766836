/-! runs of cases -/
set_option maxRecDepth 100000 in
theorem zB6 : zrun 406 zS6 = true := by decide +kernel
set_option maxRecDepth 100000 in
theorem zB13 : zrun 637 zS13 = true := by decide +kernel
set_option maxRecDepth 100000 in
theorem zB28 : zrun 1092 zS28 = true := by decide +kernel
set_option maxRecDepth 100000 in
theorem zB38 : zrun 1342 zS38 = true := by decide +kernel
