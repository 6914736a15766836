/-! runs of cases -/
set_option maxRecDepth 100000 in
theorem zB13 : zrun 637 zS13 = true := by decide +kernel
set_option maxRecDepth 100000 in
theorem zB14 : zrun 670 zS14 = true := by decide +kernel
set_option maxRecDepth 100000 in
theorem zB25 : zrun 1023 zS25 = true := by decide +kernel
