/-! runs by contract -/
set_option maxRecDepth 100000 in
theorem zU497 : zrun2 497 30000 = true := by decide +kernel
set_option maxRecDepth 100000 in
theorem zU499 : zrun2 499 30000 = true := by decide +kernel
set_option maxRecDepth 100000 in
theorem zU500 : zrun2 500 30000 = true := by decide +kernel
