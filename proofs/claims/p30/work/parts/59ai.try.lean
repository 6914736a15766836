/-! runs by contract -/
set_option maxRecDepth 100000 in
theorem zU300 : zrun2 300 30000 = true := by decide +kernel
set_option maxRecDepth 100000 in
theorem zU301 : zrun2 301 30000 = true := by decide +kernel
set_option maxRecDepth 100000 in
theorem zU302 : zrun2 302 30000 = true := by decide +kernel
set_option maxRecDepth 100000 in
theorem zU303 : zrun2 303 30000 = true := by decide +kernel
set_option maxRecDepth 100000 in
theorem zU304 : zrun2 304 30000 = true := by decide +kernel
set_option maxRecDepth 100000 in
theorem zU305 : zrun2 305 30000 = true := by decide +kernel
