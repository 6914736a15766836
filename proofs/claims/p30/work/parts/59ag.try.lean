/-! runs by contract -/
set_option maxRecDepth 100000 in
theorem zU271 : zrun2 271 30000 = true := by decide +kernel
set_option maxRecDepth 100000 in
theorem zU272 : zrun2 272 30000 = true := by decide +kernel
set_option maxRecDepth 100000 in
theorem zU273 : zrun2 273 30000 = true := by decide +kernel
set_option maxRecDepth 100000 in
theorem zU274 : zrun2 274 30000 = true := by decide +kernel
set_option maxRecDepth 100000 in
theorem zU275 : zrun2 275 30000 = true := by decide +kernel
set_option maxRecDepth 100000 in
theorem zU276 : zrun2 276 30000 = true := by decide +kernel
set_option maxRecDepth 100000 in
theorem zU277 : zrun2 277 30000 = true := by decide +kernel
set_option maxRecDepth 100000 in
theorem zU278 : zrun2 278 30000 = true := by decide +kernel
