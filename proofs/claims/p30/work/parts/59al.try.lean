/-! runs by contract -/
set_option maxRecDepth 100000 in
theorem zU264 : zrun2 264 30000 = true := by decide +kernel
set_option maxRecDepth 100000 in
theorem zU265 : zrun2 265 30000 = true := by decide +kernel
set_option maxRecDepth 100000 in
theorem zU266 : zrun2 266 30000 = true := by decide +kernel
set_option maxRecDepth 100000 in
theorem zU267 : zrun2 267 30000 = true := by decide +kernel
set_option maxRecDepth 100000 in
theorem zU268 : zrun2 268 30000 = true := by decide +kernel
set_option maxRecDepth 100000 in
theorem zU269 : zrun2 269 30000 = true := by decide +kernel
set_option maxRecDepth 100000 in
theorem zU270 : zrun2 270 30000 = true := by decide +kernel
set_option maxRecDepth 100000 in
theorem zU271 : zrun2 271 30000 = true := by decide +kernel
set_option maxRecDepth 100000 in
theorem zU272 : zrun2 272 30000 = true := by decide +kernel
