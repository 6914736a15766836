/-! runs by contract -/
set_option maxRecDepth 100000 in
theorem zU264 : zrun3 264 30000 = true := by decide +kernel
set_option maxRecDepth 100000 in
theorem zU265 : zrun3 265 30000 = true := by decide +kernel
set_option maxRecDepth 100000 in
theorem zU266 : zrun3 266 30000 = true := by decide +kernel
set_option maxRecDepth 100000 in
theorem zU267 : zrun3 267 30000 = true := by decide +kernel
set_option maxRecDepth 100000 in
theorem zU268 : zrun3 268 30000 = true := by decide +kernel
set_option maxRecDepth 100000 in
theorem zU269 : zrun3 269 30000 = true := by decide +kernel
set_option maxRecDepth 100000 in
theorem zU270 : zrun3 270 30000 = true := by decide +kernel
set_option maxRecDepth 100000 in
theorem zU271 : zrun3 271 30000 = true := by decide +kernel
set_option maxRecDepth 100000 in
theorem zU272 : zrun3 272 30000 = true := by decide +kernel
