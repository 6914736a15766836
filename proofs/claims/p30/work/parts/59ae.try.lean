/-! runs by contract -/
set_option maxRecDepth 100000 in
theorem zU256 : zrun2 256 30000 = true := by decide +kernel
set_option maxRecDepth 100000 in
theorem zU257 : zrun2 257 30000 = true := by decide +kernel
set_option maxRecDepth 100000 in
theorem zU258 : zrun2 258 30000 = true := by decide +kernel
set_option maxRecDepth 100000 in
theorem zU259 : zrun2 259 30000 = true := by decide +kernel
set_option maxRecDepth 100000 in
theorem zU260 : zrun2 260 30000 = true := by decide +kernel
set_option maxRecDepth 100000 in
theorem zU261 : zrun2 261 30000 = true := by decide +kernel
set_option maxRecDepth 100000 in
theorem zU262 : zrun2 262 30000 = true := by decide +kernel
