/-! runs by contract -/
set_option maxRecDepth 100000 in
theorem zU240 : zrun2 240 30000 = true := by decide +kernel
set_option maxRecDepth 100000 in
theorem zU241 : zrun2 241 30000 = true := by decide +kernel
set_option maxRecDepth 100000 in
theorem zU242 : zrun2 242 30000 = true := by decide +kernel
set_option maxRecDepth 100000 in
theorem zU243 : zrun2 243 30000 = true := by decide +kernel
set_option maxRecDepth 100000 in
theorem zU244 : zrun2 244 30000 = true := by decide +kernel
set_option maxRecDepth 100000 in
theorem zU245 : zrun2 245 30000 = true := by decide +kernel
set_option maxRecDepth 100000 in
theorem zU246 : zrun2 246 30000 = true := by decide +kernel
set_option maxRecDepth 100000 in
theorem zU247 : zrun2 247 30000 = true := by decide +kernel
set_option maxRecDepth 100000 in
theorem zU248 : zrun2 248 30000 = true := by decide +kernel
set_option maxRecDepth 100000 in
theorem zU249 : zrun2 249 30000 = true := by decide +kernel
set_option maxRecDepth 100000 in
theorem zU250 : zrun2 250 30000 = true := by decide +kernel
set_option maxRecDepth 100000 in
theorem zU251 : zrun2 251 30000 = true := by decide +kernel
set_option maxRecDepth 100000 in
theorem zU252 : zrun2 252 30000 = true := by decide +kernel
set_option maxRecDepth 100000 in
theorem zU253 : zrun2 253 30000 = true := by decide +kernel
set_option maxRecDepth 100000 in
theorem zU254 : zrun2 254 30000 = true := by decide +kernel
set_option maxRecDepth 100000 in
theorem zU255 : zrun2 255 30000 = true := by decide +kernel
set_option maxRecDepth 100000 in
theorem zU256 : zrun2 256 30000 = true := by decide +kernel
set_option maxRecDepth 100000 in
theorem zU257 : zrun2 257 30000 = true := by decide +kernel
set_option maxRecDepth 100000 in
theorem zU258 : zrun2 258 30000 = true := by decide +kernel
set_option maxRecDepth 100000 in
theorem zU259 : zrun2 259 30000 = true := by decide +kernel
set_option maxRecDepth 100000 in
theorem zU260 : zrun2 260 30000 = true := by decide +kernel
set_option maxRecDepth 100000 in
theorem zU261 : zrun2 261 30000 = true := by decide +kernel
set_option maxRecDepth 100000 in
theorem zU262 : zrun2 262 30000 = true := by decide +kernel
set_option maxRecDepth 100000 in
theorem zU263 : zrun2 263 30000 = true := by decide +kernel
