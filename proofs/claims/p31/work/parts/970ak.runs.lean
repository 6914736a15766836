/-! runs by contract -/
set_option maxRecDepth 100000 in
theorem zU240 : zrun3 240 30000 = true := by decide +kernel
set_option maxRecDepth 100000 in
theorem zU241 : zrun3 241 30000 = true := by decide +kernel
set_option maxRecDepth 100000 in
theorem zU242 : zrun3 242 30000 = true := by decide +kernel
set_option maxRecDepth 100000 in
theorem zU243 : zrun3 243 30000 = true := by decide +kernel
set_option maxRecDepth 100000 in
theorem zU244 : zrun3 244 30000 = true := by decide +kernel
set_option maxRecDepth 100000 in
theorem zU245 : zrun3 245 30000 = true := by decide +kernel
set_option maxRecDepth 100000 in
theorem zU246 : zrun3 246 30000 = true := by decide +kernel
set_option maxRecDepth 100000 in
theorem zU247 : zrun3 247 30000 = true := by decide +kernel
set_option maxRecDepth 100000 in
theorem zU248 : zrun3 248 30000 = true := by decide +kernel
set_option maxRecDepth 100000 in
theorem zU249 : zrun3 249 30000 = true := by decide +kernel
set_option maxRecDepth 100000 in
theorem zU250 : zrun3 250 30000 = true := by decide +kernel
set_option maxRecDepth 100000 in
theorem zU251 : zrun3 251 30000 = true := by decide +kernel
set_option maxRecDepth 100000 in
theorem zU252 : zrun3 252 30000 = true := by decide +kernel
set_option maxRecDepth 100000 in
theorem zU253 : zrun3 253 30000 = true := by decide +kernel
set_option maxRecDepth 100000 in
theorem zU254 : zrun3 254 30000 = true := by decide +kernel
set_option maxRecDepth 100000 in
theorem zU255 : zrun3 255 30000 = true := by decide +kernel
set_option maxRecDepth 100000 in
theorem zU256 : zrun3 256 30000 = true := by decide +kernel
set_option maxRecDepth 100000 in
theorem zU257 : zrun3 257 30000 = true := by decide +kernel
set_option maxRecDepth 100000 in
theorem zU258 : zrun3 258 30000 = true := by decide +kernel
set_option maxRecDepth 100000 in
theorem zU259 : zrun3 259 30000 = true := by decide +kernel
set_option maxRecDepth 100000 in
theorem zU260 : zrun3 260 30000 = true := by decide +kernel
set_option maxRecDepth 100000 in
theorem zU261 : zrun3 261 30000 = true := by decide +kernel
set_option maxRecDepth 100000 in
theorem zU262 : zrun3 262 30000 = true := by decide +kernel
set_option maxRecDepth 100000 in
theorem zU263 : zrun3 263 30000 = true := by decide +kernel
