/-! runs by contract -/
set_option maxRecDepth 100000 in
theorem zU273 : zrun3 273 30000 = true := by decide +kernel
set_option maxRecDepth 100000 in
theorem zU274 : zrun3 274 30000 = true := by decide +kernel
set_option maxRecDepth 100000 in
theorem zU275 : zrun3 275 30000 = true := by decide +kernel
set_option maxRecDepth 100000 in
theorem zU276 : zrun3 276 30000 = true := by decide +kernel
set_option maxRecDepth 100000 in
theorem zU277 : zrun3 277 30000 = true := by decide +kernel
set_option maxRecDepth 100000 in
theorem zU278 : zrun3 278 30000 = true := by decide +kernel
set_option maxRecDepth 100000 in
theorem zU279 : zrun3 279 30000 = true := by decide +kernel
set_option maxRecDepth 100000 in
theorem zU280 : zrun3 280 30000 = true := by decide +kernel
set_option maxRecDepth 100000 in
theorem zU281 : zrun3 281 30000 = true := by decide +kernel
set_option maxRecDepth 100000 in
theorem zU282 : zrun3 282 30000 = true := by decide +kernel
set_option maxRecDepth 100000 in
theorem zU283 : zrun3 283 30000 = true := by decide +kernel
set_option maxRecDepth 100000 in
theorem zU284 : zrun3 284 30000 = true := by decide +kernel
set_option maxRecDepth 100000 in
theorem zU285 : zrun3 285 30000 = true := by decide +kernel
set_option maxRecDepth 100000 in
theorem zU286 : zrun3 286 30000 = true := by decide +kernel
set_option maxRecDepth 100000 in
theorem zU287 : zrun3 287 30000 = true := by decide +kernel
set_option maxRecDepth 100000 in
theorem zU288 : zrun3 288 30000 = true := by decide +kernel
set_option maxRecDepth 100000 in
theorem zU289 : zrun3 289 30000 = true := by decide +kernel
set_option maxRecDepth 100000 in
theorem zU290 : zrun3 290 30000 = true := by decide +kernel
set_option maxRecDepth 100000 in
theorem zU291 : zrun3 291 30000 = true := by decide +kernel
set_option maxRecDepth 100000 in
theorem zU292 : zrun3 292 30000 = true := by decide +kernel
set_option maxRecDepth 100000 in
theorem zU293 : zrun3 293 30000 = true := by decide +kernel
set_option maxRecDepth 100000 in
theorem zU294 : zrun3 294 30000 = true := by decide +kernel
set_option maxRecDepth 100000 in
theorem zU295 : zrun3 295 30000 = true := by decide +kernel
set_option maxRecDepth 100000 in
theorem zU296 : zrun3 296 30000 = true := by decide +kernel
