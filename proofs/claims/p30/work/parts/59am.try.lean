/-! runs by contract -/
set_option maxRecDepth 100000 in
theorem zU273 : zrun2 273 30000 = true := by decide +kernel
set_option maxRecDepth 100000 in
theorem zU274 : zrun2 274 30000 = true := by decide +kernel
set_option maxRecDepth 100000 in
theorem zU275 : zrun2 275 30000 = true := by decide +kernel
set_option maxRecDepth 100000 in
theorem zU276 : zrun2 276 30000 = true := by decide +kernel
set_option maxRecDepth 100000 in
theorem zU277 : zrun2 277 30000 = true := by decide +kernel
set_option maxRecDepth 100000 in
theorem zU278 : zrun2 278 30000 = true := by decide +kernel
set_option maxRecDepth 100000 in
theorem zU279 : zrun2 279 30000 = true := by decide +kernel
set_option maxRecDepth 100000 in
theorem zU280 : zrun2 280 30000 = true := by decide +kernel
set_option maxRecDepth 100000 in
theorem zU281 : zrun2 281 30000 = true := by decide +kernel
set_option maxRecDepth 100000 in
theorem zU282 : zrun2 282 30000 = true := by decide +kernel
set_option maxRecDepth 100000 in
theorem zU283 : zrun2 283 30000 = true := by decide +kernel
set_option maxRecDepth 100000 in
theorem zU284 : zrun2 284 30000 = true := by decide +kernel
set_option maxRecDepth 100000 in
theorem zU285 : zrun2 285 30000 = true := by decide +kernel
set_option maxRecDepth 100000 in
theorem zU286 : zrun2 286 30000 = true := by decide +kernel
set_option maxRecDepth 100000 in
theorem zU287 : zrun2 287 30000 = true := by decide +kernel
set_option maxRecDepth 100000 in
theorem zU288 : zrun2 288 30000 = true := by decide +kernel
set_option maxRecDepth 100000 in
theorem zU289 : zrun2 289 30000 = true := by decide +kernel
set_option maxRecDepth 100000 in
theorem zU290 : zrun2 290 30000 = true := by decide +kernel
set_option maxRecDepth 100000 in
theorem zU291 : zrun2 291 30000 = true := by decide +kernel
set_option maxRecDepth 100000 in
theorem zU292 : zrun2 292 30000 = true := by decide +kernel
set_option maxRecDepth 100000 in
theorem zU293 : zrun2 293 30000 = true := by decide +kernel
set_option maxRecDepth 100000 in
theorem zU294 : zrun2 294 30000 = true := by decide +kernel
set_option maxRecDepth 100000 in
theorem zU295 : zrun2 295 30000 = true := by decide +kernel
set_option maxRecDepth 100000 in
theorem zU296 : zrun2 296 30000 = true := by decide +kernel
