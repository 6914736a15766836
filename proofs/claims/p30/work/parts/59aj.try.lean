/-! runs by contract -/
set_option maxRecDepth 100000 in
theorem zU216 : zrun2 216 30000 = true := by decide +kernel
set_option maxRecDepth 100000 in
theorem zU217 : zrun2 217 30000 = true := by decide +kernel
set_option maxRecDepth 100000 in
theorem zU218 : zrun2 218 30000 = true := by decide +kernel
set_option maxRecDepth 100000 in
theorem zU219 : zrun2 219 30000 = true := by decide +kernel
set_option maxRecDepth 100000 in
theorem zU220 : zrun2 220 30000 = true := by decide +kernel
set_option maxRecDepth 100000 in
theorem zU221 : zrun2 221 30000 = true := by decide +kernel
set_option maxRecDepth 100000 in
theorem zU222 : zrun2 222 30000 = true := by decide +kernel
set_option maxRecDepth 100000 in
theorem zU223 : zrun2 223 30000 = true := by decide +kernel
set_option maxRecDepth 100000 in
theorem zU224 : zrun2 224 30000 = true := by decide +kernel
set_option maxRecDepth 100000 in
theorem zU225 : zrun2 225 30000 = true := by decide +kernel
set_option maxRecDepth 100000 in
theorem zU226 : zrun2 226 30000 = true := by decide +kernel
set_option maxRecDepth 100000 in
theorem zU227 : zrun2 227 30000 = true := by decide +kernel
set_option maxRecDepth 100000 in
theorem zU228 : zrun2 228 30000 = true := by decide +kernel
set_option maxRecDepth 100000 in
theorem zU229 : zrun2 229 30000 = true := by decide +kernel
set_option maxRecDepth 100000 in
theorem zU230 : zrun2 230 30000 = true := by decide +kernel
set_option maxRecDepth 100000 in
theorem zU231 : zrun2 231 30000 = true := by decide +kernel
set_option maxRecDepth 100000 in
theorem zU232 : zrun2 232 30000 = true := by decide +kernel
set_option maxRecDepth 100000 in
theorem zU233 : zrun2 233 30000 = true := by decide +kernel
set_option maxRecDepth 100000 in
theorem zU234 : zrun2 234 30000 = true := by decide +kernel
set_option maxRecDepth 100000 in
theorem zU235 : zrun2 235 30000 = true := by decide +kernel
set_option maxRecDepth 100000 in
theorem zU236 : zrun2 236 30000 = true := by decide +kernel
set_option maxRecDepth 100000 in
theorem zU237 : zrun2 237 30000 = true := by decide +kernel
set_option maxRecDepth 100000 in
theorem zU238 : zrun2 238 30000 = true := by decide +kernel
set_option maxRecDepth 100000 in
theorem zU239 : zrun2 239 30000 = true := by decide +kernel
