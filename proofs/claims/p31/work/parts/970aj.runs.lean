/-! runs by contract -/
set_option maxRecDepth 100000 in
theorem zU216 : zrun3 216 30000 = true := by decide +kernel
set_option maxRecDepth 100000 in
theorem zU217 : zrun3 217 30000 = true := by decide +kernel
set_option maxRecDepth 100000 in
theorem zU218 : zrun3 218 30000 = true := by decide +kernel
set_option maxRecDepth 100000 in
theorem zU219 : zrun3 219 30000 = true := by decide +kernel
set_option maxRecDepth 100000 in
theorem zU220 : zrun3 220 30000 = true := by decide +kernel
set_option maxRecDepth 100000 in
theorem zU221 : zrun3 221 30000 = true := by decide +kernel
set_option maxRecDepth 100000 in
theorem zU222 : zrun3 222 30000 = true := by decide +kernel
set_option maxRecDepth 100000 in
theorem zU223 : zrun3 223 30000 = true := by decide +kernel
set_option maxRecDepth 100000 in
theorem zU224 : zrun3 224 30000 = true := by decide +kernel
set_option maxRecDepth 100000 in
theorem zU225 : zrun3 225 30000 = true := by decide +kernel
set_option maxRecDepth 100000 in
theorem zU226 : zrun3 226 30000 = true := by decide +kernel
set_option maxRecDepth 100000 in
theorem zU227 : zrun3 227 30000 = true := by decide +kernel
set_option maxRecDepth 100000 in
theorem zU228 : zrun3 228 30000 = true := by decide +kernel
set_option maxRecDepth 100000 in
theorem zU229 : zrun3 229 30000 = true := by decide +kernel
set_option maxRecDepth 100000 in
theorem zU230 : zrun3 230 30000 = true := by decide +kernel
set_option maxRecDepth 100000 in
theorem zU231 : zrun3 231 30000 = true := by decide +kernel
set_option maxRecDepth 100000 in
theorem zU232 : zrun3 232 30000 = true := by decide +kernel
set_option maxRecDepth 100000 in
theorem zU233 : zrun3 233 30000 = true := by decide +kernel
set_option maxRecDepth 100000 in
theorem zU234 : zrun3 234 30000 = true := by decide +kernel
set_option maxRecDepth 100000 in
theorem zU235 : zrun3 235 30000 = true := by decide +kernel
set_option maxRecDepth 100000 in
theorem zU236 : zrun3 236 30000 = true := by decide +kernel
set_option maxRecDepth 100000 in
theorem zU237 : zrun3 237 30000 = true := by decide +kernel
set_option maxRecDepth 100000 in
theorem zU238 : zrun3 238 30000 = true := by decide +kernel
set_option maxRecDepth 100000 in
theorem zU239 : zrun3 239 30000 = true := by decide +kernel
