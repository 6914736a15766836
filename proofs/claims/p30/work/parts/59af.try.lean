/-! runs by contract -/
set_option maxRecDepth 100000 in
theorem zU200 : zrun2 200 30000 = true := by decide +kernel
set_option maxRecDepth 100000 in
theorem zU201 : zrun2 201 30000 = true := by decide +kernel
set_option maxRecDepth 100000 in
theorem zU202 : zrun2 202 30000 = true := by decide +kernel
set_option maxRecDepth 100000 in
theorem zU203 : zrun2 203 30000 = true := by decide +kernel
set_option maxRecDepth 100000 in
theorem zU204 : zrun2 204 30000 = true := by decide +kernel
set_option maxRecDepth 100000 in
theorem zU205 : zrun2 205 30000 = true := by decide +kernel
set_option maxRecDepth 100000 in
theorem zU206 : zrun2 206 30000 = true := by decide +kernel
set_option maxRecDepth 100000 in
theorem zU207 : zrun2 207 30000 = true := by decide +kernel
set_option maxRecDepth 100000 in
theorem zU208 : zrun2 208 30000 = true := by decide +kernel
set_option maxRecDepth 100000 in
theorem zU209 : zrun2 209 30000 = true := by decide +kernel
set_option maxRecDepth 100000 in
theorem zU210 : zrun2 210 30000 = true := by decide +kernel
set_option maxRecDepth 100000 in
theorem zU211 : zrun2 211 30000 = true := by decide +kernel
set_option maxRecDepth 100000 in
theorem zU212 : zrun2 212 30000 = true := by decide +kernel
set_option maxRecDepth 100000 in
theorem zU213 : zrun2 213 30000 = true := by decide +kernel
set_option maxRecDepth 100000 in
theorem zU214 : zrun2 214 30000 = true := by decide +kernel
set_option maxRecDepth 100000 in
theorem zU215 : zrun2 215 30000 = true := by decide +kernel
set_option maxRecDepth 100000 in
theorem zU216 : zrun2 216 30000 = true := by decide +kernel
set_option maxRecDepth 100000 in
theorem zU217 : zrun2 217 30000 = true := by decide +kernel
set_option maxRecDepth 100000 in
theorem zU218 : zrun2 218 30000 = true := by decide +kernel
set_option maxRecDepth 100000 in
theorem zU219 : zrun2 219 30000 = true := by decide +kernel
set_option maxRecDepth 100000 in
theorem zU220 : zrun2 220 30000 = true := by decide +kernel
set_option maxRecDepth 100000 in
theorem zU221 : zrun2 221 30000 = true := by decide +kernel
set_option maxRecDepth 100000 in
theorem zU222 : zrun2 222 30000 = true := by decide +kernel
set_option maxRecDepth 100000 in
theorem zU223 : zrun2 223 30000 = true := by decide +kernel
set_option maxRecDepth 100000 in
theorem zU224 : zrun2 224 30000 = true := by decide +kernel
set_option maxRecDepth 100000 in
theorem zU225 : zrun2 225 30000 = true := by decide +kernel
set_option maxRecDepth 100000 in
theorem zU226 : zrun2 226 30000 = true := by decide +kernel
set_option maxRecDepth 100000 in
theorem zU227 : zrun2 227 30000 = true := by decide +kernel
set_option maxRecDepth 100000 in
theorem zU228 : zrun2 228 30000 = true := by decide +kernel
set_option maxRecDepth 100000 in
theorem zU229 : zrun2 229 30000 = true := by decide +kernel
set_option maxRecDepth 100000 in
theorem zU230 : zrun2 230 30000 = true := by decide +kernel
set_option maxRecDepth 100000 in
theorem zU231 : zrun2 231 30000 = true := by decide +kernel
set_option maxRecDepth 100000 in
theorem zU232 : zrun2 232 30000 = true := by decide +kernel
set_option maxRecDepth 100000 in
theorem zU233 : zrun2 233 30000 = true := by decide +kernel
set_option maxRecDepth 100000 in
theorem zU234 : zrun2 234 30000 = true := by decide +kernel
set_option maxRecDepth 100000 in
theorem zU235 : zrun2 235 30000 = true := by decide +kernel
set_option maxRecDepth 100000 in
theorem zU236 : zrun2 236 30000 = true := by decide +kernel
set_option maxRecDepth 100000 in
theorem zU237 : zrun2 237 30000 = true := by decide +kernel
set_option maxRecDepth 100000 in
theorem zU238 : zrun2 238 30000 = true := by decide +kernel
set_option maxRecDepth 100000 in
theorem zU239 : zrun2 239 30000 = true := by decide +kernel
