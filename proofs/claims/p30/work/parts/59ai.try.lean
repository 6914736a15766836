/-! runs by contract -/
set_option maxRecDepth 100000 in
theorem zU192 : zrun2 192 30000 = true := by decide +kernel
set_option maxRecDepth 100000 in
theorem zU193 : zrun2 193 30000 = true := by decide +kernel
set_option maxRecDepth 100000 in
theorem zU194 : zrun2 194 30000 = true := by decide +kernel
set_option maxRecDepth 100000 in
theorem zU195 : zrun2 195 30000 = true := by decide +kernel
set_option maxRecDepth 100000 in
theorem zU196 : zrun2 196 30000 = true := by decide +kernel
set_option maxRecDepth 100000 in
theorem zU197 : zrun2 197 30000 = true := by decide +kernel
set_option maxRecDepth 100000 in
theorem zU198 : zrun2 198 30000 = true := by decide +kernel
set_option maxRecDepth 100000 in
theorem zU199 : zrun2 199 30000 = true := by decide +kernel
set_option maxRecDepth 100000 in
theorem zU200 : zrun2 200 30000 = true := by decide +kernel
set_option maxRecDepth 100000 in
theorem zU201 : zrun2 201 30000 = true := by decide +kernel
set_option maxRecDepth 100000 in
theorem zU202 : zrun2 202 30000 = true := by decide +kernel
set_option maxRecDepth 100000 in
theorem zU203 : zrun2 203 30000 = true := by decide +kernel
set_option maxRecDepth 100000 in
theorem zU204 : zrun2 204 30000 = true := by decide +kernel
set_option maxRecDepth 100000 in
theorem zU205 : zrun2 205 30000 = true := by decide +kernel
set_option maxRecDepth 100000 in
theorem zU206 : zrun2 206 30000 = true := by decide +kernel
set_option maxRecDepth 100000 in
theorem zU207 : zrun2 207 30000 = true := by decide +kernel
set_option maxRecDepth 100000 in
theorem zU208 : zrun2 208 30000 = true := by decide +kernel
set_option maxRecDepth 100000 in
theorem zU209 : zrun2 209 30000 = true := by decide +kernel
set_option maxRecDepth 100000 in
theorem zU210 : zrun2 210 30000 = true := by decide +kernel
set_option maxRecDepth 100000 in
theorem zU211 : zrun2 211 30000 = true := by decide +kernel
set_option maxRecDepth 100000 in
theorem zU212 : zrun2 212 30000 = true := by decide +kernel
set_option maxRecDepth 100000 in
theorem zU213 : zrun2 213 30000 = true := by decide +kernel
set_option maxRecDepth 100000 in
theorem zU214 : zrun2 214 30000 = true := by decide +kernel
set_option maxRecDepth 100000 in
theorem zU215 : zrun2 215 30000 = true := by decide +kernel
