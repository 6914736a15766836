/-! runs by contract -/
set_option maxRecDepth 100000 in
theorem zU192 : zrun3 192 30000 = true := by decide +kernel
set_option maxRecDepth 100000 in
theorem zU193 : zrun3 193 30000 = true := by decide +kernel
set_option maxRecDepth 100000 in
theorem zU194 : zrun3 194 30000 = true := by decide +kernel
set_option maxRecDepth 100000 in
theorem zU195 : zrun3 195 30000 = true := by decide +kernel
set_option maxRecDepth 100000 in
theorem zU196 : zrun3 196 30000 = true := by decide +kernel
set_option maxRecDepth 100000 in
theorem zU197 : zrun3 197 30000 = true := by decide +kernel
set_option maxRecDepth 100000 in
theorem zU198 : zrun3 198 30000 = true := by decide +kernel
set_option maxRecDepth 100000 in
theorem zU199 : zrun3 199 30000 = true := by decide +kernel
set_option maxRecDepth 100000 in
theorem zU200 : zrun3 200 30000 = true := by decide +kernel
set_option maxRecDepth 100000 in
theorem zU201 : zrun3 201 30000 = true := by decide +kernel
set_option maxRecDepth 100000 in
theorem zU202 : zrun3 202 30000 = true := by decide +kernel
set_option maxRecDepth 100000 in
theorem zU203 : zrun3 203 30000 = true := by decide +kernel
set_option maxRecDepth 100000 in
theorem zU204 : zrun3 204 30000 = true := by decide +kernel
set_option maxRecDepth 100000 in
theorem zU205 : zrun3 205 30000 = true := by decide +kernel
set_option maxRecDepth 100000 in
theorem zU206 : zrun3 206 30000 = true := by decide +kernel
set_option maxRecDepth 100000 in
theorem zU207 : zrun3 207 30000 = true := by decide +kernel
set_option maxRecDepth 100000 in
theorem zU208 : zrun3 208 30000 = true := by decide +kernel
set_option maxRecDepth 100000 in
theorem zU209 : zrun3 209 30000 = true := by decide +kernel
set_option maxRecDepth 100000 in
theorem zU210 : zrun3 210 30000 = true := by decide +kernel
set_option maxRecDepth 100000 in
theorem zU211 : zrun3 211 30000 = true := by decide +kernel
set_option maxRecDepth 100000 in
theorem zU212 : zrun3 212 30000 = true := by decide +kernel
set_option maxRecDepth 100000 in
theorem zU213 : zrun3 213 30000 = true := by decide +kernel
set_option maxRecDepth 100000 in
theorem zU214 : zrun3 214 30000 = true := by decide +kernel
set_option maxRecDepth 100000 in
theorem zU215 : zrun3 215 30000 = true := by decide +kernel
