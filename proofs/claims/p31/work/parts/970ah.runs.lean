/-! runs by contract -/
set_option maxRecDepth 100000 in
theorem zU168 : zrun3 168 30000 = true := by decide +kernel
set_option maxRecDepth 100000 in
theorem zU169 : zrun3 169 30000 = true := by decide +kernel
set_option maxRecDepth 100000 in
theorem zU170 : zrun3 170 30000 = true := by decide +kernel
set_option maxRecDepth 100000 in
theorem zU171 : zrun3 171 30000 = true := by decide +kernel
set_option maxRecDepth 100000 in
theorem zU172 : zrun3 172 30000 = true := by decide +kernel
set_option maxRecDepth 100000 in
theorem zU173 : zrun3 173 30000 = true := by decide +kernel
set_option maxRecDepth 100000 in
theorem zU174 : zrun3 174 30000 = true := by decide +kernel
set_option maxRecDepth 100000 in
theorem zU175 : zrun3 175 30000 = true := by decide +kernel
set_option maxRecDepth 100000 in
theorem zU176 : zrun3 176 30000 = true := by decide +kernel
set_option maxRecDepth 100000 in
theorem zU177 : zrun3 177 30000 = true := by decide +kernel
set_option maxRecDepth 100000 in
theorem zU178 : zrun3 178 30000 = true := by decide +kernel
set_option maxRecDepth 100000 in
theorem zU179 : zrun3 179 30000 = true := by decide +kernel
set_option maxRecDepth 100000 in
theorem zU180 : zrun3 180 30000 = true := by decide +kernel
set_option maxRecDepth 100000 in
theorem zU181 : zrun3 181 30000 = true := by decide +kernel
set_option maxRecDepth 100000 in
theorem zU182 : zrun3 182 30000 = true := by decide +kernel
set_option maxRecDepth 100000 in
theorem zU183 : zrun3 183 30000 = true := by decide +kernel
set_option maxRecDepth 100000 in
theorem zU184 : zrun3 184 30000 = true := by decide +kernel
set_option maxRecDepth 100000 in
theorem zU185 : zrun3 185 30000 = true := by decide +kernel
set_option maxRecDepth 100000 in
theorem zU186 : zrun3 186 30000 = true := by decide +kernel
set_option maxRecDepth 100000 in
theorem zU187 : zrun3 187 30000 = true := by decide +kernel
set_option maxRecDepth 100000 in
theorem zU188 : zrun3 188 30000 = true := by decide +kernel
set_option maxRecDepth 100000 in
theorem zU189 : zrun3 189 30000 = true := by decide +kernel
set_option maxRecDepth 100000 in
theorem zU190 : zrun3 190 30000 = true := by decide +kernel
set_option maxRecDepth 100000 in
theorem zU191 : zrun3 191 30000 = true := by decide +kernel
