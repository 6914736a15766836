/-! runs by contract -/
set_option maxRecDepth 100000 in
theorem zU168 : zrun2 168 30000 = true := by decide +kernel
set_option maxRecDepth 100000 in
theorem zU169 : zrun2 169 30000 = true := by decide +kernel
set_option maxRecDepth 100000 in
theorem zU170 : zrun2 170 30000 = true := by decide +kernel
set_option maxRecDepth 100000 in
theorem zU171 : zrun2 171 30000 = true := by decide +kernel
set_option maxRecDepth 100000 in
theorem zU172 : zrun2 172 30000 = true := by decide +kernel
set_option maxRecDepth 100000 in
theorem zU173 : zrun2 173 30000 = true := by decide +kernel
set_option maxRecDepth 100000 in
theorem zU174 : zrun2 174 30000 = true := by decide +kernel
set_option maxRecDepth 100000 in
theorem zU175 : zrun2 175 30000 = true := by decide +kernel
set_option maxRecDepth 100000 in
theorem zU176 : zrun2 176 30000 = true := by decide +kernel
set_option maxRecDepth 100000 in
theorem zU177 : zrun2 177 30000 = true := by decide +kernel
set_option maxRecDepth 100000 in
theorem zU178 : zrun2 178 30000 = true := by decide +kernel
set_option maxRecDepth 100000 in
theorem zU179 : zrun2 179 30000 = true := by decide +kernel
set_option maxRecDepth 100000 in
theorem zU180 : zrun2 180 30000 = true := by decide +kernel
set_option maxRecDepth 100000 in
theorem zU181 : zrun2 181 30000 = true := by decide +kernel
set_option maxRecDepth 100000 in
theorem zU182 : zrun2 182 30000 = true := by decide +kernel
set_option maxRecDepth 100000 in
theorem zU183 : zrun2 183 30000 = true := by decide +kernel
set_option maxRecDepth 100000 in
theorem zU184 : zrun2 184 30000 = true := by decide +kernel
set_option maxRecDepth 100000 in
theorem zU185 : zrun2 185 30000 = true := by decide +kernel
set_option maxRecDepth 100000 in
theorem zU186 : zrun2 186 30000 = true := by decide +kernel
set_option maxRecDepth 100000 in
theorem zU187 : zrun2 187 30000 = true := by decide +kernel
set_option maxRecDepth 100000 in
theorem zU188 : zrun2 188 30000 = true := by decide +kernel
set_option maxRecDepth 100000 in
theorem zU189 : zrun2 189 30000 = true := by decide +kernel
set_option maxRecDepth 100000 in
theorem zU190 : zrun2 190 30000 = true := by decide +kernel
set_option maxRecDepth 100000 in
theorem zU191 : zrun2 191 30000 = true := by decide +kernel
