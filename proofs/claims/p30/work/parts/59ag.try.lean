/-! runs by contract -/
set_option maxRecDepth 100000 in
theorem zU144 : zrun2 144 30000 = true := by decide +kernel
set_option maxRecDepth 100000 in
theorem zU145 : zrun2 145 30000 = true := by decide +kernel
set_option maxRecDepth 100000 in
theorem zU146 : zrun2 146 30000 = true := by decide +kernel
set_option maxRecDepth 100000 in
theorem zU147 : zrun2 147 30000 = true := by decide +kernel
set_option maxRecDepth 100000 in
theorem zU148 : zrun2 148 30000 = true := by decide +kernel
set_option maxRecDepth 100000 in
theorem zU149 : zrun2 149 30000 = true := by decide +kernel
set_option maxRecDepth 100000 in
theorem zU150 : zrun2 150 30000 = true := by decide +kernel
set_option maxRecDepth 100000 in
theorem zU151 : zrun2 151 30000 = true := by decide +kernel
set_option maxRecDepth 100000 in
theorem zU152 : zrun2 152 30000 = true := by decide +kernel
set_option maxRecDepth 100000 in
theorem zU153 : zrun2 153 30000 = true := by decide +kernel
set_option maxRecDepth 100000 in
theorem zU154 : zrun2 154 30000 = true := by decide +kernel
set_option maxRecDepth 100000 in
theorem zU155 : zrun2 155 30000 = true := by decide +kernel
set_option maxRecDepth 100000 in
theorem zU156 : zrun2 156 30000 = true := by decide +kernel
set_option maxRecDepth 100000 in
theorem zU157 : zrun2 157 30000 = true := by decide +kernel
set_option maxRecDepth 100000 in
theorem zU158 : zrun2 158 30000 = true := by decide +kernel
set_option maxRecDepth 100000 in
theorem zU159 : zrun2 159 30000 = true := by decide +kernel
set_option maxRecDepth 100000 in
theorem zU160 : zrun2 160 30000 = true := by decide +kernel
set_option maxRecDepth 100000 in
theorem zU161 : zrun2 161 30000 = true := by decide +kernel
set_option maxRecDepth 100000 in
theorem zU162 : zrun2 162 30000 = true := by decide +kernel
set_option maxRecDepth 100000 in
theorem zU163 : zrun2 163 30000 = true := by decide +kernel
set_option maxRecDepth 100000 in
theorem zU164 : zrun2 164 30000 = true := by decide +kernel
set_option maxRecDepth 100000 in
theorem zU165 : zrun2 165 30000 = true := by decide +kernel
set_option maxRecDepth 100000 in
theorem zU166 : zrun2 166 30000 = true := by decide +kernel
set_option maxRecDepth 100000 in
theorem zU167 : zrun2 167 30000 = true := by decide +kernel
