/-! runs by contract -/
set_option maxRecDepth 100000 in
theorem zU144 : zrun3 144 30000 = true := by decide +kernel
set_option maxRecDepth 100000 in
theorem zU145 : zrun3 145 30000 = true := by decide +kernel
set_option maxRecDepth 100000 in
theorem zU146 : zrun3 146 30000 = true := by decide +kernel
set_option maxRecDepth 100000 in
theorem zU147 : zrun3 147 30000 = true := by decide +kernel
set_option maxRecDepth 100000 in
theorem zU148 : zrun3 148 30000 = true := by decide +kernel
set_option maxRecDepth 100000 in
theorem zU149 : zrun3 149 30000 = true := by decide +kernel
set_option maxRecDepth 100000 in
theorem zU150 : zrun3 150 30000 = true := by decide +kernel
set_option maxRecDepth 100000 in
theorem zU151 : zrun3 151 30000 = true := by decide +kernel
set_option maxRecDepth 100000 in
theorem zU152 : zrun3 152 30000 = true := by decide +kernel
set_option maxRecDepth 100000 in
theorem zU153 : zrun3 153 30000 = true := by decide +kernel
set_option maxRecDepth 100000 in
theorem zU154 : zrun3 154 30000 = true := by decide +kernel
set_option maxRecDepth 100000 in
theorem zU155 : zrun3 155 30000 = true := by decide +kernel
set_option maxRecDepth 100000 in
theorem zU156 : zrun3 156 30000 = true := by decide +kernel
set_option maxRecDepth 100000 in
theorem zU157 : zrun3 157 30000 = true := by decide +kernel
set_option maxRecDepth 100000 in
theorem zU158 : zrun3 158 30000 = true := by decide +kernel
set_option maxRecDepth 100000 in
theorem zU159 : zrun3 159 30000 = true := by decide +kernel
set_option maxRecDepth 100000 in
theorem zU160 : zrun3 160 30000 = true := by decide +kernel
set_option maxRecDepth 100000 in
theorem zU161 : zrun3 161 30000 = true := by decide +kernel
set_option maxRecDepth 100000 in
theorem zU162 : zrun3 162 30000 = true := by decide +kernel
set_option maxRecDepth 100000 in
theorem zU163 : zrun3 163 30000 = true := by decide +kernel
set_option maxRecDepth 100000 in
theorem zU164 : zrun3 164 30000 = true := by decide +kernel
set_option maxRecDepth 100000 in
theorem zU165 : zrun3 165 30000 = true := by decide +kernel
set_option maxRecDepth 100000 in
theorem zU166 : zrun3 166 30000 = true := by decide +kernel
set_option maxRecDepth 100000 in
theorem zU167 : zrun3 167 30000 = true := by decide +kernel
