/-! runs by contract -/
set_option maxRecDepth 100000 in
theorem zU128 : zrun2 128 30000 = true := by decide +kernel
set_option maxRecDepth 100000 in
theorem zU129 : zrun2 129 30000 = true := by decide +kernel
set_option maxRecDepth 100000 in
theorem zU130 : zrun2 130 30000 = true := by decide +kernel
set_option maxRecDepth 100000 in
theorem zU131 : zrun2 131 30000 = true := by decide +kernel
set_option maxRecDepth 100000 in
theorem zU132 : zrun2 132 30000 = true := by decide +kernel
set_option maxRecDepth 100000 in
theorem zU133 : zrun2 133 30000 = true := by decide +kernel
set_option maxRecDepth 100000 in
theorem zU134 : zrun2 134 30000 = true := by decide +kernel
set_option maxRecDepth 100000 in
theorem zU135 : zrun2 135 30000 = true := by decide +kernel
set_option maxRecDepth 100000 in
theorem zU136 : zrun2 136 30000 = true := by decide +kernel
set_option maxRecDepth 100000 in
theorem zU137 : zrun2 137 30000 = true := by decide +kernel
set_option maxRecDepth 100000 in
theorem zU138 : zrun2 138 30000 = true := by decide +kernel
set_option maxRecDepth 100000 in
theorem zU139 : zrun2 139 30000 = true := by decide +kernel
set_option maxRecDepth 100000 in
theorem zU140 : zrun2 140 30000 = true := by decide +kernel
set_option maxRecDepth 100000 in
theorem zU141 : zrun2 141 30000 = true := by decide +kernel
set_option maxRecDepth 100000 in
theorem zU142 : zrun2 142 30000 = true := by decide +kernel
set_option maxRecDepth 100000 in
theorem zU143 : zrun2 143 30000 = true := by decide +kernel
set_option maxRecDepth 100000 in
theorem zU144 : zrun2 144 30000 = true := by decide +kernel
set_option maxRecDepth 100000 in
theorem zU145 : zrun2 145 30000 = true := by decide +kernel
set_option maxRecDepth 100000 in
theorem zU146 : zrun2 146 30000 = true := by decide +kernel
set_option maxRecDepth 100000 in
theorem zU147 : zrun2 147 30000 = true := by decide +kernel
set_option maxRecDepth 100000 in
theorem zU148 : zrun2 148 30000 = true := by decide +kernel
set_option maxRecDepth 100000 in
theorem zU149 : zrun2 149 30000 = true := by decide +kernel
set_option maxRecDepth 100000 in
theorem zU150 : zrun2 150 30000 = true := by decide +kernel
set_option maxRecDepth 100000 in
theorem zU151 : zrun2 151 30000 = true := by decide +kernel
set_option maxRecDepth 100000 in
theorem zU152 : zrun2 152 30000 = true := by decide +kernel
set_option maxRecDepth 100000 in
theorem zU153 : zrun2 153 30000 = true := by decide +kernel
set_option maxRecDepth 100000 in
theorem zU154 : zrun2 154 30000 = true := by decide +kernel
set_option maxRecDepth 100000 in
theorem zU155 : zrun2 155 30000 = true := by decide +kernel
set_option maxRecDepth 100000 in
theorem zU156 : zrun2 156 30000 = true := by decide +kernel
set_option maxRecDepth 100000 in
theorem zU157 : zrun2 157 30000 = true := by decide +kernel
set_option maxRecDepth 100000 in
theorem zU158 : zrun2 158 30000 = true := by decide +kernel
set_option maxRecDepth 100000 in
theorem zU159 : zrun2 159 30000 = true := by decide +kernel
set_option maxRecDepth 100000 in
theorem zU160 : zrun2 160 30000 = true := by decide +kernel
set_option maxRecDepth 100000 in
theorem zU161 : zrun2 161 30000 = true := by decide +kernel
set_option maxRecDepth 100000 in
theorem zU162 : zrun2 162 30000 = true := by decide +kernel
set_option maxRecDepth 100000 in
theorem zU163 : zrun2 163 30000 = true := by decide +kernel
set_option maxRecDepth 100000 in
theorem zU164 : zrun2 164 30000 = true := by decide +kernel
set_option maxRecDepth 100000 in
theorem zU165 : zrun2 165 30000 = true := by decide +kernel
set_option maxRecDepth 100000 in
theorem zU166 : zrun2 166 30000 = true := by decide +kernel
set_option maxRecDepth 100000 in
theorem zU167 : zrun2 167 30000 = true := by decide +kernel
set_option maxRecDepth 100000 in
theorem zU168 : zrun2 168 30000 = true := by decide +kernel
set_option maxRecDepth 100000 in
theorem zU169 : zrun2 169 30000 = true := by decide +kernel
set_option maxRecDepth 100000 in
theorem zU170 : zrun2 170 30000 = true := by decide +kernel
set_option maxRecDepth 100000 in
theorem zU171 : zrun2 171 30000 = true := by decide +kernel
set_option maxRecDepth 100000 in
theorem zU172 : zrun2 172 30000 = true := by decide +kernel
set_option maxRecDepth 100000 in
theorem zU173 : zrun2 173 30000 = true := by decide +kernel
set_option maxRecDepth 100000 in
theorem zU174 : zrun2 174 30000 = true := by decide +kernel
set_option maxRecDepth 100000 in
theorem zU175 : zrun2 175 30000 = true := by decide +kernel
set_option maxRecDepth 100000 in
theorem zU176 : zrun2 176 30000 = true := by decide +kernel
set_option maxRecDepth 100000 in
theorem zU177 : zrun2 177 30000 = true := by decide +kernel
set_option maxRecDepth 100000 in
theorem zU178 : zrun2 178 30000 = true := by decide +kernel
set_option maxRecDepth 100000 in
theorem zU179 : zrun2 179 30000 = true := by decide +kernel
set_option maxRecDepth 100000 in
theorem zU180 : zrun2 180 30000 = true := by decide +kernel
set_option maxRecDepth 100000 in
theorem zU181 : zrun2 181 30000 = true := by decide +kernel
set_option maxRecDepth 100000 in
theorem zU182 : zrun2 182 30000 = true := by decide +kernel
set_option maxRecDepth 100000 in
theorem zU183 : zrun2 183 30000 = true := by decide +kernel
set_option maxRecDepth 100000 in
theorem zU184 : zrun2 184 30000 = true := by decide +kernel
set_option maxRecDepth 100000 in
theorem zU185 : zrun2 185 30000 = true := by decide +kernel
set_option maxRecDepth 100000 in
theorem zU186 : zrun2 186 30000 = true := by decide +kernel
set_option maxRecDepth 100000 in
theorem zU187 : zrun2 187 30000 = true := by decide +kernel
set_option maxRecDepth 100000 in
theorem zU188 : zrun2 188 30000 = true := by decide +kernel
set_option maxRecDepth 100000 in
theorem zU189 : zrun2 189 30000 = true := by decide +kernel
set_option maxRecDepth 100000 in
theorem zU190 : zrun2 190 30000 = true := by decide +kernel
set_option maxRecDepth 100000 in
theorem zU191 : zrun2 191 30000 = true := by decide +kernel
