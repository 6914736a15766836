/-! the methods' codes, decoded -/
set_option maxRecDepth 100000 in
theorem zDe190 : zkDe prog_14_method_118_code zRw190 = true := by decide +kernel
set_option maxRecDepth 100000 in
theorem zDe191 : zkDe prog_14_method_117_code zRw191 = true := by decide +kernel
set_option maxRecDepth 100000 in
theorem zDe192 : zkDe prog_14_method_122_code zRw192 = true := by decide +kernel
set_option maxRecDepth 100000 in
theorem zDe193 : zkDe prog_14_method_123_code zRw193 = true := by decide +kernel
set_option maxRecDepth 100000 in
theorem zDe194 : zkDe prog_14_method_125_code zRw194 = true := by decide +kernel
set_option maxRecDepth 100000 in
theorem zDe195 : zkDe prog_14_method_124_code zRw195 = true := by decide +kernel
set_option maxRecDepth 100000 in
theorem zDe196 : zkDe prog_14_method_126_code zRw196 = true := by decide +kernel
set_option maxRecDepth 100000 in
theorem zDe197 : zkDe prog_14_method_8_code zRw197 = true := by decide +kernel
set_option maxRecDepth 100000 in
theorem zDe198 : zkDe prog_14_method_129_code zRw198 = true := by decide +kernel
set_option maxRecDepth 100000 in
theorem zDe199 : zkDe prog_14_method_128_code zRw199 = true := by decide +kernel
set_option maxRecDepth 100000 in
theorem zDe200 : zkDe prog_14_method_130_code zRw200 = true := by decide +kernel
set_option maxRecDepth 100000 in
theorem zDe201 : zkDe prog_14_method_131_code zRw201 = true := by decide +kernel
set_option maxRecDepth 100000 in
theorem zDe202 : zkDe prog_14_method_133_code zRw202 = true := by decide +kernel
set_option maxRecDepth 100000 in
theorem zDe203 : zkDe prog_14_method_138_code zRw203 = true := by decide +kernel
set_option maxRecDepth 100000 in
theorem zDe204 : zkDe prog_14_method_134_code zRw204 = true := by decide +kernel
set_option maxRecDepth 100000 in
theorem zDe205 : zkDe prog_14_method_136_code zRw205 = true := by decide +kernel
set_option maxRecDepth 100000 in
theorem zDe206 : zkDe prog_14_method_137_code zRw206 = true := by decide +kernel
set_option maxRecDepth 100000 in
theorem zDe207 : zkDe prog_14_method_135_code zRw207 = true := by decide +kernel
set_option maxRecDepth 100000 in
theorem zDe208 : zkDe prog_14_method_140_code zRw208 = true := by decide +kernel
set_option maxRecDepth 100000 in
theorem zDe209 : zkDe prog_14_method_139_code zRw209 = true := by decide +kernel
set_option maxRecDepth 100000 in
theorem zDe210 : zkDe prog_14_method_121_code zRw210 = true := by decide +kernel
set_option maxRecDepth 100000 in
theorem zDe211 : zkDe prog_14_method_120_code zRw211 = true := by decide +kernel
set_option maxRecDepth 100000 in
theorem zDe212 : zkDe prog_14_method_119_code zRw212 = true := by decide +kernel
set_option maxRecDepth 100000 in
theorem zDe213 : zkDe prog_6_method_2_code zRw213 = true := by decide +kernel
set_option maxRecDepth 100000 in
theorem zDe214 : zkDe prog_6_method_4_code zRw214 = true := by decide +kernel
set_option maxRecDepth 100000 in
theorem zDe215 : zkDe prog_2_method_10_code zRw215 = true := by decide +kernel
set_option maxRecDepth 100000 in
theorem zDe216 : zkDe prog_2_method_11_code zRw216 = true := by decide +kernel
