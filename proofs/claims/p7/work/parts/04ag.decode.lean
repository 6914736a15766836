/-! the methods' codes, decoded -/
set_option maxRecDepth 100000 in
theorem zDe217 : zkDe prog_16_method_49_code zRw217 = true := by decide +kernel
set_option maxRecDepth 100000 in
theorem zDe218 : zkDe prog_6_method_3_code zRw218 = true := by decide +kernel
set_option maxRecDepth 100000 in
theorem zDe219 : zkDe prog_11_method_3_code zRw219 = true := by decide +kernel
set_option maxRecDepth 100000 in
theorem zDe220 : zkDe prog_6_method_5_code zRw220 = true := by decide +kernel
set_option maxRecDepth 100000 in
theorem zDe221 : zkDe prog_6_method_6_code zRw221 = true := by decide +kernel
set_option maxRecDepth 100000 in
theorem zDe222 : zkDe prog_6_method_7_code zRw222 = true := by decide +kernel
set_option maxRecDepth 100000 in
theorem zDe223 : zkDe prog_6_method_8_code zRw223 = true := by decide +kernel
set_option maxRecDepth 100000 in
theorem zDe224 : zkDe prog_4_method_9_code zRw224 = true := by decide +kernel
set_option maxRecDepth 100000 in
theorem zDe225 : zkDe prog_2_method_8_code zRw225 = true := by decide +kernel
set_option maxRecDepth 100000 in
theorem zDe226 : zkDe prog_4_method_13_code zRw226 = true := by decide +kernel
set_option maxRecDepth 100000 in
theorem zDe227 : zkDe prog_12_method_3_code zRw227 = true := by decide +kernel
set_option maxRecDepth 100000 in
theorem zDe228 : zkDe prog_4_method_4_code zRw228 = true := by decide +kernel
set_option maxRecDepth 100000 in
theorem zDe229 : zkDe prog_4_method_5_code zRw229 = true := by decide +kernel
set_option maxRecDepth 100000 in
theorem zDe230 : zkDe prog_4_method_10_code zRw230 = true := by decide +kernel
set_option maxRecDepth 100000 in
theorem zDe231 : zkDe prog_2_method_9_code zRw231 = true := by decide +kernel
set_option maxRecDepth 100000 in
theorem zDe232 : zkDe prog_4_method_12_code zRw232 = true := by decide +kernel
set_option maxRecDepth 100000 in
theorem zDe233 : zkDe prog_8_method_7_code zRw233 = true := by decide +kernel
set_option maxRecDepth 100000 in
theorem zDe234 : zkDe prog_8_method_9_code zRw234 = true := by decide +kernel
set_option maxRecDepth 100000 in
theorem zDe235 : zkDe prog_8_method_10_code zRw235 = true := by decide +kernel
set_option maxRecDepth 100000 in
theorem zDe236 : zkDe prog_8_method_11_code zRw236 = true := by decide +kernel
set_option maxRecDepth 100000 in
theorem zDe237 : zkDe prog_8_method_8_code zRw237 = true := by decide +kernel
set_option maxRecDepth 100000 in
theorem zDe238 : zkDe prog_8_method_13_code zRw238 = true := by decide +kernel
set_option maxRecDepth 100000 in
theorem zDe239 : zkDe prog_8_method_14_code zRw239 = true := by decide +kernel
set_option maxRecDepth 100000 in
theorem zDe240 : zkDe prog_8_method_12_code zRw240 = true := by decide +kernel
set_option maxRecDepth 100000 in
theorem zDe241 : zkDe prog_8_method_21_code zRw241 = true := by decide +kernel
set_option maxRecDepth 100000 in
theorem zDe242 : zkDe prog_8_method_18_code zRw242 = true := by decide +kernel
set_option maxRecDepth 100000 in
theorem zDe243 : zkDe prog_11_method_4_code zRw243 = true := by decide +kernel
set_option maxRecDepth 100000 in
theorem zDe244 : zkDe prog_8_method_26_code zRw244 = true := by decide +kernel
set_option maxRecDepth 100000 in
theorem zDe245 : zkDe prog_8_method_27_code zRw245 = true := by decide +kernel
set_option maxRecDepth 100000 in
theorem zDe246 : zkDe prog_8_method_30_code zRw246 = true := by decide +kernel
set_option maxRecDepth 100000 in
theorem zDe247 : zkDe prog_8_method_17_code zRw247 = true := by decide +kernel
set_option maxRecDepth 100000 in
theorem zDe248 : zkDe prog_11_method_5_code zRw248 = true := by decide +kernel
set_option maxRecDepth 100000 in
theorem zDe249 : zkDe prog_8_method_28_code zRw249 = true := by decide +kernel
set_option maxRecDepth 100000 in
theorem zDe250 : zkDe prog_8_method_29_code zRw250 = true := by decide +kernel
set_option maxRecDepth 100000 in
theorem zDe251 : zkDe prog_8_method_31_code zRw251 = true := by decide +kernel
set_option maxRecDepth 100000 in
theorem zDe252 : zkDe prog_8_method_32_code zRw252 = true := by decide +kernel
set_option maxRecDepth 100000 in
theorem zDe253 : zkDe prog_8_method_33_code zRw253 = true := by decide +kernel
set_option maxRecDepth 100000 in
theorem zDe254 : zkDe prog_8_method_19_code zRw254 = true := by decide +kernel
set_option maxRecDepth 100000 in
theorem zDe255 : zkDe prog_8_method_22_code zRw255 = true := by decide +kernel
set_option maxRecDepth 100000 in
theorem zDe256 : zkDe prog_8_method_20_code zRw256 = true := by decide +kernel
set_option maxRecDepth 100000 in
theorem zDe257 : zkDe prog_8_method_23_code zRw257 = true := by decide +kernel
