/-! the methods' codes, decoded -/
set_option maxRecDepth 100000 in
theorem zDe258 : zkDe prog_8_method_24_code zRw258 = true := by decide +kernel
set_option maxRecDepth 100000 in
theorem zDe259 : zkDe prog_8_method_25_code zRw259 = true := by decide +kernel
set_option maxRecDepth 100000 in
theorem zDe260 : zkDe prog_10_method_2_code zRw260 = true := by decide +kernel
set_option maxRecDepth 100000 in
theorem zDe261 : zkDe prog_3_method_4_code zRw261 = true := by decide +kernel
set_option maxRecDepth 100000 in
theorem zDe262 : zkDe prog_17_method_70_code zRw262 = true := by decide +kernel
set_option maxRecDepth 100000 in
theorem zDe263 : zkDe prog_10_method_7_code zRw263 = true := by decide +kernel
set_option maxRecDepth 100000 in
theorem zDe264 : zkDe prog_10_method_4_code zRw264 = true := by decide +kernel
set_option maxRecDepth 100000 in
theorem zDe265 : zkDe prog_10_method_8_code zRw265 = true := by decide +kernel
set_option maxRecDepth 100000 in
theorem zDe266 : zkDe prog_10_method_9_code zRw266 = true := by decide +kernel
set_option maxRecDepth 100000 in
theorem zDe267 : zkDe prog_7_method_5_code zRw267 = true := by decide +kernel
set_option maxRecDepth 100000 in
theorem zDe268 : zkDe prog_17_method_59_code zRw268 = true := by decide +kernel
set_option maxRecDepth 100000 in
theorem zDe269 : zkDe prog_7_method_6_code zRw269 = true := by decide +kernel
set_option maxRecDepth 100000 in
theorem zDe270 : zkDe prog_7_method_13_code zRw270 = true := by decide +kernel
set_option maxRecDepth 100000 in
theorem zDe271 : zkDe prog_7_method_15_code zRw271 = true := by decide +kernel
set_option maxRecDepth 100000 in
theorem zDe272 : zkDe prog_10_method_5_code zRw272 = true := by decide +kernel
set_option maxRecDepth 100000 in
theorem zDe273 : zkDe prog_7_method_25_code zRw273 = true := by decide +kernel
set_option maxRecDepth 100000 in
theorem zDe274 : zkDe prog_14_method_30_code zRw274 = true := by decide +kernel
set_option maxRecDepth 100000 in
theorem zDe275 : zkDe prog_14_method_33_code zRw275 = true := by decide +kernel
set_option maxRecDepth 100000 in
theorem zDe276 : zkDe prog_14_method_31_code zRw276 = true := by decide +kernel
set_option maxRecDepth 100000 in
theorem zDe277 : zkDe prog_14_method_32_code zRw277 = true := by decide +kernel
set_option maxRecDepth 100000 in
theorem zDe278 : zkDe prog_14_method_35_code zRw278 = true := by decide +kernel
set_option maxRecDepth 100000 in
theorem zDe279 : zkDe prog_14_method_53_code zRw279 = true := by decide +kernel
set_option maxRecDepth 100000 in
theorem zDe280 : zkDe prog_14_method_52_code zRw280 = true := by decide +kernel
set_option maxRecDepth 100000 in
theorem zDe281 : zkDe prog_14_method_50_code zRw281 = true := by decide +kernel
set_option maxRecDepth 100000 in
theorem zDe282 : zkDe prog_14_method_51_code zRw282 = true := by decide +kernel
set_option maxRecDepth 100000 in
theorem zDe283 : zkDe prog_14_method_37_code zRw283 = true := by decide +kernel
set_option maxRecDepth 100000 in
theorem zDe284 : zkDe prog_14_method_56_code zRw284 = true := by decide +kernel
set_option maxRecDepth 100000 in
theorem zDe285 : zkDe prog_14_method_55_code zRw285 = true := by decide +kernel
set_option maxRecDepth 100000 in
theorem zDe286 : zkDe prog_14_method_59_code zRw286 = true := by decide +kernel
set_option maxRecDepth 100000 in
theorem zDe287 : zkDe prog_14_method_58_code zRw287 = true := by decide +kernel
set_option maxRecDepth 100000 in
theorem zDe288 : zkDe prog_14_method_42_code zRw288 = true := by decide +kernel
set_option maxRecDepth 100000 in
theorem zDe289 : zkDe prog_14_method_41_code zRw289 = true := by decide +kernel
set_option maxRecDepth 100000 in
theorem zDe290 : zkDe prog_14_method_40_code zRw290 = true := by decide +kernel
set_option maxRecDepth 100000 in
theorem zDe291 : zkDe prog_14_method_39_code zRw291 = true := by decide +kernel
set_option maxRecDepth 100000 in
theorem zDe292 : zkDe prog_14_method_38_code zRw292 = true := by decide +kernel
set_option maxRecDepth 100000 in
theorem zDe293 : zkDe prog_14_method_46_code zRw293 = true := by decide +kernel
set_option maxRecDepth 100000 in
theorem zDe294 : zkDe prog_14_method_44_code zRw294 = true := by decide +kernel
set_option maxRecDepth 100000 in
theorem zDe295 : zkDe prog_14_method_43_code zRw295 = true := by decide +kernel
