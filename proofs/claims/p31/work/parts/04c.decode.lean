/-! the methods' codes, decoded -/
set_option maxRecDepth 100000 in
theorem zDe220 : zkDe prog_6_method_5_code zRw220 = true := zgoR_ok (by decide +kernel)
set_option maxRecDepth 100000 in
theorem zDe221 : zkDe prog_6_method_6_code zRw221 = true := zgoR_ok (by decide +kernel)
set_option maxRecDepth 100000 in
theorem zDe222 : zkDe prog_6_method_7_code zRw222 = true := zgoR_ok (by decide +kernel)
set_option maxRecDepth 100000 in
theorem zDe223 : zkDe prog_6_method_8_code zRw223 = true := zgoR_ok (by decide +kernel)
set_option maxRecDepth 100000 in
theorem zDe224 : zkDe prog_4_method_9_code zRw224 = true := zgoR_ok (by decide +kernel)
set_option maxRecDepth 100000 in
theorem zDe225 : zkDe prog_2_method_8_code zRw225 = true := zgoR_ok (by decide +kernel)
set_option maxRecDepth 100000 in
theorem zDe226 : zkDe prog_4_method_13_code zRw226 = true := zgoR_ok (by decide +kernel)
set_option maxRecDepth 100000 in
theorem zDe227 : zkDe prog_12_method_3_code zRw227 = true := zgoR_ok (by decide +kernel)
set_option maxRecDepth 100000 in
theorem zDe228 : zkDe prog_4_method_4_code zRw228 = true := zgoR_ok (by decide +kernel)
set_option maxRecDepth 100000 in
theorem zDe229 : zkDe prog_4_method_5_code zRw229 = true := zgoR_ok (by decide +kernel)
set_option maxRecDepth 100000 in
theorem zDe230 : zkDe prog_4_method_10_code zRw230 = true := zgoR_ok (by decide +kernel)
set_option maxRecDepth 100000 in
theorem zDe231 : zkDe prog_2_method_9_code zRw231 = true := zgoR_ok (by decide +kernel)
set_option maxRecDepth 100000 in
theorem zDe232 : zkDe prog_4_method_12_code zRw232 = true := zgoR_ok (by decide +kernel)
set_option maxRecDepth 100000 in
theorem zDe233 : zkDe prog_8_method_7_code zRw233 = true := zgoR_ok (by decide +kernel)
set_option maxRecDepth 100000 in
theorem zDe234 : zkDe prog_8_method_9_code zRw234 = true := zgoR_ok (by decide +kernel)
set_option maxRecDepth 100000 in
theorem zDe235 : zkDe prog_8_method_10_code zRw235 = true := zgoR_ok (by decide +kernel)
set_option maxRecDepth 100000 in
theorem zDe236 : zkDe prog_8_method_11_code zRw236 = true := zgoR_ok (by decide +kernel)
set_option maxRecDepth 100000 in
theorem zDe237 : zkDe prog_8_method_8_code zRw237 = true := zgoR_ok (by decide +kernel)
set_option maxRecDepth 100000 in
theorem zDe238 : zkDe prog_8_method_13_code zRw238 = true := zgoR_ok (by decide +kernel)
set_option maxRecDepth 100000 in
theorem zDe239 : zkDe prog_8_method_14_code zRw239 = true := zgoR_ok (by decide +kernel)
set_option maxRecDepth 100000 in
theorem zDe240 : zkDe prog_8_method_12_code zRw240 = true := zgoR_ok (by decide +kernel)
set_option maxRecDepth 100000 in
theorem zDe241 : zkDe prog_8_method_21_code zRw241 = true := zgoR_ok (by decide +kernel)
set_option maxRecDepth 100000 in
theorem zDe242 : zkDe prog_8_method_18_code zRw242 = true := zgoR_ok (by decide +kernel)
set_option maxRecDepth 100000 in
theorem zDe243 : zkDe prog_11_method_4_code zRw243 = true := zgoR_ok (by decide +kernel)
set_option maxRecDepth 100000 in
theorem zDe244 : zkDe prog_8_method_26_code zRw244 = true := zgoR_ok (by decide +kernel)
set_option maxRecDepth 100000 in
theorem zDe245 : zkDe prog_8_method_27_code zRw245 = true := zgoR_ok (by decide +kernel)
set_option maxRecDepth 100000 in
theorem zDe246 : zkDe prog_8_method_30_code zRw246 = true := zgoR_ok (by decide +kernel)
set_option maxRecDepth 100000 in
theorem zDe247 : zkDe prog_8_method_17_code zRw247 = true := zgoR_ok (by decide +kernel)
set_option maxRecDepth 100000 in
theorem zDe248 : zkDe prog_11_method_5_code zRw248 = true := zgoR_ok (by decide +kernel)
set_option maxRecDepth 100000 in
theorem zDe249 : zkDe prog_8_method_28_code zRw249 = true := zgoR_ok (by decide +kernel)
set_option maxRecDepth 100000 in
theorem zDe250 : zkDe prog_8_method_29_code zRw250 = true := zgoR_ok (by decide +kernel)
set_option maxRecDepth 100000 in
theorem zDe251 : zkDe prog_8_method_31_code zRw251 = true := zgoR_ok (by decide +kernel)
set_option maxRecDepth 100000 in
theorem zDe252 : zkDe prog_8_method_32_code zRw252 = true := zgoR_ok (by decide +kernel)
set_option maxRecDepth 100000 in
theorem zDe253 : zkDe prog_8_method_33_code zRw253 = true := zgoR_ok (by decide +kernel)
set_option maxRecDepth 100000 in
theorem zDe254 : zkDe prog_8_method_19_code zRw254 = true := zgoR_ok (by decide +kernel)
set_option maxRecDepth 100000 in
theorem zDe255 : zkDe prog_8_method_22_code zRw255 = true := zgoR_ok (by decide +kernel)
set_option maxRecDepth 100000 in
theorem zDe256 : zkDe prog_8_method_20_code zRw256 = true := zgoR_ok (by decide +kernel)
set_option maxRecDepth 100000 in
theorem zDe257 : zkDe prog_8_method_23_code zRw257 = true := zgoR_ok (by decide +kernel)
set_option maxRecDepth 100000 in
theorem zDe258 : zkDe prog_8_method_24_code zRw258 = true := zgoR_ok (by decide +kernel)
set_option maxRecDepth 100000 in
theorem zDe259 : zkDe prog_8_method_25_code zRw259 = true := zgoR_ok (by decide +kernel)
set_option maxRecDepth 100000 in
theorem zDe260 : zkDe prog_10_method_2_code zRw260 = true := zgoR_ok (by decide +kernel)
set_option maxRecDepth 100000 in
theorem zDe261 : zkDe prog_3_method_4_code zRw261 = true := zgoR_ok (by decide +kernel)
set_option maxRecDepth 100000 in
theorem zDe262 : zkDe prog_17_method_70_code zRw262 = true := zgoR_ok (by decide +kernel)
set_option maxRecDepth 100000 in
theorem zDe263 : zkDe prog_10_method_7_code zRw263 = true := zgoR_ok (by decide +kernel)
set_option maxRecDepth 100000 in
theorem zDe264 : zkDe prog_10_method_4_code zRw264 = true := zgoR_ok (by decide +kernel)
set_option maxRecDepth 100000 in
theorem zDe265 : zkDe prog_10_method_8_code zRw265 = true := zgoR_ok (by decide +kernel)
set_option maxRecDepth 100000 in
theorem zDe266 : zkDe prog_10_method_9_code zRw266 = true := zgoR_ok (by decide +kernel)
set_option maxRecDepth 100000 in
theorem zDe267 : zkDe prog_7_method_5_code zRw267 = true := zgoR_ok (by decide +kernel)
set_option maxRecDepth 100000 in
theorem zDe268 : zkDe prog_17_method_59_code zRw268 = true := zgoR_ok (by decide +kernel)
set_option maxRecDepth 100000 in
theorem zDe269 : zkDe prog_7_method_6_code zRw269 = true := zgoR_ok (by decide +kernel)
set_option maxRecDepth 100000 in
theorem zDe270 : zkDe prog_7_method_13_code zRw270 = true := zgoR_ok (by decide +kernel)
set_option maxRecDepth 100000 in
theorem zDe271 : zkDe prog_7_method_15_code zRw271 = true := zgoR_ok (by decide +kernel)
set_option maxRecDepth 100000 in
theorem zDe272 : zkDe prog_10_method_5_code zRw272 = true := zgoR_ok (by decide +kernel)
set_option maxRecDepth 100000 in
theorem zDe273 : zkDe prog_7_method_25_code zRw273 = true := zgoR_ok (by decide +kernel)
set_option maxRecDepth 100000 in
theorem zDe274 : zkDe prog_14_method_30_code zRw274 = true := zgoR_ok (by decide +kernel)
set_option maxRecDepth 100000 in
theorem zDe275 : zkDe prog_14_method_33_code zRw275 = true := zgoR_ok (by decide +kernel)
set_option maxRecDepth 100000 in
theorem zDe276 : zkDe prog_14_method_31_code zRw276 = true := zgoR_ok (by decide +kernel)
set_option maxRecDepth 100000 in
theorem zDe277 : zkDe prog_14_method_32_code zRw277 = true := zgoR_ok (by decide +kernel)
set_option maxRecDepth 100000 in
theorem zDe278 : zkDe prog_14_method_35_code zRw278 = true := zgoR_ok (by decide +kernel)
set_option maxRecDepth 100000 in
theorem zDe279 : zkDe prog_14_method_53_code zRw279 = true := zgoR_ok (by decide +kernel)
set_option maxRecDepth 100000 in
theorem zDe280 : zkDe prog_14_method_52_code zRw280 = true := zgoR_ok (by decide +kernel)
set_option maxRecDepth 100000 in
theorem zDe281 : zkDe prog_14_method_50_code zRw281 = true := zgoR_ok (by decide +kernel)
set_option maxRecDepth 100000 in
theorem zDe282 : zkDe prog_14_method_51_code zRw282 = true := zgoR_ok (by decide +kernel)
set_option maxRecDepth 100000 in
theorem zDe283 : zkDe prog_14_method_37_code zRw283 = true := zgoR_ok (by decide +kernel)
set_option maxRecDepth 100000 in
theorem zDe284 : zkDe prog_14_method_56_code zRw284 = true := zgoR_ok (by decide +kernel)
set_option maxRecDepth 100000 in
theorem zDe285 : zkDe prog_14_method_55_code zRw285 = true := zgoR_ok (by decide +kernel)
set_option maxRecDepth 100000 in
theorem zDe286 : zkDe prog_14_method_59_code zRw286 = true := zgoR_ok (by decide +kernel)
set_option maxRecDepth 100000 in
theorem zDe287 : zkDe prog_14_method_58_code zRw287 = true := zgoR_ok (by decide +kernel)
set_option maxRecDepth 100000 in
theorem zDe288 : zkDe prog_14_method_42_code zRw288 = true := zgoR_ok (by decide +kernel)
set_option maxRecDepth 100000 in
theorem zDe289 : zkDe prog_14_method_41_code zRw289 = true := zgoR_ok (by decide +kernel)
set_option maxRecDepth 100000 in
theorem zDe290 : zkDe prog_14_method_40_code zRw290 = true := zgoR_ok (by decide +kernel)
set_option maxRecDepth 100000 in
theorem zDe291 : zkDe prog_14_method_39_code zRw291 = true := zgoR_ok (by decide +kernel)
set_option maxRecDepth 100000 in
theorem zDe292 : zkDe prog_14_method_38_code zRw292 = true := zgoR_ok (by decide +kernel)
set_option maxRecDepth 100000 in
theorem zDe293 : zkDe prog_14_method_46_code zRw293 = true := zgoR_ok (by decide +kernel)
set_option maxRecDepth 100000 in
theorem zDe294 : zkDe prog_14_method_44_code zRw294 = true := zgoR_ok (by decide +kernel)
set_option maxRecDepth 100000 in
theorem zDe295 : zkDe prog_14_method_43_code zRw295 = true := zgoR_ok (by decide +kernel)
set_option maxRecDepth 100000 in
theorem zDe296 : zkDe prog_14_method_45_code zRw296 = true := zgoR_ok (by decide +kernel)
set_option maxRecDepth 100000 in
theorem zDe297 : zkDe prog_14_method_20_code zRw297 = true := zgoR_ok (by decide +kernel)
set_option maxRecDepth 100000 in
theorem zDe298 : zkDe prog_14_method_21_code zRw298 = true := zgoR_ok (by decide +kernel)
set_option maxRecDepth 100000 in
theorem zDe299 : zkDe prog_14_method_76_code zRw299 = true := zgoR_ok (by decide +kernel)
set_option maxRecDepth 100000 in
theorem zDe300 : zkDe prog_14_method_72_code zRw300 = true := zgoR_ok (by decide +kernel)
set_option maxRecDepth 100000 in
theorem zDe301 : zkDe prog_14_method_68_code zRw301 = true := zgoR_ok (by decide +kernel)
set_option maxRecDepth 100000 in
theorem zDe302 : zkDe prog_14_method_22_code zRw302 = true := zgoR_ok (by decide +kernel)
set_option maxRecDepth 100000 in
theorem zDe303 : zkDe prog_14_method_69_code zRw303 = true := zgoR_ok (by decide +kernel)
set_option maxRecDepth 100000 in
theorem zDe304 : zkDe prog_14_method_67_code zRw304 = true := zgoR_ok (by decide +kernel)
set_option maxRecDepth 100000 in
theorem zDe305 : zkDe prog_14_method_66_code zRw305 = true := zgoR_ok (by decide +kernel)
set_option maxRecDepth 100000 in
theorem zDe306 : zkDe prog_14_method_65_code zRw306 = true := zgoR_ok (by decide +kernel)
set_option maxRecDepth 100000 in
theorem zDe307 : zkDe prog_14_method_4_code zRw307 = true := zgoR_ok (by decide +kernel)
set_option maxRecDepth 100000 in
theorem zDe308 : zkDe prog_14_method_75_code zRw308 = true := zgoR_ok (by decide +kernel)
set_option maxRecDepth 100000 in
theorem zDe309 : zkDe prog_14_method_74_code zRw309 = true := zgoR_ok (by decide +kernel)
set_option maxRecDepth 100000 in
theorem zDe310 : zkDe prog_14_method_73_code zRw310 = true := zgoR_ok (by decide +kernel)
set_option maxRecDepth 100000 in
theorem zDe311 : zkDe prog_14_method_80_code zRw311 = true := zgoR_ok (by decide +kernel)
set_option maxRecDepth 100000 in
theorem zDe312 : zkDe prog_14_method_70_code zRw312 = true := zgoR_ok (by decide +kernel)
set_option maxRecDepth 100000 in
theorem zDe313 : zkDe prog_14_method_79_code zRw313 = true := zgoR_ok (by decide +kernel)
set_option maxRecDepth 100000 in
theorem zDe314 : zkDe prog_14_method_17_code zRw314 = true := zgoR_ok (by decide +kernel)
set_option maxRecDepth 100000 in
theorem zDe315 : zkDe prog_14_method_83_code zRw315 = true := zgoR_ok (by decide +kernel)
set_option maxRecDepth 100000 in
theorem zDe316 : zkDe prog_14_method_71_code zRw316 = true := zgoR_ok (by decide +kernel)
set_option maxRecDepth 100000 in
theorem zDe317 : zkDe prog_14_method_82_code zRw317 = true := zgoR_ok (by decide +kernel)
set_option maxRecDepth 100000 in
theorem zDe318 : zkDe prog_14_method_94_code zRw318 = true := zgoR_ok (by decide +kernel)
set_option maxRecDepth 100000 in
theorem zDe319 : zkDe prog_14_method_96_code zRw319 = true := zgoR_ok (by decide +kernel)
set_option maxRecDepth 100000 in
theorem zDe320 : zkDe prog_14_method_113_code zRw320 = true := zgoR_ok (by decide +kernel)
set_option maxRecDepth 100000 in
theorem zDe321 : zkDe prog_14_method_112_code zRw321 = true := zgoR_ok (by decide +kernel)
set_option maxRecDepth 100000 in
theorem zDe322 : zkDe prog_14_method_127_code zRw322 = true := zgoR_ok (by decide +kernel)
set_option maxRecDepth 100000 in
theorem zDe323 : zkDe prog_14_method_7_code zRw323 = true := zgoR_ok (by decide +kernel)
set_option maxRecDepth 100000 in
theorem zDe324 : zkDe prog_14_method_132_code zRw324 = true := zgoR_ok (by decide +kernel)
