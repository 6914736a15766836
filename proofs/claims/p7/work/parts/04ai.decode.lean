/-! the methods' codes, decoded -/
set_option maxRecDepth 100000 in
theorem zDe296 : zkDe prog_14_method_45_code zRw296 = true := by decide +kernel
set_option maxRecDepth 100000 in
theorem zDe297 : zkDe prog_14_method_20_code zRw297 = true := by decide +kernel
set_option maxRecDepth 100000 in
theorem zDe298 : zkDe prog_14_method_21_code zRw298 = true := by decide +kernel
set_option maxRecDepth 100000 in
theorem zDe299 : zkDe prog_14_method_76_code zRw299 = true := by decide +kernel
set_option maxRecDepth 100000 in
theorem zDe300 : zkDe prog_14_method_72_code zRw300 = true := by decide +kernel
set_option maxRecDepth 100000 in
theorem zDe301 : zkDe prog_14_method_68_code zRw301 = true := by decide +kernel
set_option maxRecDepth 100000 in
theorem zDe302 : zkDe prog_14_method_22_code zRw302 = true := by decide +kernel
set_option maxRecDepth 100000 in
theorem zDe303 : zkDe prog_14_method_69_code zRw303 = true := by decide +kernel
set_option maxRecDepth 100000 in
theorem zDe304 : zkDe prog_14_method_67_code zRw304 = true := by decide +kernel
set_option maxRecDepth 100000 in
theorem zDe305 : zkDe prog_14_method_66_code zRw305 = true := by decide +kernel
set_option maxRecDepth 100000 in
theorem zDe306 : zkDe prog_14_method_65_code zRw306 = true := by decide +kernel
set_option maxRecDepth 100000 in
theorem zDe307 : zkDe prog_14_method_4_code zRw307 = true := by decide +kernel
set_option maxRecDepth 100000 in
theorem zDe308 : zkDe prog_14_method_75_code zRw308 = true := by decide +kernel
set_option maxRecDepth 100000 in
theorem zDe309 : zkDe prog_14_method_74_code zRw309 = true := by decide +kernel
set_option maxRecDepth 100000 in
theorem zDe310 : zkDe prog_14_method_73_code zRw310 = true := by decide +kernel
set_option maxRecDepth 100000 in
theorem zDe311 : zkDe prog_14_method_80_code zRw311 = true := by decide +kernel
set_option maxRecDepth 100000 in
theorem zDe312 : zkDe prog_14_method_70_code zRw312 = true := by decide +kernel
set_option maxRecDepth 100000 in
theorem zDe313 : zkDe prog_14_method_79_code zRw313 = true := by decide +kernel
set_option maxRecDepth 100000 in
theorem zDe314 : zkDe prog_14_method_17_code zRw314 = true := by decide +kernel
set_option maxRecDepth 100000 in
theorem zDe315 : zkDe prog_14_method_83_code zRw315 = true := by decide +kernel
set_option maxRecDepth 100000 in
theorem zDe316 : zkDe prog_14_method_71_code zRw316 = true := by decide +kernel
set_option maxRecDepth 100000 in
theorem zDe317 : zkDe prog_14_method_82_code zRw317 = true := by decide +kernel
set_option maxRecDepth 100000 in
theorem zDe318 : zkDe prog_14_method_94_code zRw318 = true := by decide +kernel
set_option maxRecDepth 100000 in
theorem zDe319 : zkDe prog_14_method_96_code zRw319 = true := by decide +kernel
set_option maxRecDepth 100000 in
theorem zDe320 : zkDe prog_14_method_113_code zRw320 = true := by decide +kernel
set_option maxRecDepth 100000 in
theorem zDe321 : zkDe prog_14_method_112_code zRw321 = true := by decide +kernel
set_option maxRecDepth 100000 in
theorem zDe322 : zkDe prog_14_method_127_code zRw322 = true := by decide +kernel
set_option maxRecDepth 100000 in
theorem zDe323 : zkDe prog_14_method_7_code zRw323 = true := by decide +kernel
set_option maxRecDepth 100000 in
theorem zDe324 : zkDe prog_14_method_132_code zRw324 = true := by decide +kernel
