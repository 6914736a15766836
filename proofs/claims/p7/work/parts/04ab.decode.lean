/-! the methods' codes, decoded -/
set_option maxRecDepth 100000 in
theorem zDe52 : zkDe prog_8_method_15_code zRw52 = true := by decide +kernel
set_option maxRecDepth 100000 in
theorem zDe53 : zkDe prog_8_method_16_code zRw53 = true := by decide +kernel
set_option maxRecDepth 100000 in
theorem zDe54 : zkDe prog_11_method_6_code zRw54 = true := by decide +kernel
set_option maxRecDepth 100000 in
theorem zDe55 : zkDe prog_1_method_15_code zRw55 = true := by decide +kernel
set_option maxRecDepth 100000 in
theorem zDe56 : zkDe prog_1_method_16_code zRw56 = true := by decide +kernel
set_option maxRecDepth 100000 in
theorem zDe57 : zkDe prog_1_method_17_code zRw57 = true := by decide +kernel
set_option maxRecDepth 100000 in
theorem zDe58 : zkDe prog_1_method_18_code zRw58 = true := by decide +kernel
set_option maxRecDepth 100000 in
theorem zDe59 : zkDe prog_1_method_19_code zRw59 = true := by decide +kernel
set_option maxRecDepth 100000 in
theorem zDe60 : zkDe prog_2_method_14_code zRw60 = true := by decide +kernel
set_option maxRecDepth 100000 in
theorem zDe61 : zkDe prog_2_method_15_code zRw61 = true := by decide +kernel
set_option maxRecDepth 100000 in
theorem zDe62 : zkDe prog_1_method_20_code zRw62 = true := by decide +kernel
set_option maxRecDepth 100000 in
theorem zDe63 : zkDe prog_3_method_2_code zRw63 = true := by decide +kernel
set_option maxRecDepth 100000 in
theorem zDe64 : zkDe prog_3_method_3_code zRw64 = true := by decide +kernel
set_option maxRecDepth 100000 in
theorem zDe65 : zkDe prog_22_method_101_code zRw65 = true := by decide +kernel
set_option maxRecDepth 100000 in
theorem zDe66 : zkDe prog_3_method_5_code zRw66 = true := by decide +kernel
set_option maxRecDepth 100000 in
theorem zDe67 : zkDe prog_3_method_6_code zRw67 = true := by decide +kernel
set_option maxRecDepth 100000 in
theorem zDe68 : zkDe prog_1_method_21_code zRw68 = true := by decide +kernel
set_option maxRecDepth 100000 in
theorem zDe69 : zkDe prog_10_method_3_code zRw69 = true := by decide +kernel
set_option maxRecDepth 100000 in
theorem zDe70 : zkDe prog_1_method_22_code zRw70 = true := by decide +kernel
set_option maxRecDepth 100000 in
theorem zDe71 : zkDe prog_9_method_4_code zRw71 = true := by decide +kernel
set_option maxRecDepth 100000 in
theorem zDe72 : zkDe prog_9_method_2_code zRw72 = true := by decide +kernel
set_option maxRecDepth 100000 in
theorem zDe73 : zkDe prog_1_method_47_code zRw73 = true := by decide +kernel
set_option maxRecDepth 100000 in
theorem zDe74 : zkDe prog_9_method_3_code zRw74 = true := by decide +kernel
set_option maxRecDepth 100000 in
theorem zDe75 : zkDe prog_1_method_23_code zRw75 = true := by decide +kernel
set_option maxRecDepth 100000 in
theorem zDe76 : zkDe prog_7_method_2_code zRw76 = true := by decide +kernel
set_option maxRecDepth 100000 in
theorem zDe77 : zkDe prog_22_method_103_code zRw77 = true := by decide +kernel
set_option maxRecDepth 100000 in
theorem zDe78 : zkDe prog_7_method_3_code zRw78 = true := by decide +kernel
set_option maxRecDepth 100000 in
theorem zDe79 : zkDe prog_1_method_24_code zRw79 = true := by decide +kernel
set_option maxRecDepth 100000 in
theorem zDe80 : zkDe prog_1_method_25_code zRw80 = true := by decide +kernel
set_option maxRecDepth 100000 in
theorem zDe81 : zkDe prog_7_method_4_code zRw81 = true := by decide +kernel
set_option maxRecDepth 100000 in
theorem zDe82 : zkDe prog_1_method_26_code zRw82 = true := by decide +kernel
set_option maxRecDepth 100000 in
theorem zDe83 : zkDe prog_7_method_7_code zRw83 = true := by decide +kernel
set_option maxRecDepth 100000 in
theorem zDe84 : zkDe prog_1_method_27_code zRw84 = true := by decide +kernel
set_option maxRecDepth 100000 in
theorem zDe85 : zkDe prog_1_method_28_code zRw85 = true := by decide +kernel
set_option maxRecDepth 100000 in
theorem zDe86 : zkDe prog_7_method_8_code zRw86 = true := by decide +kernel
set_option maxRecDepth 100000 in
theorem zDe87 : zkDe prog_7_method_9_code zRw87 = true := by decide +kernel
set_option maxRecDepth 100000 in
theorem zDe88 : zkDe prog_7_method_10_code zRw88 = true := by decide +kernel
set_option maxRecDepth 100000 in
theorem zDe89 : zkDe prog_1_method_29_code zRw89 = true := by decide +kernel
