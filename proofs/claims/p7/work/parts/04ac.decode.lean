/-! the methods' codes, decoded -/
set_option maxRecDepth 100000 in
theorem zDe90 : zkDe prog_7_method_11_code zRw90 = true := by decide +kernel
set_option maxRecDepth 100000 in
theorem zDe91 : zkDe prog_1_method_30_code zRw91 = true := by decide +kernel
set_option maxRecDepth 100000 in
theorem zDe92 : zkDe prog_1_method_31_code zRw92 = true := by decide +kernel
set_option maxRecDepth 100000 in
theorem zDe93 : zkDe prog_7_method_12_code zRw93 = true := by decide +kernel
set_option maxRecDepth 100000 in
theorem zDe94 : zkDe prog_7_method_14_code zRw94 = true := by decide +kernel
set_option maxRecDepth 100000 in
theorem zDe95 : zkDe prog_1_method_32_code zRw95 = true := by decide +kernel
set_option maxRecDepth 100000 in
theorem zDe96 : zkDe prog_1_method_33_code zRw96 = true := by decide +kernel
set_option maxRecDepth 100000 in
theorem zDe97 : zkDe prog_1_method_34_code zRw97 = true := by decide +kernel
set_option maxRecDepth 100000 in
theorem zDe98 : zkDe prog_7_method_16_code zRw98 = true := by decide +kernel
set_option maxRecDepth 100000 in
theorem zDe99 : zkDe prog_17_method_50_code zRw99 = true := by decide +kernel
set_option maxRecDepth 100000 in
theorem zDe100 : zkDe prog_1_method_35_code zRw100 = true := by decide +kernel
set_option maxRecDepth 100000 in
theorem zDe101 : zkDe prog_7_method_17_code zRw101 = true := by decide +kernel
set_option maxRecDepth 100000 in
theorem zDe102 : zkDe prog_7_method_19_code zRw102 = true := by decide +kernel
set_option maxRecDepth 100000 in
theorem zDe103 : zkDe prog_7_method_18_code zRw103 = true := by decide +kernel
set_option maxRecDepth 100000 in
theorem zDe104 : zkDe prog_1_method_36_code zRw104 = true := by decide +kernel
set_option maxRecDepth 100000 in
theorem zDe105 : zkDe prog_1_method_37_code zRw105 = true := by decide +kernel
set_option maxRecDepth 100000 in
theorem zDe106 : zkDe prog_7_method_21_code zRw106 = true := by decide +kernel
set_option maxRecDepth 100000 in
theorem zDe107 : zkDe prog_7_method_20_code zRw107 = true := by decide +kernel
set_option maxRecDepth 100000 in
theorem zDe108 : zkDe prog_1_method_38_code zRw108 = true := by decide +kernel
set_option maxRecDepth 100000 in
theorem zDe109 : zkDe prog_7_method_22_code zRw109 = true := by decide +kernel
set_option maxRecDepth 100000 in
theorem zDe110 : zkDe prog_1_method_39_code zRw110 = true := by decide +kernel
set_option maxRecDepth 100000 in
theorem zDe111 : zkDe prog_10_method_6_code zRw111 = true := by decide +kernel
set_option maxRecDepth 100000 in
theorem zDe112 : zkDe prog_1_method_40_code zRw112 = true := by decide +kernel
set_option maxRecDepth 100000 in
theorem zDe113 : zkDe prog_1_method_41_code zRw113 = true := by decide +kernel
set_option maxRecDepth 100000 in
theorem zDe114 : zkDe prog_7_method_23_code zRw114 = true := by decide +kernel
set_option maxRecDepth 100000 in
theorem zDe115 : zkDe prog_1_method_42_code zRw115 = true := by decide +kernel
set_option maxRecDepth 100000 in
theorem zDe116 : zkDe prog_7_method_24_code zRw116 = true := by decide +kernel
set_option maxRecDepth 100000 in
theorem zDe117 : zkDe prog_1_method_43_code zRw117 = true := by decide +kernel
set_option maxRecDepth 100000 in
theorem zDe118 : zkDe prog_5_method_4_code zRw118 = true := by decide +kernel
set_option maxRecDepth 100000 in
theorem zDe119 : zkDe prog_1_method_44_code zRw119 = true := by decide +kernel
set_option maxRecDepth 100000 in
theorem zDe120 : zkDe prog_12_method_4_code zRw120 = true := by decide +kernel
set_option maxRecDepth 100000 in
theorem zDe121 : zkDe prog_9_method_5_code zRw121 = true := by decide +kernel
set_option maxRecDepth 100000 in
theorem zDe122 : zkDe prog_1_method_45_code zRw122 = true := by decide +kernel
set_option maxRecDepth 100000 in
theorem zDe123 : zkDe prog_2_method_13_code zRw123 = true := by decide +kernel
set_option maxRecDepth 100000 in
theorem zDe124 : zkDe prog_2_method_12_code zRw124 = true := by decide +kernel
set_option maxRecDepth 100000 in
theorem zDe126 : zkDe prog_14_method_13_code zRw126 = true := by decide +kernel
set_option maxRecDepth 100000 in
theorem zDe127 : zkDe prog_14_method_16_code zRw127 = true := by decide +kernel
set_option maxRecDepth 100000 in
theorem zDe128 : zkDe prog_14_method_23_code zRw128 = true := by decide +kernel
set_option maxRecDepth 100000 in
theorem zDe129 : zkDe prog_14_method_3_code zRw129 = true := by decide +kernel
set_option maxRecDepth 100000 in
theorem zDe130 : zkDe prog_14_method_24_code zRw130 = true := by decide +kernel
set_option maxRecDepth 100000 in
theorem zDe131 : zkDe prog_14_method_25_code zRw131 = true := by decide +kernel
set_option maxRecDepth 100000 in
theorem zDe132 : zkDe prog_14_method_18_code zRw132 = true := by decide +kernel
