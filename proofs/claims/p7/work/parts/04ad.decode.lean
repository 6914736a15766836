/-! the methods' codes, decoded -/
set_option maxRecDepth 100000 in
theorem zDe133 : zkDe prog_14_method_19_code zRw133 = true := by decide +kernel
set_option maxRecDepth 100000 in
theorem zDe134 : zkDe prog_14_method_27_code zRw134 = true := by decide +kernel
set_option maxRecDepth 100000 in
theorem zDe135 : zkDe prog_14_method_26_code zRw135 = true := by decide +kernel
set_option maxRecDepth 100000 in
theorem zDe136 : zkDe prog_14_method_28_code zRw136 = true := by decide +kernel
set_option maxRecDepth 100000 in
theorem zDe137 : zkDe prog_14_method_63_code zRw137 = true := by decide +kernel
set_option maxRecDepth 100000 in
theorem zDe138 : zkDe prog_14_method_61_code zRw138 = true := by decide +kernel
set_option maxRecDepth 100000 in
theorem zDe139 : zkDe prog_14_method_34_code zRw139 = true := by decide +kernel
set_option maxRecDepth 100000 in
theorem zDe140 : zkDe prog_14_method_29_code zRw140 = true := by decide +kernel
set_option maxRecDepth 100000 in
theorem zDe141 : zkDe prog_14_method_54_code zRw141 = true := by decide +kernel
set_option maxRecDepth 100000 in
theorem zDe142 : zkDe prog_14_method_36_code zRw142 = true := by decide +kernel
set_option maxRecDepth 100000 in
theorem zDe143 : zkDe prog_14_method_57_code zRw143 = true := by decide +kernel
set_option maxRecDepth 100000 in
theorem zDe144 : zkDe prog_14_method_60_code zRw144 = true := by decide +kernel
set_option maxRecDepth 100000 in
theorem zDe145 : zkDe prog_14_method_48_code zRw145 = true := by decide +kernel
set_option maxRecDepth 100000 in
theorem zDe146 : zkDe prog_14_method_47_code zRw146 = true := by decide +kernel
set_option maxRecDepth 100000 in
theorem zDe147 : zkDe prog_14_method_49_code zRw147 = true := by decide +kernel
set_option maxRecDepth 100000 in
theorem zDe148 : zkDe prog_14_method_62_code zRw148 = true := by decide +kernel
set_option maxRecDepth 100000 in
theorem zDe149 : zkDe prog_14_method_64_code zRw149 = true := by decide +kernel
set_option maxRecDepth 100000 in
theorem zDe150 : zkDe prog_14_method_78_code zRw150 = true := by decide +kernel
set_option maxRecDepth 100000 in
theorem zDe151 : zkDe prog_14_method_77_code zRw151 = true := by decide +kernel
set_option maxRecDepth 100000 in
theorem zDe152 : zkDe prog_14_method_10_code zRw152 = true := by decide +kernel
set_option maxRecDepth 100000 in
theorem zDe153 : zkDe prog_14_method_12_code zRw153 = true := by decide +kernel
set_option maxRecDepth 100000 in
theorem zDe154 : zkDe prog_14_method_86_code zRw154 = true := by decide +kernel
set_option maxRecDepth 100000 in
theorem zDe155 : zkDe prog_14_method_85_code zRw155 = true := by decide +kernel
set_option maxRecDepth 100000 in
theorem zDe156 : zkDe prog_14_method_81_code zRw156 = true := by decide +kernel
set_option maxRecDepth 100000 in
theorem zDe157 : zkDe prog_14_method_6_code zRw157 = true := by decide +kernel
set_option maxRecDepth 100000 in
theorem zDe158 : zkDe prog_14_method_84_code zRw158 = true := by decide +kernel
set_option maxRecDepth 100000 in
theorem zDe159 : zkDe prog_14_method_87_code zRw159 = true := by decide +kernel
set_option maxRecDepth 100000 in
theorem zDe160 : zkDe prog_14_method_88_code zRw160 = true := by decide +kernel
set_option maxRecDepth 100000 in
theorem zDe161 : zkDe prog_14_method_89_code zRw161 = true := by decide +kernel
set_option maxRecDepth 100000 in
theorem zDe162 : zkDe prog_14_method_91_code zRw162 = true := by decide +kernel
