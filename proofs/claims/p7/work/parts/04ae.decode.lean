/-! the methods' codes, decoded -/
set_option maxRecDepth 100000 in
theorem zDe163 : zkDe prog_14_method_14_code zRw163 = true := by decide +kernel
set_option maxRecDepth 100000 in
theorem zDe164 : zkDe prog_14_method_90_code zRw164 = true := by decide +kernel
set_option maxRecDepth 100000 in
theorem zDe165 : zkDe prog_14_method_15_code zRw165 = true := by decide +kernel
set_option maxRecDepth 100000 in
theorem zDe166 : zkDe prog_14_method_95_code zRw166 = true := by decide +kernel
set_option maxRecDepth 100000 in
theorem zDe167 : zkDe prog_14_method_93_code zRw167 = true := by decide +kernel
set_option maxRecDepth 100000 in
theorem zDe168 : zkDe prog_14_method_92_code zRw168 = true := by decide +kernel
set_option maxRecDepth 100000 in
theorem zDe169 : zkDe prog_14_method_11_code zRw169 = true := by decide +kernel
set_option maxRecDepth 100000 in
theorem zDe170 : zkDe prog_14_method_97_code zRw170 = true := by decide +kernel
set_option maxRecDepth 100000 in
theorem zDe171 : zkDe prog_14_method_98_code zRw171 = true := by decide +kernel
set_option maxRecDepth 100000 in
theorem zDe172 : zkDe prog_14_method_100_code zRw172 = true := by decide +kernel
set_option maxRecDepth 100000 in
theorem zDe173 : zkDe prog_14_method_99_code zRw173 = true := by decide +kernel
set_option maxRecDepth 100000 in
theorem zDe174 : zkDe prog_14_method_102_code zRw174 = true := by decide +kernel
set_option maxRecDepth 100000 in
theorem zDe175 : zkDe prog_14_method_103_code zRw175 = true := by decide +kernel
set_option maxRecDepth 100000 in
theorem zDe176 : zkDe prog_14_method_5_code zRw176 = true := by decide +kernel
set_option maxRecDepth 100000 in
theorem zDe177 : zkDe prog_14_method_101_code zRw177 = true := by decide +kernel
set_option maxRecDepth 100000 in
theorem zDe178 : zkDe prog_14_method_9_code zRw178 = true := by decide +kernel
set_option maxRecDepth 100000 in
theorem zDe179 : zkDe prog_14_method_104_code zRw179 = true := by decide +kernel
set_option maxRecDepth 100000 in
theorem zDe180 : zkDe prog_14_method_105_code zRw180 = true := by decide +kernel
set_option maxRecDepth 100000 in
theorem zDe181 : zkDe prog_14_method_108_code zRw181 = true := by decide +kernel
set_option maxRecDepth 100000 in
theorem zDe182 : zkDe prog_14_method_106_code zRw182 = true := by decide +kernel
set_option maxRecDepth 100000 in
theorem zDe183 : zkDe prog_14_method_107_code zRw183 = true := by decide +kernel
set_option maxRecDepth 100000 in
theorem zDe184 : zkDe prog_14_method_110_code zRw184 = true := by decide +kernel
set_option maxRecDepth 100000 in
theorem zDe185 : zkDe prog_14_method_109_code zRw185 = true := by decide +kernel
set_option maxRecDepth 100000 in
theorem zDe186 : zkDe prog_14_method_111_code zRw186 = true := by decide +kernel
set_option maxRecDepth 100000 in
theorem zDe187 : zkDe prog_14_method_114_code zRw187 = true := by decide +kernel
set_option maxRecDepth 100000 in
theorem zDe188 : zkDe prog_14_method_115_code zRw188 = true := by decide +kernel
set_option maxRecDepth 100000 in
theorem zDe189 : zkDe prog_14_method_116_code zRw189 = true := by decide +kernel
