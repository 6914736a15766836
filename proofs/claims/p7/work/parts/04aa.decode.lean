/-! the methods' codes, decoded -/
set_option maxRecDepth 100000 in
theorem zDe1 : zkDe prog_1_method_1_code zRw1 = true := by decide +kernel
set_option maxRecDepth 100000 in
theorem zDe2 : zkDe prog_12_method_1_code zRw2 = true := by decide +kernel
set_option maxRecDepth 100000 in
theorem zDe3 : zkDe prog_2_method_1_code zRw3 = true := by decide +kernel
set_option maxRecDepth 100000 in
theorem zDe4 : zkDe prog_11_method_1_code zRw4 = true := by decide +kernel
set_option maxRecDepth 100000 in
theorem zDe5 : zkDe prog_9_method_1_code zRw5 = true := by decide +kernel
set_option maxRecDepth 100000 in
theorem zDe6 : zkDe prog_8_method_1_code zRw6 = true := by decide +kernel
set_option maxRecDepth 100000 in
theorem zDe7 : zkDe prog_5_method_1_code zRw7 = true := by decide +kernel
set_option maxRecDepth 100000 in
theorem zDe8 : zkDe prog_6_method_1_code zRw8 = true := by decide +kernel
set_option maxRecDepth 100000 in
theorem zDe9 : zkDe prog_4_method_1_code zRw9 = true := by decide +kernel
set_option maxRecDepth 100000 in
theorem zDe10 : zkDe prog_3_method_1_code zRw10 = true := by decide +kernel
set_option maxRecDepth 100000 in
theorem zDe11 : zkDe prog_10_method_1_code zRw11 = true := by decide +kernel
set_option maxRecDepth 100000 in
theorem zDe12 : zkDe prog_7_method_1_code zRw12 = true := by decide +kernel
set_option maxRecDepth 100000 in
theorem zDe13 : zkDe prog_1_method_2_code zRw13 = true := by decide +kernel
set_option maxRecDepth 100000 in
theorem zDe14 : zkDe prog_5_method_2_code zRw14 = true := by decide +kernel
set_option maxRecDepth 100000 in
theorem zDe15 : zkDe prog_1_method_3_code zRw15 = true := by decide +kernel
set_option maxRecDepth 100000 in
theorem zDe16 : zkDe prog_1_method_46_code zRw16 = true := by decide +kernel
set_option maxRecDepth 100000 in
theorem zDe17 : zkDe prog_2_method_2_code zRw17 = true := by decide +kernel
set_option maxRecDepth 100000 in
theorem zDe18 : zkDe prog_2_method_7_code zRw18 = true := by decide +kernel
set_option maxRecDepth 100000 in
theorem zDe19 : zkDe prog_1_method_4_code zRw19 = true := by decide +kernel
set_option maxRecDepth 100000 in
theorem zDe20 : zkDe prog_2_method_3_code zRw20 = true := by decide +kernel
set_option maxRecDepth 100000 in
theorem zDe21 : zkDe prog_1_method_5_code zRw21 = true := by decide +kernel
set_option maxRecDepth 100000 in
theorem zDe22 : zkDe prog_2_method_4_code zRw22 = true := by decide +kernel
set_option maxRecDepth 100000 in
theorem zDe23 : zkDe prog_2_method_5_code zRw23 = true := by decide +kernel
set_option maxRecDepth 100000 in
theorem zDe24 : zkDe prog_1_method_6_code zRw24 = true := by decide +kernel
set_option maxRecDepth 100000 in
theorem zDe25 : zkDe prog_1_method_7_code zRw25 = true := by decide +kernel
set_option maxRecDepth 100000 in
theorem zDe26 : zkDe prog_2_method_6_code zRw26 = true := by decide +kernel
set_option maxRecDepth 100000 in
theorem zDe27 : zkDe prog_5_method_3_code zRw27 = true := by decide +kernel
set_option maxRecDepth 100000 in
theorem zDe28 : zkDe prog_2_method_16_code zRw28 = true := by decide +kernel
set_option maxRecDepth 100000 in
theorem zDe29 : zkDe prog_1_method_48_code zRw29 = true := by decide +kernel
set_option maxRecDepth 100000 in
theorem zDe30 : zkDe prog_17_method_69_code zRw30 = true := by decide +kernel
set_option maxRecDepth 100000 in
theorem zDe31 : zkDe prog_1_method_8_code zRw31 = true := by decide +kernel
set_option maxRecDepth 100000 in
theorem zDe32 : zkDe prog_1_method_9_code zRw32 = true := by decide +kernel
set_option maxRecDepth 100000 in
theorem zDe33 : zkDe prog_4_method_8_code zRw33 = true := by decide +kernel
set_option maxRecDepth 100000 in
theorem zDe34 : zkDe prog_17_method_65_code zRw34 = true := by decide +kernel
set_option maxRecDepth 100000 in
theorem zDe35 : zkDe prog_1_method_10_code zRw35 = true := by decide +kernel
set_option maxRecDepth 100000 in
theorem zDe36 : zkDe prog_1_method_11_code zRw36 = true := by decide +kernel
set_option maxRecDepth 100000 in
theorem zDe37 : zkDe prog_4_method_2_code zRw37 = true := by decide +kernel
set_option maxRecDepth 100000 in
theorem zDe38 : zkDe prog_4_method_3_code zRw38 = true := by decide +kernel
set_option maxRecDepth 100000 in
theorem zDe39 : zkDe prog_4_method_6_code zRw39 = true := by decide +kernel
set_option maxRecDepth 100000 in
theorem zDe40 : zkDe prog_4_method_7_code zRw40 = true := by decide +kernel
set_option maxRecDepth 100000 in
theorem zDe41 : zkDe prog_4_method_11_code zRw41 = true := by decide +kernel
set_option maxRecDepth 100000 in
theorem zDe42 : zkDe prog_1_method_12_code zRw42 = true := by decide +kernel
set_option maxRecDepth 100000 in
theorem zDe43 : zkDe prog_8_method_2_code zRw43 = true := by decide +kernel
set_option maxRecDepth 100000 in
theorem zDe44 : zkDe prog_8_method_3_code zRw44 = true := by decide +kernel
set_option maxRecDepth 100000 in
theorem zDe45 : zkDe prog_1_method_13_code zRw45 = true := by decide +kernel
set_option maxRecDepth 100000 in
theorem zDe46 : zkDe prog_1_method_14_code zRw46 = true := by decide +kernel
set_option maxRecDepth 100000 in
theorem zDe47 : zkDe prog_12_method_2_code zRw47 = true := by decide +kernel
set_option maxRecDepth 100000 in
theorem zDe48 : zkDe prog_8_method_4_code zRw48 = true := by decide +kernel
set_option maxRecDepth 100000 in
theorem zDe49 : zkDe prog_8_method_5_code zRw49 = true := by decide +kernel
set_option maxRecDepth 100000 in
theorem zDe50 : zkDe prog_11_method_2_code zRw50 = true := by decide +kernel
set_option maxRecDepth 100000 in
theorem zDe51 : zkDe prog_8_method_6_code zRw51 = true := by decide +kernel
