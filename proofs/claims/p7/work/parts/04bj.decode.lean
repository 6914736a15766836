/-! the methods' codes, decoded -/
set_option maxRecDepth 100000 in
theorem zDe125_21 : zkDe prog_14_method_1_code ((zRw125.drop 21).take 1) = true := by decide +kernel
set_option maxRecDepth 100000 in
theorem zDe125_22 : zkDe prog_14_method_1_code ((zRw125.drop 22).take 1) = true := by decide +kernel
set_option maxRecDepth 100000 in
theorem zDe125_23 : zkDe prog_14_method_1_code ((zRw125.drop 23).take 1) = true := by decide +kernel
