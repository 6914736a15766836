/-! the methods' codes, decoded -/
set_option maxRecDepth 100000 in
theorem zDe125_0 : zkDe prog_14_method_1_code ((zRw125.drop 0).take 1) = true := by decide +kernel
set_option maxRecDepth 100000 in
theorem zDe125_1 : zkDe prog_14_method_1_code ((zRw125.drop 1).take 1) = true := by decide +kernel
set_option maxRecDepth 100000 in
theorem zDe125_2 : zkDe prog_14_method_1_code ((zRw125.drop 2).take 1) = true := by decide +kernel
