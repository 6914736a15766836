/-! the methods' codes, decoded -/
set_option maxRecDepth 100000 in
theorem zDe125_3 : zkDe prog_14_method_1_code ((zRw125.drop 3).take 1) = true := by decide +kernel
set_option maxRecDepth 100000 in
theorem zDe125_4 : zkDe prog_14_method_1_code ((zRw125.drop 4).take 1) = true := by decide +kernel
set_option maxRecDepth 100000 in
theorem zDe125_5 : zkDe prog_14_method_1_code ((zRw125.drop 5).take 1) = true := by decide +kernel
