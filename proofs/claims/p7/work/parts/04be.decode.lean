/-! the methods' codes, decoded -/
set_option maxRecDepth 100000 in
theorem zDe125_6 : zkDe prog_14_method_1_code ((zRw125.drop 6).take 1) = true := by decide +kernel
set_option maxRecDepth 100000 in
theorem zDe125_7 : zkDe prog_14_method_1_code ((zRw125.drop 7).take 1) = true := by decide +kernel
set_option maxRecDepth 100000 in
theorem zDe125_8 : zkDe prog_14_method_1_code ((zRw125.drop 8).take 1) = true := by decide +kernel
