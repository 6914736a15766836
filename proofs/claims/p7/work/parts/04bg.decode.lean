/-! the methods' codes, decoded -/
set_option maxRecDepth 100000 in
theorem zDe125_12 : zkDe prog_14_method_1_code ((zRw125.drop 12).take 1) = true := by decide +kernel
set_option maxRecDepth 100000 in
theorem zDe125_13 : zkDe prog_14_method_1_code ((zRw125.drop 13).take 1) = true := by decide +kernel
set_option maxRecDepth 100000 in
theorem zDe125_14 : zkDe prog_14_method_1_code ((zRw125.drop 14).take 1) = true := by decide +kernel
