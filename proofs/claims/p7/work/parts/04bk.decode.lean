/-! the methods' codes, decoded -/
set_option maxRecDepth 100000 in
theorem zDe125_24 : zkDe prog_14_method_1_code ((zRw125.drop 24).take 1) = true := by decide +kernel
set_option maxRecDepth 100000 in
theorem zDe125_25 : zkDe prog_14_method_1_code ((zRw125.drop 25).take 1) = true := by decide +kernel
set_option maxRecDepth 100000 in
theorem zDe125_26 : zkDe prog_14_method_1_code ((zRw125.drop 26).take 1) = true := by decide +kernel
