/-! the methods' codes, decoded -/
set_option maxRecDepth 100000 in
theorem zDe125_18 : zkDe prog_14_method_1_code ((zRw125.drop 18).take 1) = true := by decide +kernel
set_option maxRecDepth 100000 in
theorem zDe125_19 : zkDe prog_14_method_1_code ((zRw125.drop 19).take 1) = true := by decide +kernel
set_option maxRecDepth 100000 in
theorem zDe125_20 : zkDe prog_14_method_1_code ((zRw125.drop 20).take 1) = true := by decide +kernel
