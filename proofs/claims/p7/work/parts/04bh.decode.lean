/-! the methods' codes, decoded -/
set_option maxRecDepth 100000 in
theorem zDe125_15 : zkDe prog_14_method_1_code ((zRw125.drop 15).take 1) = true := by decide +kernel
set_option maxRecDepth 100000 in
theorem zDe125_16 : zkDe prog_14_method_1_code ((zRw125.drop 16).take 1) = true := by decide +kernel
set_option maxRecDepth 100000 in
theorem zDe125_17 : zkDe prog_14_method_1_code ((zRw125.drop 17).take 1) = true := by decide +kernel
