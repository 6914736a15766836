/-! the methods' codes, decoded -/
set_option maxRecDepth 100000 in
theorem zDe125_9 : zkDe prog_14_method_1_code ((zRw125.drop 9).take 1) = true := by decide +kernel
set_option maxRecDepth 100000 in
theorem zDe125_10 : zkDe prog_14_method_1_code ((zRw125.drop 10).take 1) = true := by decide +kernel
set_option maxRecDepth 100000 in
theorem zDe125_11 : zkDe prog_14_method_1_code ((zRw125.drop 11).take 1) = true := by decide +kernel
