/-! the methods' codes, decoded -/
set_option maxRecDepth 100000 in
theorem zDe125_30 : zkDe prog_14_method_1_code ((zRw125.drop 30).take 1) = true := by decide +kernel
set_option maxRecDepth 100000 in
theorem zDe125_31 : zkDe prog_14_method_1_code ((zRw125.drop 31).take 1) = true := by decide +kernel
set_option maxRecDepth 100000 in
theorem zDe125_32 : zkDe prog_14_method_1_code ((zRw125.drop 32).take 1) = true := by decide +kernel
set_option maxRecDepth 100000 in
theorem zDe125_33 : zkDe prog_14_method_1_code ((zRw125.drop 33).take 1) = true := by decide +kernel
