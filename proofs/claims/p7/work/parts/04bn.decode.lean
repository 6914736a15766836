/-! the methods' codes, decoded -/
set_option maxRecDepth 100000 in
theorem zDe125_34 : zkDe prog_14_method_1_code ((zRw125.drop 34).take 1) = true := by decide +kernel
set_option maxRecDepth 100000 in
theorem zDe125_35 : zkDe prog_14_method_1_code ((zRw125.drop 35).take 1) = true := by decide +kernel
set_option maxRecDepth 100000 in
theorem zDe125_36 : zkDe prog_14_method_1_code ((zRw125.drop 36).take 1) = true := by decide +kernel
set_option maxRecDepth 100000 in
theorem zDe125_37 : zkDe prog_14_method_1_code ((zRw125.drop 37).take 2) = true := by decide +kernel
