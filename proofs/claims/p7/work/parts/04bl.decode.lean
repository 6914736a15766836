/-! the methods' codes, decoded -/
set_option maxRecDepth 100000 in
theorem zDe125_27 : zkDe prog_14_method_1_code ((zRw125.drop 27).take 1) = true := by decide +kernel
set_option maxRecDepth 100000 in
theorem zDe125_28 : zkDe prog_14_method_1_code ((zRw125.drop 28).take 1) = true := by decide +kernel
set_option maxRecDepth 100000 in
theorem zDe125_29 : zkDe prog_14_method_1_code ((zRw125.drop 29).take 1) = true := by decide +kernel
