/-! the methods' codes, decoded -/
set_option maxRecDepth 100000 in
theorem zDe0_40 : zkDe code ((zRw0.drop 40).take 1) = true := by decide +kernel
set_option maxRecDepth 100000 in
theorem zDe0_41 : zkDe code ((zRw0.drop 41).take 1) = true := by decide +kernel
set_option maxRecDepth 100000 in
theorem zDe0_42 : zkDe code ((zRw0.drop 42).take 1) = true := by decide +kernel
