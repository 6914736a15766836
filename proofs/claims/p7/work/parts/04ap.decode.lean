/-! the methods' codes, decoded -/
set_option maxRecDepth 100000 in
theorem zDe0_18 : zkDe code ((zRw0.drop 18).take 1) = true := by decide +kernel
set_option maxRecDepth 100000 in
theorem zDe0_19 : zkDe code ((zRw0.drop 19).take 1) = true := by decide +kernel
