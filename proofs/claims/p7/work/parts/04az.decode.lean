/-! the methods' codes, decoded -/
set_option maxRecDepth 100000 in
theorem zDe0_38 : zkDe code ((zRw0.drop 38).take 1) = true := by decide +kernel
set_option maxRecDepth 100000 in
theorem zDe0_39 : zkDe code ((zRw0.drop 39).take 1) = true := by decide +kernel
