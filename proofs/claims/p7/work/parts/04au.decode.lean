/-! the methods' codes, decoded -/
set_option maxRecDepth 100000 in
theorem zDe0_28 : zkDe code ((zRw0.drop 28).take 1) = true := by decide +kernel
set_option maxRecDepth 100000 in
theorem zDe0_29 : zkDe code ((zRw0.drop 29).take 1) = true := by decide +kernel
