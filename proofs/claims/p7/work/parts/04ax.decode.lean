/-! the methods' codes, decoded -/
set_option maxRecDepth 100000 in
theorem zDe0_34 : zkDe code ((zRw0.drop 34).take 1) = true := by decide +kernel
set_option maxRecDepth 100000 in
theorem zDe0_35 : zkDe code ((zRw0.drop 35).take 1) = true := by decide +kernel
