/-! the law on short scripts -/
set_option maxRecDepth 100000 in
theorem zA3 : zlaw 3 (fun _ _ => false) = true := by decide +kernel
set_option maxRecDepth 100000 in
theorem zA4 : zlaw 4 (fun _ _ => false) = true := by decide +kernel
set_option maxRecDepth 100000 in
theorem zA5 : zlaw 5 (fun _ _ => false) = true := by decide +kernel
