/-! the law on short scripts -/
set_option maxRecDepth 100000 in
theorem zA0 : zlaw 0 (fun _ _ => false) = true := by decide +kernel
set_option maxRecDepth 100000 in
theorem zA1 : zlaw 1 (fun _ _ => false) = true := by decide +kernel
set_option maxRecDepth 100000 in
theorem zA2 : zlaw 2 (fun _ _ => false) = true := by decide +kernel
