/-! to the middle of a case, and from there -/
set_option maxRecDepth 100000 in
theorem zB32a : zrunm (zmid 1224 zMgW zMsW) 1214 zS32 = true := by decide +kernel
