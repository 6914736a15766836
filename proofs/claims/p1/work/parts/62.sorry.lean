/-! cases that are not run yet -/
theorem zB17 : zrun 749 zS17 = true := sorry
theorem zB20 : zrun 858 zS20 = true := sorry
theorem zB23 : zrun 957 zS23 = true := sorry
theorem zB29 : zrun 1135 zS29 = true := sorry
theorem zB32 : zrun 1214 zS32 = true := sorry
