/-! runs of cases -/
set_option maxRecDepth 100000 in
theorem zB0 : zrun 208 zS0 = true := by decide +kernel
set_option maxRecDepth 100000 in
theorem zB1 : zrun 231 zS1 = true := by decide +kernel
set_option maxRecDepth 100000 in
theorem zB2 : zrun 264 zS2 = true := by decide +kernel
set_option maxRecDepth 100000 in
theorem zB3 : zrun 297 zS3 = true := by decide +kernel
set_option maxRecDepth 100000 in
theorem zB4 : zrun 340 zS4 = true := by decide +kernel
set_option maxRecDepth 100000 in
theorem zB7 : zrun 469 zS7 = true := by decide +kernel
set_option maxRecDepth 100000 in
theorem zB9 : zrun 515 zS9 = true := by decide +kernel
set_option maxRecDepth 100000 in
theorem zB10 : zrun 538 zS10 = true := by decide +kernel
set_option maxRecDepth 100000 in
theorem zB11 : zrun 571 zS11 = true := by decide +kernel
set_option maxRecDepth 100000 in
theorem zB12 : zrun 604 zS12 = true := by decide +kernel
set_option maxRecDepth 100000 in
theorem zB15 : zrun 693 zS15 = true := by decide +kernel
set_option maxRecDepth 100000 in
theorem zB16 : zrun 726 zS16 = true := by decide +kernel
set_option maxRecDepth 100000 in
theorem zB18 : zrun 782 zS18 = true := by decide +kernel
set_option maxRecDepth 100000 in
theorem zB19 : zrun 835 zS19 = true := by decide +kernel
set_option maxRecDepth 100000 in
theorem zB20 : zrun 858 zS20 = true := by decide +kernel
set_option maxRecDepth 100000 in
theorem zB21 : zrun 901 zS21 = true := by decide +kernel
set_option maxRecDepth 100000 in
theorem zB22 : zrun 934 zS22 = true := by decide +kernel
set_option maxRecDepth 100000 in
theorem zB23 : zrun 957 zS23 = true := by decide +kernel
set_option maxRecDepth 100000 in
theorem zB24 : zrun 1000 zS24 = true := by decide +kernel
set_option maxRecDepth 100000 in
theorem zB25 : zrun 1023 zS25 = true := by decide +kernel
set_option maxRecDepth 100000 in
theorem zB26 : zrun 1046 zS26 = true := by decide +kernel
set_option maxRecDepth 100000 in
theorem zB27 : zrun 1069 zS27 = true := by decide +kernel
set_option maxRecDepth 100000 in
theorem zB29 : zrun 1135 zS29 = true := by decide +kernel
set_option maxRecDepth 100000 in
theorem zB30 : zrun 1168 zS30 = true := by decide +kernel
set_option maxRecDepth 100000 in
theorem zB31 : zrun 1191 zS31 = true := by decide +kernel
set_option maxRecDepth 100000 in
theorem zB33 : zrun 1237 zS33 = true := by decide +kernel
set_option maxRecDepth 100000 in
theorem zB34 : zrun 1270 zS34 = true := by decide +kernel
set_option maxRecDepth 100000 in
theorem zB35 : zrun 1293 zS35 = true := by decide +kernel
set_option maxRecDepth 100000 in
theorem zB36 : zrun 1306 zS36 = true := by decide +kernel
set_option maxRecDepth 100000 in
theorem zB37 : zrun 1329 zS37 = true := by decide +kernel
set_option maxRecDepth 100000 in
theorem zB39 : zrun 1381 zS39 = true := by decide +kernel
