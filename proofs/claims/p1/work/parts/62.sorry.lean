/-! the cases: -/
theorem zB0 : zrun 208 zS0 = true := sorry
theorem zB1 : zrun 231 zS1 = true := sorry
theorem zB2 : zrun 264 zS2 = true := sorry
theorem zB3 : zrun 297 zS3 = true := sorry
theorem zB4 : zrun 340 zS4 = true := sorry
theorem zB5 : zrun 383 zS5 = true := sorry
theorem zB6 : zrun 406 zS6 = true := sorry
theorem zB7 : zrun 469 zS7 = true := sorry
theorem zB8 : zrun 492 zS8 = true := sorry
theorem zB9 : zrun 515 zS9 = true := sorry
theorem zB10 : zrun 538 zS10 = true := sorry
theorem zB11 : zrun 571 zS11 = true := sorry
theorem zB12 : zrun 604 zS12 = true := sorry
theorem zB13 : zrun 637 zS13 = true := sorry
theorem zB14 : zrun 670 zS14 = true := sorry
theorem zB15 : zrun 693 zS15 = true := sorry
theorem zB16 : zrun 726 zS16 = true := sorry
theorem zB17 : zrun 749 zS17 = true := sorry
theorem zB18 : zrun 782 zS18 = true := sorry
theorem zB19 : zrun 835 zS19 = true := sorry
theorem zB20 : zrun 858 zS20 = true := sorry
theorem zB21 : zrun 901 zS21 = true := sorry
theorem zB22 : zrun 934 zS22 = true := sorry
theorem zB23 : zrun 957 zS23 = true := sorry
theorem zB24 : zrun 1000 zS24 = true := sorry
theorem zB25 : zrun 1023 zS25 = true := sorry
theorem zB26 : zrun 1046 zS26 = true := sorry
theorem zB27 : zrun 1069 zS27 = true := sorry
theorem zB28 : zrun 1092 zS28 = true := sorry
theorem zB29 : zrun 1135 zS29 = true := sorry
theorem zB30 : zrun 1168 zS30 = true := sorry
theorem zB31 : zrun 1191 zS31 = true := sorry
theorem zB32 : zrun 1214 zS32 = true := sorry
theorem zB33 : zrun 1237 zS33 = true := sorry
theorem zB34 : zrun 1270 zS34 = true := sorry
theorem zB35 : zrun 1293 zS35 = true := sorry
theorem zB36 : zrun 1306 zS36 = true := sorry
theorem zB37 : zrun 1329 zS37 = true := sorry
theorem zB38 : zrun 1342 zS38 = true := sorry
theorem zB39 : zrun 1381 zS39 = true := sorry
theorem zA0 : zlaw 0 (fun _ _ => false) = true := sorry
theorem zA1 : zlaw 1 (fun _ _ => false) = true := sorry
theorem zA2 : zlaw 2 (fun _ _ => false) = true := sorry
theorem zA3 : zlaw 3 (fun _ _ => false) = true := sorry
theorem zA4 : zlaw 4 (fun _ _ => false) = true := sorry
theorem zA5 : zlaw 5 (fun _ _ => false) = true := sorry
theorem zA6 : zlaw 6 zck = true := sorry
