/-! the methods' codes, decoded -/
set_option maxRecDepth 100000 in
theorem zDe0 : zkDe code zRw0 = true := zgoR_ok (by decide +kernel)
set_option maxRecDepth 100000 in
theorem zDe1 : zkDe prog_1_method_1_code zRw1 = true := zgoR_ok (by decide +kernel)
set_option maxRecDepth 100000 in
theorem zDe2 : zkDe prog_12_method_1_code zRw2 = true := zgoR_ok (by decide +kernel)
set_option maxRecDepth 100000 in
theorem zDe3 : zkDe prog_2_method_1_code zRw3 = true := zgoR_ok (by decide +kernel)
set_option maxRecDepth 100000 in
theorem zDe4 : zkDe prog_11_method_1_code zRw4 = true := zgoR_ok (by decide +kernel)
set_option maxRecDepth 100000 in
theorem zDe5 : zkDe prog_9_method_1_code zRw5 = true := zgoR_ok (by decide +kernel)
set_option maxRecDepth 100000 in
theorem zDe6 : zkDe prog_8_method_1_code zRw6 = true := zgoR_ok (by decide +kernel)
set_option maxRecDepth 100000 in
theorem zDe7 : zkDe prog_5_method_1_code zRw7 = true := zgoR_ok (by decide +kernel)
set_option maxRecDepth 100000 in
theorem zDe8 : zkDe prog_6_method_1_code zRw8 = true := zgoR_ok (by decide +kernel)
set_option maxRecDepth 100000 in
theorem zDe9 : zkDe prog_4_method_1_code zRw9 = true := zgoR_ok (by decide +kernel)
set_option maxRecDepth 100000 in
theorem zDe10 : zkDe prog_3_method_1_code zRw10 = true := zgoR_ok (by decide +kernel)
set_option maxRecDepth 100000 in
theorem zDe11 : zkDe prog_10_method_1_code zRw11 = true := zgoR_ok (by decide +kernel)
set_option maxRecDepth 100000 in
theorem zDe12 : zkDe prog_7_method_1_code zRw12 = true := zgoR_ok (by decide +kernel)
set_option maxRecDepth 100000 in
theorem zDe13 : zkDe prog_1_method_2_code zRw13 = true := zgoR_ok (by decide +kernel)
set_option maxRecDepth 100000 in
theorem zDe14 : zkDe prog_5_method_2_code zRw14 = true := zgoR_ok (by decide +kernel)
set_option maxRecDepth 100000 in
theorem zDe15 : zkDe prog_1_method_3_code zRw15 = true := zgoR_ok (by decide +kernel)
set_option maxRecDepth 100000 in
theorem zDe16 : zkDe prog_1_method_46_code zRw16 = true := zgoR_ok (by decide +kernel)
set_option maxRecDepth 100000 in
theorem zDe17 : zkDe prog_2_method_2_code zRw17 = true := zgoR_ok (by decide +kernel)
set_option maxRecDepth 100000 in
theorem zDe18 : zkDe prog_2_method_7_code zRw18 = true := zgoR_ok (by decide +kernel)
set_option maxRecDepth 100000 in
theorem zDe19 : zkDe prog_1_method_4_code zRw19 = true := zgoR_ok (by decide +kernel)
set_option maxRecDepth 100000 in
theorem zDe20 : zkDe prog_2_method_3_code zRw20 = true := zgoR_ok (by decide +kernel)
set_option maxRecDepth 100000 in
theorem zDe21 : zkDe prog_1_method_5_code zRw21 = true := zgoR_ok (by decide +kernel)
set_option maxRecDepth 100000 in
theorem zDe22 : zkDe prog_2_method_4_code zRw22 = true := zgoR_ok (by decide +kernel)
set_option maxRecDepth 100000 in
theorem zDe23 : zkDe prog_2_method_5_code zRw23 = true := zgoR_ok (by decide +kernel)
set_option maxRecDepth 100000 in
theorem zDe24 : zkDe prog_1_method_6_code zRw24 = true := zgoR_ok (by decide +kernel)
set_option maxRecDepth 100000 in
theorem zDe25 : zkDe prog_1_method_7_code zRw25 = true := zgoR_ok (by decide +kernel)
set_option maxRecDepth 100000 in
theorem zDe26 : zkDe prog_2_method_6_code zRw26 = true := zgoR_ok (by decide +kernel)
set_option maxRecDepth 100000 in
theorem zDe27 : zkDe prog_5_method_3_code zRw27 = true := zgoR_ok (by decide +kernel)
set_option maxRecDepth 100000 in
theorem zDe28 : zkDe prog_2_method_16_code zRw28 = true := zgoR_ok (by decide +kernel)
set_option maxRecDepth 100000 in
theorem zDe29 : zkDe prog_1_method_48_code zRw29 = true := zgoR_ok (by decide +kernel)
set_option maxRecDepth 100000 in
theorem zDe30 : zkDe prog_17_method_69_code zRw30 = true := zgoR_ok (by decide +kernel)
set_option maxRecDepth 100000 in
theorem zDe31 : zkDe prog_1_method_8_code zRw31 = true := zgoR_ok (by decide +kernel)
set_option maxRecDepth 100000 in
theorem zDe32 : zkDe prog_1_method_9_code zRw32 = true := zgoR_ok (by decide +kernel)
set_option maxRecDepth 100000 in
theorem zDe33 : zkDe prog_4_method_8_code zRw33 = true := zgoR_ok (by decide +kernel)
set_option maxRecDepth 100000 in
theorem zDe34 : zkDe prog_17_method_65_code zRw34 = true := zgoR_ok (by decide +kernel)
set_option maxRecDepth 100000 in
theorem zDe35 : zkDe prog_1_method_10_code zRw35 = true := zgoR_ok (by decide +kernel)
set_option maxRecDepth 100000 in
theorem zDe36 : zkDe prog_1_method_11_code zRw36 = true := zgoR_ok (by decide +kernel)
set_option maxRecDepth 100000 in
theorem zDe37 : zkDe prog_4_method_2_code zRw37 = true := zgoR_ok (by decide +kernel)
set_option maxRecDepth 100000 in
theorem zDe38 : zkDe prog_4_method_3_code zRw38 = true := zgoR_ok (by decide +kernel)
set_option maxRecDepth 100000 in
theorem zDe39 : zkDe prog_4_method_6_code zRw39 = true := zgoR_ok (by decide +kernel)
set_option maxRecDepth 100000 in
theorem zDe40 : zkDe prog_4_method_7_code zRw40 = true := zgoR_ok (by decide +kernel)
set_option maxRecDepth 100000 in
theorem zDe41 : zkDe prog_4_method_11_code zRw41 = true := zgoR_ok (by decide +kernel)
set_option maxRecDepth 100000 in
theorem zDe42 : zkDe prog_1_method_12_code zRw42 = true := zgoR_ok (by decide +kernel)
set_option maxRecDepth 100000 in
theorem zDe43 : zkDe prog_8_method_2_code zRw43 = true := zgoR_ok (by decide +kernel)
set_option maxRecDepth 100000 in
theorem zDe44 : zkDe prog_8_method_3_code zRw44 = true := zgoR_ok (by decide +kernel)
set_option maxRecDepth 100000 in
theorem zDe45 : zkDe prog_1_method_13_code zRw45 = true := zgoR_ok (by decide +kernel)
set_option maxRecDepth 100000 in
theorem zDe46 : zkDe prog_1_method_14_code zRw46 = true := zgoR_ok (by decide +kernel)
set_option maxRecDepth 100000 in
theorem zDe47 : zkDe prog_12_method_2_code zRw47 = true := zgoR_ok (by decide +kernel)
set_option maxRecDepth 100000 in
theorem zDe48 : zkDe prog_8_method_4_code zRw48 = true := zgoR_ok (by decide +kernel)
set_option maxRecDepth 100000 in
theorem zDe49 : zkDe prog_8_method_5_code zRw49 = true := zgoR_ok (by decide +kernel)
set_option maxRecDepth 100000 in
theorem zDe50 : zkDe prog_11_method_2_code zRw50 = true := zgoR_ok (by decide +kernel)
set_option maxRecDepth 100000 in
theorem zDe51 : zkDe prog_8_method_6_code zRw51 = true := zgoR_ok (by decide +kernel)
set_option maxRecDepth 100000 in
theorem zDe52 : zkDe prog_8_method_15_code zRw52 = true := zgoR_ok (by decide +kernel)
set_option maxRecDepth 100000 in
theorem zDe53 : zkDe prog_8_method_16_code zRw53 = true := zgoR_ok (by decide +kernel)
set_option maxRecDepth 100000 in
theorem zDe54 : zkDe prog_11_method_6_code zRw54 = true := zgoR_ok (by decide +kernel)
set_option maxRecDepth 100000 in
theorem zDe55 : zkDe prog_1_method_15_code zRw55 = true := zgoR_ok (by decide +kernel)
set_option maxRecDepth 100000 in
theorem zDe56 : zkDe prog_1_method_16_code zRw56 = true := zgoR_ok (by decide +kernel)
set_option maxRecDepth 100000 in
theorem zDe57 : zkDe prog_1_method_17_code zRw57 = true := zgoR_ok (by decide +kernel)
set_option maxRecDepth 100000 in
theorem zDe58 : zkDe prog_1_method_18_code zRw58 = true := zgoR_ok (by decide +kernel)
set_option maxRecDepth 100000 in
theorem zDe59 : zkDe prog_1_method_19_code zRw59 = true := zgoR_ok (by decide +kernel)
set_option maxRecDepth 100000 in
theorem zDe60 : zkDe prog_2_method_14_code zRw60 = true := zgoR_ok (by decide +kernel)
set_option maxRecDepth 100000 in
theorem zDe61 : zkDe prog_2_method_15_code zRw61 = true := zgoR_ok (by decide +kernel)
set_option maxRecDepth 100000 in
theorem zDe62 : zkDe prog_1_method_20_code zRw62 = true := zgoR_ok (by decide +kernel)
set_option maxRecDepth 100000 in
theorem zDe63 : zkDe prog_3_method_2_code zRw63 = true := zgoR_ok (by decide +kernel)
set_option maxRecDepth 100000 in
theorem zDe64 : zkDe prog_3_method_3_code zRw64 = true := zgoR_ok (by decide +kernel)
set_option maxRecDepth 100000 in
theorem zDe65 : zkDe prog_22_method_101_code zRw65 = true := zgoR_ok (by decide +kernel)
set_option maxRecDepth 100000 in
theorem zDe66 : zkDe prog_3_method_5_code zRw66 = true := zgoR_ok (by decide +kernel)
set_option maxRecDepth 100000 in
theorem zDe67 : zkDe prog_3_method_6_code zRw67 = true := zgoR_ok (by decide +kernel)
set_option maxRecDepth 100000 in
theorem zDe68 : zkDe prog_1_method_21_code zRw68 = true := zgoR_ok (by decide +kernel)
set_option maxRecDepth 100000 in
theorem zDe69 : zkDe prog_10_method_3_code zRw69 = true := zgoR_ok (by decide +kernel)
set_option maxRecDepth 100000 in
theorem zDe70 : zkDe prog_1_method_22_code zRw70 = true := zgoR_ok (by decide +kernel)
set_option maxRecDepth 100000 in
theorem zDe71 : zkDe prog_9_method_4_code zRw71 = true := zgoR_ok (by decide +kernel)
set_option maxRecDepth 100000 in
theorem zDe72 : zkDe prog_9_method_2_code zRw72 = true := zgoR_ok (by decide +kernel)
set_option maxRecDepth 100000 in
theorem zDe73 : zkDe prog_1_method_47_code zRw73 = true := zgoR_ok (by decide +kernel)
set_option maxRecDepth 100000 in
theorem zDe74 : zkDe prog_9_method_3_code zRw74 = true := zgoR_ok (by decide +kernel)
set_option maxRecDepth 100000 in
theorem zDe75 : zkDe prog_1_method_23_code zRw75 = true := zgoR_ok (by decide +kernel)
set_option maxRecDepth 100000 in
theorem zDe76 : zkDe prog_7_method_2_code zRw76 = true := zgoR_ok (by decide +kernel)
set_option maxRecDepth 100000 in
theorem zDe77 : zkDe prog_22_method_103_code zRw77 = true := zgoR_ok (by decide +kernel)
set_option maxRecDepth 100000 in
theorem zDe78 : zkDe prog_7_method_3_code zRw78 = true := zgoR_ok (by decide +kernel)
set_option maxRecDepth 100000 in
theorem zDe79 : zkDe prog_1_method_24_code zRw79 = true := zgoR_ok (by decide +kernel)
set_option maxRecDepth 100000 in
theorem zDe80 : zkDe prog_1_method_25_code zRw80 = true := zgoR_ok (by decide +kernel)
set_option maxRecDepth 100000 in
theorem zDe81 : zkDe prog_7_method_4_code zRw81 = true := zgoR_ok (by decide +kernel)
set_option maxRecDepth 100000 in
theorem zDe82 : zkDe prog_1_method_26_code zRw82 = true := zgoR_ok (by decide +kernel)
set_option maxRecDepth 100000 in
theorem zDe83 : zkDe prog_7_method_7_code zRw83 = true := zgoR_ok (by decide +kernel)
set_option maxRecDepth 100000 in
theorem zDe84 : zkDe prog_1_method_27_code zRw84 = true := zgoR_ok (by decide +kernel)
set_option maxRecDepth 100000 in
theorem zDe85 : zkDe prog_1_method_28_code zRw85 = true := zgoR_ok (by decide +kernel)
set_option maxRecDepth 100000 in
theorem zDe86 : zkDe prog_7_method_8_code zRw86 = true := zgoR_ok (by decide +kernel)
set_option maxRecDepth 100000 in
theorem zDe87 : zkDe prog_7_method_9_code zRw87 = true := zgoR_ok (by decide +kernel)
set_option maxRecDepth 100000 in
theorem zDe88 : zkDe prog_7_method_10_code zRw88 = true := zgoR_ok (by decide +kernel)
set_option maxRecDepth 100000 in
theorem zDe89 : zkDe prog_1_method_29_code zRw89 = true := zgoR_ok (by decide +kernel)
set_option maxRecDepth 100000 in
theorem zDe90 : zkDe prog_7_method_11_code zRw90 = true := zgoR_ok (by decide +kernel)
set_option maxRecDepth 100000 in
theorem zDe91 : zkDe prog_1_method_30_code zRw91 = true := zgoR_ok (by decide +kernel)
set_option maxRecDepth 100000 in
theorem zDe92 : zkDe prog_1_method_31_code zRw92 = true := zgoR_ok (by decide +kernel)
set_option maxRecDepth 100000 in
theorem zDe93 : zkDe prog_7_method_12_code zRw93 = true := zgoR_ok (by decide +kernel)
set_option maxRecDepth 100000 in
theorem zDe94 : zkDe prog_7_method_14_code zRw94 = true := zgoR_ok (by decide +kernel)
set_option maxRecDepth 100000 in
theorem zDe95 : zkDe prog_1_method_32_code zRw95 = true := zgoR_ok (by decide +kernel)
set_option maxRecDepth 100000 in
theorem zDe96 : zkDe prog_1_method_33_code zRw96 = true := zgoR_ok (by decide +kernel)
set_option maxRecDepth 100000 in
theorem zDe97 : zkDe prog_1_method_34_code zRw97 = true := zgoR_ok (by decide +kernel)
set_option maxRecDepth 100000 in
theorem zDe98 : zkDe prog_7_method_16_code zRw98 = true := zgoR_ok (by decide +kernel)
set_option maxRecDepth 100000 in
theorem zDe99 : zkDe prog_17_method_50_code zRw99 = true := zgoR_ok (by decide +kernel)
set_option maxRecDepth 100000 in
theorem zDe100 : zkDe prog_1_method_35_code zRw100 = true := zgoR_ok (by decide +kernel)
set_option maxRecDepth 100000 in
theorem zDe101 : zkDe prog_7_method_17_code zRw101 = true := zgoR_ok (by decide +kernel)
set_option maxRecDepth 100000 in
theorem zDe102 : zkDe prog_7_method_19_code zRw102 = true := zgoR_ok (by decide +kernel)
set_option maxRecDepth 100000 in
theorem zDe103 : zkDe prog_7_method_18_code zRw103 = true := zgoR_ok (by decide +kernel)
set_option maxRecDepth 100000 in
theorem zDe104 : zkDe prog_1_method_36_code zRw104 = true := zgoR_ok (by decide +kernel)
set_option maxRecDepth 100000 in
theorem zDe105 : zkDe prog_1_method_37_code zRw105 = true := zgoR_ok (by decide +kernel)
set_option maxRecDepth 100000 in
theorem zDe106 : zkDe prog_7_method_21_code zRw106 = true := zgoR_ok (by decide +kernel)
set_option maxRecDepth 100000 in
theorem zDe107 : zkDe prog_7_method_20_code zRw107 = true := zgoR_ok (by decide +kernel)
set_option maxRecDepth 100000 in
theorem zDe108 : zkDe prog_1_method_38_code zRw108 = true := zgoR_ok (by decide +kernel)
set_option maxRecDepth 100000 in
theorem zDe109 : zkDe prog_7_method_22_code zRw109 = true := zgoR_ok (by decide +kernel)
