/-! the methods' codes, decoded -/
set_option maxRecDepth 100000 in
theorem zDe110 : zkDe prog_1_method_39_code zRw110 = true := zgoR_ok (by decide +kernel)
set_option maxRecDepth 100000 in
theorem zDe111 : zkDe prog_10_method_6_code zRw111 = true := zgoR_ok (by decide +kernel)
set_option maxRecDepth 100000 in
theorem zDe112 : zkDe prog_1_method_40_code zRw112 = true := zgoR_ok (by decide +kernel)
set_option maxRecDepth 100000 in
theorem zDe113 : zkDe prog_1_method_41_code zRw113 = true := zgoR_ok (by decide +kernel)
set_option maxRecDepth 100000 in
theorem zDe114 : zkDe prog_7_method_23_code zRw114 = true := zgoR_ok (by decide +kernel)
set_option maxRecDepth 100000 in
theorem zDe115 : zkDe prog_1_method_42_code zRw115 = true := zgoR_ok (by decide +kernel)
set_option maxRecDepth 100000 in
theorem zDe116 : zkDe prog_7_method_24_code zRw116 = true := zgoR_ok (by decide +kernel)
set_option maxRecDepth 100000 in
theorem zDe117 : zkDe prog_1_method_43_code zRw117 = true := zgoR_ok (by decide +kernel)
set_option maxRecDepth 100000 in
theorem zDe118 : zkDe prog_5_method_4_code zRw118 = true := zgoR_ok (by decide +kernel)
set_option maxRecDepth 100000 in
theorem zDe119 : zkDe prog_1_method_44_code zRw119 = true := zgoR_ok (by decide +kernel)
set_option maxRecDepth 100000 in
theorem zDe120 : zkDe prog_12_method_4_code zRw120 = true := zgoR_ok (by decide +kernel)
set_option maxRecDepth 100000 in
theorem zDe121 : zkDe prog_9_method_5_code zRw121 = true := zgoR_ok (by decide +kernel)
set_option maxRecDepth 100000 in
theorem zDe122 : zkDe prog_1_method_45_code zRw122 = true := zgoR_ok (by decide +kernel)
set_option maxRecDepth 100000 in
theorem zDe123 : zkDe prog_2_method_13_code zRw123 = true := zgoR_ok (by decide +kernel)
set_option maxRecDepth 100000 in
theorem zDe124 : zkDe prog_2_method_12_code zRw124 = true := zgoR_ok (by decide +kernel)
set_option maxRecDepth 100000 in
theorem zDe125 : zkDe prog_14_method_1_code zRw125 = true := zgoR_ok (by decide +kernel)
set_option maxRecDepth 100000 in
theorem zDe126 : zkDe prog_14_method_13_code zRw126 = true := zgoR_ok (by decide +kernel)
set_option maxRecDepth 100000 in
theorem zDe127 : zkDe prog_14_method_16_code zRw127 = true := zgoR_ok (by decide +kernel)
set_option maxRecDepth 100000 in
theorem zDe128 : zkDe prog_14_method_23_code zRw128 = true := zgoR_ok (by decide +kernel)
set_option maxRecDepth 100000 in
theorem zDe129 : zkDe prog_14_method_3_code zRw129 = true := zgoR_ok (by decide +kernel)
set_option maxRecDepth 100000 in
theorem zDe130 : zkDe prog_14_method_24_code zRw130 = true := zgoR_ok (by decide +kernel)
set_option maxRecDepth 100000 in
theorem zDe131 : zkDe prog_14_method_25_code zRw131 = true := zgoR_ok (by decide +kernel)
set_option maxRecDepth 100000 in
theorem zDe132 : zkDe prog_14_method_18_code zRw132 = true := zgoR_ok (by decide +kernel)
set_option maxRecDepth 100000 in
theorem zDe133 : zkDe prog_14_method_19_code zRw133 = true := zgoR_ok (by decide +kernel)
set_option maxRecDepth 100000 in
theorem zDe134 : zkDe prog_14_method_27_code zRw134 = true := zgoR_ok (by decide +kernel)
set_option maxRecDepth 100000 in
theorem zDe135 : zkDe prog_14_method_26_code zRw135 = true := zgoR_ok (by decide +kernel)
set_option maxRecDepth 100000 in
theorem zDe136 : zkDe prog_14_method_28_code zRw136 = true := zgoR_ok (by decide +kernel)
set_option maxRecDepth 100000 in
theorem zDe137 : zkDe prog_14_method_63_code zRw137 = true := zgoR_ok (by decide +kernel)
set_option maxRecDepth 100000 in
theorem zDe138 : zkDe prog_14_method_61_code zRw138 = true := zgoR_ok (by decide +kernel)
set_option maxRecDepth 100000 in
theorem zDe139 : zkDe prog_14_method_34_code zRw139 = true := zgoR_ok (by decide +kernel)
set_option maxRecDepth 100000 in
theorem zDe140 : zkDe prog_14_method_29_code zRw140 = true := zgoR_ok (by decide +kernel)
set_option maxRecDepth 100000 in
theorem zDe141 : zkDe prog_14_method_54_code zRw141 = true := zgoR_ok (by decide +kernel)
set_option maxRecDepth 100000 in
theorem zDe142 : zkDe prog_14_method_36_code zRw142 = true := zgoR_ok (by decide +kernel)
set_option maxRecDepth 100000 in
theorem zDe143 : zkDe prog_14_method_57_code zRw143 = true := zgoR_ok (by decide +kernel)
set_option maxRecDepth 100000 in
theorem zDe144 : zkDe prog_14_method_60_code zRw144 = true := zgoR_ok (by decide +kernel)
set_option maxRecDepth 100000 in
theorem zDe145 : zkDe prog_14_method_48_code zRw145 = true := zgoR_ok (by decide +kernel)
set_option maxRecDepth 100000 in
theorem zDe146 : zkDe prog_14_method_47_code zRw146 = true := zgoR_ok (by decide +kernel)
set_option maxRecDepth 100000 in
theorem zDe147 : zkDe prog_14_method_49_code zRw147 = true := zgoR_ok (by decide +kernel)
set_option maxRecDepth 100000 in
theorem zDe148 : zkDe prog_14_method_62_code zRw148 = true := zgoR_ok (by decide +kernel)
set_option maxRecDepth 100000 in
theorem zDe149 : zkDe prog_14_method_64_code zRw149 = true := zgoR_ok (by decide +kernel)
set_option maxRecDepth 100000 in
theorem zDe150 : zkDe prog_14_method_78_code zRw150 = true := zgoR_ok (by decide +kernel)
set_option maxRecDepth 100000 in
theorem zDe151 : zkDe prog_14_method_77_code zRw151 = true := zgoR_ok (by decide +kernel)
set_option maxRecDepth 100000 in
theorem zDe152 : zkDe prog_14_method_10_code zRw152 = true := zgoR_ok (by decide +kernel)
set_option maxRecDepth 100000 in
theorem zDe153 : zkDe prog_14_method_12_code zRw153 = true := zgoR_ok (by decide +kernel)
set_option maxRecDepth 100000 in
theorem zDe154 : zkDe prog_14_method_86_code zRw154 = true := zgoR_ok (by decide +kernel)
set_option maxRecDepth 100000 in
theorem zDe155 : zkDe prog_14_method_85_code zRw155 = true := zgoR_ok (by decide +kernel)
set_option maxRecDepth 100000 in
theorem zDe156 : zkDe prog_14_method_81_code zRw156 = true := zgoR_ok (by decide +kernel)
set_option maxRecDepth 100000 in
theorem zDe157 : zkDe prog_14_method_6_code zRw157 = true := zgoR_ok (by decide +kernel)
set_option maxRecDepth 100000 in
theorem zDe158 : zkDe prog_14_method_84_code zRw158 = true := zgoR_ok (by decide +kernel)
set_option maxRecDepth 100000 in
theorem zDe159 : zkDe prog_14_method_87_code zRw159 = true := zgoR_ok (by decide +kernel)
set_option maxRecDepth 100000 in
theorem zDe160 : zkDe prog_14_method_88_code zRw160 = true := zgoR_ok (by decide +kernel)
set_option maxRecDepth 100000 in
theorem zDe161 : zkDe prog_14_method_89_code zRw161 = true := zgoR_ok (by decide +kernel)
set_option maxRecDepth 100000 in
theorem zDe162 : zkDe prog_14_method_91_code zRw162 = true := zgoR_ok (by decide +kernel)
set_option maxRecDepth 100000 in
theorem zDe163 : zkDe prog_14_method_14_code zRw163 = true := zgoR_ok (by decide +kernel)
set_option maxRecDepth 100000 in
theorem zDe164 : zkDe prog_14_method_90_code zRw164 = true := zgoR_ok (by decide +kernel)
set_option maxRecDepth 100000 in
theorem zDe165 : zkDe prog_14_method_15_code zRw165 = true := zgoR_ok (by decide +kernel)
set_option maxRecDepth 100000 in
theorem zDe166 : zkDe prog_14_method_95_code zRw166 = true := zgoR_ok (by decide +kernel)
set_option maxRecDepth 100000 in
theorem zDe167 : zkDe prog_14_method_93_code zRw167 = true := zgoR_ok (by decide +kernel)
set_option maxRecDepth 100000 in
theorem zDe168 : zkDe prog_14_method_92_code zRw168 = true := zgoR_ok (by decide +kernel)
set_option maxRecDepth 100000 in
theorem zDe169 : zkDe prog_14_method_11_code zRw169 = true := zgoR_ok (by decide +kernel)
set_option maxRecDepth 100000 in
theorem zDe170 : zkDe prog_14_method_97_code zRw170 = true := zgoR_ok (by decide +kernel)
set_option maxRecDepth 100000 in
theorem zDe171 : zkDe prog_14_method_98_code zRw171 = true := zgoR_ok (by decide +kernel)
set_option maxRecDepth 100000 in
theorem zDe172 : zkDe prog_14_method_100_code zRw172 = true := zgoR_ok (by decide +kernel)
set_option maxRecDepth 100000 in
theorem zDe173 : zkDe prog_14_method_99_code zRw173 = true := zgoR_ok (by decide +kernel)
set_option maxRecDepth 100000 in
theorem zDe174 : zkDe prog_14_method_102_code zRw174 = true := zgoR_ok (by decide +kernel)
set_option maxRecDepth 100000 in
theorem zDe175 : zkDe prog_14_method_103_code zRw175 = true := zgoR_ok (by decide +kernel)
set_option maxRecDepth 100000 in
theorem zDe176 : zkDe prog_14_method_5_code zRw176 = true := zgoR_ok (by decide +kernel)
set_option maxRecDepth 100000 in
theorem zDe177 : zkDe prog_14_method_101_code zRw177 = true := zgoR_ok (by decide +kernel)
set_option maxRecDepth 100000 in
theorem zDe178 : zkDe prog_14_method_9_code zRw178 = true := zgoR_ok (by decide +kernel)
set_option maxRecDepth 100000 in
theorem zDe179 : zkDe prog_14_method_104_code zRw179 = true := zgoR_ok (by decide +kernel)
set_option maxRecDepth 100000 in
theorem zDe180 : zkDe prog_14_method_105_code zRw180 = true := zgoR_ok (by decide +kernel)
set_option maxRecDepth 100000 in
theorem zDe181 : zkDe prog_14_method_108_code zRw181 = true := zgoR_ok (by decide +kernel)
set_option maxRecDepth 100000 in
theorem zDe182 : zkDe prog_14_method_106_code zRw182 = true := zgoR_ok (by decide +kernel)
set_option maxRecDepth 100000 in
theorem zDe183 : zkDe prog_14_method_107_code zRw183 = true := zgoR_ok (by decide +kernel)
set_option maxRecDepth 100000 in
theorem zDe184 : zkDe prog_14_method_110_code zRw184 = true := zgoR_ok (by decide +kernel)
set_option maxRecDepth 100000 in
theorem zDe185 : zkDe prog_14_method_109_code zRw185 = true := zgoR_ok (by decide +kernel)
set_option maxRecDepth 100000 in
theorem zDe186 : zkDe prog_14_method_111_code zRw186 = true := zgoR_ok (by decide +kernel)
set_option maxRecDepth 100000 in
theorem zDe187 : zkDe prog_14_method_114_code zRw187 = true := zgoR_ok (by decide +kernel)
set_option maxRecDepth 100000 in
theorem zDe188 : zkDe prog_14_method_115_code zRw188 = true := zgoR_ok (by decide +kernel)
set_option maxRecDepth 100000 in
theorem zDe189 : zkDe prog_14_method_116_code zRw189 = true := zgoR_ok (by decide +kernel)
set_option maxRecDepth 100000 in
theorem zDe190 : zkDe prog_14_method_118_code zRw190 = true := zgoR_ok (by decide +kernel)
set_option maxRecDepth 100000 in
theorem zDe191 : zkDe prog_14_method_117_code zRw191 = true := zgoR_ok (by decide +kernel)
set_option maxRecDepth 100000 in
theorem zDe192 : zkDe prog_14_method_122_code zRw192 = true := zgoR_ok (by decide +kernel)
set_option maxRecDepth 100000 in
theorem zDe193 : zkDe prog_14_method_123_code zRw193 = true := zgoR_ok (by decide +kernel)
set_option maxRecDepth 100000 in
theorem zDe194 : zkDe prog_14_method_125_code zRw194 = true := zgoR_ok (by decide +kernel)
set_option maxRecDepth 100000 in
theorem zDe195 : zkDe prog_14_method_124_code zRw195 = true := zgoR_ok (by decide +kernel)
set_option maxRecDepth 100000 in
theorem zDe196 : zkDe prog_14_method_126_code zRw196 = true := zgoR_ok (by decide +kernel)
set_option maxRecDepth 100000 in
theorem zDe197 : zkDe prog_14_method_8_code zRw197 = true := zgoR_ok (by decide +kernel)
set_option maxRecDepth 100000 in
theorem zDe198 : zkDe prog_14_method_129_code zRw198 = true := zgoR_ok (by decide +kernel)
set_option maxRecDepth 100000 in
theorem zDe199 : zkDe prog_14_method_128_code zRw199 = true := zgoR_ok (by decide +kernel)
set_option maxRecDepth 100000 in
theorem zDe200 : zkDe prog_14_method_130_code zRw200 = true := zgoR_ok (by decide +kernel)
set_option maxRecDepth 100000 in
theorem zDe201 : zkDe prog_14_method_131_code zRw201 = true := zgoR_ok (by decide +kernel)
set_option maxRecDepth 100000 in
theorem zDe202 : zkDe prog_14_method_133_code zRw202 = true := zgoR_ok (by decide +kernel)
set_option maxRecDepth 100000 in
theorem zDe203 : zkDe prog_14_method_138_code zRw203 = true := zgoR_ok (by decide +kernel)
set_option maxRecDepth 100000 in
theorem zDe204 : zkDe prog_14_method_134_code zRw204 = true := zgoR_ok (by decide +kernel)
set_option maxRecDepth 100000 in
theorem zDe205 : zkDe prog_14_method_136_code zRw205 = true := zgoR_ok (by decide +kernel)
set_option maxRecDepth 100000 in
theorem zDe206 : zkDe prog_14_method_137_code zRw206 = true := zgoR_ok (by decide +kernel)
set_option maxRecDepth 100000 in
theorem zDe207 : zkDe prog_14_method_135_code zRw207 = true := zgoR_ok (by decide +kernel)
set_option maxRecDepth 100000 in
theorem zDe208 : zkDe prog_14_method_140_code zRw208 = true := zgoR_ok (by decide +kernel)
set_option maxRecDepth 100000 in
theorem zDe209 : zkDe prog_14_method_139_code zRw209 = true := zgoR_ok (by decide +kernel)
set_option maxRecDepth 100000 in
theorem zDe210 : zkDe prog_14_method_121_code zRw210 = true := zgoR_ok (by decide +kernel)
set_option maxRecDepth 100000 in
theorem zDe211 : zkDe prog_14_method_120_code zRw211 = true := zgoR_ok (by decide +kernel)
set_option maxRecDepth 100000 in
theorem zDe212 : zkDe prog_14_method_119_code zRw212 = true := zgoR_ok (by decide +kernel)
set_option maxRecDepth 100000 in
theorem zDe213 : zkDe prog_6_method_2_code zRw213 = true := zgoR_ok (by decide +kernel)
set_option maxRecDepth 100000 in
theorem zDe214 : zkDe prog_6_method_4_code zRw214 = true := zgoR_ok (by decide +kernel)
set_option maxRecDepth 100000 in
theorem zDe215 : zkDe prog_2_method_10_code zRw215 = true := zgoR_ok (by decide +kernel)
set_option maxRecDepth 100000 in
theorem zDe216 : zkDe prog_2_method_11_code zRw216 = true := zgoR_ok (by decide +kernel)
set_option maxRecDepth 100000 in
theorem zDe217 : zkDe prog_16_method_49_code zRw217 = true := zgoR_ok (by decide +kernel)
set_option maxRecDepth 100000 in
theorem zDe218 : zkDe prog_6_method_3_code zRw218 = true := zgoR_ok (by decide +kernel)
set_option maxRecDepth 100000 in
theorem zDe219 : zkDe prog_11_method_3_code zRw219 = true := zgoR_ok (by decide +kernel)
