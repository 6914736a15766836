/-! runs by contract -/
set_option maxRecDepth 100000 in
theorem zU0 : zrun2 0 30000 = true := by decide +kernel
set_option maxRecDepth 100000 in
theorem zU1 : zrun2 1 30000 = true := by decide +kernel
set_option maxRecDepth 100000 in
theorem zU2 : zrun2 2 30000 = true := by decide +kernel
set_option maxRecDepth 100000 in
theorem zU3 : zrun2 3 30000 = true := by decide +kernel
set_option maxRecDepth 100000 in
theorem zU4 : zrun2 4 30000 = true := by decide +kernel
set_option maxRecDepth 100000 in
theorem zU5 : zrun2 5 30000 = true := by decide +kernel
set_option maxRecDepth 100000 in
theorem zU6 : zrun2 6 30000 = true := by decide +kernel
set_option maxRecDepth 100000 in
theorem zU7 : zrun2 7 30000 = true := by decide +kernel
set_option maxRecDepth 100000 in
theorem zU8 : zrun2 8 30000 = true := by decide +kernel
set_option maxRecDepth 100000 in
theorem zU9 : zrun2 9 30000 = true := by decide +kernel
set_option maxRecDepth 100000 in
theorem zU10 : zrun2 10 30000 = true := by decide +kernel
set_option maxRecDepth 100000 in
theorem zU11 : zrun2 11 30000 = true := by decide +kernel
set_option maxRecDepth 100000 in
theorem zU12 : zrun2 12 30000 = true := by decide +kernel
set_option maxRecDepth 100000 in
theorem zU13 : zrun2 13 30000 = true := by decide +kernel
set_option maxRecDepth 100000 in
theorem zU14 : zrun2 14 30000 = true := by decide +kernel
set_option maxRecDepth 100000 in
theorem zU15 : zrun2 15 30000 = true := by decide +kernel
set_option maxRecDepth 100000 in
theorem zU16 : zrun2 16 30000 = true := by decide +kernel
set_option maxRecDepth 100000 in
theorem zU17 : zrun2 17 30000 = true := by decide +kernel
set_option maxRecDepth 100000 in
theorem zU18 : zrun2 18 30000 = true := by decide +kernel
set_option maxRecDepth 100000 in
theorem zU19 : zrun2 19 30000 = true := by decide +kernel
set_option maxRecDepth 100000 in
theorem zU20 : zrun2 20 30000 = true := by decide +kernel
set_option maxRecDepth 100000 in
theorem zU21 : zrun2 21 30000 = true := by decide +kernel
set_option maxRecDepth 100000 in
theorem zU22 : zrun2 22 30000 = true := by decide +kernel
set_option maxRecDepth 100000 in
theorem zU23 : zrun2 23 30000 = true := by decide +kernel
set_option maxRecDepth 100000 in
theorem zU24 : zrun2 24 30000 = true := by decide +kernel
set_option maxRecDepth 100000 in
theorem zU25 : zrun2 25 30000 = true := by decide +kernel
set_option maxRecDepth 100000 in
theorem zU26 : zrun2 26 30000 = true := by decide +kernel
set_option maxRecDepth 100000 in
theorem zU27 : zrun2 27 30000 = true := by decide +kernel
set_option maxRecDepth 100000 in
theorem zU28 : zrun2 28 30000 = true := by decide +kernel
set_option maxRecDepth 100000 in
theorem zU29 : zrun2 29 30000 = true := by decide +kernel
set_option maxRecDepth 100000 in
theorem zU30 : zrun2 30 30000 = true := by decide +kernel
set_option maxRecDepth 100000 in
theorem zU31 : zrun2 31 30000 = true := by decide +kernel
set_option maxRecDepth 100000 in
theorem zU32 : zrun2 32 30000 = true := by decide +kernel
set_option maxRecDepth 100000 in
theorem zU33 : zrun2 33 30000 = true := by decide +kernel
set_option maxRecDepth 100000 in
theorem zU34 : zrun2 34 30000 = true := by decide +kernel
set_option maxRecDepth 100000 in
theorem zU35 : zrun2 35 30000 = true := by decide +kernel
set_option maxRecDepth 100000 in
theorem zU36 : zrun2 36 30000 = true := by decide +kernel
set_option maxRecDepth 100000 in
theorem zU37 : zrun2 37 30000 = true := by decide +kernel
set_option maxRecDepth 100000 in
theorem zU38 : zrun2 38 30000 = true := by decide +kernel
set_option maxRecDepth 100000 in
theorem zU39 : zrun2 39 30000 = true := by decide +kernel
set_option maxRecDepth 100000 in
theorem zU40 : zrun2 40 30000 = true := by decide +kernel
set_option maxRecDepth 100000 in
theorem zU41 : zrun2 41 30000 = true := by decide +kernel
set_option maxRecDepth 100000 in
theorem zU42 : zrun2 42 30000 = true := by decide +kernel
set_option maxRecDepth 100000 in
theorem zU43 : zrun2 43 30000 = true := by decide +kernel
set_option maxRecDepth 100000 in
theorem zU44 : zrun2 44 30000 = true := by decide +kernel
set_option maxRecDepth 100000 in
theorem zU45 : zrun2 45 30000 = true := by decide +kernel
set_option maxRecDepth 100000 in
theorem zU46 : zrun2 46 30000 = true := by decide +kernel
set_option maxRecDepth 100000 in
theorem zU47 : zrun2 47 30000 = true := by decide +kernel
set_option maxRecDepth 100000 in
theorem zU48 : zrun2 48 30000 = true := by decide +kernel
set_option maxRecDepth 100000 in
theorem zU49 : zrun2 49 30000 = true := by decide +kernel
set_option maxRecDepth 100000 in
theorem zU50 : zrun2 50 30000 = true := by decide +kernel
set_option maxRecDepth 100000 in
theorem zU51 : zrun2 51 30000 = true := by decide +kernel
set_option maxRecDepth 100000 in
theorem zU52 : zrun2 52 30000 = true := by decide +kernel
set_option maxRecDepth 100000 in
theorem zU53 : zrun2 53 30000 = true := by decide +kernel
set_option maxRecDepth 100000 in
theorem zU54 : zrun2 54 30000 = true := by decide +kernel
set_option maxRecDepth 100000 in
theorem zU55 : zrun2 55 30000 = true := by decide +kernel
set_option maxRecDepth 100000 in
theorem zU56 : zrun2 56 30000 = true := by decide +kernel
set_option maxRecDepth 100000 in
theorem zU57 : zrun2 57 30000 = true := by decide +kernel
set_option maxRecDepth 100000 in
theorem zU58 : zrun2 58 30000 = true := by decide +kernel
set_option maxRecDepth 100000 in
theorem zU59 : zrun2 59 30000 = true := by decide +kernel
set_option maxRecDepth 100000 in
theorem zU60 : zrun2 60 30000 = true := by decide +kernel
set_option maxRecDepth 100000 in
theorem zU61 : zrun2 61 30000 = true := by decide +kernel
set_option maxRecDepth 100000 in
theorem zU62 : zrun2 62 30000 = true := by decide +kernel
set_option maxRecDepth 100000 in
theorem zU63 : zrun2 63 30000 = true := by decide +kernel
set_option maxRecDepth 100000 in
theorem zU64 : zrun2 64 30000 = true := by decide +kernel
set_option maxRecDepth 100000 in
theorem zU65 : zrun2 65 30000 = true := by decide +kernel
set_option maxRecDepth 100000 in
theorem zU66 : zrun2 66 30000 = true := by decide +kernel
set_option maxRecDepth 100000 in
theorem zU67 : zrun2 67 30000 = true := by decide +kernel
set_option maxRecDepth 100000 in
theorem zU68 : zrun2 68 30000 = true := by decide +kernel
set_option maxRecDepth 100000 in
theorem zU69 : zrun2 69 30000 = true := by decide +kernel
set_option maxRecDepth 100000 in
theorem zU70 : zrun2 70 30000 = true := by decide +kernel
set_option maxRecDepth 100000 in
theorem zU71 : zrun2 71 30000 = true := by decide +kernel
set_option maxRecDepth 100000 in
theorem zU72 : zrun2 72 30000 = true := by decide +kernel
set_option maxRecDepth 100000 in
theorem zU73 : zrun2 73 30000 = true := by decide +kernel
set_option maxRecDepth 100000 in
theorem zU74 : zrun2 74 30000 = true := by decide +kernel
set_option maxRecDepth 100000 in
theorem zU75 : zrun2 75 30000 = true := by decide +kernel
set_option maxRecDepth 100000 in
theorem zU76 : zrun2 76 30000 = true := by decide +kernel
set_option maxRecDepth 100000 in
theorem zU77 : zrun2 77 30000 = true := by decide +kernel
set_option maxRecDepth 100000 in
theorem zU78 : zrun2 78 30000 = true := by decide +kernel
set_option maxRecDepth 100000 in
theorem zU79 : zrun2 79 30000 = true := by decide +kernel
set_option maxRecDepth 100000 in
theorem zU80 : zrun2 80 30000 = true := by decide +kernel
set_option maxRecDepth 100000 in
theorem zU81 : zrun2 81 30000 = true := by decide +kernel
set_option maxRecDepth 100000 in
theorem zU82 : zrun2 82 30000 = true := by decide +kernel
set_option maxRecDepth 100000 in
theorem zU83 : zrun2 83 30000 = true := by decide +kernel
set_option maxRecDepth 100000 in
theorem zU84 : zrun2 84 30000 = true := by decide +kernel
set_option maxRecDepth 100000 in
theorem zU85 : zrun2 85 30000 = true := by decide +kernel
set_option maxRecDepth 100000 in
theorem zU86 : zrun2 86 30000 = true := by decide +kernel
set_option maxRecDepth 100000 in
theorem zU87 : zrun2 87 30000 = true := by decide +kernel
set_option maxRecDepth 100000 in
theorem zU88 : zrun2 88 30000 = true := by decide +kernel
set_option maxRecDepth 100000 in
theorem zU89 : zrun2 89 30000 = true := by decide +kernel
set_option maxRecDepth 100000 in
theorem zU90 : zrun2 90 30000 = true := by decide +kernel
set_option maxRecDepth 100000 in
theorem zU91 : zrun2 91 30000 = true := by decide +kernel
set_option maxRecDepth 100000 in
theorem zU92 : zrun2 92 30000 = true := by decide +kernel
set_option maxRecDepth 100000 in
theorem zU93 : zrun2 93 30000 = true := by decide +kernel
set_option maxRecDepth 100000 in
theorem zU94 : zrun2 94 30000 = true := by decide +kernel
set_option maxRecDepth 100000 in
theorem zU95 : zrun2 95 30000 = true := by decide +kernel
set_option maxRecDepth 100000 in
theorem zU96 : zrun2 96 30000 = true := by decide +kernel
set_option maxRecDepth 100000 in
theorem zU97 : zrun2 97 30000 = true := by decide +kernel
set_option maxRecDepth 100000 in
theorem zU98 : zrun2 98 30000 = true := by decide +kernel
set_option maxRecDepth 100000 in
theorem zU99 : zrun2 99 30000 = true := by decide +kernel
set_option maxRecDepth 100000 in
theorem zU100 : zrun2 100 30000 = true := by decide +kernel
set_option maxRecDepth 100000 in
theorem zU101 : zrun2 101 30000 = true := by decide +kernel
set_option maxRecDepth 100000 in
theorem zU102 : zrun2 102 30000 = true := by decide +kernel
set_option maxRecDepth 100000 in
theorem zU103 : zrun2 103 30000 = true := by decide +kernel
set_option maxRecDepth 100000 in
theorem zU104 : zrun2 104 30000 = true := by decide +kernel
set_option maxRecDepth 100000 in
theorem zU105 : zrun2 105 30000 = true := by decide +kernel
set_option maxRecDepth 100000 in
theorem zU106 : zrun2 106 30000 = true := by decide +kernel
set_option maxRecDepth 100000 in
theorem zU107 : zrun2 107 30000 = true := by decide +kernel
set_option maxRecDepth 100000 in
theorem zU108 : zrun2 108 30000 = true := by decide +kernel
set_option maxRecDepth 100000 in
theorem zU109 : zrun2 109 30000 = true := by decide +kernel
set_option maxRecDepth 100000 in
theorem zU110 : zrun2 110 30000 = true := by decide +kernel
set_option maxRecDepth 100000 in
theorem zU111 : zrun2 111 30000 = true := by decide +kernel
set_option maxRecDepth 100000 in
theorem zU112 : zrun2 112 30000 = true := by decide +kernel
set_option maxRecDepth 100000 in
theorem zU113 : zrun2 113 30000 = true := by decide +kernel
set_option maxRecDepth 100000 in
theorem zU114 : zrun2 114 30000 = true := by decide +kernel
set_option maxRecDepth 100000 in
theorem zU115 : zrun2 115 30000 = true := by decide +kernel
set_option maxRecDepth 100000 in
theorem zU116 : zrun2 116 30000 = true := by decide +kernel
set_option maxRecDepth 100000 in
theorem zU117 : zrun2 117 30000 = true := by decide +kernel
set_option maxRecDepth 100000 in
theorem zU118 : zrun2 118 30000 = true := by decide +kernel
set_option maxRecDepth 100000 in
theorem zU119 : zrun2 119 30000 = true := by decide +kernel
set_option maxRecDepth 100000 in
theorem zU120 : zrun2 120 30000 = true := by decide +kernel
set_option maxRecDepth 100000 in
theorem zU121 : zrun2 121 30000 = true := by decide +kernel
set_option maxRecDepth 100000 in
theorem zU122 : zrun2 122 30000 = true := by decide +kernel
set_option maxRecDepth 100000 in
theorem zU123 : zrun2 123 30000 = true := by decide +kernel
set_option maxRecDepth 100000 in
theorem zU124 : zrun2 124 30000 = true := by decide +kernel
set_option maxRecDepth 100000 in
theorem zU125 : zrun2 125 30000 = true := by decide +kernel
set_option maxRecDepth 100000 in
theorem zU126 : zrun2 126 30000 = true := by decide +kernel
set_option maxRecDepth 100000 in
theorem zU127 : zrun2 127 30000 = true := by decide +kernel
set_option maxRecDepth 100000 in
theorem zU128 : zrun2 128 30000 = true := by decide +kernel
set_option maxRecDepth 100000 in
theorem zU129 : zrun2 129 30000 = true := by decide +kernel
set_option maxRecDepth 100000 in
theorem zU130 : zrun2 130 30000 = true := by decide +kernel
set_option maxRecDepth 100000 in
theorem zU131 : zrun2 131 30000 = true := by decide +kernel
set_option maxRecDepth 100000 in
theorem zU132 : zrun2 132 30000 = true := by decide +kernel
set_option maxRecDepth 100000 in
theorem zU133 : zrun2 133 30000 = true := by decide +kernel
set_option maxRecDepth 100000 in
theorem zU134 : zrun2 134 30000 = true := by decide +kernel
set_option maxRecDepth 100000 in
theorem zU135 : zrun2 135 30000 = true := by decide +kernel
set_option maxRecDepth 100000 in
theorem zU136 : zrun2 136 30000 = true := by decide +kernel
set_option maxRecDepth 100000 in
theorem zU137 : zrun2 137 30000 = true := by decide +kernel
set_option maxRecDepth 100000 in
theorem zU138 : zrun2 138 30000 = true := by decide +kernel
set_option maxRecDepth 100000 in
theorem zU139 : zrun2 139 30000 = true := by decide +kernel
set_option maxRecDepth 100000 in
theorem zU140 : zrun2 140 30000 = true := by decide +kernel
set_option maxRecDepth 100000 in
theorem zU141 : zrun2 141 30000 = true := by decide +kernel
set_option maxRecDepth 100000 in
theorem zU142 : zrun2 142 30000 = true := by decide +kernel
set_option maxRecDepth 100000 in
theorem zU143 : zrun2 143 30000 = true := by decide +kernel
set_option maxRecDepth 100000 in
theorem zU144 : zrun2 144 30000 = true := by decide +kernel
set_option maxRecDepth 100000 in
theorem zU145 : zrun2 145 30000 = true := by decide +kernel
set_option maxRecDepth 100000 in
theorem zU146 : zrun2 146 30000 = true := by decide +kernel
set_option maxRecDepth 100000 in
theorem zU147 : zrun2 147 30000 = true := by decide +kernel
set_option maxRecDepth 100000 in
theorem zU148 : zrun2 148 30000 = true := by decide +kernel
set_option maxRecDepth 100000 in
theorem zU149 : zrun2 149 30000 = true := by decide +kernel
set_option maxRecDepth 100000 in
theorem zU150 : zrun2 150 30000 = true := by decide +kernel
set_option maxRecDepth 100000 in
theorem zU151 : zrun2 151 30000 = true := by decide +kernel
set_option maxRecDepth 100000 in
theorem zU152 : zrun2 152 30000 = true := by decide +kernel
set_option maxRecDepth 100000 in
theorem zU153 : zrun2 153 30000 = true := by decide +kernel
set_option maxRecDepth 100000 in
theorem zU154 : zrun2 154 30000 = true := by decide +kernel
set_option maxRecDepth 100000 in
theorem zU155 : zrun2 155 30000 = true := by decide +kernel
set_option maxRecDepth 100000 in
theorem zU156 : zrun2 156 30000 = true := by decide +kernel
set_option maxRecDepth 100000 in
theorem zU157 : zrun2 157 30000 = true := by decide +kernel
set_option maxRecDepth 100000 in
theorem zU158 : zrun2 158 30000 = true := by decide +kernel
set_option maxRecDepth 100000 in
theorem zU159 : zrun2 159 30000 = true := by decide +kernel
set_option maxRecDepth 100000 in
theorem zU160 : zrun2 160 30000 = true := by decide +kernel
set_option maxRecDepth 100000 in
theorem zU161 : zrun2 161 30000 = true := by decide +kernel
set_option maxRecDepth 100000 in
theorem zU162 : zrun2 162 30000 = true := by decide +kernel
set_option maxRecDepth 100000 in
theorem zU163 : zrun2 163 30000 = true := by decide +kernel
set_option maxRecDepth 100000 in
theorem zU164 : zrun2 164 30000 = true := by decide +kernel
set_option maxRecDepth 100000 in
theorem zU165 : zrun2 165 30000 = true := by decide +kernel
set_option maxRecDepth 100000 in
theorem zU166 : zrun2 166 30000 = true := by decide +kernel
set_option maxRecDepth 100000 in
theorem zU167 : zrun2 167 30000 = true := by decide +kernel
set_option maxRecDepth 100000 in
theorem zU168 : zrun2 168 30000 = true := by decide +kernel
set_option maxRecDepth 100000 in
theorem zU169 : zrun2 169 30000 = true := by decide +kernel
set_option maxRecDepth 100000 in
theorem zU170 : zrun2 170 30000 = true := by decide +kernel
set_option maxRecDepth 100000 in
theorem zU171 : zrun2 171 30000 = true := by decide +kernel
set_option maxRecDepth 100000 in
theorem zU172 : zrun2 172 30000 = true := by decide +kernel
set_option maxRecDepth 100000 in
theorem zU173 : zrun2 173 30000 = true := by decide +kernel
set_option maxRecDepth 100000 in
theorem zU174 : zrun2 174 30000 = true := by decide +kernel
set_option maxRecDepth 100000 in
theorem zU175 : zrun2 175 30000 = true := by decide +kernel
set_option maxRecDepth 100000 in
theorem zU176 : zrun2 176 30000 = true := by decide +kernel
set_option maxRecDepth 100000 in
theorem zU177 : zrun2 177 30000 = true := by decide +kernel
set_option maxRecDepth 100000 in
theorem zU178 : zrun2 178 30000 = true := by decide +kernel
set_option maxRecDepth 100000 in
theorem zU179 : zrun2 179 30000 = true := by decide +kernel
set_option maxRecDepth 100000 in
theorem zU180 : zrun2 180 30000 = true := by decide +kernel
set_option maxRecDepth 100000 in
theorem zU181 : zrun2 181 30000 = true := by decide +kernel
set_option maxRecDepth 100000 in
theorem zU182 : zrun2 182 30000 = true := by decide +kernel
set_option maxRecDepth 100000 in
theorem zU183 : zrun2 183 30000 = true := by decide +kernel
set_option maxRecDepth 100000 in
theorem zU184 : zrun2 184 30000 = true := by decide +kernel
set_option maxRecDepth 100000 in
theorem zU185 : zrun2 185 30000 = true := by decide +kernel
set_option maxRecDepth 100000 in
theorem zU186 : zrun2 186 30000 = true := by decide +kernel
set_option maxRecDepth 100000 in
theorem zU187 : zrun2 187 30000 = true := by decide +kernel
set_option maxRecDepth 100000 in
theorem zU188 : zrun2 188 30000 = true := by decide +kernel
set_option maxRecDepth 100000 in
theorem zU189 : zrun2 189 30000 = true := by decide +kernel
set_option maxRecDepth 100000 in
theorem zU190 : zrun2 190 30000 = true := by decide +kernel
set_option maxRecDepth 100000 in
theorem zU191 : zrun2 191 30000 = true := by decide +kernel
set_option maxRecDepth 100000 in
theorem zU192 : zrun2 192 30000 = true := by decide +kernel
set_option maxRecDepth 100000 in
theorem zU193 : zrun2 193 30000 = true := by decide +kernel
set_option maxRecDepth 100000 in
theorem zU194 : zrun2 194 30000 = true := by decide +kernel
set_option maxRecDepth 100000 in
theorem zU195 : zrun2 195 30000 = true := by decide +kernel
set_option maxRecDepth 100000 in
theorem zU196 : zrun2 196 30000 = true := by decide +kernel
set_option maxRecDepth 100000 in
theorem zU197 : zrun2 197 30000 = true := by decide +kernel
set_option maxRecDepth 100000 in
theorem zU198 : zrun2 198 30000 = true := by decide +kernel
set_option maxRecDepth 100000 in
theorem zU199 : zrun2 199 30000 = true := by decide +kernel
set_option maxRecDepth 100000 in
theorem zU200 : zrun2 200 30000 = true := by decide +kernel
set_option maxRecDepth 100000 in
theorem zU201 : zrun2 201 30000 = true := by decide +kernel
set_option maxRecDepth 100000 in
theorem zU202 : zrun2 202 30000 = true := by decide +kernel
set_option maxRecDepth 100000 in
theorem zU203 : zrun2 203 30000 = true := by decide +kernel
set_option maxRecDepth 100000 in
theorem zU204 : zrun2 204 30000 = true := by decide +kernel
set_option maxRecDepth 100000 in
theorem zU205 : zrun2 205 30000 = true := by decide +kernel
set_option maxRecDepth 100000 in
theorem zU206 : zrun2 206 30000 = true := by decide +kernel
set_option maxRecDepth 100000 in
theorem zU207 : zrun2 207 30000 = true := by decide +kernel
set_option maxRecDepth 100000 in
theorem zU208 : zrun2 208 30000 = true := by decide +kernel
set_option maxRecDepth 100000 in
theorem zU209 : zrun2 209 30000 = true := by decide +kernel
set_option maxRecDepth 100000 in
theorem zU210 : zrun2 210 30000 = true := by decide +kernel
set_option maxRecDepth 100000 in
theorem zU211 : zrun2 211 30000 = true := by decide +kernel
set_option maxRecDepth 100000 in
theorem zU212 : zrun2 212 30000 = true := by decide +kernel
set_option maxRecDepth 100000 in
theorem zU213 : zrun2 213 30000 = true := by decide +kernel
set_option maxRecDepth 100000 in
theorem zU214 : zrun2 214 30000 = true := by decide +kernel
set_option maxRecDepth 100000 in
theorem zU215 : zrun2 215 30000 = true := by decide +kernel
set_option maxRecDepth 100000 in
theorem zU216 : zrun2 216 30000 = true := by decide +kernel
set_option maxRecDepth 100000 in
theorem zU217 : zrun2 217 30000 = true := by decide +kernel
set_option maxRecDepth 100000 in
theorem zU218 : zrun2 218 30000 = true := by decide +kernel
set_option maxRecDepth 100000 in
theorem zU219 : zrun2 219 30000 = true := by decide +kernel
set_option maxRecDepth 100000 in
theorem zU220 : zrun2 220 30000 = true := by decide +kernel
set_option maxRecDepth 100000 in
theorem zU221 : zrun2 221 30000 = true := by decide +kernel
set_option maxRecDepth 100000 in
theorem zU222 : zrun2 222 30000 = true := by decide +kernel
set_option maxRecDepth 100000 in
theorem zU223 : zrun2 223 30000 = true := by decide +kernel
set_option maxRecDepth 100000 in
theorem zU224 : zrun2 224 30000 = true := by decide +kernel
set_option maxRecDepth 100000 in
theorem zU225 : zrun2 225 30000 = true := by decide +kernel
set_option maxRecDepth 100000 in
theorem zU226 : zrun2 226 30000 = true := by decide +kernel
set_option maxRecDepth 100000 in
theorem zU227 : zrun2 227 30000 = true := by decide +kernel
set_option maxRecDepth 100000 in
theorem zU228 : zrun2 228 30000 = true := by decide +kernel
set_option maxRecDepth 100000 in
theorem zU229 : zrun2 229 30000 = true := by decide +kernel
set_option maxRecDepth 100000 in
theorem zU230 : zrun2 230 30000 = true := by decide +kernel
set_option maxRecDepth 100000 in
theorem zU231 : zrun2 231 30000 = true := by decide +kernel
set_option maxRecDepth 100000 in
theorem zU232 : zrun2 232 30000 = true := by decide +kernel
set_option maxRecDepth 100000 in
theorem zU233 : zrun2 233 30000 = true := by decide +kernel
set_option maxRecDepth 100000 in
theorem zU234 : zrun2 234 30000 = true := by decide +kernel
set_option maxRecDepth 100000 in
theorem zU235 : zrun2 235 30000 = true := by decide +kernel
set_option maxRecDepth 100000 in
theorem zU236 : zrun2 236 30000 = true := by decide +kernel
set_option maxRecDepth 100000 in
theorem zU237 : zrun2 237 30000 = true := by decide +kernel
set_option maxRecDepth 100000 in
theorem zU238 : zrun2 238 30000 = true := by decide +kernel
set_option maxRecDepth 100000 in
theorem zU239 : zrun2 239 30000 = true := by decide +kernel
set_option maxRecDepth 100000 in
theorem zU240 : zrun2 240 30000 = true := by decide +kernel
set_option maxRecDepth 100000 in
theorem zU241 : zrun2 241 30000 = true := by decide +kernel
set_option maxRecDepth 100000 in
theorem zU242 : zrun2 242 30000 = true := by decide +kernel
set_option maxRecDepth 100000 in
theorem zU243 : zrun2 243 30000 = true := by decide +kernel
set_option maxRecDepth 100000 in
theorem zU244 : zrun2 244 30000 = true := by decide +kernel
set_option maxRecDepth 100000 in
theorem zU245 : zrun2 245 30000 = true := by decide +kernel
set_option maxRecDepth 100000 in
theorem zU246 : zrun2 246 30000 = true := by decide +kernel
set_option maxRecDepth 100000 in
theorem zU247 : zrun2 247 30000 = true := by decide +kernel
set_option maxRecDepth 100000 in
theorem zU248 : zrun2 248 30000 = true := by decide +kernel
set_option maxRecDepth 100000 in
theorem zU249 : zrun2 249 30000 = true := by decide +kernel
set_option maxRecDepth 100000 in
theorem zU250 : zrun2 250 30000 = true := by decide +kernel
set_option maxRecDepth 100000 in
theorem zU251 : zrun2 251 30000 = true := by decide +kernel
set_option maxRecDepth 100000 in
theorem zU252 : zrun2 252 30000 = true := by decide +kernel
set_option maxRecDepth 100000 in
theorem zU253 : zrun2 253 30000 = true := by decide +kernel
set_option maxRecDepth 100000 in
theorem zU254 : zrun2 254 30000 = true := by decide +kernel
set_option maxRecDepth 100000 in
theorem zU255 : zrun2 255 30000 = true := by decide +kernel
set_option maxRecDepth 100000 in
theorem zU256 : zrun2 256 30000 = true := by decide +kernel
set_option maxRecDepth 100000 in
theorem zU257 : zrun2 257 30000 = true := by decide +kernel
set_option maxRecDepth 100000 in
theorem zU258 : zrun2 258 30000 = true := by decide +kernel
set_option maxRecDepth 100000 in
theorem zU259 : zrun2 259 30000 = true := by decide +kernel
set_option maxRecDepth 100000 in
theorem zU260 : zrun2 260 30000 = true := by decide +kernel
set_option maxRecDepth 100000 in
theorem zU261 : zrun2 261 30000 = true := by decide +kernel
set_option maxRecDepth 100000 in
theorem zU262 : zrun2 262 30000 = true := by decide +kernel
set_option maxRecDepth 100000 in
theorem zU263 : zrun2 263 30000 = true := by decide +kernel
set_option maxRecDepth 100000 in
theorem zU264 : zrun2 264 30000 = true := by decide +kernel
set_option maxRecDepth 100000 in
theorem zU265 : zrun2 265 30000 = true := by decide +kernel
set_option maxRecDepth 100000 in
theorem zU266 : zrun2 266 30000 = true := by decide +kernel
set_option maxRecDepth 100000 in
theorem zU267 : zrun2 267 30000 = true := by decide +kernel
set_option maxRecDepth 100000 in
theorem zU268 : zrun2 268 30000 = true := by decide +kernel
set_option maxRecDepth 100000 in
theorem zU269 : zrun2 269 30000 = true := by decide +kernel
set_option maxRecDepth 100000 in
theorem zU270 : zrun2 270 30000 = true := by decide +kernel
set_option maxRecDepth 100000 in
theorem zU271 : zrun2 271 30000 = true := by decide +kernel
set_option maxRecDepth 100000 in
theorem zU272 : zrun2 272 30000 = true := by decide +kernel
set_option maxRecDepth 100000 in
theorem zU273 : zrun2 273 30000 = true := by decide +kernel
set_option maxRecDepth 100000 in
theorem zU274 : zrun2 274 30000 = true := by decide +kernel
set_option maxRecDepth 100000 in
theorem zU275 : zrun2 275 30000 = true := by decide +kernel
set_option maxRecDepth 100000 in
theorem zU276 : zrun2 276 30000 = true := by decide +kernel
set_option maxRecDepth 100000 in
theorem zU277 : zrun2 277 30000 = true := by decide +kernel
set_option maxRecDepth 100000 in
theorem zU278 : zrun2 278 30000 = true := by decide +kernel
set_option maxRecDepth 100000 in
theorem zU279 : zrun2 279 30000 = true := by decide +kernel
set_option maxRecDepth 100000 in
theorem zU280 : zrun2 280 30000 = true := by decide +kernel
set_option maxRecDepth 100000 in
theorem zU281 : zrun2 281 30000 = true := by decide +kernel
set_option maxRecDepth 100000 in
theorem zU282 : zrun2 282 30000 = true := by decide +kernel
set_option maxRecDepth 100000 in
theorem zU283 : zrun2 283 30000 = true := by decide +kernel
set_option maxRecDepth 100000 in
theorem zU284 : zrun2 284 30000 = true := by decide +kernel
set_option maxRecDepth 100000 in
theorem zU285 : zrun2 285 30000 = true := by decide +kernel
set_option maxRecDepth 100000 in
theorem zU286 : zrun2 286 30000 = true := by decide +kernel
set_option maxRecDepth 100000 in
theorem zU287 : zrun2 287 30000 = true := by decide +kernel
set_option maxRecDepth 100000 in
theorem zU288 : zrun2 288 30000 = true := by decide +kernel
set_option maxRecDepth 100000 in
theorem zU289 : zrun2 289 30000 = true := by decide +kernel
set_option maxRecDepth 100000 in
theorem zU290 : zrun2 290 30000 = true := by decide +kernel
set_option maxRecDepth 100000 in
theorem zU291 : zrun2 291 30000 = true := by decide +kernel
set_option maxRecDepth 100000 in
theorem zU292 : zrun2 292 30000 = true := by decide +kernel
set_option maxRecDepth 100000 in
theorem zU293 : zrun2 293 30000 = true := by decide +kernel
set_option maxRecDepth 100000 in
theorem zU294 : zrun2 294 30000 = true := by decide +kernel
set_option maxRecDepth 100000 in
theorem zU295 : zrun2 295 30000 = true := by decide +kernel
set_option maxRecDepth 100000 in
theorem zU296 : zrun2 296 30000 = true := by decide +kernel
set_option maxRecDepth 100000 in
theorem zU297 : zrun2 297 30000 = true := by decide +kernel
set_option maxRecDepth 100000 in
theorem zU298 : zrun2 298 30000 = true := by decide +kernel
set_option maxRecDepth 100000 in
theorem zU299 : zrun2 299 30000 = true := by decide +kernel
set_option maxRecDepth 100000 in
theorem zU300 : zrun2 300 30000 = true := by decide +kernel
set_option maxRecDepth 100000 in
theorem zU301 : zrun2 301 30000 = true := by decide +kernel
set_option maxRecDepth 100000 in
theorem zU302 : zrun2 302 30000 = true := by decide +kernel
set_option maxRecDepth 100000 in
theorem zU303 : zrun2 303 30000 = true := by decide +kernel
set_option maxRecDepth 100000 in
theorem zU304 : zrun2 304 30000 = true := by decide +kernel
set_option maxRecDepth 100000 in
theorem zU305 : zrun2 305 30000 = true := by decide +kernel
set_option maxRecDepth 100000 in
theorem zU306 : zrun2 306 30000 = true := by decide +kernel
set_option maxRecDepth 100000 in
theorem zU307 : zrun2 307 30000 = true := by decide +kernel
set_option maxRecDepth 100000 in
theorem zU309 : zrun2 309 30000 = true := by decide +kernel
set_option maxRecDepth 100000 in
theorem zU310 : zrun2 310 30000 = true := by decide +kernel
set_option maxRecDepth 100000 in
theorem zU311 : zrun2 311 30000 = true := by decide +kernel
set_option maxRecDepth 100000 in
theorem zU312 : zrun2 312 30000 = true := by decide +kernel
set_option maxRecDepth 100000 in
theorem zU313 : zrun2 313 30000 = true := by decide +kernel
set_option maxRecDepth 100000 in
theorem zU314 : zrun2 314 30000 = true := by decide +kernel
set_option maxRecDepth 100000 in
theorem zU315 : zrun2 315 30000 = true := by decide +kernel
set_option maxRecDepth 100000 in
theorem zU316 : zrun2 316 30000 = true := by decide +kernel
set_option maxRecDepth 100000 in
theorem zU317 : zrun2 317 30000 = true := by decide +kernel
set_option maxRecDepth 100000 in
theorem zU318 : zrun2 318 30000 = true := by decide +kernel
set_option maxRecDepth 100000 in
theorem zU319 : zrun2 319 30000 = true := by decide +kernel
set_option maxRecDepth 100000 in
theorem zU320 : zrun2 320 30000 = true := by decide +kernel
set_option maxRecDepth 100000 in
theorem zU321 : zrun2 321 30000 = true := by decide +kernel
set_option maxRecDepth 100000 in
theorem zU322 : zrun2 322 30000 = true := by decide +kernel
set_option maxRecDepth 100000 in
theorem zU323 : zrun2 323 30000 = true := by decide +kernel
set_option maxRecDepth 100000 in
theorem zU324 : zrun2 324 30000 = true := by decide +kernel
set_option maxRecDepth 100000 in
theorem zU325 : zrun2 325 30000 = true := by decide +kernel
set_option maxRecDepth 100000 in
theorem zU326 : zrun2 326 30000 = true := by decide +kernel
set_option maxRecDepth 100000 in
theorem zU327 : zrun2 327 30000 = true := by decide +kernel
set_option maxRecDepth 100000 in
theorem zU328 : zrun2 328 30000 = true := by decide +kernel
set_option maxRecDepth 100000 in
theorem zU329 : zrun2 329 30000 = true := by decide +kernel
set_option maxRecDepth 100000 in
theorem zU330 : zrun2 330 30000 = true := by decide +kernel
set_option maxRecDepth 100000 in
theorem zU331 : zrun2 331 30000 = true := by decide +kernel
set_option maxRecDepth 100000 in
theorem zU332 : zrun2 332 30000 = true := by decide +kernel
set_option maxRecDepth 100000 in
theorem zU333 : zrun2 333 30000 = true := by decide +kernel
set_option maxRecDepth 100000 in
theorem zU334 : zrun2 334 30000 = true := by decide +kernel
set_option maxRecDepth 100000 in
theorem zU335 : zrun2 335 30000 = true := by decide +kernel
set_option maxRecDepth 100000 in
theorem zU336 : zrun2 336 30000 = true := by decide +kernel
set_option maxRecDepth 100000 in
theorem zU337 : zrun2 337 30000 = true := by decide +kernel
set_option maxRecDepth 100000 in
theorem zU338 : zrun2 338 30000 = true := by decide +kernel
set_option maxRecDepth 100000 in
theorem zU339 : zrun2 339 30000 = true := by decide +kernel
set_option maxRecDepth 100000 in
theorem zU340 : zrun2 340 30000 = true := by decide +kernel
set_option maxRecDepth 100000 in
theorem zU341 : zrun2 341 30000 = true := by decide +kernel
set_option maxRecDepth 100000 in
theorem zU342 : zrun2 342 30000 = true := by decide +kernel
set_option maxRecDepth 100000 in
theorem zU343 : zrun2 343 30000 = true := by decide +kernel
set_option maxRecDepth 100000 in
theorem zU344 : zrun2 344 30000 = true := by decide +kernel
set_option maxRecDepth 100000 in
theorem zU345 : zrun2 345 30000 = true := by decide +kernel
set_option maxRecDepth 100000 in
theorem zU346 : zrun2 346 30000 = true := by decide +kernel
set_option maxRecDepth 100000 in
theorem zU347 : zrun2 347 30000 = true := by decide +kernel
set_option maxRecDepth 100000 in
theorem zU348 : zrun2 348 30000 = true := by decide +kernel
set_option maxRecDepth 100000 in
theorem zU349 : zrun2 349 30000 = true := by decide +kernel
set_option maxRecDepth 100000 in
theorem zU352 : zrun2 352 30000 = true := by decide +kernel
set_option maxRecDepth 100000 in
theorem zU353 : zrun2 353 30000 = true := by decide +kernel
set_option maxRecDepth 100000 in
theorem zU354 : zrun2 354 30000 = true := by decide +kernel
set_option maxRecDepth 100000 in
theorem zU355 : zrun2 355 30000 = true := by decide +kernel
set_option maxRecDepth 100000 in
theorem zU356 : zrun2 356 30000 = true := by decide +kernel
set_option maxRecDepth 100000 in
theorem zU357 : zrun2 357 30000 = true := by decide +kernel
set_option maxRecDepth 100000 in
theorem zU358 : zrun2 358 30000 = true := by decide +kernel
set_option maxRecDepth 100000 in
theorem zU359 : zrun2 359 30000 = true := by decide +kernel
set_option maxRecDepth 100000 in
theorem zU360 : zrun2 360 30000 = true := by decide +kernel
set_option maxRecDepth 100000 in
theorem zU364 : zrun2 364 30000 = true := by decide +kernel
set_option maxRecDepth 100000 in
theorem zU365 : zrun2 365 30000 = true := by decide +kernel
set_option maxRecDepth 100000 in
theorem zU366 : zrun2 366 30000 = true := by decide +kernel
set_option maxRecDepth 100000 in
theorem zU367 : zrun2 367 30000 = true := by decide +kernel
set_option maxRecDepth 100000 in
theorem zU371 : zrun2 371 30000 = true := by decide +kernel
set_option maxRecDepth 100000 in
theorem zU372 : zrun2 372 30000 = true := by decide +kernel
set_option maxRecDepth 100000 in
theorem zU373 : zrun2 373 30000 = true := by decide +kernel
set_option maxRecDepth 100000 in
theorem zU374 : zrun2 374 30000 = true := by decide +kernel
set_option maxRecDepth 100000 in
theorem zU375 : zrun2 375 30000 = true := by decide +kernel
set_option maxRecDepth 100000 in
theorem zU376 : zrun2 376 30000 = true := by decide +kernel
set_option maxRecDepth 100000 in
theorem zU377 : zrun2 377 30000 = true := by decide +kernel
set_option maxRecDepth 100000 in
theorem zU378 : zrun2 378 30000 = true := by decide +kernel
set_option maxRecDepth 100000 in
theorem zU379 : zrun2 379 30000 = true := by decide +kernel
set_option maxRecDepth 100000 in
theorem zU380 : zrun2 380 30000 = true := by decide +kernel
set_option maxRecDepth 100000 in
theorem zU381 : zrun2 381 30000 = true := by decide +kernel
set_option maxRecDepth 100000 in
theorem zU382 : zrun2 382 30000 = true := by decide +kernel
set_option maxRecDepth 100000 in
theorem zU383 : zrun2 383 30000 = true := by decide +kernel
set_option maxRecDepth 100000 in
theorem zU384 : zrun2 384 30000 = true := by decide +kernel
set_option maxRecDepth 100000 in
theorem zU385 : zrun2 385 30000 = true := by decide +kernel
set_option maxRecDepth 100000 in
theorem zU386 : zrun2 386 30000 = true := by decide +kernel
set_option maxRecDepth 100000 in
theorem zU387 : zrun2 387 30000 = true := by decide +kernel
set_option maxRecDepth 100000 in
theorem zU388 : zrun2 388 30000 = true := by decide +kernel
set_option maxRecDepth 100000 in
theorem zU389 : zrun2 389 30000 = true := by decide +kernel
set_option maxRecDepth 100000 in
theorem zU390 : zrun2 390 30000 = true := by decide +kernel
set_option maxRecDepth 100000 in
theorem zU391 : zrun2 391 30000 = true := by decide +kernel
set_option maxRecDepth 100000 in
theorem zU392 : zrun2 392 30000 = true := by decide +kernel
set_option maxRecDepth 100000 in
theorem zU393 : zrun2 393 30000 = true := by decide +kernel
set_option maxRecDepth 100000 in
theorem zU394 : zrun2 394 30000 = true := by decide +kernel
set_option maxRecDepth 100000 in
theorem zU395 : zrun2 395 30000 = true := by decide +kernel
set_option maxRecDepth 100000 in
theorem zU396 : zrun2 396 30000 = true := by decide +kernel
set_option maxRecDepth 100000 in
theorem zU397 : zrun2 397 30000 = true := by decide +kernel
set_option maxRecDepth 100000 in
theorem zU398 : zrun2 398 30000 = true := by decide +kernel
set_option maxRecDepth 100000 in
theorem zU399 : zrun2 399 30000 = true := by decide +kernel
set_option maxRecDepth 100000 in
theorem zU400 : zrun2 400 30000 = true := by decide +kernel
set_option maxRecDepth 100000 in
theorem zU401 : zrun2 401 30000 = true := by decide +kernel
set_option maxRecDepth 100000 in
theorem zU402 : zrun2 402 30000 = true := by decide +kernel
set_option maxRecDepth 100000 in
theorem zU403 : zrun2 403 30000 = true := by decide +kernel
set_option maxRecDepth 100000 in
theorem zU404 : zrun2 404 30000 = true := by decide +kernel
set_option maxRecDepth 100000 in
theorem zU405 : zrun2 405 30000 = true := by decide +kernel
set_option maxRecDepth 100000 in
theorem zU406 : zrun2 406 30000 = true := by decide +kernel
set_option maxRecDepth 100000 in
theorem zU407 : zrun2 407 30000 = true := by decide +kernel
set_option maxRecDepth 100000 in
theorem zU408 : zrun2 408 30000 = true := by decide +kernel
set_option maxRecDepth 100000 in
theorem zU409 : zrun2 409 30000 = true := by decide +kernel
set_option maxRecDepth 100000 in
theorem zU410 : zrun2 410 30000 = true := by decide +kernel
set_option maxRecDepth 100000 in
theorem zU411 : zrun2 411 30000 = true := by decide +kernel
set_option maxRecDepth 100000 in
theorem zU412 : zrun2 412 30000 = true := by decide +kernel
set_option maxRecDepth 100000 in
theorem zU413 : zrun2 413 30000 = true := by decide +kernel
set_option maxRecDepth 100000 in
theorem zU414 : zrun2 414 30000 = true := by decide +kernel
set_option maxRecDepth 100000 in
theorem zU415 : zrun2 415 30000 = true := by decide +kernel
set_option maxRecDepth 100000 in
theorem zU416 : zrun2 416 30000 = true := by decide +kernel
set_option maxRecDepth 100000 in
theorem zU417 : zrun2 417 30000 = true := by decide +kernel
set_option maxRecDepth 100000 in
theorem zU418 : zrun2 418 30000 = true := by decide +kernel
set_option maxRecDepth 100000 in
theorem zU419 : zrun2 419 30000 = true := by decide +kernel
set_option maxRecDepth 100000 in
theorem zU420 : zrun2 420 30000 = true := by decide +kernel
set_option maxRecDepth 100000 in
theorem zU421 : zrun2 421 30000 = true := by decide +kernel
set_option maxRecDepth 100000 in
theorem zU423 : zrun2 423 30000 = true := by decide +kernel
set_option maxRecDepth 100000 in
theorem zU424 : zrun2 424 30000 = true := by decide +kernel
set_option maxRecDepth 100000 in
theorem zU425 : zrun2 425 30000 = true := by decide +kernel
set_option maxRecDepth 100000 in
theorem zU427 : zrun2 427 30000 = true := by decide +kernel
set_option maxRecDepth 100000 in
theorem zU428 : zrun2 428 30000 = true := by decide +kernel
set_option maxRecDepth 100000 in
theorem zU429 : zrun2 429 30000 = true := by decide +kernel
set_option maxRecDepth 100000 in
theorem zU430 : zrun2 430 30000 = true := by decide +kernel
set_option maxRecDepth 100000 in
theorem zU437 : zrun2 437 30000 = true := by decide +kernel
set_option maxRecDepth 100000 in
theorem zU438 : zrun2 438 30000 = true := by decide +kernel
set_option maxRecDepth 100000 in
theorem zU439 : zrun2 439 30000 = true := by decide +kernel
set_option maxRecDepth 100000 in
theorem zU440 : zrun2 440 30000 = true := by decide +kernel
set_option maxRecDepth 100000 in
theorem zU442 : zrun2 442 30000 = true := by decide +kernel
set_option maxRecDepth 100000 in
theorem zU443 : zrun2 443 30000 = true := by decide +kernel
set_option maxRecDepth 100000 in
theorem zU444 : zrun2 444 30000 = true := by decide +kernel
set_option maxRecDepth 100000 in
theorem zU445 : zrun2 445 30000 = true := by decide +kernel
set_option maxRecDepth 100000 in
theorem zU447 : zrun2 447 30000 = true := by decide +kernel
set_option maxRecDepth 100000 in
theorem zU449 : zrun2 449 30000 = true := by decide +kernel
set_option maxRecDepth 100000 in
theorem zU451 : zrun2 451 30000 = true := by decide +kernel
set_option maxRecDepth 100000 in
theorem zU452 : zrun2 452 30000 = true := by decide +kernel
set_option maxRecDepth 100000 in
theorem zU455 : zrun2 455 30000 = true := by decide +kernel
set_option maxRecDepth 100000 in
theorem zU456 : zrun2 456 30000 = true := by decide +kernel
set_option maxRecDepth 100000 in
theorem zU457 : zrun2 457 30000 = true := by decide +kernel
set_option maxRecDepth 100000 in
theorem zU459 : zrun2 459 30000 = true := by decide +kernel
set_option maxRecDepth 100000 in
theorem zU461 : zrun2 461 30000 = true := by decide +kernel
set_option maxRecDepth 100000 in
theorem zU462 : zrun2 462 30000 = true := by decide +kernel
set_option maxRecDepth 100000 in
theorem zU463 : zrun2 463 30000 = true := by decide +kernel
set_option maxRecDepth 100000 in
theorem zU464 : zrun2 464 30000 = true := by decide +kernel
set_option maxRecDepth 100000 in
theorem zU465 : zrun2 465 30000 = true := by decide +kernel
set_option maxRecDepth 100000 in
theorem zU467 : zrun2 467 30000 = true := by decide +kernel
set_option maxRecDepth 100000 in
theorem zU468 : zrun2 468 30000 = true := by decide +kernel
set_option maxRecDepth 100000 in
theorem zU469 : zrun2 469 30000 = true := by decide +kernel
set_option maxRecDepth 100000 in
theorem zU470 : zrun2 470 30000 = true := by decide +kernel
set_option maxRecDepth 100000 in
theorem zU471 : zrun2 471 30000 = true := by decide +kernel
set_option maxRecDepth 100000 in
theorem zU472 : zrun2 472 30000 = true := by decide +kernel
set_option maxRecDepth 100000 in
theorem zU474 : zrun2 474 30000 = true := by decide +kernel
set_option maxRecDepth 100000 in
theorem zU475 : zrun2 475 30000 = true := by decide +kernel
set_option maxRecDepth 100000 in
theorem zU476 : zrun2 476 30000 = true := by decide +kernel
set_option maxRecDepth 100000 in
theorem zU477 : zrun2 477 30000 = true := by decide +kernel
set_option maxRecDepth 100000 in
theorem zU480 : zrun2 480 30000 = true := by decide +kernel
set_option maxRecDepth 100000 in
theorem zU482 : zrun2 482 30000 = true := by decide +kernel
set_option maxRecDepth 100000 in
theorem zU484 : zrun2 484 30000 = true := by decide +kernel
set_option maxRecDepth 100000 in
theorem zU485 : zrun2 485 30000 = true := by decide +kernel
set_option maxRecDepth 100000 in
theorem zU487 : zrun2 487 30000 = true := by decide +kernel
set_option maxRecDepth 100000 in
theorem zU488 : zrun2 488 30000 = true := by decide +kernel
set_option maxRecDepth 100000 in
theorem zU489 : zrun2 489 30000 = true := by decide +kernel
set_option maxRecDepth 100000 in
theorem zU490 : zrun2 490 30000 = true := by decide +kernel
set_option maxRecDepth 100000 in
theorem zU491 : zrun2 491 30000 = true := by decide +kernel
set_option maxRecDepth 100000 in
theorem zU492 : zrun2 492 30000 = true := by decide +kernel
set_option maxRecDepth 100000 in
theorem zU493 : zrun2 493 30000 = true := by decide +kernel
set_option maxRecDepth 100000 in
theorem zU494 : zrun2 494 30000 = true := by decide +kernel
set_option maxRecDepth 100000 in
theorem zU495 : zrun2 495 30000 = true := by decide +kernel
set_option maxRecDepth 100000 in
theorem zU496 : zrun2 496 30000 = true := by decide +kernel
set_option maxRecDepth 100000 in
theorem zU497 : zrun2 497 30000 = true := by decide +kernel
set_option maxRecDepth 100000 in
theorem zU499 : zrun2 499 30000 = true := by decide +kernel
set_option maxRecDepth 100000 in
theorem zU500 : zrun2 500 30000 = true := by decide +kernel
set_option maxRecDepth 100000 in
theorem zU501 : zrun2 501 30000 = true := by decide +kernel
set_option maxRecDepth 100000 in
theorem zU502 : zrun2 502 30000 = true := by decide +kernel
set_option maxRecDepth 100000 in
theorem zU503 : zrun2 503 30000 = true := by decide +kernel
set_option maxRecDepth 100000 in
theorem zU504 : zrun2 504 30000 = true := by decide +kernel
set_option maxRecDepth 100000 in
theorem zU505 : zrun2 505 30000 = true := by decide +kernel
set_option maxRecDepth 100000 in
theorem zU506 : zrun2 506 30000 = true := by decide +kernel
set_option maxRecDepth 100000 in
theorem zU507 : zrun2 507 30000 = true := by decide +kernel
set_option maxRecDepth 100000 in
theorem zU508 : zrun2 508 30000 = true := by decide +kernel
set_option maxRecDepth 100000 in
theorem zU509 : zrun2 509 30000 = true := by decide +kernel
set_option maxRecDepth 100000 in
theorem zU510 : zrun2 510 30000 = true := by decide +kernel
set_option maxRecDepth 100000 in
theorem zU511 : zrun2 511 30000 = true := by decide +kernel
set_option maxRecDepth 100000 in
theorem zU513 : zrun2 513 30000 = true := by decide +kernel
set_option maxRecDepth 100000 in
theorem zU514 : zrun2 514 30000 = true := by decide +kernel
