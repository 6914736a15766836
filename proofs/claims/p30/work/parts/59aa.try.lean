/-! runs by contract -/
set_option maxRecDepth 100000 in
theorem zU0 : zrun2 0 4000 = true := by decide +kernel
set_option maxRecDepth 100000 in
theorem zU1 : zrun2 1 4000 = true := by decide +kernel
set_option maxRecDepth 100000 in
theorem zU2 : zrun2 2 4000 = true := by decide +kernel
set_option maxRecDepth 100000 in
theorem zU3 : zrun2 3 4000 = true := by decide +kernel
set_option maxRecDepth 100000 in
theorem zU4 : zrun2 4 4000 = true := by decide +kernel
set_option maxRecDepth 100000 in
theorem zU5 : zrun2 5 4000 = true := by decide +kernel
set_option maxRecDepth 100000 in
theorem zU6 : zrun2 6 4000 = true := by decide +kernel
set_option maxRecDepth 100000 in
theorem zU7 : zrun2 7 4000 = true := by decide +kernel
set_option maxRecDepth 100000 in
theorem zU9 : zrun2 9 4000 = true := by decide +kernel
set_option maxRecDepth 100000 in
theorem zU10 : zrun2 10 4000 = true := by decide +kernel
set_option maxRecDepth 100000 in
theorem zU11 : zrun2 11 4000 = true := by decide +kernel
set_option maxRecDepth 100000 in
theorem zU12 : zrun2 12 4000 = true := by decide +kernel
set_option maxRecDepth 100000 in
theorem zU13 : zrun2 13 4000 = true := by decide +kernel
set_option maxRecDepth 100000 in
theorem zU14 : zrun2 14 4000 = true := by decide +kernel
set_option maxRecDepth 100000 in
theorem zU15 : zrun2 15 4000 = true := by decide +kernel
set_option maxRecDepth 100000 in
theorem zU17 : zrun2 17 4000 = true := by decide +kernel
set_option maxRecDepth 100000 in
theorem zU18 : zrun2 18 4000 = true := by decide +kernel
set_option maxRecDepth 100000 in
theorem zU19 : zrun2 19 4000 = true := by decide +kernel
set_option maxRecDepth 100000 in
theorem zU20 : zrun2 20 4000 = true := by decide +kernel
set_option maxRecDepth 100000 in
theorem zU21 : zrun2 21 4000 = true := by decide +kernel
set_option maxRecDepth 100000 in
theorem zU22 : zrun2 22 4000 = true := by decide +kernel
set_option maxRecDepth 100000 in
theorem zU23 : zrun2 23 4000 = true := by decide +kernel
set_option maxRecDepth 100000 in
theorem zU24 : zrun2 24 4000 = true := by decide +kernel
set_option maxRecDepth 100000 in
theorem zU25 : zrun2 25 4000 = true := by decide +kernel
set_option maxRecDepth 100000 in
theorem zU26 : zrun2 26 4000 = true := by decide +kernel
set_option maxRecDepth 100000 in
theorem zU27 : zrun2 27 4000 = true := by decide +kernel
set_option maxRecDepth 100000 in
theorem zU28 : zrun2 28 4000 = true := by decide +kernel
set_option maxRecDepth 100000 in
theorem zU29 : zrun2 29 4000 = true := by decide +kernel
set_option maxRecDepth 100000 in
theorem zU30 : zrun2 30 4000 = true := by decide +kernel
set_option maxRecDepth 100000 in
theorem zU31 : zrun2 31 4000 = true := by decide +kernel
set_option maxRecDepth 100000 in
theorem zU32 : zrun2 32 4000 = true := by decide +kernel
set_option maxRecDepth 100000 in
theorem zU33 : zrun2 33 4000 = true := by decide +kernel
set_option maxRecDepth 100000 in
theorem zU35 : zrun2 35 4000 = true := by decide +kernel
set_option maxRecDepth 100000 in
theorem zU38 : zrun2 38 4000 = true := by decide +kernel
set_option maxRecDepth 100000 in
theorem zU39 : zrun2 39 4000 = true := by decide +kernel
set_option maxRecDepth 100000 in
theorem zU40 : zrun2 40 4000 = true := by decide +kernel
set_option maxRecDepth 100000 in
theorem zU41 : zrun2 41 4000 = true := by decide +kernel
set_option maxRecDepth 100000 in
theorem zU42 : zrun2 42 4000 = true := by decide +kernel
set_option maxRecDepth 100000 in
theorem zU43 : zrun2 43 4000 = true := by decide +kernel
set_option maxRecDepth 100000 in
theorem zU44 : zrun2 44 4000 = true := by decide +kernel
set_option maxRecDepth 100000 in
theorem zU45 : zrun2 45 4000 = true := by decide +kernel
set_option maxRecDepth 100000 in
theorem zU46 : zrun2 46 4000 = true := by decide +kernel
set_option maxRecDepth 100000 in
theorem zU47 : zrun2 47 4000 = true := by decide +kernel
set_option maxRecDepth 100000 in
theorem zU48 : zrun2 48 4000 = true := by decide +kernel
set_option maxRecDepth 100000 in
theorem zU49 : zrun2 49 4000 = true := by decide +kernel
set_option maxRecDepth 100000 in
theorem zU50 : zrun2 50 4000 = true := by decide +kernel
set_option maxRecDepth 100000 in
theorem zU51 : zrun2 51 4000 = true := by decide +kernel
set_option maxRecDepth 100000 in
theorem zU52 : zrun2 52 4000 = true := by decide +kernel
set_option maxRecDepth 100000 in
theorem zU53 : zrun2 53 4000 = true := by decide +kernel
set_option maxRecDepth 100000 in
theorem zU54 : zrun2 54 4000 = true := by decide +kernel
set_option maxRecDepth 100000 in
theorem zU55 : zrun2 55 4000 = true := by decide +kernel
set_option maxRecDepth 100000 in
theorem zU56 : zrun2 56 4000 = true := by decide +kernel
set_option maxRecDepth 100000 in
theorem zU57 : zrun2 57 4000 = true := by decide +kernel
set_option maxRecDepth 100000 in
theorem zU58 : zrun2 58 4000 = true := by decide +kernel
set_option maxRecDepth 100000 in
theorem zU59 : zrun2 59 4000 = true := by decide +kernel
set_option maxRecDepth 100000 in
theorem zU60 : zrun2 60 4000 = true := by decide +kernel
set_option maxRecDepth 100000 in
theorem zU61 : zrun2 61 4000 = true := by decide +kernel
set_option maxRecDepth 100000 in
theorem zU62 : zrun2 62 4000 = true := by decide +kernel
set_option maxRecDepth 100000 in
theorem zU63 : zrun2 63 4000 = true := by decide +kernel
set_option maxRecDepth 100000 in
theorem zU64 : zrun2 64 4000 = true := by decide +kernel
set_option maxRecDepth 100000 in
theorem zU65 : zrun2 65 4000 = true := by decide +kernel
set_option maxRecDepth 100000 in
theorem zU66 : zrun2 66 4000 = true := by decide +kernel
set_option maxRecDepth 100000 in
theorem zU67 : zrun2 67 4000 = true := by decide +kernel
set_option maxRecDepth 100000 in
theorem zU68 : zrun2 68 4000 = true := by decide +kernel
set_option maxRecDepth 100000 in
theorem zU69 : zrun2 69 4000 = true := by decide +kernel
set_option maxRecDepth 100000 in
theorem zU70 : zrun2 70 4000 = true := by decide +kernel
set_option maxRecDepth 100000 in
theorem zU71 : zrun2 71 4000 = true := by decide +kernel
set_option maxRecDepth 100000 in
theorem zU72 : zrun2 72 4000 = true := by decide +kernel
set_option maxRecDepth 100000 in
theorem zU73 : zrun2 73 4000 = true := by decide +kernel
set_option maxRecDepth 100000 in
theorem zU74 : zrun2 74 4000 = true := by decide +kernel
set_option maxRecDepth 100000 in
theorem zU75 : zrun2 75 4000 = true := by decide +kernel
set_option maxRecDepth 100000 in
theorem zU76 : zrun2 76 4000 = true := by decide +kernel
set_option maxRecDepth 100000 in
theorem zU77 : zrun2 77 4000 = true := by decide +kernel
set_option maxRecDepth 100000 in
theorem zU78 : zrun2 78 4000 = true := by decide +kernel
set_option maxRecDepth 100000 in
theorem zU79 : zrun2 79 4000 = true := by decide +kernel
set_option maxRecDepth 100000 in
theorem zU80 : zrun2 80 4000 = true := by decide +kernel
set_option maxRecDepth 100000 in
theorem zU81 : zrun2 81 4000 = true := by decide +kernel
set_option maxRecDepth 100000 in
theorem zU82 : zrun2 82 4000 = true := by decide +kernel
set_option maxRecDepth 100000 in
theorem zU83 : zrun2 83 4000 = true := by decide +kernel
set_option maxRecDepth 100000 in
theorem zU84 : zrun2 84 4000 = true := by decide +kernel
set_option maxRecDepth 100000 in
theorem zU85 : zrun2 85 4000 = true := by decide +kernel
set_option maxRecDepth 100000 in
theorem zU86 : zrun2 86 4000 = true := by decide +kernel
set_option maxRecDepth 100000 in
theorem zU87 : zrun2 87 4000 = true := by decide +kernel
set_option maxRecDepth 100000 in
theorem zU88 : zrun2 88 4000 = true := by decide +kernel
set_option maxRecDepth 100000 in
theorem zU89 : zrun2 89 4000 = true := by decide +kernel
set_option maxRecDepth 100000 in
theorem zU90 : zrun2 90 4000 = true := by decide +kernel
set_option maxRecDepth 100000 in
theorem zU91 : zrun2 91 4000 = true := by decide +kernel
set_option maxRecDepth 100000 in
theorem zU92 : zrun2 92 4000 = true := by decide +kernel
set_option maxRecDepth 100000 in
theorem zU93 : zrun2 93 4000 = true := by decide +kernel
set_option maxRecDepth 100000 in
theorem zU94 : zrun2 94 4000 = true := by decide +kernel
set_option maxRecDepth 100000 in
theorem zU95 : zrun2 95 4000 = true := by decide +kernel
set_option maxRecDepth 100000 in
theorem zU96 : zrun2 96 4000 = true := by decide +kernel
set_option maxRecDepth 100000 in
theorem zU97 : zrun2 97 4000 = true := by decide +kernel
set_option maxRecDepth 100000 in
theorem zU98 : zrun2 98 4000 = true := by decide +kernel
set_option maxRecDepth 100000 in
theorem zU99 : zrun2 99 4000 = true := by decide +kernel
set_option maxRecDepth 100000 in
theorem zU100 : zrun2 100 4000 = true := by decide +kernel
set_option maxRecDepth 100000 in
theorem zU101 : zrun2 101 4000 = true := by decide +kernel
set_option maxRecDepth 100000 in
theorem zU102 : zrun2 102 4000 = true := by decide +kernel
set_option maxRecDepth 100000 in
theorem zU103 : zrun2 103 4000 = true := by decide +kernel
set_option maxRecDepth 100000 in
theorem zU104 : zrun2 104 4000 = true := by decide +kernel
set_option maxRecDepth 100000 in
theorem zU105 : zrun2 105 4000 = true := by decide +kernel
set_option maxRecDepth 100000 in
theorem zU106 : zrun2 106 4000 = true := by decide +kernel
set_option maxRecDepth 100000 in
theorem zU107 : zrun2 107 4000 = true := by decide +kernel
set_option maxRecDepth 100000 in
theorem zU108 : zrun2 108 4000 = true := by decide +kernel
set_option maxRecDepth 100000 in
theorem zU109 : zrun2 109 4000 = true := by decide +kernel
set_option maxRecDepth 100000 in
theorem zU110 : zrun2 110 4000 = true := by decide +kernel
set_option maxRecDepth 100000 in
theorem zU111 : zrun2 111 4000 = true := by decide +kernel
set_option maxRecDepth 100000 in
theorem zU112 : zrun2 112 4000 = true := by decide +kernel
set_option maxRecDepth 100000 in
theorem zU113 : zrun2 113 4000 = true := by decide +kernel
set_option maxRecDepth 100000 in
theorem zU114 : zrun2 114 4000 = true := by decide +kernel
set_option maxRecDepth 100000 in
theorem zU115 : zrun2 115 4000 = true := by decide +kernel
set_option maxRecDepth 100000 in
theorem zU116 : zrun2 116 4000 = true := by decide +kernel
set_option maxRecDepth 100000 in
theorem zU117 : zrun2 117 4000 = true := by decide +kernel
set_option maxRecDepth 100000 in
theorem zU118 : zrun2 118 4000 = true := by decide +kernel
set_option maxRecDepth 100000 in
theorem zU119 : zrun2 119 4000 = true := by decide +kernel
set_option maxRecDepth 100000 in
theorem zU120 : zrun2 120 4000 = true := by decide +kernel
set_option maxRecDepth 100000 in
theorem zU121 : zrun2 121 4000 = true := by decide +kernel
set_option maxRecDepth 100000 in
theorem zU122 : zrun2 122 4000 = true := by decide +kernel
set_option maxRecDepth 100000 in
theorem zU123 : zrun2 123 4000 = true := by decide +kernel
set_option maxRecDepth 100000 in
theorem zU124 : zrun2 124 4000 = true := by decide +kernel
set_option maxRecDepth 100000 in
theorem zU125 : zrun2 125 4000 = true := by decide +kernel
set_option maxRecDepth 100000 in
theorem zU126 : zrun2 126 4000 = true := by decide +kernel
set_option maxRecDepth 100000 in
theorem zU127 : zrun2 127 4000 = true := by decide +kernel
set_option maxRecDepth 100000 in
theorem zU128 : zrun2 128 4000 = true := by decide +kernel
set_option maxRecDepth 100000 in
theorem zU129 : zrun2 129 4000 = true := by decide +kernel
set_option maxRecDepth 100000 in
theorem zU130 : zrun2 130 4000 = true := by decide +kernel
set_option maxRecDepth 100000 in
theorem zU131 : zrun2 131 4000 = true := by decide +kernel
set_option maxRecDepth 100000 in
theorem zU132 : zrun2 132 4000 = true := by decide +kernel
set_option maxRecDepth 100000 in
theorem zU133 : zrun2 133 4000 = true := by decide +kernel
set_option maxRecDepth 100000 in
theorem zU134 : zrun2 134 4000 = true := by decide +kernel
set_option maxRecDepth 100000 in
theorem zU135 : zrun2 135 4000 = true := by decide +kernel
set_option maxRecDepth 100000 in
theorem zU136 : zrun2 136 4000 = true := by decide +kernel
set_option maxRecDepth 100000 in
theorem zU137 : zrun2 137 4000 = true := by decide +kernel
set_option maxRecDepth 100000 in
theorem zU138 : zrun2 138 4000 = true := by decide +kernel
set_option maxRecDepth 100000 in
theorem zU139 : zrun2 139 4000 = true := by decide +kernel
set_option maxRecDepth 100000 in
theorem zU140 : zrun2 140 4000 = true := by decide +kernel
set_option maxRecDepth 100000 in
theorem zU141 : zrun2 141 4000 = true := by decide +kernel
set_option maxRecDepth 100000 in
theorem zU142 : zrun2 142 4000 = true := by decide +kernel
set_option maxRecDepth 100000 in
theorem zU143 : zrun2 143 4000 = true := by decide +kernel
set_option maxRecDepth 100000 in
theorem zU144 : zrun2 144 4000 = true := by decide +kernel
set_option maxRecDepth 100000 in
theorem zU145 : zrun2 145 4000 = true := by decide +kernel
set_option maxRecDepth 100000 in
theorem zU146 : zrun2 146 4000 = true := by decide +kernel
set_option maxRecDepth 100000 in
theorem zU147 : zrun2 147 4000 = true := by decide +kernel
set_option maxRecDepth 100000 in
theorem zU148 : zrun2 148 4000 = true := by decide +kernel
set_option maxRecDepth 100000 in
theorem zU149 : zrun2 149 4000 = true := by decide +kernel
set_option maxRecDepth 100000 in
theorem zU150 : zrun2 150 4000 = true := by decide +kernel
set_option maxRecDepth 100000 in
theorem zU151 : zrun2 151 4000 = true := by decide +kernel
set_option maxRecDepth 100000 in
theorem zU152 : zrun2 152 4000 = true := by decide +kernel
set_option maxRecDepth 100000 in
theorem zU153 : zrun2 153 4000 = true := by decide +kernel
set_option maxRecDepth 100000 in
theorem zU154 : zrun2 154 4000 = true := by decide +kernel
set_option maxRecDepth 100000 in
theorem zU155 : zrun2 155 4000 = true := by decide +kernel
set_option maxRecDepth 100000 in
theorem zU156 : zrun2 156 4000 = true := by decide +kernel
set_option maxRecDepth 100000 in
theorem zU157 : zrun2 157 4000 = true := by decide +kernel
set_option maxRecDepth 100000 in
theorem zU158 : zrun2 158 4000 = true := by decide +kernel
set_option maxRecDepth 100000 in
theorem zU159 : zrun2 159 4000 = true := by decide +kernel
set_option maxRecDepth 100000 in
theorem zU160 : zrun2 160 4000 = true := by decide +kernel
set_option maxRecDepth 100000 in
theorem zU161 : zrun2 161 4000 = true := by decide +kernel
set_option maxRecDepth 100000 in
theorem zU162 : zrun2 162 4000 = true := by decide +kernel
set_option maxRecDepth 100000 in
theorem zU163 : zrun2 163 4000 = true := by decide +kernel
set_option maxRecDepth 100000 in
theorem zU164 : zrun2 164 4000 = true := by decide +kernel
set_option maxRecDepth 100000 in
theorem zU165 : zrun2 165 4000 = true := by decide +kernel
set_option maxRecDepth 100000 in
theorem zU166 : zrun2 166 4000 = true := by decide +kernel
set_option maxRecDepth 100000 in
theorem zU167 : zrun2 167 4000 = true := by decide +kernel
set_option maxRecDepth 100000 in
theorem zU168 : zrun2 168 4000 = true := by decide +kernel
set_option maxRecDepth 100000 in
theorem zU169 : zrun2 169 4000 = true := by decide +kernel
set_option maxRecDepth 100000 in
theorem zU170 : zrun2 170 4000 = true := by decide +kernel
set_option maxRecDepth 100000 in
theorem zU171 : zrun2 171 4000 = true := by decide +kernel
set_option maxRecDepth 100000 in
theorem zU172 : zrun2 172 4000 = true := by decide +kernel
set_option maxRecDepth 100000 in
theorem zU173 : zrun2 173 4000 = true := by decide +kernel
set_option maxRecDepth 100000 in
theorem zU174 : zrun2 174 4000 = true := by decide +kernel
set_option maxRecDepth 100000 in
theorem zU175 : zrun2 175 4000 = true := by decide +kernel
set_option maxRecDepth 100000 in
theorem zU176 : zrun2 176 4000 = true := by decide +kernel
set_option maxRecDepth 100000 in
theorem zU177 : zrun2 177 4000 = true := by decide +kernel
set_option maxRecDepth 100000 in
theorem zU178 : zrun2 178 4000 = true := by decide +kernel
set_option maxRecDepth 100000 in
theorem zU179 : zrun2 179 4000 = true := by decide +kernel
set_option maxRecDepth 100000 in
theorem zU180 : zrun2 180 4000 = true := by decide +kernel
set_option maxRecDepth 100000 in
theorem zU181 : zrun2 181 4000 = true := by decide +kernel
set_option maxRecDepth 100000 in
theorem zU182 : zrun2 182 4000 = true := by decide +kernel
set_option maxRecDepth 100000 in
theorem zU183 : zrun2 183 4000 = true := by decide +kernel
set_option maxRecDepth 100000 in
theorem zU184 : zrun2 184 4000 = true := by decide +kernel
set_option maxRecDepth 100000 in
theorem zU185 : zrun2 185 4000 = true := by decide +kernel
set_option maxRecDepth 100000 in
theorem zU186 : zrun2 186 4000 = true := by decide +kernel
set_option maxRecDepth 100000 in
theorem zU187 : zrun2 187 4000 = true := by decide +kernel
set_option maxRecDepth 100000 in
theorem zU188 : zrun2 188 4000 = true := by decide +kernel
set_option maxRecDepth 100000 in
theorem zU189 : zrun2 189 4000 = true := by decide +kernel
set_option maxRecDepth 100000 in
theorem zU190 : zrun2 190 4000 = true := by decide +kernel
set_option maxRecDepth 100000 in
theorem zU191 : zrun2 191 4000 = true := by decide +kernel
set_option maxRecDepth 100000 in
theorem zU192 : zrun2 192 4000 = true := by decide +kernel
set_option maxRecDepth 100000 in
theorem zU193 : zrun2 193 4000 = true := by decide +kernel
set_option maxRecDepth 100000 in
theorem zU194 : zrun2 194 4000 = true := by decide +kernel
set_option maxRecDepth 100000 in
theorem zU195 : zrun2 195 4000 = true := by decide +kernel
set_option maxRecDepth 100000 in
theorem zU196 : zrun2 196 4000 = true := by decide +kernel
set_option maxRecDepth 100000 in
theorem zU197 : zrun2 197 4000 = true := by decide +kernel
set_option maxRecDepth 100000 in
theorem zU198 : zrun2 198 4000 = true := by decide +kernel
set_option maxRecDepth 100000 in
theorem zU199 : zrun2 199 4000 = true := by decide +kernel
set_option maxRecDepth 100000 in
theorem zU200 : zrun2 200 4000 = true := by decide +kernel
set_option maxRecDepth 100000 in
theorem zU201 : zrun2 201 4000 = true := by decide +kernel
set_option maxRecDepth 100000 in
theorem zU202 : zrun2 202 4000 = true := by decide +kernel
set_option maxRecDepth 100000 in
theorem zU203 : zrun2 203 4000 = true := by decide +kernel
set_option maxRecDepth 100000 in
theorem zU204 : zrun2 204 4000 = true := by decide +kernel
set_option maxRecDepth 100000 in
theorem zU205 : zrun2 205 4000 = true := by decide +kernel
set_option maxRecDepth 100000 in
theorem zU206 : zrun2 206 4000 = true := by decide +kernel
set_option maxRecDepth 100000 in
theorem zU207 : zrun2 207 4000 = true := by decide +kernel
set_option maxRecDepth 100000 in
theorem zU208 : zrun2 208 4000 = true := by decide +kernel
set_option maxRecDepth 100000 in
theorem zU209 : zrun2 209 4000 = true := by decide +kernel
set_option maxRecDepth 100000 in
theorem zU210 : zrun2 210 4000 = true := by decide +kernel
set_option maxRecDepth 100000 in
theorem zU211 : zrun2 211 4000 = true := by decide +kernel
set_option maxRecDepth 100000 in
theorem zU212 : zrun2 212 4000 = true := by decide +kernel
set_option maxRecDepth 100000 in
theorem zU213 : zrun2 213 4000 = true := by decide +kernel
set_option maxRecDepth 100000 in
theorem zU214 : zrun2 214 4000 = true := by decide +kernel
set_option maxRecDepth 100000 in
theorem zU215 : zrun2 215 4000 = true := by decide +kernel
set_option maxRecDepth 100000 in
theorem zU216 : zrun2 216 4000 = true := by decide +kernel
set_option maxRecDepth 100000 in
theorem zU217 : zrun2 217 4000 = true := by decide +kernel
set_option maxRecDepth 100000 in
theorem zU218 : zrun2 218 4000 = true := by decide +kernel
set_option maxRecDepth 100000 in
theorem zU219 : zrun2 219 4000 = true := by decide +kernel
set_option maxRecDepth 100000 in
theorem zU220 : zrun2 220 4000 = true := by decide +kernel
set_option maxRecDepth 100000 in
theorem zU221 : zrun2 221 4000 = true := by decide +kernel
set_option maxRecDepth 100000 in
theorem zU222 : zrun2 222 4000 = true := by decide +kernel
set_option maxRecDepth 100000 in
theorem zU223 : zrun2 223 4000 = true := by decide +kernel
set_option maxRecDepth 100000 in
theorem zU224 : zrun2 224 4000 = true := by decide +kernel
set_option maxRecDepth 100000 in
theorem zU225 : zrun2 225 4000 = true := by decide +kernel
set_option maxRecDepth 100000 in
theorem zU226 : zrun2 226 4000 = true := by decide +kernel
set_option maxRecDepth 100000 in
theorem zU227 : zrun2 227 4000 = true := by decide +kernel
set_option maxRecDepth 100000 in
theorem zU228 : zrun2 228 4000 = true := by decide +kernel
set_option maxRecDepth 100000 in
theorem zU229 : zrun2 229 4000 = true := by decide +kernel
set_option maxRecDepth 100000 in
theorem zU230 : zrun2 230 4000 = true := by decide +kernel
set_option maxRecDepth 100000 in
theorem zU231 : zrun2 231 4000 = true := by decide +kernel
set_option maxRecDepth 100000 in
theorem zU232 : zrun2 232 4000 = true := by decide +kernel
set_option maxRecDepth 100000 in
theorem zU233 : zrun2 233 4000 = true := by decide +kernel
set_option maxRecDepth 100000 in
theorem zU234 : zrun2 234 4000 = true := by decide +kernel
set_option maxRecDepth 100000 in
theorem zU235 : zrun2 235 4000 = true := by decide +kernel
set_option maxRecDepth 100000 in
theorem zU236 : zrun2 236 4000 = true := by decide +kernel
set_option maxRecDepth 100000 in
theorem zU237 : zrun2 237 4000 = true := by decide +kernel
set_option maxRecDepth 100000 in
theorem zU238 : zrun2 238 4000 = true := by decide +kernel
set_option maxRecDepth 100000 in
theorem zU239 : zrun2 239 4000 = true := by decide +kernel
set_option maxRecDepth 100000 in
theorem zU240 : zrun2 240 4000 = true := by decide +kernel
set_option maxRecDepth 100000 in
theorem zU241 : zrun2 241 4000 = true := by decide +kernel
set_option maxRecDepth 100000 in
theorem zU242 : zrun2 242 4000 = true := by decide +kernel
set_option maxRecDepth 100000 in
theorem zU243 : zrun2 243 4000 = true := by decide +kernel
set_option maxRecDepth 100000 in
theorem zU244 : zrun2 244 4000 = true := by decide +kernel
set_option maxRecDepth 100000 in
theorem zU245 : zrun2 245 4000 = true := by decide +kernel
set_option maxRecDepth 100000 in
theorem zU246 : zrun2 246 4000 = true := by decide +kernel
set_option maxRecDepth 100000 in
theorem zU247 : zrun2 247 4000 = true := by decide +kernel
set_option maxRecDepth 100000 in
theorem zU248 : zrun2 248 4000 = true := by decide +kernel
set_option maxRecDepth 100000 in
theorem zU249 : zrun2 249 4000 = true := by decide +kernel
set_option maxRecDepth 100000 in
theorem zU250 : zrun2 250 4000 = true := by decide +kernel
set_option maxRecDepth 100000 in
theorem zU251 : zrun2 251 4000 = true := by decide +kernel
set_option maxRecDepth 100000 in
theorem zU252 : zrun2 252 4000 = true := by decide +kernel
set_option maxRecDepth 100000 in
theorem zU253 : zrun2 253 4000 = true := by decide +kernel
set_option maxRecDepth 100000 in
theorem zU254 : zrun2 254 4000 = true := by decide +kernel
set_option maxRecDepth 100000 in
theorem zU255 : zrun2 255 4000 = true := by decide +kernel
set_option maxRecDepth 100000 in
theorem zU256 : zrun2 256 4000 = true := by decide +kernel
set_option maxRecDepth 100000 in
theorem zU257 : zrun2 257 4000 = true := by decide +kernel
set_option maxRecDepth 100000 in
theorem zU258 : zrun2 258 4000 = true := by decide +kernel
set_option maxRecDepth 100000 in
theorem zU259 : zrun2 259 4000 = true := by decide +kernel
set_option maxRecDepth 100000 in
theorem zU260 : zrun2 260 4000 = true := by decide +kernel
set_option maxRecDepth 100000 in
theorem zU261 : zrun2 261 4000 = true := by decide +kernel
set_option maxRecDepth 100000 in
theorem zU262 : zrun2 262 4000 = true := by decide +kernel
set_option maxRecDepth 100000 in
theorem zU263 : zrun2 263 4000 = true := by decide +kernel
set_option maxRecDepth 100000 in
theorem zU264 : zrun2 264 4000 = true := by decide +kernel
set_option maxRecDepth 100000 in
theorem zU265 : zrun2 265 4000 = true := by decide +kernel
set_option maxRecDepth 100000 in
theorem zU266 : zrun2 266 4000 = true := by decide +kernel
set_option maxRecDepth 100000 in
theorem zU269 : zrun2 269 4000 = true := by decide +kernel
set_option maxRecDepth 100000 in
theorem zU272 : zrun2 272 4000 = true := by decide +kernel
set_option maxRecDepth 100000 in
theorem zU275 : zrun2 275 4000 = true := by decide +kernel
set_option maxRecDepth 100000 in
theorem zU276 : zrun2 276 4000 = true := by decide +kernel
set_option maxRecDepth 100000 in
theorem zU277 : zrun2 277 4000 = true := by decide +kernel
set_option maxRecDepth 100000 in
theorem zU278 : zrun2 278 4000 = true := by decide +kernel
set_option maxRecDepth 100000 in
theorem zU279 : zrun2 279 4000 = true := by decide +kernel
set_option maxRecDepth 100000 in
theorem zU280 : zrun2 280 4000 = true := by decide +kernel
set_option maxRecDepth 100000 in
theorem zU281 : zrun2 281 4000 = true := by decide +kernel
set_option maxRecDepth 100000 in
theorem zU282 : zrun2 282 4000 = true := by decide +kernel
set_option maxRecDepth 100000 in
theorem zU283 : zrun2 283 4000 = true := by decide +kernel
set_option maxRecDepth 100000 in
theorem zU285 : zrun2 285 4000 = true := by decide +kernel
set_option maxRecDepth 100000 in
theorem zU286 : zrun2 286 4000 = true := by decide +kernel
set_option maxRecDepth 100000 in
theorem zU287 : zrun2 287 4000 = true := by decide +kernel
set_option maxRecDepth 100000 in
theorem zU289 : zrun2 289 4000 = true := by decide +kernel
set_option maxRecDepth 100000 in
theorem zU290 : zrun2 290 4000 = true := by decide +kernel
set_option maxRecDepth 100000 in
theorem zU292 : zrun2 292 4000 = true := by decide +kernel
set_option maxRecDepth 100000 in
theorem zU294 : zrun2 294 4000 = true := by decide +kernel
set_option maxRecDepth 100000 in
theorem zU295 : zrun2 295 4000 = true := by decide +kernel
set_option maxRecDepth 100000 in
theorem zU297 : zrun2 297 4000 = true := by decide +kernel
set_option maxRecDepth 100000 in
theorem zU298 : zrun2 298 4000 = true := by decide +kernel
set_option maxRecDepth 100000 in
theorem zU299 : zrun2 299 4000 = true := by decide +kernel
set_option maxRecDepth 100000 in
theorem zU300 : zrun2 300 4000 = true := by decide +kernel
set_option maxRecDepth 100000 in
theorem zU301 : zrun2 301 4000 = true := by decide +kernel
set_option maxRecDepth 100000 in
theorem zU302 : zrun2 302 4000 = true := by decide +kernel
set_option maxRecDepth 100000 in
theorem zU303 : zrun2 303 4000 = true := by decide +kernel
set_option maxRecDepth 100000 in
theorem zU304 : zrun2 304 4000 = true := by decide +kernel
set_option maxRecDepth 100000 in
theorem zU305 : zrun2 305 4000 = true := by decide +kernel
set_option maxRecDepth 100000 in
theorem zU306 : zrun2 306 4000 = true := by decide +kernel
set_option maxRecDepth 100000 in
theorem zU307 : zrun2 307 4000 = true := by decide +kernel
set_option maxRecDepth 100000 in
theorem zU309 : zrun2 309 4000 = true := by decide +kernel
set_option maxRecDepth 100000 in
theorem zU310 : zrun2 310 4000 = true := by decide +kernel
set_option maxRecDepth 100000 in
theorem zU311 : zrun2 311 4000 = true := by decide +kernel
set_option maxRecDepth 100000 in
theorem zU312 : zrun2 312 4000 = true := by decide +kernel
set_option maxRecDepth 100000 in
theorem zU314 : zrun2 314 4000 = true := by decide +kernel
set_option maxRecDepth 100000 in
theorem zU317 : zrun2 317 4000 = true := by decide +kernel
set_option maxRecDepth 100000 in
theorem zU318 : zrun2 318 4000 = true := by decide +kernel
set_option maxRecDepth 100000 in
theorem zU319 : zrun2 319 4000 = true := by decide +kernel
set_option maxRecDepth 100000 in
theorem zU320 : zrun2 320 4000 = true := by decide +kernel
set_option maxRecDepth 100000 in
theorem zU321 : zrun2 321 4000 = true := by decide +kernel
set_option maxRecDepth 100000 in
theorem zU322 : zrun2 322 4000 = true := by decide +kernel
set_option maxRecDepth 100000 in
theorem zU323 : zrun2 323 4000 = true := by decide +kernel
set_option maxRecDepth 100000 in
theorem zU324 : zrun2 324 4000 = true := by decide +kernel
set_option maxRecDepth 100000 in
theorem zU325 : zrun2 325 4000 = true := by decide +kernel
set_option maxRecDepth 100000 in
theorem zU326 : zrun2 326 4000 = true := by decide +kernel
set_option maxRecDepth 100000 in
theorem zU327 : zrun2 327 4000 = true := by decide +kernel
set_option maxRecDepth 100000 in
theorem zU328 : zrun2 328 4000 = true := by decide +kernel
set_option maxRecDepth 100000 in
theorem zU329 : zrun2 329 4000 = true := by decide +kernel
set_option maxRecDepth 100000 in
theorem zU330 : zrun2 330 4000 = true := by decide +kernel
set_option maxRecDepth 100000 in
theorem zU331 : zrun2 331 4000 = true := by decide +kernel
set_option maxRecDepth 100000 in
theorem zU332 : zrun2 332 4000 = true := by decide +kernel
set_option maxRecDepth 100000 in
theorem zU333 : zrun2 333 4000 = true := by decide +kernel
set_option maxRecDepth 100000 in
theorem zU334 : zrun2 334 4000 = true := by decide +kernel
set_option maxRecDepth 100000 in
theorem zU335 : zrun2 335 4000 = true := by decide +kernel
set_option maxRecDepth 100000 in
theorem zU336 : zrun2 336 4000 = true := by decide +kernel
set_option maxRecDepth 100000 in
theorem zU337 : zrun2 337 4000 = true := by decide +kernel
set_option maxRecDepth 100000 in
theorem zU338 : zrun2 338 4000 = true := by decide +kernel
set_option maxRecDepth 100000 in
theorem zU339 : zrun2 339 4000 = true := by decide +kernel
set_option maxRecDepth 100000 in
theorem zU340 : zrun2 340 4000 = true := by decide +kernel
set_option maxRecDepth 100000 in
theorem zU341 : zrun2 341 4000 = true := by decide +kernel
set_option maxRecDepth 100000 in
theorem zU342 : zrun2 342 4000 = true := by decide +kernel
set_option maxRecDepth 100000 in
theorem zU343 : zrun2 343 4000 = true := by decide +kernel
set_option maxRecDepth 100000 in
theorem zU344 : zrun2 344 4000 = true := by decide +kernel
set_option maxRecDepth 100000 in
theorem zU345 : zrun2 345 4000 = true := by decide +kernel
set_option maxRecDepth 100000 in
theorem zU346 : zrun2 346 4000 = true := by decide +kernel
set_option maxRecDepth 100000 in
theorem zU347 : zrun2 347 4000 = true := by decide +kernel
set_option maxRecDepth 100000 in
theorem zU348 : zrun2 348 4000 = true := by decide +kernel
set_option maxRecDepth 100000 in
theorem zU349 : zrun2 349 4000 = true := by decide +kernel
set_option maxRecDepth 100000 in
theorem zU350 : zrun2 350 4000 = true := by decide +kernel
set_option maxRecDepth 100000 in
theorem zU351 : zrun2 351 4000 = true := by decide +kernel
set_option maxRecDepth 100000 in
theorem zU352 : zrun2 352 4000 = true := by decide +kernel
set_option maxRecDepth 100000 in
theorem zU353 : zrun2 353 4000 = true := by decide +kernel
set_option maxRecDepth 100000 in
theorem zU354 : zrun2 354 4000 = true := by decide +kernel
set_option maxRecDepth 100000 in
theorem zU355 : zrun2 355 4000 = true := by decide +kernel
set_option maxRecDepth 100000 in
theorem zU356 : zrun2 356 4000 = true := by decide +kernel
set_option maxRecDepth 100000 in
theorem zU357 : zrun2 357 4000 = true := by decide +kernel
set_option maxRecDepth 100000 in
theorem zU358 : zrun2 358 4000 = true := by decide +kernel
set_option maxRecDepth 100000 in
theorem zU359 : zrun2 359 4000 = true := by decide +kernel
set_option maxRecDepth 100000 in
theorem zU360 : zrun2 360 4000 = true := by decide +kernel
set_option maxRecDepth 100000 in
theorem zU361 : zrun2 361 4000 = true := by decide +kernel
set_option maxRecDepth 100000 in
theorem zU362 : zrun2 362 4000 = true := by decide +kernel
set_option maxRecDepth 100000 in
theorem zU363 : zrun2 363 4000 = true := by decide +kernel
set_option maxRecDepth 100000 in
theorem zU364 : zrun2 364 4000 = true := by decide +kernel
set_option maxRecDepth 100000 in
theorem zU365 : zrun2 365 4000 = true := by decide +kernel
set_option maxRecDepth 100000 in
theorem zU366 : zrun2 366 4000 = true := by decide +kernel
set_option maxRecDepth 100000 in
theorem zU367 : zrun2 367 4000 = true := by decide +kernel
set_option maxRecDepth 100000 in
theorem zU368 : zrun2 368 4000 = true := by decide +kernel
set_option maxRecDepth 100000 in
theorem zU369 : zrun2 369 4000 = true := by decide +kernel
set_option maxRecDepth 100000 in
theorem zU370 : zrun2 370 4000 = true := by decide +kernel
set_option maxRecDepth 100000 in
theorem zU371 : zrun2 371 4000 = true := by decide +kernel
set_option maxRecDepth 100000 in
theorem zU372 : zrun2 372 4000 = true := by decide +kernel
set_option maxRecDepth 100000 in
theorem zU373 : zrun2 373 4000 = true := by decide +kernel
set_option maxRecDepth 100000 in
theorem zU374 : zrun2 374 4000 = true := by decide +kernel
set_option maxRecDepth 100000 in
theorem zU375 : zrun2 375 4000 = true := by decide +kernel
set_option maxRecDepth 100000 in
theorem zU376 : zrun2 376 4000 = true := by decide +kernel
set_option maxRecDepth 100000 in
theorem zU377 : zrun2 377 4000 = true := by decide +kernel
set_option maxRecDepth 100000 in
theorem zU378 : zrun2 378 4000 = true := by decide +kernel
set_option maxRecDepth 100000 in
theorem zU379 : zrun2 379 4000 = true := by decide +kernel
set_option maxRecDepth 100000 in
theorem zU380 : zrun2 380 4000 = true := by decide +kernel
set_option maxRecDepth 100000 in
theorem zU381 : zrun2 381 4000 = true := by decide +kernel
set_option maxRecDepth 100000 in
theorem zU382 : zrun2 382 4000 = true := by decide +kernel
set_option maxRecDepth 100000 in
theorem zU383 : zrun2 383 4000 = true := by decide +kernel
set_option maxRecDepth 100000 in
theorem zU384 : zrun2 384 4000 = true := by decide +kernel
set_option maxRecDepth 100000 in
theorem zU385 : zrun2 385 4000 = true := by decide +kernel
set_option maxRecDepth 100000 in
theorem zU386 : zrun2 386 4000 = true := by decide +kernel
set_option maxRecDepth 100000 in
theorem zU388 : zrun2 388 4000 = true := by decide +kernel
set_option maxRecDepth 100000 in
theorem zU389 : zrun2 389 4000 = true := by decide +kernel
set_option maxRecDepth 100000 in
theorem zU390 : zrun2 390 4000 = true := by decide +kernel
set_option maxRecDepth 100000 in
theorem zU391 : zrun2 391 4000 = true := by decide +kernel
set_option maxRecDepth 100000 in
theorem zU392 : zrun2 392 4000 = true := by decide +kernel
set_option maxRecDepth 100000 in
theorem zU393 : zrun2 393 4000 = true := by decide +kernel
set_option maxRecDepth 100000 in
theorem zU394 : zrun2 394 4000 = true := by decide +kernel
set_option maxRecDepth 100000 in
theorem zU395 : zrun2 395 4000 = true := by decide +kernel
set_option maxRecDepth 100000 in
theorem zU396 : zrun2 396 4000 = true := by decide +kernel
set_option maxRecDepth 100000 in
theorem zU398 : zrun2 398 4000 = true := by decide +kernel
set_option maxRecDepth 100000 in
theorem zU399 : zrun2 399 4000 = true := by decide +kernel
set_option maxRecDepth 100000 in
theorem zU400 : zrun2 400 4000 = true := by decide +kernel
set_option maxRecDepth 100000 in
theorem zU402 : zrun2 402 4000 = true := by decide +kernel
set_option maxRecDepth 100000 in
theorem zU404 : zrun2 404 4000 = true := by decide +kernel
set_option maxRecDepth 100000 in
theorem zU405 : zrun2 405 4000 = true := by decide +kernel
set_option maxRecDepth 100000 in
theorem zU406 : zrun2 406 4000 = true := by decide +kernel
set_option maxRecDepth 100000 in
theorem zU407 : zrun2 407 4000 = true := by decide +kernel
set_option maxRecDepth 100000 in
theorem zU408 : zrun2 408 4000 = true := by decide +kernel
set_option maxRecDepth 100000 in
theorem zU409 : zrun2 409 4000 = true := by decide +kernel
set_option maxRecDepth 100000 in
theorem zU410 : zrun2 410 4000 = true := by decide +kernel
set_option maxRecDepth 100000 in
theorem zU411 : zrun2 411 4000 = true := by decide +kernel
set_option maxRecDepth 100000 in
theorem zU412 : zrun2 412 4000 = true := by decide +kernel
set_option maxRecDepth 100000 in
theorem zU413 : zrun2 413 4000 = true := by decide +kernel
set_option maxRecDepth 100000 in
theorem zU414 : zrun2 414 4000 = true := by decide +kernel
set_option maxRecDepth 100000 in
theorem zU415 : zrun2 415 4000 = true := by decide +kernel
set_option maxRecDepth 100000 in
theorem zU416 : zrun2 416 4000 = true := by decide +kernel
set_option maxRecDepth 100000 in
theorem zU417 : zrun2 417 4000 = true := by decide +kernel
set_option maxRecDepth 100000 in
theorem zU418 : zrun2 418 4000 = true := by decide +kernel
set_option maxRecDepth 100000 in
theorem zU419 : zrun2 419 4000 = true := by decide +kernel
set_option maxRecDepth 100000 in
theorem zU420 : zrun2 420 4000 = true := by decide +kernel
set_option maxRecDepth 100000 in
theorem zU421 : zrun2 421 4000 = true := by decide +kernel
set_option maxRecDepth 100000 in
theorem zU422 : zrun2 422 4000 = true := by decide +kernel
set_option maxRecDepth 100000 in
theorem zU424 : zrun2 424 4000 = true := by decide +kernel
set_option maxRecDepth 100000 in
theorem zU425 : zrun2 425 4000 = true := by decide +kernel
set_option maxRecDepth 100000 in
theorem zU426 : zrun2 426 4000 = true := by decide +kernel
set_option maxRecDepth 100000 in
theorem zU427 : zrun2 427 4000 = true := by decide +kernel
set_option maxRecDepth 100000 in
theorem zU428 : zrun2 428 4000 = true := by decide +kernel
set_option maxRecDepth 100000 in
theorem zU429 : zrun2 429 4000 = true := by decide +kernel
set_option maxRecDepth 100000 in
theorem zU430 : zrun2 430 4000 = true := by decide +kernel
set_option maxRecDepth 100000 in
theorem zU431 : zrun2 431 4000 = true := by decide +kernel
set_option maxRecDepth 100000 in
theorem zU432 : zrun2 432 4000 = true := by decide +kernel
set_option maxRecDepth 100000 in
theorem zU433 : zrun2 433 4000 = true := by decide +kernel
set_option maxRecDepth 100000 in
theorem zU434 : zrun2 434 4000 = true := by decide +kernel
set_option maxRecDepth 100000 in
theorem zU435 : zrun2 435 4000 = true := by decide +kernel
set_option maxRecDepth 100000 in
theorem zU436 : zrun2 436 4000 = true := by decide +kernel
set_option maxRecDepth 100000 in
theorem zU437 : zrun2 437 4000 = true := by decide +kernel
set_option maxRecDepth 100000 in
theorem zU438 : zrun2 438 4000 = true := by decide +kernel
set_option maxRecDepth 100000 in
theorem zU440 : zrun2 440 4000 = true := by decide +kernel
set_option maxRecDepth 100000 in
theorem zU441 : zrun2 441 4000 = true := by decide +kernel
set_option maxRecDepth 100000 in
theorem zU442 : zrun2 442 4000 = true := by decide +kernel
set_option maxRecDepth 100000 in
theorem zU443 : zrun2 443 4000 = true := by decide +kernel
set_option maxRecDepth 100000 in
theorem zU444 : zrun2 444 4000 = true := by decide +kernel
set_option maxRecDepth 100000 in
theorem zU445 : zrun2 445 4000 = true := by decide +kernel
set_option maxRecDepth 100000 in
theorem zU446 : zrun2 446 4000 = true := by decide +kernel
set_option maxRecDepth 100000 in
theorem zU447 : zrun2 447 4000 = true := by decide +kernel
set_option maxRecDepth 100000 in
theorem zU448 : zrun2 448 4000 = true := by decide +kernel
set_option maxRecDepth 100000 in
theorem zU449 : zrun2 449 4000 = true := by decide +kernel
set_option maxRecDepth 100000 in
theorem zU450 : zrun2 450 4000 = true := by decide +kernel
set_option maxRecDepth 100000 in
theorem zU451 : zrun2 451 4000 = true := by decide +kernel
set_option maxRecDepth 100000 in
theorem zU452 : zrun2 452 4000 = true := by decide +kernel
set_option maxRecDepth 100000 in
theorem zU453 : zrun2 453 4000 = true := by decide +kernel
set_option maxRecDepth 100000 in
theorem zU454 : zrun2 454 4000 = true := by decide +kernel
set_option maxRecDepth 100000 in
theorem zU455 : zrun2 455 4000 = true := by decide +kernel
set_option maxRecDepth 100000 in
theorem zU456 : zrun2 456 4000 = true := by decide +kernel
set_option maxRecDepth 100000 in
theorem zU459 : zrun2 459 4000 = true := by decide +kernel
set_option maxRecDepth 100000 in
theorem zU460 : zrun2 460 4000 = true := by decide +kernel
set_option maxRecDepth 100000 in
theorem zU461 : zrun2 461 4000 = true := by decide +kernel
set_option maxRecDepth 100000 in
theorem zU462 : zrun2 462 4000 = true := by decide +kernel
set_option maxRecDepth 100000 in
theorem zU463 : zrun2 463 4000 = true := by decide +kernel
set_option maxRecDepth 100000 in
theorem zU464 : zrun2 464 4000 = true := by decide +kernel
set_option maxRecDepth 100000 in
theorem zU465 : zrun2 465 4000 = true := by decide +kernel
set_option maxRecDepth 100000 in
theorem zU466 : zrun2 466 4000 = true := by decide +kernel
set_option maxRecDepth 100000 in
theorem zU467 : zrun2 467 4000 = true := by decide +kernel
set_option maxRecDepth 100000 in
theorem zU469 : zrun2 469 4000 = true := by decide +kernel
set_option maxRecDepth 100000 in
theorem zU470 : zrun2 470 4000 = true := by decide +kernel
set_option maxRecDepth 100000 in
theorem zU471 : zrun2 471 4000 = true := by decide +kernel
set_option maxRecDepth 100000 in
theorem zU475 : zrun2 475 4000 = true := by decide +kernel
set_option maxRecDepth 100000 in
theorem zU476 : zrun2 476 4000 = true := by decide +kernel
set_option maxRecDepth 100000 in
theorem zU477 : zrun2 477 4000 = true := by decide +kernel
set_option maxRecDepth 100000 in
theorem zU478 : zrun2 478 4000 = true := by decide +kernel
set_option maxRecDepth 100000 in
theorem zU479 : zrun2 479 4000 = true := by decide +kernel
