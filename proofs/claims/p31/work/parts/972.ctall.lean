/-! all contracts hold (printed by wip/p30/mk971.py) -/
def zUl0 : List Nat := [0, 1, 2, 3, 4, 5, 6, 7, 8, 9, 10, 11, 12, 13, 14, 15, 16, 17, 18, 19, 20, 21, 22, 23, 24, 25, 26, 27, 28, 29, 30, 31, 32, 33, 34, 35, 36, 37, 38, 39, 40, 41, 42, 43, 44, 45, 46, 47, 48, 49]
set_option maxRecDepth 100000 in
theorem zUa0 : ∀ j ∈ zUl0, zrun3 j 30000 = true := zfc zU0 (zfc zU1 (zfc zU2 (zfc zU3 (zfc zU4 (zfc zU5 (zfc zU6 (zfc zU7 (zfc zU8 (zfc zU9 (zfc zU10 (zfc zU11 (zfc zU12 (zfc zU13 (zfc zU14 (zfc zU15 (zfc zU16 (zfc zU17 (zfc zU18 (zfc zU19 (zfc zU20 (zfc zU21 (zfc zU22 (zfc zU23 (zfc zU24 (zfc zU25 (zfc zU26 (zfc zU27 (zfc zU28 (zfc zU29 (zfc zU30 (zfc zU31 (zfc zU32 (zfc zU33 (zfc zU34 (zfc zU35 (zfc zU36 (zfc zU37 (zfc zU38 (zfc zU39 (zfc zU40 (zfc zU41 (zfc zU42 (zfc zU43 (zfc zU44 (zfc zU45 (zfc zU46 (zfc zU47 (zfc zU48 (zfc zU49 (zfn))))))))))))))))))))))))))))))))))))))))))))))))))
def zUl1 : List Nat := [50, 51, 52, 53, 54, 55, 56, 57, 58, 59, 60, 61, 62, 63, 64, 65, 66, 67, 68, 69, 70, 71, 72, 73, 74, 75, 76, 77, 78, 79, 80, 81, 82, 83, 84, 85, 86, 87, 88, 89, 90, 91, 92, 93, 94, 95, 96, 97, 98, 99]
set_option maxRecDepth 100000 in
theorem zUa1 : ∀ j ∈ zUl1, zrun3 j 30000 = true := zfc zU50 (zfc zU51 (zfc zU52 (zfc zU53 (zfc zU54 (zfc zU55 (zfc zU56 (zfc zU57 (zfc zU58 (zfc zU59 (zfc zU60 (zfc zU61 (zfc zU62 (zfc zU63 (zfc zU64 (zfc zU65 (zfc zU66 (zfc zU67 (zfc zU68 (zfc zU69 (zfc zU70 (zfc zU71 (zfc zU72 (zfc zU73 (zfc zU74 (zfc zU75 (zfc zU76 (zfc zU77 (zfc zU78 (zfc zU79 (zfc zU80 (zfc zU81 (zfc zU82 (zfc zU83 (zfc zU84 (zfc zU85 (zfc zU86 (zfc zU87 (zfc zU88 (zfc zU89 (zfc zU90 (zfc zU91 (zfc zU92 (zfc zU93 (zfc zU94 (zfc zU95 (zfc zU96 (zfc zU97 (zfc zU98 (zfc zU99 (zfn))))))))))))))))))))))))))))))))))))))))))))))))))
def zUl2 : List Nat := [100, 101, 102, 103, 104, 105, 106, 107, 108, 109, 110, 111, 112, 113, 114, 115, 116, 117, 118, 119, 120, 121, 122, 123, 124, 125, 126, 127, 128, 129, 130, 131, 132, 133, 134, 135, 136, 137, 138, 139, 140, 141, 142, 143, 144, 145, 146, 147, 148, 149]
set_option maxRecDepth 100000 in
theorem zUa2 : ∀ j ∈ zUl2, zrun3 j 30000 = true := zfc zU100 (zfc zU101 (zfc zU102 (zfc zU103 (zfc zU104 (zfc zU105 (zfc zU106 (zfc zU107 (zfc zU108 (zfc zU109 (zfc zU110 (zfc zU111 (zfc zU112 (zfc zU113 (zfc zU114 (zfc zU115 (zfc zU116 (zfc zU117 (zfc zU118 (zfc zU119 (zfc zU120 (zfc zU121 (zfc zU122 (zfc zU123 (zfc zU124 (zfc zU125 (zfc zU126 (zfc zU127 (zfc zU128 (zfc zU129 (zfc zU130 (zfc zU131 (zfc zU132 (zfc zU133 (zfc zU134 (zfc zU135 (zfc zU136 (zfc zU137 (zfc zU138 (zfc zU139 (zfc zU140 (zfc zU141 (zfc zU142 (zfc zU143 (zfc zU144 (zfc zU145 (zfc zU146 (zfc zU147 (zfc zU148 (zfc zU149 (zfn))))))))))))))))))))))))))))))))))))))))))))))))))
def zUl3 : List Nat := [150, 151, 152, 153, 154, 155, 156, 157, 158, 159, 160, 161, 162, 163, 164, 165, 166, 167, 168, 169, 170, 171, 172, 173, 174, 175, 176, 177, 178, 179, 180, 181, 182, 183, 184, 185, 186, 187, 188, 189, 190, 191, 192, 193, 194, 195, 196, 197, 198, 199]
set_option maxRecDepth 100000 in
theorem zUa3 : ∀ j ∈ zUl3, zrun3 j 30000 = true := zfc zU150 (zfc zU151 (zfc zU152 (zfc zU153 (zfc zU154 (zfc zU155 (zfc zU156 (zfc zU157 (zfc zU158 (zfc zU159 (zfc zU160 (zfc zU161 (zfc zU162 (zfc zU163 (zfc zU164 (zfc zU165 (zfc zU166 (zfc zU167 (zfc zU168 (zfc zU169 (zfc zU170 (zfc zU171 (zfc zU172 (zfc zU173 (zfc zU174 (zfc zU175 (zfc zU176 (zfc zU177 (zfc zU178 (zfc zU179 (zfc zU180 (zfc zU181 (zfc zU182 (zfc zU183 (zfc zU184 (zfc zU185 (zfc zU186 (zfc zU187 (zfc zU188 (zfc zU189 (zfc zU190 (zfc zU191 (zfc zU192 (zfc zU193 (zfc zU194 (zfc zU195 (zfc zU196 (zfc zU197 (zfc zU198 (zfc zU199 (zfn))))))))))))))))))))))))))))))))))))))))))))))))))
def zUl4 : List Nat := [200, 201, 202, 203, 204, 205, 206, 207, 208, 209, 210, 211, 212, 213, 214, 215, 216, 217, 218, 219, 220, 221, 222, 223, 224, 225, 226, 227, 228, 229, 230, 231, 232, 233, 234, 235, 236, 237, 238, 239, 240, 241, 242, 243, 244, 245, 246, 247, 248, 249]
set_option maxRecDepth 100000 in
theorem zUa4 : ∀ j ∈ zUl4, zrun3 j 30000 = true := zfc zU200 (zfc zU201 (zfc zU202 (zfc zU203 (zfc zU204 (zfc zU205 (zfc zU206 (zfc zU207 (zfc zU208 (zfc zU209 (zfc zU210 (zfc zU211 (zfc zU212 (zfc zU213 (zfc zU214 (zfc zU215 (zfc zU216 (zfc zU217 (zfc zU218 (zfc zU219 (zfc zU220 (zfc zU221 (zfc zU222 (zfc zU223 (zfc zU224 (zfc zU225 (zfc zU226 (zfc zU227 (zfc zU228 (zfc zU229 (zfc zU230 (zfc zU231 (zfc zU232 (zfc zU233 (zfc zU234 (zfc zU235 (zfc zU236 (zfc zU237 (zfc zU238 (zfc zU239 (zfc zU240 (zfc zU241 (zfc zU242 (zfc zU243 (zfc zU244 (zfc zU245 (zfc zU246 (zfc zU247 (zfc zU248 (zfc zU249 (zfn))))))))))))))))))))))))))))))))))))))))))))))))))
def zUl5 : List Nat := [250, 251, 252, 253, 254, 255, 256, 257, 258, 259, 260, 261, 262, 263, 264, 265, 266, 267, 268, 269, 270, 271, 272, 273, 274, 275, 276, 277, 278, 279, 280, 281, 282, 283, 284, 285, 286, 287, 288, 289, 290, 291, 292, 293, 294, 295, 296, 297, 298, 299]
set_option maxRecDepth 100000 in
theorem zUa5 : ∀ j ∈ zUl5, zrun3 j 30000 = true := zfc zU250 (zfc zU251 (zfc zU252 (zfc zU253 (zfc zU254 (zfc zU255 (zfc zU256 (zfc zU257 (zfc zU258 (zfc zU259 (zfc zU260 (zfc zU261 (zfc zU262 (zfc zU263 (zfc zU264 (zfc zU265 (zfc zU266 (zfc zU267 (zfc zU268 (zfc zU269 (zfc zU270 (zfc zU271 (zfc zU272 (zfc zU273 (zfc zU274 (zfc zU275 (zfc zU276 (zfc zU277 (zfc zU278 (zfc zU279 (zfc zU280 (zfc zU281 (zfc zU282 (zfc zU283 (zfc zU284 (zfc zU285 (zfc zU286 (zfc zU287 (zfc zU288 (zfc zU289 (zfc zU290 (zfc zU291 (zfc zU292 (zfc zU293 (zfc zU294 (zfc zU295 (zfc zU296 (zfc zU297 (zfc zU298 (zfc zU299 (zfn))))))))))))))))))))))))))))))))))))))))))))))))))
def zUl6 : List Nat := [300, 301, 302, 303, 304, 305, 306, 307, 308, 309, 310, 311, 312, 313, 314, 315, 317, 318, 319, 320, 321, 322, 323, 324, 325, 326, 327, 328, 329, 330, 331, 332, 333, 334, 335, 336, 337, 338, 339, 340, 341, 342, 343, 344, 345, 346, 347, 348, 349, 350]
set_option maxRecDepth 100000 in
theorem zUa6 : ∀ j ∈ zUl6, zrun3 j 30000 = true := zfc zU300 (zfc zU301 (zfc zU302 (zfc zU303 (zfc zU304 (zfc zU305 (zfc zU306 (zfc zU307 (zfc zU308 (zfc zU309 (zfc zU310 (zfc zU311 (zfc zU312 (zfc zU313 (zfc zU314 (zfc zU315 (zfc zU317 (zfc zU318 (zfc zU319 (zfc zU320 (zfc zU321 (zfc zU322 (zfc zU323 (zfc zU324 (zfc zU325 (zfc zU326 (zfc zU327 (zfc zU328 (zfc zU329 (zfc zU330 (zfc zU331 (zfc zU332 (zfc zU333 (zfc zU334 (zfc zU335 (zfc zU336 (zfc zU337 (zfc zU338 (zfc zU339 (zfc zU340 (zfc zU341 (zfc zU342 (zfc zU343 (zfc zU344 (zfc zU345 (zfc zU346 (zfc zU347 (zfc zU348 (zfc zU349 (zfc zU350 (zfn))))))))))))))))))))))))))))))))))))))))))))))))))
def zUl7 : List Nat := [351, 352, 353, 354, 355, 356, 358, 359, 360, 361, 362, 363, 364, 365, 366, 367, 368, 369, 370, 371, 372, 373, 374, 375, 376, 377, 378, 379, 380, 381, 382, 383, 384, 385, 386, 387, 388, 389, 390, 391, 392, 393, 394, 395, 396, 397, 398, 399, 400, 401]
set_option maxRecDepth 100000 in
theorem zUa7 : ∀ j ∈ zUl7, zrun3 j 30000 = true := zfc zU351 (zfc zU352 (zfc zU353 (zfc zU354 (zfc zU355 (zfc zU356 (zfc zU358 (zfc zU359 (zfc zU360 (zfc zU361 (zfc zU362 (zfc zU363 (zfc zU364 (zfc zU365 (zfc zU366 (zfc zU367 (zfc zU368 (zfc zU369 (zfc zU370 (zfc zU371 (zfc zU372 (zfc zU373 (zfc zU374 (zfc zU375 (zfc zU376 (zfc zU377 (zfc zU378 (zfc zU379 (zfc zU380 (zfc zU381 (zfc zU382 (zfc zU383 (zfc zU384 (zfc zU385 (zfc zU386 (zfc zU387 (zfc zU388 (zfc zU389 (zfc zU390 (zfc zU391 (zfc zU392 (zfc zU393 (zfc zU394 (zfc zU395 (zfc zU396 (zfc zU397 (zfc zU398 (zfc zU399 (zfc zU400 (zfc zU401 (zfn))))))))))))))))))))))))))))))))))))))))))))))))))
def zUl8 : List Nat := [402, 403, 404, 405, 406, 407, 408, 409, 410, 411, 412, 413, 414, 415, 416, 417, 418, 419, 420, 421, 422, 423, 424, 425, 426, 427, 428, 429, 432, 433, 434, 435, 436, 437, 439, 441, 442, 443, 445, 446, 447, 448, 449, 450, 451, 452, 453, 454, 455, 456]
set_option maxRecDepth 100000 in
theorem zUa8 : ∀ j ∈ zUl8, zrun3 j 30000 = true := zfc zU402 (zfc zU403 (zfc zU404 (zfc zU405 (zfc zU406 (zfc zU407 (zfc zU408 (zfc zU409 (zfc zU410 (zfc zU411 (zfc zU412 (zfc zU413 (zfc zU414 (zfc zU415 (zfc zU416 (zfc zU417 (zfc zU418 (zfc zU419 (zfc zU420 (zfc zU421 (zfc zU422 (zfc zU423 (zfc zU424 (zfc zU425 (zfc zU426 (zfc zU427 (zfc zU428 (zfc zU429 (zfc zU432 (zfc zU433 (zfc zU434 (zfc zU435 (zfc zU436 (zfc zU437 (zfc zU439 (zfc zU441 (zfc zU442 (zfc zU443 (zfc zU445 (zfc zU446 (zfc zU447 (zfc zU448 (zfc zU449 (zfc zU450 (zfc zU451 (zfc zU452 (zfc zU453 (zfc zU454 (zfc zU455 (zfc zU456 (zfn))))))))))))))))))))))))))))))))))))))))))))))))))
def zUl9 : List Nat := [457, 459, 460, 461, 462, 464, 466, 467, 468, 469, 470, 471, 472, 473, 475, 476, 477, 478, 479, 480, 482, 483, 484, 485, 486, 487, 488, 489, 490, 491, 492, 494, 495]
set_option maxRecDepth 100000 in
theorem zUa9 : ∀ j ∈ zUl9, zrun3 j 30000 = true := zfc zU457 (zfc zU459 (zfc zU460 (zfc zU461 (zfc zU462 (zfc zU464 (zfc zU466 (zfc zU467 (zfc zU468 (zfc zU469 (zfc zU470 (zfc zU471 (zfc zU472 (zfc zU473 (zfc zU475 (zfc zU476 (zfc zU477 (zfc zU478 (zfc zU479 (zfc zU480 (zfc zU482 (zfc zU483 (zfc zU484 (zfc zU485 (zfc zU486 (zfc zU487 (zfc zU488 (zfc zU489 (zfc zU490 (zfc zU491 (zfc zU492 (zfc zU494 (zfc zU495 (zfn)))))))))))))))))))))))))))))))))
def zUll : List (List Nat) := [zUl0, zUl1, zUl2, zUl3, zUl4, zUl5, zUl6, zUl7, zUl8, zUl9]
theorem zUall : ∀ j ∈ zUll.flatten, zrun3 j 30000 = true := zfl (show ∀ c ∈ zUll, ∀ j ∈ c, zrun3 j 30000 = true from zfc zUa0 (zfc zUa1 (zfc zUa2 (zfc zUa3 (zfc zUa4 (zfc zUa5 (zfc zUa6 (zfc zUa7 (zfc zUa8 (zfc zUa9 (zfn)))))))))))
def zUh : List Nat := [316, 357, 430, 431, 438, 440, 444, 458, 463, 465, 474, 481, 493]
noncomputable def zUk (j : Nat) : Bool := zUll.any (fun c => c.any (fun x => Nat.beq x j)) || zUh.any (fun x => Nat.beq x j)
set_option maxRecDepth 100000 in
theorem zUk_ok : ∀ j, j < 496 → zUk j = true := by decide +kernel
noncomputable def zUw (j : Nat) : Bool := match sx_at2 zCT2 j with
  | some ct => Nat.beq (Nat.land ct.2.2.2.2.2 zGm) 0
  | none => false
set_option maxRecDepth 100000 in
theorem zUw_ok : zUll.all (fun c => c.all zUw) = true := by decide +kernel
theorem zct_lt {j : Nat} {ct : sx_Ct} (h : sx_at2 zCT2 j = some ct) : j < 496 := by
  unfold sx_at2 at h
  split at h
  · rename_i c hc
    have := (List.getElem?_eq_some_iff.mp hc).1
    have e : zCT2.length = 31 := rfl
    rw [e] at this
    omega
  · cases h
section CTA
variable {D : va_G} {ST : List (String × String × String × Nat)} {l : Launch} {B0 : Nat → Prop} {Sg : Nat → Option Nat}
theorem zct_run (hw : sx_Wd zNR zRT2 B0 Sg) (hK : zKK ST) {aW aS : Nat} (hTX : zSTt ST aW aS) (hGT : ∀ q ∈ zGT, sx_gtok zCDs (zAS ST) zTB Sg q) {j : Nat} {ct : sx_Ct} (hct : sx_at2 zCT2 j = some ct) (hr : zrun3 j 30000 = true) (h0 : Nat.land ct.2.2.2.2.2 zGm = 0) (hprev : ∀ i, i < j → ∀ c, sx_at2 zCT2 i = some c → zCK D ST B0 l Sg c) : zCK D ST B0 l Sg ct := by
  unfold zrun3 at hr
  rw [hct] at hr
  exact sx_crun_ok (FT := fun _ _ => 0) hw (pm_jkp h0 zGm_gd) hK.1 (sx_mac2_ok hw (fun S H h => h.1) (by unfold sx_subm; rw [show Nat.land ct.2.2.2.2.2 ct.2.2.2.2.2 = ct.2.2.2.2.2 from Nat.and_self _]; exact Nat.beq_refl _) hK.1 hGT (zmac1_ok ct.2.2.2.2.2 hw hK hTX) hprev) hr
theorem zctall (hw : sx_Wd zNR zRT2 B0 Sg) (hK : zKK ST) {aW aS : Nat} (hTX : zSTt ST aW aS) (hGT : ∀ q ∈ zGT, sx_gtok zCDs (zAS ST) zTB Sg q) : ∀ (j : Nat) (ct : sx_Ct), sx_at2 zCT2 j = some ct → zCK D ST B0 l Sg ct := sx_ctall (fun j ct hct hprev => by
  have hk := zUk_ok j (zct_lt hct)
  unfold zUk at hk
  rcases Bool.or_eq_true_iff.mp hk with h | h
  · obtain ⟨c, hc, h⟩ := List.any_eq_true.mp h
    obtain ⟨x, hx, h⟩ := List.any_eq_true.mp h
    obtain rfl := Nat.eq_of_beq_eq_true h
    have hW := List.all_eq_true.mp (List.all_eq_true.mp zUw_ok c hc) x hx
    unfold zUw at hW
    rw [hct] at hW
    exact zct_run hw hK hTX hGT hct (zUall x (List.mem_flatten.mpr ⟨c, hc, hx⟩)) (Nat.eq_of_beq_eq_true hW) hprev
  · have hh : j = 316 ∨ j = 357 ∨ j = 430 ∨ j = 431 ∨ j = 438 ∨ j = 440 ∨ j = 444 ∨ j = 458 ∨ j = 463 ∨ j = 465 ∨ j = 474 ∨ j = 481 ∨ j = 493 := by
      unfold zUh at h
      simp only [List.any_cons, List.any_nil, Bool.or_eq_true, Bool.or_false] at h
      rcases h with h | h | h | h | h | h | h | h | h | h | h | h | h
      all_goals have h := Nat.eq_of_beq_eq_true h; omega
    rcases hh with rfl | rfl | rfl | rfl | rfl | rfl | rfl | rfl | rfl | rfl | rfl | rfl | rfl
    · obtain rfl : zC316 = ct := Option.some.inj ((show sx_at2 zCT2 316 = some zC316 from rfl).symm.trans hct)
      exact zCt316 hw hK hTX
    · obtain rfl : zC357 = ct := Option.some.inj ((show sx_at2 zCT2 357 = some zC357 from rfl).symm.trans hct)
      exact zCt357 hw hK
    · obtain rfl : zC429 = ct := Option.some.inj ((show sx_at2 zCT2 430 = some zC429 from rfl).symm.trans hct)
      exact hprev 429 (by decide) _ rfl
    · obtain rfl : zC431 = ct := Option.some.inj ((show sx_at2 zCT2 431 = some zC431 from rfl).symm.trans hct)
      exact zCt431 hw hK
    · obtain rfl : zC438 = ct := Option.some.inj ((show sx_at2 zCT2 438 = some zC438 from rfl).symm.trans hct)
      exact zCt438 hw hK
    · obtain rfl : zC440 = ct := Option.some.inj ((show sx_at2 zCT2 440 = some zC440 from rfl).symm.trans hct)
      exact zCt440 hw hK
    · obtain rfl : zC444 = ct := Option.some.inj ((show sx_at2 zCT2 444 = some zC444 from rfl).symm.trans hct)
      exact zCt444 hw hK
    · obtain rfl : zC457 = ct := Option.some.inj ((show sx_at2 zCT2 458 = some zC457 from rfl).symm.trans hct)
      exact hprev 457 (by decide) _ rfl
    · obtain rfl : zC463 = ct := Option.some.inj ((show sx_at2 zCT2 463 = some zC463 from rfl).symm.trans hct)
      exact zCt463 hw hK
    · obtain rfl : zC465 = ct := Option.some.inj ((show sx_at2 zCT2 465 = some zC465 from rfl).symm.trans hct)
      exact zCt465 hw hK
    · obtain rfl : zC474 = ct := Option.some.inj ((show sx_at2 zCT2 474 = some zC474 from rfl).symm.trans hct)
      exact zCt474 hw hK
    · obtain rfl : zC481 = ct := Option.some.inj ((show sx_at2 zCT2 481 = some zC481 from rfl).symm.trans hct)
      exact zCt481 hw hK
    · obtain rfl : zC493 = ct := Option.some.inj ((show sx_at2 zCT2 493 = some zC493 from rfl).symm.trans hct)
      exact zCt493 hw hK)
end CTA
