/-! the tables as a whole are right -/
theorem zfc {α : Type} {P : α → Prop} {a : α} {l : List α} (h : P a) (hl : ∀ x ∈ l, P x) : ∀ x ∈ a :: l, P x := List.forall_mem_cons.mpr ⟨h, hl⟩
theorem zfn {α : Type} {P : α → Prop} : ∀ x ∈ ([] : List α), P x := fun _ h => absurd h List.not_mem_nil
theorem zfl {α : Type} {P : α → Prop} {l : List (List α)} (h : ∀ c ∈ l, ∀ x ∈ c, P x) : ∀ x ∈ l.flatten, P x := fun x hx => by
  obtain ⟨c, hc, hx⟩ := List.mem_flatten.mp hx
  exact h c hc x hx
theorem zk2_at {α β : Type} {f : α → β → Bool} : ∀ {l : List α} {m : List β} {i : Nat} {a : α} {b : β}, zk2 f l m = true → l[i]? = some a → m[i]? = some b → f a b = true
  | [], _, i, a, b, _, ha, _ => by simp at ha
  | x :: l, [], i, a, b, h, _, _ => by simp [zk2] at h
  | x :: l, y :: m, 0, a, b, h, ha, hb => by
    simp only [zk2, Bool.and_eq_true] at h
    simp at ha hb
    subst ha; subst hb
    exact h.1
  | x :: l, y :: m, i + 1, a, b, h, ha, hb => by
    simp only [zk2, Bool.and_eq_true] at h
    exact zk2_at h.2 (by simpa using ha) (by simpa using hb)
def zPc (M : sx_Me) : Prop := M.2.2.1.1 = 13 ∨ Cond.code M.1.1 M.1.2.1 M.1.2.2.1 M.1.2.2.2 ∈ zTB
theorem zMc0 : ∀ M ∈ [zM0, zM1, zM2, zM3, zM4, zM5, zM6, zM7, zM8, zM9, zM10, zM11, zM12, zM13, zM14, zM15], zPc M := zfc (Or.inl rfl) (zfc (Or.inr zCd1) (zfc (Or.inr zCd2) (zfc (Or.inr zCd3) (zfc (Or.inr zCd4) (zfc (Or.inr zCd5) (zfc (Or.inr zCd6) (zfc (Or.inr zCd7) (zfc (Or.inr zCd8) (zfc (Or.inr zCd9) (zfc (Or.inr zCd10) (zfc (Or.inr zCd11) (zfc (Or.inr zCd12) (zfc (Or.inr zCd13) (zfc (Or.inr zCd14) (zfc (Or.inr zCd15) (zfn))))))))))))))))
theorem zMm0 : ∀ M ∈ [zM0, zM1, zM2, zM3, zM4, zM5, zM6, zM7, zM8, zM9, zM10, zM11, zM12, zM13, zM14, zM15], sx_meok zCl zCDs M := zfc zMk0 (zfc zMk1 (zfc zMk2 (zfc zMk3 (zfc zMk4 (zfc zMk5 (zfc zMk6 (zfc zMk7 (zfc zMk8 (zfc zMk9 (zfc zMk10 (zfc zMk11 (zfc zMk12 (zfc zMk13 (zfc zMk14 (zfc zMk15 (zfn))))))))))))))))
theorem zMc1 : ∀ M ∈ [zM16, zM17, zM18, zM19, zM20, zM21, zM22, zM23, zM24, zM25, zM26, zM27, zM28, zM29, zM30, zM31], zPc M := zfc (Or.inr zCd16) (zfc (Or.inr zCd17) (zfc (Or.inr zCd18) (zfc (Or.inr zCd19) (zfc (Or.inr zCd20) (zfc (Or.inr zCd21) (zfc (Or.inr zCd22) (zfc (Or.inr zCd23) (zfc (Or.inr zCd24) (zfc (Or.inr zCd25) (zfc (Or.inr zCd26) (zfc (Or.inr zCd27) (zfc (Or.inr zCd28) (zfc (Or.inr zCd29) (zfc (Or.inr zCd30) (zfc (Or.inr zCd31) (zfn))))))))))))))))
theorem zMm1 : ∀ M ∈ [zM16, zM17, zM18, zM19, zM20, zM21, zM22, zM23, zM24, zM25, zM26, zM27, zM28, zM29, zM30, zM31], sx_meok zCl zCDs M := zfc zMk16 (zfc zMk17 (zfc zMk18 (zfc zMk19 (zfc zMk20 (zfc zMk21 (zfc zMk22 (zfc zMk23 (zfc zMk24 (zfc zMk25 (zfc zMk26 (zfc zMk27 (zfc zMk28 (zfc zMk29 (zfc zMk30 (zfc zMk31 (zfn))))))))))))))))
theorem zMc2 : ∀ M ∈ [zM32, zM33, zM34, zM35, zM36, zM37, zM38, zM39, zM40, zM41, zM42, zM43, zM44, zM45, zM46, zM47], zPc M := zfc (Or.inr zCd32) (zfc (Or.inr zCd33) (zfc (Or.inr zCd34) (zfc (Or.inr zCd35) (zfc (Or.inr zCd36) (zfc (Or.inr zCd37) (zfc (Or.inr zCd38) (zfc (Or.inr zCd39) (zfc (Or.inr zCd40) (zfc (Or.inr zCd41) (zfc (Or.inr zCd42) (zfc (Or.inr zCd43) (zfc (Or.inr zCd44) (zfc (Or.inr zCd45) (zfc (Or.inr zCd46) (zfc (Or.inr zCd47) (zfn))))))))))))))))
theorem zMm2 : ∀ M ∈ [zM32, zM33, zM34, zM35, zM36, zM37, zM38, zM39, zM40, zM41, zM42, zM43, zM44, zM45, zM46, zM47], sx_meok zCl zCDs M := zfc zMk32 (zfc zMk33 (zfc zMk34 (zfc zMk35 (zfc zMk36 (zfc zMk37 (zfc zMk38 (zfc zMk39 (zfc zMk40 (zfc zMk41 (zfc zMk42 (zfc zMk43 (zfc zMk44 (zfc zMk45 (zfc zMk46 (zfc zMk47 (zfn))))))))))))))))
theorem zMc3 : ∀ M ∈ [zM48, zM49, zM50, zM51, zM52, zM53, zM54, zM55, zM56, zM57, zM58, zM59, zM60, zM61, zM62, zM63], zPc M := zfc (Or.inr zCd48) (zfc (Or.inr zCd49) (zfc (Or.inr zCd50) (zfc (Or.inr zCd51) (zfc (Or.inr zCd52) (zfc (Or.inr zCd53) (zfc (Or.inr zCd54) (zfc (Or.inr zCd55) (zfc (Or.inr zCd56) (zfc (Or.inr zCd57) (zfc (Or.inr zCd58) (zfc (Or.inr zCd59) (zfc (Or.inr zCd60) (zfc (Or.inr zCd61) (zfc (Or.inr zCd62) (zfc (Or.inr zCd63) (zfn))))))))))))))))
theorem zMm3 : ∀ M ∈ [zM48, zM49, zM50, zM51, zM52, zM53, zM54, zM55, zM56, zM57, zM58, zM59, zM60, zM61, zM62, zM63], sx_meok zCl zCDs M := zfc zMk48 (zfc zMk49 (zfc zMk50 (zfc zMk51 (zfc zMk52 (zfc zMk53 (zfc zMk54 (zfc zMk55 (zfc zMk56 (zfc zMk57 (zfc zMk58 (zfc zMk59 (zfc zMk60 (zfc zMk61 (zfc zMk62 (zfc zMk63 (zfn))))))))))))))))
theorem zMc4 : ∀ M ∈ [zM64, zM65, zM66, zM67, zM68, zM69, zM70, zM71, zM72, zM73, zM74, zM75, zM76, zM77, zM78, zM79], zPc M := zfc (Or.inr zCd64) (zfc (Or.inr zCd65) (zfc (Or.inr zCd66) (zfc (Or.inr zCd67) (zfc (Or.inr zCd68) (zfc (Or.inr zCd69) (zfc (Or.inr zCd70) (zfc (Or.inr zCd71) (zfc (Or.inr zCd72) (zfc (Or.inr zCd73) (zfc (Or.inr zCd74) (zfc (Or.inr zCd75) (zfc (Or.inr zCd76) (zfc (Or.inr zCd77) (zfc (Or.inr zCd78) (zfc (Or.inr zCd79) (zfn))))))))))))))))
theorem zMm4 : ∀ M ∈ [zM64, zM65, zM66, zM67, zM68, zM69, zM70, zM71, zM72, zM73, zM74, zM75, zM76, zM77, zM78, zM79], sx_meok zCl zCDs M := zfc zMk64 (zfc zMk65 (zfc zMk66 (zfc zMk67 (zfc zMk68 (zfc zMk69 (zfc zMk70 (zfc zMk71 (zfc zMk72 (zfc zMk73 (zfc zMk74 (zfc zMk75 (zfc zMk76 (zfc zMk77 (zfc zMk78 (zfc zMk79 (zfn))))))))))))))))
theorem zMc5 : ∀ M ∈ [zM80, zM81, zM82, zM83, zM84, zM85, zM86, zM87, zM88, zM89, zM90, zM91, zM92, zM93, zM94, zM95], zPc M := zfc (Or.inr zCd80) (zfc (Or.inr zCd81) (zfc (Or.inr zCd82) (zfc (Or.inr zCd83) (zfc (Or.inr zCd84) (zfc (Or.inr zCd85) (zfc (Or.inr zCd86) (zfc (Or.inr zCd87) (zfc (Or.inr zCd88) (zfc (Or.inr zCd89) (zfc (Or.inr zCd90) (zfc (Or.inr zCd91) (zfc (Or.inr zCd92) (zfc (Or.inr zCd93) (zfc (Or.inr zCd94) (zfc (Or.inr zCd95) (zfn))))))))))))))))
theorem zMm5 : ∀ M ∈ [zM80, zM81, zM82, zM83, zM84, zM85, zM86, zM87, zM88, zM89, zM90, zM91, zM92, zM93, zM94, zM95], sx_meok zCl zCDs M := zfc zMk80 (zfc zMk81 (zfc zMk82 (zfc zMk83 (zfc zMk84 (zfc zMk85 (zfc zMk86 (zfc zMk87 (zfc zMk88 (zfc zMk89 (zfc zMk90 (zfc zMk91 (zfc zMk92 (zfc zMk93 (zfc zMk94 (zfc zMk95 (zfn))))))))))))))))
theorem zMc6 : ∀ M ∈ [zM96, zM97, zM98, zM99, zM100, zM101, zM102, zM103, zM104, zM105, zM106, zM107, zM108, zM109, zM110, zM111], zPc M := zfc (Or.inr zCd96) (zfc (Or.inr zCd97) (zfc (Or.inr zCd98) (zfc (Or.inr zCd99) (zfc (Or.inr zCd100) (zfc (Or.inr zCd101) (zfc (Or.inr zCd102) (zfc (Or.inr zCd103) (zfc (Or.inr zCd104) (zfc (Or.inr zCd105) (zfc (Or.inr zCd106) (zfc (Or.inr zCd107) (zfc (Or.inr zCd108) (zfc (Or.inr zCd109) (zfc (Or.inr zCd110) (zfc (Or.inr zCd111) (zfn))))))))))))))))
theorem zMm6 : ∀ M ∈ [zM96, zM97, zM98, zM99, zM100, zM101, zM102, zM103, zM104, zM105, zM106, zM107, zM108, zM109, zM110, zM111], sx_meok zCl zCDs M := zfc zMk96 (zfc zMk97 (zfc zMk98 (zfc zMk99 (zfc zMk100 (zfc zMk101 (zfc zMk102 (zfc zMk103 (zfc zMk104 (zfc zMk105 (zfc zMk106 (zfc zMk107 (zfc zMk108 (zfc zMk109 (zfc zMk110 (zfc zMk111 (zfn))))))))))))))))
theorem zMc7 : ∀ M ∈ [zM112, zM113, zM114, zM115, zM116, zM117, zM118, zM119, zM120, zM121, zM122, zM123, zM124, zM125, zM126, zM127], zPc M := zfc (Or.inr zCd112) (zfc (Or.inr zCd113) (zfc (Or.inr zCd114) (zfc (Or.inr zCd115) (zfc (Or.inr zCd116) (zfc (Or.inr zCd117) (zfc (Or.inr zCd118) (zfc (Or.inr zCd119) (zfc (Or.inr zCd120) (zfc (Or.inr zCd121) (zfc (Or.inr zCd122) (zfc (Or.inr zCd123) (zfc (Or.inr zCd124) (zfc (Or.inr zCd125) (zfc (Or.inr zCd126) (zfc (Or.inr zCd127) (zfn))))))))))))))))
theorem zMm7 : ∀ M ∈ [zM112, zM113, zM114, zM115, zM116, zM117, zM118, zM119, zM120, zM121, zM122, zM123, zM124, zM125, zM126, zM127], sx_meok zCl zCDs M := zfc zMk112 (zfc zMk113 (zfc zMk114 (zfc zMk115 (zfc zMk116 (zfc zMk117 (zfc zMk118 (zfc zMk119 (zfc zMk120 (zfc zMk121 (zfc zMk122 (zfc zMk123 (zfc zMk124 (zfc zMk125 (zfc zMk126 (zfc zMk127 (zfn))))))))))))))))
theorem zMc8 : ∀ M ∈ [zM128, zM129, zM130, zM131, zM132, zM133, zM134, zM135, zM136, zM137, zM138, zM139, zM140, zM141, zM142, zM143], zPc M := zfc (Or.inr zCd128) (zfc (Or.inr zCd129) (zfc (Or.inr zCd130) (zfc (Or.inr zCd131) (zfc (Or.inr zCd132) (zfc (Or.inr zCd133) (zfc (Or.inr zCd134) (zfc (Or.inr zCd135) (zfc (Or.inr zCd136) (zfc (Or.inr zCd137) (zfc (Or.inr zCd138) (zfc (Or.inr zCd139) (zfc (Or.inr zCd140) (zfc (Or.inr zCd141) (zfc (Or.inr zCd142) (zfc (Or.inr zCd143) (zfn))))))))))))))))
theorem zMm8 : ∀ M ∈ [zM128, zM129, zM130, zM131, zM132, zM133, zM134, zM135, zM136, zM137, zM138, zM139, zM140, zM141, zM142, zM143], sx_meok zCl zCDs M := zfc zMk128 (zfc zMk129 (zfc zMk130 (zfc zMk131 (zfc zMk132 (zfc zMk133 (zfc zMk134 (zfc zMk135 (zfc zMk136 (zfc zMk137 (zfc zMk138 (zfc zMk139 (zfc zMk140 (zfc zMk141 (zfc zMk142 (zfc zMk143 (zfn))))))))))))))))
theorem zMc9 : ∀ M ∈ [zM144, zM145, zM146, zM147, zM148, zM149, zM150, zM151, zM152, zM153, zM154, zM155, zM156, zM157, zM158, zM159], zPc M := zfc (Or.inr zCd144) (zfc (Or.inr zCd145) (zfc (Or.inr zCd146) (zfc (Or.inr zCd147) (zfc (Or.inr zCd148) (zfc (Or.inr zCd149) (zfc (Or.inr zCd150) (zfc (Or.inr zCd151) (zfc (Or.inr zCd152) (zfc (Or.inr zCd153) (zfc (Or.inr zCd154) (zfc (Or.inr zCd155) (zfc (Or.inr zCd156) (zfc (Or.inr zCd157) (zfc (Or.inr zCd158) (zfc (Or.inr zCd159) (zfn))))))))))))))))
theorem zMm9 : ∀ M ∈ [zM144, zM145, zM146, zM147, zM148, zM149, zM150, zM151, zM152, zM153, zM154, zM155, zM156, zM157, zM158, zM159], sx_meok zCl zCDs M := zfc zMk144 (zfc zMk145 (zfc zMk146 (zfc zMk147 (zfc zMk148 (zfc zMk149 (zfc zMk150 (zfc zMk151 (zfc zMk152 (zfc zMk153 (zfc zMk154 (zfc zMk155 (zfc zMk156 (zfc zMk157 (zfc zMk158 (zfc zMk159 (zfn))))))))))))))))
theorem zMc10 : ∀ M ∈ [zM160, zM161, zM162, zM163, zM164, zM165, zM166, zM167, zM168, zM169, zM170, zM171, zM172, zM173, zM174, zM175], zPc M := zfc (Or.inr zCd160) (zfc (Or.inr zCd161) (zfc (Or.inr zCd162) (zfc (Or.inr zCd163) (zfc (Or.inr zCd164) (zfc (Or.inr zCd165) (zfc (Or.inr zCd166) (zfc (Or.inr zCd167) (zfc (Or.inr zCd168) (zfc (Or.inr zCd169) (zfc (Or.inr zCd170) (zfc (Or.inr zCd171) (zfc (Or.inr zCd172) (zfc (Or.inr zCd173) (zfc (Or.inr zCd174) (zfc (Or.inr zCd175) (zfn))))))))))))))))
theorem zMm10 : ∀ M ∈ [zM160, zM161, zM162, zM163, zM164, zM165, zM166, zM167, zM168, zM169, zM170, zM171, zM172, zM173, zM174, zM175], sx_meok zCl zCDs M := zfc zMk160 (zfc zMk161 (zfc zMk162 (zfc zMk163 (zfc zMk164 (zfc zMk165 (zfc zMk166 (zfc zMk167 (zfc zMk168 (zfc zMk169 (zfc zMk170 (zfc zMk171 (zfc zMk172 (zfc zMk173 (zfc zMk174 (zfc zMk175 (zfn))))))))))))))))
theorem zMc11 : ∀ M ∈ [zM176, zM177, zM178, zM179, zM180, zM181, zM182, zM183, zM184, zM185, zM186, zM187, zM188, zM189, zM190, zM191], zPc M := zfc (Or.inr zCd176) (zfc (Or.inr zCd177) (zfc (Or.inr zCd178) (zfc (Or.inr zCd179) (zfc (Or.inr zCd180) (zfc (Or.inr zCd181) (zfc (Or.inr zCd182) (zfc (Or.inr zCd183) (zfc (Or.inr zCd184) (zfc (Or.inr zCd185) (zfc (Or.inr zCd186) (zfc (Or.inr zCd187) (zfc (Or.inr zCd188) (zfc (Or.inr zCd189) (zfc (Or.inr zCd190) (zfc (Or.inr zCd191) (zfn))))))))))))))))
theorem zMm11 : ∀ M ∈ [zM176, zM177, zM178, zM179, zM180, zM181, zM182, zM183, zM184, zM185, zM186, zM187, zM188, zM189, zM190, zM191], sx_meok zCl zCDs M := zfc zMk176 (zfc zMk177 (zfc zMk178 (zfc zMk179 (zfc zMk180 (zfc zMk181 (zfc zMk182 (zfc zMk183 (zfc zMk184 (zfc zMk185 (zfc zMk186 (zfc zMk187 (zfc zMk188 (zfc zMk189 (zfc zMk190 (zfc zMk191 (zfn))))))))))))))))
theorem zMc12 : ∀ M ∈ [zM192, zM193, zM194, zM195, zM196, zM197, zM198, zM199, zM200, zM201, zM202, zM203, zM204, zM205, zM206, zM207], zPc M := zfc (Or.inr zCd192) (zfc (Or.inr zCd193) (zfc (Or.inr zCd194) (zfc (Or.inr zCd195) (zfc (Or.inr zCd196) (zfc (Or.inr zCd197) (zfc (Or.inr zCd198) (zfc (Or.inr zCd199) (zfc (Or.inr zCd200) (zfc (Or.inr zCd201) (zfc (Or.inr zCd202) (zfc (Or.inr zCd203) (zfc (Or.inr zCd204) (zfc (Or.inr zCd205) (zfc (Or.inr zCd206) (zfc (Or.inr zCd207) (zfn))))))))))))))))
theorem zMm12 : ∀ M ∈ [zM192, zM193, zM194, zM195, zM196, zM197, zM198, zM199, zM200, zM201, zM202, zM203, zM204, zM205, zM206, zM207], sx_meok zCl zCDs M := zfc zMk192 (zfc zMk193 (zfc zMk194 (zfc zMk195 (zfc zMk196 (zfc zMk197 (zfc zMk198 (zfc zMk199 (zfc zMk200 (zfc zMk201 (zfc zMk202 (zfc zMk203 (zfc zMk204 (zfc zMk205 (zfc zMk206 (zfc zMk207 (zfn))))))))))))))))
theorem zMc13 : ∀ M ∈ [zM208, zM209], zPc M := zfc (Or.inr zCd208) (zfc (Or.inr zCd209) (zfn))
theorem zMm13 : ∀ M ∈ [zM208, zM209], sx_meok zCl zCDs M := zfc zMk208 (zfc zMk209 (zfn))
theorem zHcd : ∀ M ∈ zMT.flatten, zPc M := zfl (show ∀ c ∈ ([[zM0, zM1, zM2, zM3, zM4, zM5, zM6, zM7, zM8, zM9, zM10, zM11, zM12, zM13, zM14, zM15], [zM16, zM17, zM18, zM19, zM20, zM21, zM22, zM23, zM24, zM25, zM26, zM27, zM28, zM29, zM30, zM31], [zM32, zM33, zM34, zM35, zM36, zM37, zM38, zM39, zM40, zM41, zM42, zM43, zM44, zM45, zM46, zM47], [zM48, zM49, zM50, zM51, zM52, zM53, zM54, zM55, zM56, zM57, zM58, zM59, zM60, zM61, zM62, zM63], [zM64, zM65, zM66, zM67, zM68, zM69, zM70, zM71, zM72, zM73, zM74, zM75, zM76, zM77, zM78, zM79], [zM80, zM81, zM82, zM83, zM84, zM85, zM86, zM87, zM88, zM89, zM90, zM91, zM92, zM93, zM94, zM95], [zM96, zM97, zM98, zM99, zM100, zM101, zM102, zM103, zM104, zM105, zM106, zM107, zM108, zM109, zM110, zM111], [zM112, zM113, zM114, zM115, zM116, zM117, zM118, zM119, zM120, zM121, zM122, zM123, zM124, zM125, zM126, zM127], [zM128, zM129, zM130, zM131, zM132, zM133, zM134, zM135, zM136, zM137, zM138, zM139, zM140, zM141, zM142, zM143], [zM144, zM145, zM146, zM147, zM148, zM149, zM150, zM151, zM152, zM153, zM154, zM155, zM156, zM157, zM158, zM159], [zM160, zM161, zM162, zM163, zM164, zM165, zM166, zM167, zM168, zM169, zM170, zM171, zM172, zM173, zM174, zM175], [zM176, zM177, zM178, zM179, zM180, zM181, zM182, zM183, zM184, zM185, zM186, zM187, zM188, zM189, zM190, zM191], [zM192, zM193, zM194, zM195, zM196, zM197, zM198, zM199, zM200, zM201, zM202, zM203, zM204, zM205, zM206, zM207], [zM208, zM209]] : List (List sx_Me)), ∀ M ∈ c, zPc M from zfc zMc0 (zfc zMc1 (zfc zMc2 (zfc zMc3 (zfc zMc4 (zfc zMc5 (zfc zMc6 (zfc zMc7 (zfc zMc8 (zfc zMc9 (zfc zMc10 (zfc zMc11 (zfc zMc12 (zfc zMc13 (zfn)))))))))))))))
theorem zHme : ∀ M ∈ zMT.flatten, sx_meok zCl zCDs M := zfl (show ∀ c ∈ ([[zM0, zM1, zM2, zM3, zM4, zM5, zM6, zM7, zM8, zM9, zM10, zM11, zM12, zM13, zM14, zM15], [zM16, zM17, zM18, zM19, zM20, zM21, zM22, zM23, zM24, zM25, zM26, zM27, zM28, zM29, zM30, zM31], [zM32, zM33, zM34, zM35, zM36, zM37, zM38, zM39, zM40, zM41, zM42, zM43, zM44, zM45, zM46, zM47], [zM48, zM49, zM50, zM51, zM52, zM53, zM54, zM55, zM56, zM57, zM58, zM59, zM60, zM61, zM62, zM63], [zM64, zM65, zM66, zM67, zM68, zM69, zM70, zM71, zM72, zM73, zM74, zM75, zM76, zM77, zM78, zM79], [zM80, zM81, zM82, zM83, zM84, zM85, zM86, zM87, zM88, zM89, zM90, zM91, zM92, zM93, zM94, zM95], [zM96, zM97, zM98, zM99, zM100, zM101, zM102, zM103, zM104, zM105, zM106, zM107, zM108, zM109, zM110, zM111], [zM112, zM113, zM114, zM115, zM116, zM117, zM118, zM119, zM120, zM121, zM122, zM123, zM124, zM125, zM126, zM127], [zM128, zM129, zM130, zM131, zM132, zM133, zM134, zM135, zM136, zM137, zM138, zM139, zM140, zM141, zM142, zM143], [zM144, zM145, zM146, zM147, zM148, zM149, zM150, zM151, zM152, zM153, zM154, zM155, zM156, zM157, zM158, zM159], [zM160, zM161, zM162, zM163, zM164, zM165, zM166, zM167, zM168, zM169, zM170, zM171, zM172, zM173, zM174, zM175], [zM176, zM177, zM178, zM179, zM180, zM181, zM182, zM183, zM184, zM185, zM186, zM187, zM188, zM189, zM190, zM191], [zM192, zM193, zM194, zM195, zM196, zM197, zM198, zM199, zM200, zM201, zM202, zM203, zM204, zM205, zM206, zM207], [zM208, zM209]] : List (List sx_Me)), ∀ M ∈ c, sx_meok zCl zCDs M from zfc zMm0 (zfc zMm1 (zfc zMm2 (zfc zMm3 (zfc zMm4 (zfc zMm5 (zfc zMm6 (zfc zMm7 (zfc zMm8 (zfc zMm9 (zfc zMm10 (zfc zMm11 (zfc zMm12 (zfc zMm13 (zfn)))))))))))))))
theorem zHda : ∀ d ∈ zCDs, sx_daok zCl zAO zTB zMT d := show ∀ d ∈ ([zD0, zD1, zD2, zD3, zD4, zD5, zD6, zD7, zD8, zD9, zD10, zD11, zD12, zD13, zD14, zD15, zD16] : List sx_Da), sx_daok zCl zAO zTB zMT d from zfc (zkD_ok zHcd zDk0) (zfc (zkD_ok zHcd zDk1) (zfc (zkD_ok zHcd zDk2) (zfc (zkD_ok zHcd zDk3) (zfc (zkD_ok zHcd zDk4) (zfc (zkD_ok zHcd zDk5) (zfc (zkD_ok zHcd zDk6) (zfc (zkD_ok zHcd zDk7) (zfc (zkD_ok zHcd zDk8) (zfc (zkD_ok zHcd zDk9) (zfc (zkD_ok zHcd zDk10) (zfc (zkD_ok zHcd zDk11) (zfc (zkD_ok zHcd zDk12) (zfc (zkD_ok zHcd zDk13) (zfc (zkD_ok zHcd zDk14) (zfc (zkD_ok zHcd zDk15) (zfc (zkD_ok zHcd zDk16) (zfn)))))))))))))))))
set_option maxRecDepth 100000 in
theorem zCk0 : zkC (zR0, zT0, 17) zL0 = true := by decide +kernel
set_option maxRecDepth 100000 in
theorem zCk1 : zkC (zR1, zT1, 3) zL1 = true := by decide +kernel
set_option maxRecDepth 100000 in
theorem zCk2 : zkC (zR2, zT2, 3) zL2 = true := by decide +kernel
set_option maxRecDepth 100000 in
theorem zCk3 : zkC (zR3, zT3, 4) zL3 = true := by decide +kernel
set_option maxRecDepth 100000 in
theorem zCk4 : zkC (zR4, zT4, 2) zL4 = true := by decide +kernel
set_option maxRecDepth 100000 in
theorem zCk5 : zkC (zR5, zT5, 2) zL5 = true := by decide +kernel
set_option maxRecDepth 100000 in
theorem zCk6 : zkC (zR6, zT6, 12) zL6 = true := by decide +kernel
set_option maxRecDepth 100000 in
theorem zCk7 : zkC (zR7, zT7, 2) zL7 = true := by decide +kernel
set_option maxRecDepth 100000 in
theorem zCk8 : zkC (zR8, zT8, 5) zL8 = true := by decide +kernel
set_option maxRecDepth 100000 in
theorem zCk9 : zkC (zR9, zT9, 4) zL9 = true := by decide +kernel
set_option maxRecDepth 100000 in
theorem zCk10 : zkC (zR10, zT10, 15) zL10 = true := by decide +kernel
set_option maxRecDepth 100000 in
theorem zCk11 : zkC (zR11, zT11, 12) zL11 = true := by decide +kernel
set_option maxRecDepth 100000 in
theorem zCk12 : zkC (zR12, zT12, 73) zL12 = true := by decide +kernel
theorem zclok : sx_clok zCl zTB := show ∀ r ∈ ([(zR0, zT0, 17), (zR1, zT1, 3), (zR2, zT2, 3), (zR3, zT3, 4), (zR4, zT4, 2), (zR5, zT5, 2), (zR6, zT6, 12), (zR7, zT7, 2), (zR8, zT8, 5), (zR9, zT9, 4), (zR10, zT10, 15), (zR11, zT11, 12), (zR12, zT12, 73)] : List vw_C), _ from zfc (zkC_ok zCk0) (zfc (zkC_ok zCk1) (zfc (zkC_ok zCk2) (zfc (zkC_ok zCk3) (zfc (zkC_ok zCk4) (zfc (zkC_ok zCk5) (zfc (zkC_ok zCk6) (zfc (zkC_ok zCk7) (zfc (zkC_ok zCk8) (zfc (zkC_ok zCk9) (zfc (zkC_ok zCk10) (zfc (zkC_ok zCk11) (zfc (zkC_ok zCk12) (zfn)))))))))))))
set_option maxRecDepth 100000 in
theorem zcj0 : zk2 zkJs zCl sxCJ = true := by decide +kernel
theorem zcjok : sx_cjok zCl sxCJ := fun ci r js hr hj => zkJs_ok (zk2_at zcj0 hr hj)
def zkR (g : sx_Rg) : Bool := !(decide (g.1 = 0)) || (match zCl[g.2.1]? with
  | some q => decide (sx_wd g = q.2.2)
  | none => false)
set_option maxRecDepth 100000 in
theorem zrt0 : sxRT0.all (fun c => c.all zkR) = true := by decide +kernel
theorem zrtok (L : Nat) : sx_rtok zCl (sxRT L) := fun r g h h0 => by
  unfold sxRT at h
  split at h
  · cases h; cases h0
  · obtain ⟨c, hc, hg⟩ := List.mem_flatten.mp (sx_at2_mem h)
    have := List.all_eq_true.mp (List.all_eq_true.mp zrt0 c hc) g hg
    unfold zkR at this
    rw [h0] at this
    simp only [decide_true, Bool.not_true, Bool.false_or] at this
    split at this
    · rename_i q hq
      exact ⟨q, hq, of_decide_eq_true this⟩
    · cases this
theorem zai : zw zAI.1 (Cond.arrayClass .int) = true := by decide +kernel
theorem zal : zw zAI.2.1 (Cond.arrayClass .long) = true := by decide +kernel
theorem zao : zget zAI.2.2 = some (Cond.arrayOver (.object "ArcadePoles$Arcade")) := by decide +kernel
theorem zprog (L : Nat) : sx_prog zCl (sxRT L) sxCJ zAO zTB zMT zCDs := ⟨fun w hw => (List.mem_filter.mp hw).2, zclok, zrtok L, zcjok, zw_ok zai, zw_ok zal, zHme, zHda⟩
/-! classes can be made -/
def zkI (r : vw_C) (q : Nat × Nat × Nat) : Bool := zw (q.2.1, q.2.2) (.instantiable r.1 q.1)
set_option maxRecDepth 100000 in
theorem zik : zk2 zkI zCl zIs = true := by decide +kernel
