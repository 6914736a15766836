/-! the methods' codes are those of the tables -/
set_option maxRecDepth 100000 in
theorem zCd1 : Cond.code zM1.1.1 zM1.1.2.1 zM1.1.2.2.1 zM1.1.2.2.2 ∈ zTB := zcode_mem (q := (1, 27)) rfl rfl
set_option maxRecDepth 100000 in
theorem zCd2 : Cond.code zM2.1.1 zM2.1.2.1 zM2.1.2.2.1 zM2.1.2.2.2 ∈ zTB := zcode_mem (q := (1, 35)) rfl rfl
set_option maxRecDepth 100000 in
theorem zCd3 : Cond.code zM3.1.1 zM3.1.2.1 zM3.1.2.2.1 zM3.1.2.2.2 ∈ zTB := zcode_mem (q := (1, 41)) rfl rfl
set_option maxRecDepth 100000 in
theorem zCd4 : Cond.code zM4.1.1 zM4.1.2.1 zM4.1.2.2.1 zM4.1.2.2.2 ∈ zTB := zcode_mem (q := (1, 149)) rfl rfl
set_option maxRecDepth 100000 in
theorem zCd5 : Cond.code zM5.1.1 zM5.1.2.1 zM5.1.2.2.1 zM5.1.2.2.2 ∈ zTB := zcode_mem (q := (1, 175)) rfl rfl
set_option maxRecDepth 100000 in
theorem zCd6 : Cond.code zM6.1.1 zM6.1.2.1 zM6.1.2.2.1 zM6.1.2.2.2 ∈ zTB := zcode_mem (q := (2, 18)) rfl rfl
set_option maxRecDepth 100000 in
theorem zCd7 : Cond.code zM7.1.1 zM7.1.2.1 zM7.1.2.2.1 zM7.1.2.2.2 ∈ zTB := zcode_mem (q := (2, 67)) rfl rfl
set_option maxRecDepth 100000 in
theorem zCd8 : Cond.code zM8.1.1 zM8.1.2.1 zM8.1.2.2.1 zM8.1.2.2.2 ∈ zTB := zcode_mem (q := (2, 90)) rfl rfl
set_option maxRecDepth 100000 in
theorem zCd9 : Cond.code zM9.1.1 zM9.1.2.1 zM9.1.2.2.1 zM9.1.2.2.2 ∈ zTB := zcode_mem (q := (2, 103)) rfl rfl
set_option maxRecDepth 100000 in
theorem zCd10 : Cond.code zM10.1.1 zM10.1.2.1 zM10.1.2.2.1 zM10.1.2.2.2 ∈ zTB := zcode_mem (q := (2, 121)) rfl rfl
set_option maxRecDepth 100000 in
theorem zCd11 : Cond.code zM11.1.1 zM11.1.2.1 zM11.1.2.2.1 zM11.1.2.2.2 ∈ zTB := zcode_mem (q := (2, 138)) rfl rfl
set_option maxRecDepth 100000 in
theorem zCd12 : Cond.code zM12.1.1 zM12.1.2.1 zM12.1.2.2.1 zM12.1.2.2.2 ∈ zTB := zcode_mem (q := (2, 162)) rfl rfl
set_option maxRecDepth 100000 in
theorem zCd13 : Cond.code zM13.1.1 zM13.1.2.1 zM13.1.2.2.1 zM13.1.2.2.2 ∈ zTB := zcode_mem (q := (2, 211)) rfl rfl
set_option maxRecDepth 100000 in
theorem zCd14 : Cond.code zM14.1.1 zM14.1.2.1 zM14.1.2.2.1 zM14.1.2.2.2 ∈ zTB := zcode_mem (q := (2, 215)) rfl rfl
set_option maxRecDepth 100000 in
theorem zCd15 : Cond.code zM15.1.1 zM15.1.2.1 zM15.1.2.2.1 zM15.1.2.2.2 ∈ zTB := zcode_mem (q := (2, 219)) rfl rfl
set_option maxRecDepth 100000 in
theorem zCd16 : Cond.code zM16.1.1 zM16.1.2.1 zM16.1.2.2.1 zM16.1.2.2.2 ∈ zTB := zcode_mem (q := (2, 222)) rfl rfl
set_option maxRecDepth 100000 in
theorem zCd17 : Cond.code zM17.1.1 zM17.1.2.1 zM17.1.2.2.1 zM17.1.2.2.2 ∈ zTB := zcode_mem (q := (2, 226)) rfl rfl
set_option maxRecDepth 100000 in
theorem zCd18 : Cond.code zM18.1.1 zM18.1.2.1 zM18.1.2.2.1 zM18.1.2.2.2 ∈ zTB := zcode_mem (q := (2, 231)) rfl rfl
set_option maxRecDepth 100000 in
theorem zCd19 : Cond.code zM19.1.1 zM19.1.2.1 zM19.1.2.2.1 zM19.1.2.2.2 ∈ zTB := zcode_mem (q := (2, 235)) rfl rfl
set_option maxRecDepth 100000 in
theorem zCd20 : Cond.code zM20.1.1 zM20.1.2.1 zM20.1.2.2.1 zM20.1.2.2.2 ∈ zTB := zcode_mem (q := (2, 239)) rfl rfl
set_option maxRecDepth 100000 in
theorem zCd21 : Cond.code zM21.1.1 zM21.1.2.1 zM21.1.2.2.1 zM21.1.2.2.2 ∈ zTB := zcode_mem (q := (3, 3)) rfl rfl
set_option maxRecDepth 100000 in
theorem zCd22 : Cond.code zM22.1.1 zM22.1.2.1 zM22.1.2.2.1 zM22.1.2.2.2 ∈ zTB := zcode_mem (q := (3, 7)) rfl rfl
set_option maxRecDepth 100000 in
theorem zCd23 : Cond.code zM23.1.1 zM23.1.2.1 zM23.1.2.2.1 zM23.1.2.2.2 ∈ zTB := zcode_mem (q := (3, 11)) rfl rfl
set_option maxRecDepth 100000 in
theorem zCd24 : Cond.code zM24.1.1 zM24.1.2.1 zM24.1.2.2.1 zM24.1.2.2.2 ∈ zTB := zcode_mem (q := (3, 15)) rfl rfl
set_option maxRecDepth 100000 in
theorem zCd25 : Cond.code zM25.1.1 zM25.1.2.1 zM25.1.2.2.1 zM25.1.2.2.2 ∈ zTB := zcode_mem (q := (3, 19)) rfl rfl
set_option maxRecDepth 100000 in
theorem zCd26 : Cond.code zM26.1.1 zM26.1.2.1 zM26.1.2.2.1 zM26.1.2.2.2 ∈ zTB := zcode_mem (q := (3, 23)) rfl rfl
set_option maxRecDepth 100000 in
theorem zCd27 : Cond.code zM27.1.1 zM27.1.2.1 zM27.1.2.2.1 zM27.1.2.2.2 ∈ zTB := zcode_mem (q := (3, 28)) rfl rfl
set_option maxRecDepth 100000 in
theorem zCd28 : Cond.code zM28.1.1 zM28.1.2.1 zM28.1.2.2.1 zM28.1.2.2.2 ∈ zTB := zcode_mem (q := (3, 32)) rfl rfl
set_option maxRecDepth 100000 in
theorem zCd29 : Cond.code zM29.1.1 zM29.1.2.1 zM29.1.2.2.1 zM29.1.2.2.2 ∈ zTB := zcode_mem (q := (3, 35)) rfl rfl
set_option maxRecDepth 100000 in
theorem zCd30 : Cond.code zM30.1.1 zM30.1.2.1 zM30.1.2.2.1 zM30.1.2.2.2 ∈ zTB := zcode_mem (q := (3, 38)) rfl rfl
set_option maxRecDepth 100000 in
theorem zCd31 : Cond.code zM31.1.1 zM31.1.2.1 zM31.1.2.2.1 zM31.1.2.2.2 ∈ zTB := zcode_mem (q := (3, 46)) rfl rfl
set_option maxRecDepth 100000 in
theorem zCd32 : Cond.code zM32.1.1 zM32.1.2.1 zM32.1.2.2.1 zM32.1.2.2.2 ∈ zTB := zcode_mem (q := (3, 50)) rfl rfl
set_option maxRecDepth 100000 in
theorem zCd33 : Cond.code zM33.1.1 zM33.1.2.1 zM33.1.2.2.1 zM33.1.2.2.2 ∈ zTB := zcode_mem (q := (3, 54)) rfl rfl
set_option maxRecDepth 100000 in
theorem zCd34 : Cond.code zM34.1.1 zM34.1.2.1 zM34.1.2.2.1 zM34.1.2.2.2 ∈ zTB := zcode_mem (q := (3, 95)) rfl rfl
set_option maxRecDepth 100000 in
theorem zCd35 : Cond.code zM35.1.1 zM35.1.2.1 zM35.1.2.2.1 zM35.1.2.2.2 ∈ zTB := zcode_mem (q := (3, 128)) rfl rfl
set_option maxRecDepth 100000 in
theorem zCd36 : Cond.code zM36.1.1 zM36.1.2.1 zM36.1.2.2.1 zM36.1.2.2.2 ∈ zTB := zcode_mem (q := (3, 132)) rfl rfl
set_option maxRecDepth 100000 in
theorem zCd37 : Cond.code zM37.1.1 zM37.1.2.1 zM37.1.2.2.1 zM37.1.2.2.2 ∈ zTB := zcode_mem (q := (3, 136)) rfl rfl
set_option maxRecDepth 100000 in
theorem zCd38 : Cond.code zM38.1.1 zM38.1.2.1 zM38.1.2.2.1 zM38.1.2.2.2 ∈ zTB := zcode_mem (q := (3, 140)) rfl rfl
set_option maxRecDepth 100000 in
theorem zCd39 : Cond.code zM39.1.1 zM39.1.2.1 zM39.1.2.2.1 zM39.1.2.2.2 ∈ zTB := zcode_mem (q := (3, 155)) rfl rfl
set_option maxRecDepth 100000 in
theorem zCd40 : Cond.code zM40.1.1 zM40.1.2.1 zM40.1.2.2.1 zM40.1.2.2.2 ∈ zTB := zcode_mem (q := (3, 159)) rfl rfl
set_option maxRecDepth 100000 in
theorem zCd41 : Cond.code zM41.1.1 zM41.1.2.1 zM41.1.2.2.1 zM41.1.2.2.2 ∈ zTB := zcode_mem (q := (3, 175)) rfl rfl
set_option maxRecDepth 100000 in
theorem zCd42 : Cond.code zM42.1.1 zM42.1.2.1 zM42.1.2.2.1 zM42.1.2.2.2 ∈ zTB := zcode_mem (q := (3, 183)) rfl rfl
set_option maxRecDepth 100000 in
theorem zCd43 : Cond.code zM43.1.1 zM43.1.2.1 zM43.1.2.2.1 zM43.1.2.2.2 ∈ zTB := zcode_mem (q := (3, 187)) rfl rfl
set_option maxRecDepth 100000 in
theorem zCd44 : Cond.code zM44.1.1 zM44.1.2.1 zM44.1.2.2.1 zM44.1.2.2.2 ∈ zTB := zcode_mem (q := (3, 191)) rfl rfl
set_option maxRecDepth 100000 in
theorem zCd45 : Cond.code zM45.1.1 zM45.1.2.1 zM45.1.2.2.1 zM45.1.2.2.2 ∈ zTB := zcode_mem (q := (3, 196)) rfl rfl
set_option maxRecDepth 100000 in
theorem zCd46 : Cond.code zM46.1.1 zM46.1.2.1 zM46.1.2.2.1 zM46.1.2.2.2 ∈ zTB := zcode_mem (q := (3, 200)) rfl rfl
set_option maxRecDepth 100000 in
theorem zCd47 : Cond.code zM47.1.1 zM47.1.2.1 zM47.1.2.2.1 zM47.1.2.2.2 ∈ zTB := zcode_mem (q := (3, 204)) rfl rfl
set_option maxRecDepth 100000 in
theorem zCd48 : Cond.code zM48.1.1 zM48.1.2.1 zM48.1.2.2.1 zM48.1.2.2.2 ∈ zTB := zcode_mem (q := (3, 208)) rfl rfl
set_option maxRecDepth 100000 in
theorem zCd49 : Cond.code zM49.1.1 zM49.1.2.1 zM49.1.2.2.1 zM49.1.2.2.2 ∈ zTB := zcode_mem (q := (3, 212)) rfl rfl
set_option maxRecDepth 100000 in
theorem zCd50 : Cond.code zM50.1.1 zM50.1.2.1 zM50.1.2.2.1 zM50.1.2.2.2 ∈ zTB := zcode_mem (q := (3, 216)) rfl rfl
set_option maxRecDepth 100000 in
theorem zCd51 : Cond.code zM51.1.1 zM51.1.2.1 zM51.1.2.2.1 zM51.1.2.2.2 ∈ zTB := zcode_mem (q := (3, 220)) rfl rfl
set_option maxRecDepth 100000 in
theorem zCd52 : Cond.code zM52.1.1 zM52.1.2.1 zM52.1.2.2.1 zM52.1.2.2.2 ∈ zTB := zcode_mem (q := (4, 59)) rfl rfl
set_option maxRecDepth 100000 in
theorem zCd53 : Cond.code zM53.1.1 zM53.1.2.1 zM53.1.2.2.1 zM53.1.2.2.2 ∈ zTB := zcode_mem (q := (4, 124)) rfl rfl
set_option maxRecDepth 100000 in
theorem zCd54 : Cond.code zM54.1.1 zM54.1.2.1 zM54.1.2.2.1 zM54.1.2.2.2 ∈ zTB := zcode_mem (q := (4, 205)) rfl rfl
set_option maxRecDepth 100000 in
theorem zCd55 : Cond.code zM55.1.1 zM55.1.2.1 zM55.1.2.2.1 zM55.1.2.2.2 ∈ zTB := zcode_mem (q := (4, 211)) rfl rfl
set_option maxRecDepth 100000 in
theorem zCd56 : Cond.code zM56.1.1 zM56.1.2.1 zM56.1.2.2.1 zM56.1.2.2.2 ∈ zTB := zcode_mem (q := (4, 215)) rfl rfl
set_option maxRecDepth 100000 in
theorem zCd57 : Cond.code zM57.1.1 zM57.1.2.1 zM57.1.2.2.1 zM57.1.2.2.2 ∈ zTB := zcode_mem (q := (4, 224)) rfl rfl
set_option maxRecDepth 100000 in
theorem zCd58 : Cond.code zM58.1.1 zM58.1.2.1 zM58.1.2.2.1 zM58.1.2.2.2 ∈ zTB := zcode_mem (q := (4, 229)) rfl rfl
set_option maxRecDepth 100000 in
theorem zCd59 : Cond.code zM59.1.1 zM59.1.2.1 zM59.1.2.2.1 zM59.1.2.2.2 ∈ zTB := zcode_mem (q := (4, 233)) rfl rfl
set_option maxRecDepth 100000 in
theorem zCd60 : Cond.code zM60.1.1 zM60.1.2.1 zM60.1.2.2.1 zM60.1.2.2.2 ∈ zTB := zcode_mem (q := (4, 238)) rfl rfl
set_option maxRecDepth 100000 in
theorem zCd61 : Cond.code zM61.1.1 zM61.1.2.1 zM61.1.2.2.1 zM61.1.2.2.2 ∈ zTB := zcode_mem (q := (5, 1)) rfl rfl
set_option maxRecDepth 100000 in
theorem zCd62 : Cond.code zM62.1.1 zM62.1.2.1 zM62.1.2.2.1 zM62.1.2.2.2 ∈ zTB := zcode_mem (q := (5, 5)) rfl rfl
set_option maxRecDepth 100000 in
theorem zCd63 : Cond.code zM63.1.1 zM63.1.2.1 zM63.1.2.2.1 zM63.1.2.2.2 ∈ zTB := zcode_mem (q := (5, 9)) rfl rfl
set_option maxRecDepth 100000 in
theorem zCd64 : Cond.code zM64.1.1 zM64.1.2.1 zM64.1.2.2.1 zM64.1.2.2.2 ∈ zTB := zcode_mem (q := (5, 12)) rfl rfl
set_option maxRecDepth 100000 in
theorem zCd65 : Cond.code zM65.1.1 zM65.1.2.1 zM65.1.2.2.1 zM65.1.2.2.2 ∈ zTB := zcode_mem (q := (5, 17)) rfl rfl
set_option maxRecDepth 100000 in
theorem zCd66 : Cond.code zM66.1.1 zM66.1.2.1 zM66.1.2.2.1 zM66.1.2.2.2 ∈ zTB := zcode_mem (q := (5, 32)) rfl rfl
set_option maxRecDepth 100000 in
theorem zCd67 : Cond.code zM67.1.1 zM67.1.2.1 zM67.1.2.2.1 zM67.1.2.2.2 ∈ zTB := zcode_mem (q := (5, 36)) rfl rfl
set_option maxRecDepth 100000 in
theorem zCd68 : Cond.code zM68.1.1 zM68.1.2.1 zM68.1.2.2.1 zM68.1.2.2.2 ∈ zTB := zcode_mem (q := (5, 42)) rfl rfl
set_option maxRecDepth 100000 in
theorem zCd69 : Cond.code zM69.1.1 zM69.1.2.1 zM69.1.2.2.1 zM69.1.2.2.2 ∈ zTB := zcode_mem (q := (5, 50)) rfl rfl
set_option maxRecDepth 100000 in
theorem zCd70 : Cond.code zM70.1.1 zM70.1.2.1 zM70.1.2.2.1 zM70.1.2.2.2 ∈ zTB := zcode_mem (q := (5, 70)) rfl rfl
set_option maxRecDepth 100000 in
theorem zCd71 : Cond.code zM71.1.1 zM71.1.2.1 zM71.1.2.2.1 zM71.1.2.2.2 ∈ zTB := zcode_mem (q := (5, 74)) rfl rfl
set_option maxRecDepth 100000 in
theorem zCd72 : Cond.code zM72.1.1 zM72.1.2.1 zM72.1.2.2.1 zM72.1.2.2.2 ∈ zTB := zcode_mem (q := (5, 78)) rfl rfl
set_option maxRecDepth 100000 in
theorem zCd73 : Cond.code zM73.1.1 zM73.1.2.1 zM73.1.2.2.1 zM73.1.2.2.2 ∈ zTB := zcode_mem (q := (5, 81)) rfl rfl
set_option maxRecDepth 100000 in
theorem zCd74 : Cond.code zM74.1.1 zM74.1.2.1 zM74.1.2.2.1 zM74.1.2.2.2 ∈ zTB := zcode_mem (q := (5, 85)) rfl rfl
set_option maxRecDepth 100000 in
theorem zCd75 : Cond.code zM75.1.1 zM75.1.2.1 zM75.1.2.2.1 zM75.1.2.2.2 ∈ zTB := zcode_mem (q := (5, 90)) rfl rfl
set_option maxRecDepth 100000 in
theorem zCd76 : Cond.code zM76.1.1 zM76.1.2.1 zM76.1.2.2.1 zM76.1.2.2.2 ∈ zTB := zcode_mem (q := (5, 94)) rfl rfl
set_option maxRecDepth 100000 in
theorem zCd77 : Cond.code zM77.1.1 zM77.1.2.1 zM77.1.2.2.1 zM77.1.2.2.2 ∈ zTB := zcode_mem (q := (5, 97)) rfl rfl
set_option maxRecDepth 100000 in
theorem zCd78 : Cond.code zM78.1.1 zM78.1.2.1 zM78.1.2.2.1 zM78.1.2.2.2 ∈ zTB := zcode_mem (q := (5, 102)) rfl rfl
set_option maxRecDepth 100000 in
theorem zCd79 : Cond.code zM79.1.1 zM79.1.2.1 zM79.1.2.2.1 zM79.1.2.2.2 ∈ zTB := zcode_mem (q := (5, 107)) rfl rfl
set_option maxRecDepth 100000 in
theorem zCd80 : Cond.code zM80.1.1 zM80.1.2.1 zM80.1.2.2.1 zM80.1.2.2.2 ∈ zTB := zcode_mem (q := (5, 111)) rfl rfl
set_option maxRecDepth 100000 in
theorem zCd81 : Cond.code zM81.1.1 zM81.1.2.1 zM81.1.2.2.1 zM81.1.2.2.2 ∈ zTB := zcode_mem (q := (5, 114)) rfl rfl
set_option maxRecDepth 100000 in
theorem zCd82 : Cond.code zM82.1.1 zM82.1.2.1 zM82.1.2.2.1 zM82.1.2.2.2 ∈ zTB := zcode_mem (q := (5, 128)) rfl rfl
set_option maxRecDepth 100000 in
theorem zCd83 : Cond.code zM83.1.1 zM83.1.2.1 zM83.1.2.2.1 zM83.1.2.2.2 ∈ zTB := zcode_mem (q := (5, 132)) rfl rfl
set_option maxRecDepth 100000 in
theorem zCd84 : Cond.code zM84.1.1 zM84.1.2.1 zM84.1.2.2.1 zM84.1.2.2.2 ∈ zTB := zcode_mem (q := (5, 137)) rfl rfl
set_option maxRecDepth 100000 in
theorem zCd85 : Cond.code zM85.1.1 zM85.1.2.1 zM85.1.2.2.1 zM85.1.2.2.2 ∈ zTB := zcode_mem (q := (5, 141)) rfl rfl
set_option maxRecDepth 100000 in
theorem zCd86 : Cond.code zM86.1.1 zM86.1.2.1 zM86.1.2.2.1 zM86.1.2.2.2 ∈ zTB := zcode_mem (q := (5, 145)) rfl rfl
set_option maxRecDepth 100000 in
theorem zCd87 : Cond.code zM87.1.1 zM87.1.2.1 zM87.1.2.2.1 zM87.1.2.2.2 ∈ zTB := zcode_mem (q := (5, 149)) rfl rfl
set_option maxRecDepth 100000 in
theorem zCd88 : Cond.code zM88.1.1 zM88.1.2.1 zM88.1.2.2.1 zM88.1.2.2.2 ∈ zTB := zcode_mem (q := (5, 153)) rfl rfl
set_option maxRecDepth 100000 in
theorem zCd89 : Cond.code zM89.1.1 zM89.1.2.1 zM89.1.2.2.1 zM89.1.2.2.2 ∈ zTB := zcode_mem (q := (5, 157)) rfl rfl
set_option maxRecDepth 100000 in
theorem zCd90 : Cond.code zM90.1.1 zM90.1.2.1 zM90.1.2.2.1 zM90.1.2.2.2 ∈ zTB := zcode_mem (q := (5, 161)) rfl rfl
set_option maxRecDepth 100000 in
theorem zCd91 : Cond.code zM91.1.1 zM91.1.2.1 zM91.1.2.2.1 zM91.1.2.2.2 ∈ zTB := zcode_mem (q := (5, 165)) rfl rfl
set_option maxRecDepth 100000 in
theorem zCd92 : Cond.code zM92.1.1 zM92.1.2.1 zM92.1.2.2.1 zM92.1.2.2.2 ∈ zTB := zcode_mem (q := (5, 169)) rfl rfl
set_option maxRecDepth 100000 in
theorem zCd93 : Cond.code zM93.1.1 zM93.1.2.1 zM93.1.2.2.1 zM93.1.2.2.2 ∈ zTB := zcode_mem (q := (5, 173)) rfl rfl
set_option maxRecDepth 100000 in
theorem zCd94 : Cond.code zM94.1.1 zM94.1.2.1 zM94.1.2.2.1 zM94.1.2.2.2 ∈ zTB := zcode_mem (q := (5, 180)) rfl rfl
set_option maxRecDepth 100000 in
theorem zCd95 : Cond.code zM95.1.1 zM95.1.2.1 zM95.1.2.2.1 zM95.1.2.2.2 ∈ zTB := zcode_mem (q := (5, 185)) rfl rfl
set_option maxRecDepth 100000 in
theorem zCd96 : Cond.code zM96.1.1 zM96.1.2.1 zM96.1.2.2.1 zM96.1.2.2.2 ∈ zTB := zcode_mem (q := (5, 189)) rfl rfl
set_option maxRecDepth 100000 in
theorem zCd97 : Cond.code zM97.1.1 zM97.1.2.1 zM97.1.2.2.1 zM97.1.2.2.2 ∈ zTB := zcode_mem (q := (5, 196)) rfl rfl
set_option maxRecDepth 100000 in
theorem zCd98 : Cond.code zM98.1.1 zM98.1.2.1 zM98.1.2.2.1 zM98.1.2.2.2 ∈ zTB := zcode_mem (q := (5, 200)) rfl rfl
set_option maxRecDepth 100000 in
theorem zCd99 : Cond.code zM99.1.1 zM99.1.2.1 zM99.1.2.2.1 zM99.1.2.2.2 ∈ zTB := zcode_mem (q := (5, 203)) rfl rfl
set_option maxRecDepth 100000 in
theorem zCd100 : Cond.code zM100.1.1 zM100.1.2.1 zM100.1.2.2.1 zM100.1.2.2.2 ∈ zTB := zcode_mem (q := (5, 207)) rfl rfl
set_option maxRecDepth 100000 in
theorem zCd101 : Cond.code zM101.1.1 zM101.1.2.1 zM101.1.2.2.1 zM101.1.2.2.2 ∈ zTB := zcode_mem (q := (5, 210)) rfl rfl
set_option maxRecDepth 100000 in
theorem zCd102 : Cond.code zM102.1.1 zM102.1.2.1 zM102.1.2.2.1 zM102.1.2.2.2 ∈ zTB := zcode_mem (q := (5, 215)) rfl rfl
set_option maxRecDepth 100000 in
theorem zCd103 : Cond.code zM103.1.1 zM103.1.2.1 zM103.1.2.2.1 zM103.1.2.2.2 ∈ zTB := zcode_mem (q := (5, 219)) rfl rfl
set_option maxRecDepth 100000 in
theorem zCd104 : Cond.code zM104.1.1 zM104.1.2.1 zM104.1.2.2.1 zM104.1.2.2.2 ∈ zTB := zcode_mem (q := (5, 229)) rfl rfl
set_option maxRecDepth 100000 in
theorem zCd105 : Cond.code zM105.1.1 zM105.1.2.1 zM105.1.2.2.1 zM105.1.2.2.2 ∈ zTB := zcode_mem (q := (5, 233)) rfl rfl
set_option maxRecDepth 100000 in
theorem zCd106 : Cond.code zM106.1.1 zM106.1.2.1 zM106.1.2.2.1 zM106.1.2.2.2 ∈ zTB := zcode_mem (q := (5, 236)) rfl rfl
set_option maxRecDepth 100000 in
theorem zCd107 : Cond.code zM107.1.1 zM107.1.2.1 zM107.1.2.2.1 zM107.1.2.2.2 ∈ zTB := zcode_mem (q := (5, 239)) rfl rfl
set_option maxRecDepth 100000 in
theorem zCd108 : Cond.code zM108.1.1 zM108.1.2.1 zM108.1.2.2.1 zM108.1.2.2.2 ∈ zTB := zcode_mem (q := (6, 3)) rfl rfl
set_option maxRecDepth 100000 in
theorem zCd109 : Cond.code zM109.1.1 zM109.1.2.1 zM109.1.2.2.1 zM109.1.2.2.2 ∈ zTB := zcode_mem (q := (6, 7)) rfl rfl
set_option maxRecDepth 100000 in
theorem zCd110 : Cond.code zM110.1.1 zM110.1.2.1 zM110.1.2.2.1 zM110.1.2.2.2 ∈ zTB := zcode_mem (q := (6, 12)) rfl rfl
set_option maxRecDepth 100000 in
theorem zCd111 : Cond.code zM111.1.1 zM111.1.2.1 zM111.1.2.2.1 zM111.1.2.2.2 ∈ zTB := zcode_mem (q := (6, 16)) rfl rfl
set_option maxRecDepth 100000 in
theorem zCd112 : Cond.code zM112.1.1 zM112.1.2.1 zM112.1.2.2.1 zM112.1.2.2.2 ∈ zTB := zcode_mem (q := (6, 25)) rfl rfl
set_option maxRecDepth 100000 in
theorem zCd113 : Cond.code zM113.1.1 zM113.1.2.1 zM113.1.2.2.1 zM113.1.2.2.2 ∈ zTB := zcode_mem (q := (6, 29)) rfl rfl
set_option maxRecDepth 100000 in
theorem zCd114 : Cond.code zM114.1.1 zM114.1.2.1 zM114.1.2.2.1 zM114.1.2.2.2 ∈ zTB := zcode_mem (q := (6, 32)) rfl rfl
set_option maxRecDepth 100000 in
theorem zCd115 : Cond.code zM115.1.1 zM115.1.2.1 zM115.1.2.2.1 zM115.1.2.2.2 ∈ zTB := zcode_mem (q := (6, 36)) rfl rfl
set_option maxRecDepth 100000 in
theorem zCd116 : Cond.code zM116.1.1 zM116.1.2.1 zM116.1.2.2.1 zM116.1.2.2.2 ∈ zTB := zcode_mem (q := (6, 39)) rfl rfl
set_option maxRecDepth 100000 in
theorem zCd117 : Cond.code zM117.1.1 zM117.1.2.1 zM117.1.2.2.1 zM117.1.2.2.2 ∈ zTB := zcode_mem (q := (6, 46)) rfl rfl
set_option maxRecDepth 100000 in
theorem zCd118 : Cond.code zM118.1.1 zM118.1.2.1 zM118.1.2.2.1 zM118.1.2.2.2 ∈ zTB := zcode_mem (q := (6, 50)) rfl rfl
set_option maxRecDepth 100000 in
theorem zCd119 : Cond.code zM119.1.1 zM119.1.2.1 zM119.1.2.2.1 zM119.1.2.2.2 ∈ zTB := zcode_mem (q := (6, 54)) rfl rfl
set_option maxRecDepth 100000 in
theorem zCd120 : Cond.code zM120.1.1 zM120.1.2.1 zM120.1.2.2.1 zM120.1.2.2.2 ∈ zTB := zcode_mem (q := (6, 58)) rfl rfl
set_option maxRecDepth 100000 in
theorem zCd121 : Cond.code zM121.1.1 zM121.1.2.1 zM121.1.2.2.1 zM121.1.2.2.2 ∈ zTB := zcode_mem (q := (6, 65)) rfl rfl
set_option maxRecDepth 100000 in
theorem zCd122 : Cond.code zM122.1.1 zM122.1.2.1 zM122.1.2.2.1 zM122.1.2.2.2 ∈ zTB := zcode_mem (q := (6, 70)) rfl rfl
set_option maxRecDepth 100000 in
theorem zCd123 : Cond.code zM123.1.1 zM123.1.2.1 zM123.1.2.2.1 zM123.1.2.2.2 ∈ zTB := zcode_mem (q := (6, 74)) rfl rfl
set_option maxRecDepth 100000 in
theorem zCd124 : Cond.code zM124.1.1 zM124.1.2.1 zM124.1.2.2.1 zM124.1.2.2.2 ∈ zTB := zcode_mem (q := (6, 78)) rfl rfl
set_option maxRecDepth 100000 in
theorem zCd125 : Cond.code zM125.1.1 zM125.1.2.1 zM125.1.2.2.1 zM125.1.2.2.2 ∈ zTB := zcode_mem (q := (6, 84)) rfl rfl
set_option maxRecDepth 100000 in
theorem zCd126 : Cond.code zM126.1.1 zM126.1.2.1 zM126.1.2.2.1 zM126.1.2.2.2 ∈ zTB := zcode_mem (q := (7, 70)) rfl rfl
set_option maxRecDepth 100000 in
theorem zCd127 : Cond.code zM127.1.1 zM127.1.2.1 zM127.1.2.2.1 zM127.1.2.2.2 ∈ zTB := zcode_mem (q := (7, 74)) rfl rfl
set_option maxRecDepth 100000 in
theorem zCd128 : Cond.code zM128.1.1 zM128.1.2.1 zM128.1.2.2.1 zM128.1.2.2.2 ∈ zTB := zcode_mem (q := (7, 78)) rfl rfl
set_option maxRecDepth 100000 in
theorem zCd129 : Cond.code zM129.1.1 zM129.1.2.1 zM129.1.2.2.1 zM129.1.2.2.2 ∈ zTB := zcode_mem (q := (7, 82)) rfl rfl
set_option maxRecDepth 100000 in
theorem zCd130 : Cond.code zM130.1.1 zM130.1.2.1 zM130.1.2.2.1 zM130.1.2.2.2 ∈ zTB := zcode_mem (q := (7, 86)) rfl rfl
set_option maxRecDepth 100000 in
theorem zCd131 : Cond.code zM131.1.1 zM131.1.2.1 zM131.1.2.2.1 zM131.1.2.2.2 ∈ zTB := zcode_mem (q := (7, 90)) rfl rfl
set_option maxRecDepth 100000 in
theorem zCd132 : Cond.code zM132.1.1 zM132.1.2.1 zM132.1.2.2.1 zM132.1.2.2.2 ∈ zTB := zcode_mem (q := (7, 94)) rfl rfl
set_option maxRecDepth 100000 in
theorem zCd133 : Cond.code zM133.1.1 zM133.1.2.1 zM133.1.2.2.1 zM133.1.2.2.2 ∈ zTB := zcode_mem (q := (7, 98)) rfl rfl
set_option maxRecDepth 100000 in
theorem zCd134 : Cond.code zM134.1.1 zM134.1.2.1 zM134.1.2.2.1 zM134.1.2.2.2 ∈ zTB := zcode_mem (q := (7, 102)) rfl rfl
set_option maxRecDepth 100000 in
theorem zCd135 : Cond.code zM135.1.1 zM135.1.2.1 zM135.1.2.2.1 zM135.1.2.2.2 ∈ zTB := zcode_mem (q := (7, 106)) rfl rfl
set_option maxRecDepth 100000 in
theorem zCd136 : Cond.code zM136.1.1 zM136.1.2.1 zM136.1.2.2.1 zM136.1.2.2.2 ∈ zTB := zcode_mem (q := (7, 110)) rfl rfl
set_option maxRecDepth 100000 in
theorem zCd137 : Cond.code zM137.1.1 zM137.1.2.1 zM137.1.2.2.1 zM137.1.2.2.2 ∈ zTB := zcode_mem (q := (7, 114)) rfl rfl
set_option maxRecDepth 100000 in
theorem zCd138 : Cond.code zM138.1.1 zM138.1.2.1 zM138.1.2.2.1 zM138.1.2.2.2 ∈ zTB := zcode_mem (q := (7, 118)) rfl rfl
set_option maxRecDepth 100000 in
theorem zCd139 : Cond.code zM139.1.1 zM139.1.2.1 zM139.1.2.2.1 zM139.1.2.2.2 ∈ zTB := zcode_mem (q := (7, 122)) rfl rfl
set_option maxRecDepth 100000 in
theorem zCd140 : Cond.code zM140.1.1 zM140.1.2.1 zM140.1.2.2.1 zM140.1.2.2.2 ∈ zTB := zcode_mem (q := (7, 126)) rfl rfl
set_option maxRecDepth 100000 in
theorem zCd141 : Cond.code zM141.1.1 zM141.1.2.1 zM141.1.2.2.1 zM141.1.2.2.2 ∈ zTB := zcode_mem (q := (7, 146)) rfl rfl
set_option maxRecDepth 100000 in
theorem zCd142 : Cond.code zM142.1.1 zM142.1.2.1 zM142.1.2.2.1 zM142.1.2.2.2 ∈ zTB := zcode_mem (q := (7, 150)) rfl rfl
set_option maxRecDepth 100000 in
theorem zCd143 : Cond.code zM143.1.1 zM143.1.2.1 zM143.1.2.2.1 zM143.1.2.2.2 ∈ zTB := zcode_mem (q := (7, 178)) rfl rfl
set_option maxRecDepth 100000 in
theorem zCd144 : Cond.code zM144.1.1 zM144.1.2.1 zM144.1.2.2.1 zM144.1.2.2.2 ∈ zTB := zcode_mem (q := (7, 190)) rfl rfl
set_option maxRecDepth 100000 in
theorem zCd145 : Cond.code zM145.1.1 zM145.1.2.1 zM145.1.2.2.1 zM145.1.2.2.2 ∈ zTB := zcode_mem (q := (7, 202)) rfl rfl
set_option maxRecDepth 100000 in
theorem zCd146 : Cond.code zM146.1.1 zM146.1.2.1 zM146.1.2.2.1 zM146.1.2.2.2 ∈ zTB := zcode_mem (q := (7, 206)) rfl rfl
set_option maxRecDepth 100000 in
theorem zCd147 : Cond.code zM147.1.1 zM147.1.2.1 zM147.1.2.2.1 zM147.1.2.2.2 ∈ zTB := zcode_mem (q := (8, 6)) rfl rfl
set_option maxRecDepth 100000 in
theorem zCd148 : Cond.code zM148.1.1 zM148.1.2.1 zM148.1.2.2.1 zM148.1.2.2.2 ∈ zTB := zcode_mem (q := (8, 10)) rfl rfl
set_option maxRecDepth 100000 in
theorem zCd149 : Cond.code zM149.1.1 zM149.1.2.1 zM149.1.2.2.1 zM149.1.2.2.2 ∈ zTB := zcode_mem (q := (8, 14)) rfl rfl
set_option maxRecDepth 100000 in
theorem zCd150 : Cond.code zM150.1.1 zM150.1.2.1 zM150.1.2.2.1 zM150.1.2.2.2 ∈ zTB := zcode_mem (q := (8, 18)) rfl rfl
set_option maxRecDepth 100000 in
theorem zCd151 : Cond.code zM151.1.1 zM151.1.2.1 zM151.1.2.2.1 zM151.1.2.2.2 ∈ zTB := zcode_mem (q := (8, 22)) rfl rfl
set_option maxRecDepth 100000 in
theorem zCd152 : Cond.code zM152.1.1 zM152.1.2.1 zM152.1.2.2.1 zM152.1.2.2.2 ∈ zTB := zcode_mem (q := (8, 50)) rfl rfl
set_option maxRecDepth 100000 in
theorem zCd153 : Cond.code zM153.1.1 zM153.1.2.1 zM153.1.2.2.1 zM153.1.2.2.2 ∈ zTB := zcode_mem (q := (8, 74)) rfl rfl
set_option maxRecDepth 100000 in
theorem zCd154 : Cond.code zM154.1.1 zM154.1.2.1 zM154.1.2.2.1 zM154.1.2.2.2 ∈ zTB := zcode_mem (q := (8, 90)) rfl rfl
set_option maxRecDepth 100000 in
theorem zCd155 : Cond.code zM155.1.1 zM155.1.2.1 zM155.1.2.2.1 zM155.1.2.2.2 ∈ zTB := zcode_mem (q := (8, 94)) rfl rfl
set_option maxRecDepth 100000 in
theorem zCd156 : Cond.code zM156.1.1 zM156.1.2.1 zM156.1.2.2.1 zM156.1.2.2.2 ∈ zTB := zcode_mem (q := (8, 98)) rfl rfl
set_option maxRecDepth 100000 in
theorem zCd157 : Cond.code zM157.1.1 zM157.1.2.1 zM157.1.2.2.1 zM157.1.2.2.2 ∈ zTB := zcode_mem (q := (8, 106)) rfl rfl
set_option maxRecDepth 100000 in
theorem zCd158 : Cond.code zM158.1.1 zM158.1.2.1 zM158.1.2.2.1 zM158.1.2.2.2 ∈ zTB := zcode_mem (q := (8, 124)) rfl rfl
set_option maxRecDepth 100000 in
theorem zCd159 : Cond.code zM159.1.1 zM159.1.2.1 zM159.1.2.2.1 zM159.1.2.2.2 ∈ zTB := zcode_mem (q := (8, 140)) rfl rfl
set_option maxRecDepth 100000 in
theorem zCd160 : Cond.code zM160.1.1 zM160.1.2.1 zM160.1.2.2.1 zM160.1.2.2.2 ∈ zTB := zcode_mem (q := (8, 144)) rfl rfl
set_option maxRecDepth 100000 in
theorem zCd161 : Cond.code zM161.1.1 zM161.1.2.1 zM161.1.2.2.1 zM161.1.2.2.2 ∈ zTB := zcode_mem (q := (8, 148)) rfl rfl
set_option maxRecDepth 100000 in
theorem zCd162 : Cond.code zM162.1.1 zM162.1.2.1 zM162.1.2.2.1 zM162.1.2.2.2 ∈ zTB := zcode_mem (q := (8, 152)) rfl rfl
set_option maxRecDepth 100000 in
theorem zCd163 : Cond.code zM163.1.1 zM163.1.2.1 zM163.1.2.2.1 zM163.1.2.2.2 ∈ zTB := zcode_mem (q := (8, 156)) rfl rfl
set_option maxRecDepth 100000 in
theorem zCd164 : Cond.code zM164.1.1 zM164.1.2.1 zM164.1.2.2.1 zM164.1.2.2.2 ∈ zTB := zcode_mem (q := (8, 160)) rfl rfl
set_option maxRecDepth 100000 in
theorem zCd165 : Cond.code zM165.1.1 zM165.1.2.1 zM165.1.2.2.1 zM165.1.2.2.2 ∈ zTB := zcode_mem (q := (8, 164)) rfl rfl
set_option maxRecDepth 100000 in
theorem zCd166 : Cond.code zM166.1.1 zM166.1.2.1 zM166.1.2.2.1 zM166.1.2.2.2 ∈ zTB := zcode_mem (q := (8, 168)) rfl rfl
set_option maxRecDepth 100000 in
theorem zCd167 : Cond.code zM167.1.1 zM167.1.2.1 zM167.1.2.2.1 zM167.1.2.2.2 ∈ zTB := zcode_mem (q := (8, 172)) rfl rfl
set_option maxRecDepth 100000 in
theorem zCd168 : Cond.code zM168.1.1 zM168.1.2.1 zM168.1.2.2.1 zM168.1.2.2.2 ∈ zTB := zcode_mem (q := (8, 177)) rfl rfl
set_option maxRecDepth 100000 in
theorem zCd169 : Cond.code zM169.1.1 zM169.1.2.1 zM169.1.2.2.1 zM169.1.2.2.2 ∈ zTB := zcode_mem (q := (8, 181)) rfl rfl
set_option maxRecDepth 100000 in
theorem zCd170 : Cond.code zM170.1.1 zM170.1.2.1 zM170.1.2.2.1 zM170.1.2.2.2 ∈ zTB := zcode_mem (q := (8, 189)) rfl rfl
set_option maxRecDepth 100000 in
theorem zCd171 : Cond.code zM171.1.1 zM171.1.2.1 zM171.1.2.2.1 zM171.1.2.2.2 ∈ zTB := zcode_mem (q := (8, 197)) rfl rfl
set_option maxRecDepth 100000 in
theorem zCd172 : Cond.code zM172.1.1 zM172.1.2.1 zM172.1.2.2.1 zM172.1.2.2.2 ∈ zTB := zcode_mem (q := (8, 201)) rfl rfl
set_option maxRecDepth 100000 in
theorem zCd173 : Cond.code zM173.1.1 zM173.1.2.1 zM173.1.2.2.1 zM173.1.2.2.2 ∈ zTB := zcode_mem (q := (8, 205)) rfl rfl
set_option maxRecDepth 100000 in
theorem zCd174 : Cond.code zM174.1.1 zM174.1.2.1 zM174.1.2.2.1 zM174.1.2.2.2 ∈ zTB := zcode_mem (q := (8, 209)) rfl rfl
set_option maxRecDepth 100000 in
theorem zCd175 : Cond.code zM175.1.1 zM175.1.2.1 zM175.1.2.2.1 zM175.1.2.2.2 ∈ zTB := zcode_mem (q := (8, 213)) rfl rfl
set_option maxRecDepth 100000 in
theorem zCd176 : Cond.code zM176.1.1 zM176.1.2.1 zM176.1.2.2.1 zM176.1.2.2.2 ∈ zTB := zcode_mem (q := (8, 217)) rfl rfl
set_option maxRecDepth 100000 in
theorem zCd177 : Cond.code zM177.1.1 zM177.1.2.1 zM177.1.2.2.1 zM177.1.2.2.2 ∈ zTB := zcode_mem (q := (8, 221)) rfl rfl
set_option maxRecDepth 100000 in
theorem zCd178 : Cond.code zM178.1.1 zM178.1.2.1 zM178.1.2.2.1 zM178.1.2.2.2 ∈ zTB := zcode_mem (q := (8, 225)) rfl rfl
set_option maxRecDepth 100000 in
theorem zCd179 : Cond.code zM179.1.1 zM179.1.2.1 zM179.1.2.2.1 zM179.1.2.2.2 ∈ zTB := zcode_mem (q := (8, 229)) rfl rfl
set_option maxRecDepth 100000 in
theorem zCd180 : Cond.code zM180.1.1 zM180.1.2.1 zM180.1.2.2.1 zM180.1.2.2.2 ∈ zTB := zcode_mem (q := (8, 233)) rfl rfl
set_option maxRecDepth 100000 in
theorem zCd181 : Cond.code zM181.1.1 zM181.1.2.1 zM181.1.2.2.1 zM181.1.2.2.2 ∈ zTB := zcode_mem (q := (8, 237)) rfl rfl
set_option maxRecDepth 100000 in
theorem zCd182 : Cond.code zM182.1.1 zM182.1.2.1 zM182.1.2.2.1 zM182.1.2.2.2 ∈ zTB := zcode_mem (q := (9, 1)) rfl rfl
set_option maxRecDepth 100000 in
theorem zCd183 : Cond.code zM183.1.1 zM183.1.2.1 zM183.1.2.2.1 zM183.1.2.2.2 ∈ zTB := zcode_mem (q := (9, 5)) rfl rfl
set_option maxRecDepth 100000 in
theorem zCd184 : Cond.code zM184.1.1 zM184.1.2.1 zM184.1.2.2.1 zM184.1.2.2.2 ∈ zTB := zcode_mem (q := (9, 9)) rfl rfl
set_option maxRecDepth 100000 in
theorem zCd185 : Cond.code zM185.1.1 zM185.1.2.1 zM185.1.2.2.1 zM185.1.2.2.2 ∈ zTB := zcode_mem (q := (9, 13)) rfl rfl
set_option maxRecDepth 100000 in
theorem zCd186 : Cond.code zM186.1.1 zM186.1.2.1 zM186.1.2.2.1 zM186.1.2.2.2 ∈ zTB := zcode_mem (q := (9, 17)) rfl rfl
set_option maxRecDepth 100000 in
theorem zCd187 : Cond.code zM187.1.1 zM187.1.2.1 zM187.1.2.2.1 zM187.1.2.2.2 ∈ zTB := zcode_mem (q := (9, 21)) rfl rfl
set_option maxRecDepth 100000 in
theorem zCd188 : Cond.code zM188.1.1 zM188.1.2.1 zM188.1.2.2.1 zM188.1.2.2.2 ∈ zTB := zcode_mem (q := (9, 33)) rfl rfl
set_option maxRecDepth 100000 in
theorem zCd189 : Cond.code zM189.1.1 zM189.1.2.1 zM189.1.2.2.1 zM189.1.2.2.2 ∈ zTB := zcode_mem (q := (9, 37)) rfl rfl
set_option maxRecDepth 100000 in
theorem zCd190 : Cond.code zM190.1.1 zM190.1.2.1 zM190.1.2.2.1 zM190.1.2.2.2 ∈ zTB := zcode_mem (q := (9, 42)) rfl rfl
set_option maxRecDepth 100000 in
theorem zCd191 : Cond.code zM191.1.1 zM191.1.2.1 zM191.1.2.2.1 zM191.1.2.2.2 ∈ zTB := zcode_mem (q := (9, 47)) rfl rfl
set_option maxRecDepth 100000 in
theorem zCd192 : Cond.code zM192.1.1 zM192.1.2.1 zM192.1.2.2.1 zM192.1.2.2.2 ∈ zTB := zcode_mem (q := (9, 51)) rfl rfl
set_option maxRecDepth 100000 in
theorem zCd193 : Cond.code zM193.1.1 zM193.1.2.1 zM193.1.2.2.1 zM193.1.2.2.2 ∈ zTB := zcode_mem (q := (9, 67)) rfl rfl
set_option maxRecDepth 100000 in
theorem zCd194 : Cond.code zM194.1.1 zM194.1.2.1 zM194.1.2.2.1 zM194.1.2.2.2 ∈ zTB := zcode_mem (q := (9, 71)) rfl rfl
set_option maxRecDepth 100000 in
theorem zCd195 : Cond.code zM195.1.1 zM195.1.2.1 zM195.1.2.2.1 zM195.1.2.2.2 ∈ zTB := zcode_mem (q := (9, 75)) rfl rfl
set_option maxRecDepth 100000 in
theorem zCd196 : Cond.code zM196.1.1 zM196.1.2.1 zM196.1.2.2.1 zM196.1.2.2.2 ∈ zTB := zcode_mem (q := (9, 79)) rfl rfl
set_option maxRecDepth 100000 in
theorem zCd197 : Cond.code zM197.1.1 zM197.1.2.1 zM197.1.2.2.1 zM197.1.2.2.2 ∈ zTB := zcode_mem (q := (9, 83)) rfl rfl
set_option maxRecDepth 100000 in
theorem zCd198 : Cond.code zM198.1.1 zM198.1.2.1 zM198.1.2.2.1 zM198.1.2.2.2 ∈ zTB := zcode_mem (q := (9, 88)) rfl rfl
set_option maxRecDepth 100000 in
theorem zCd199 : Cond.code zM199.1.1 zM199.1.2.1 zM199.1.2.2.1 zM199.1.2.2.2 ∈ zTB := zcode_mem (q := (9, 92)) rfl rfl
set_option maxRecDepth 100000 in
theorem zCd200 : Cond.code zM200.1.1 zM200.1.2.1 zM200.1.2.2.1 zM200.1.2.2.2 ∈ zTB := zcode_mem (q := (9, 100)) rfl rfl
set_option maxRecDepth 100000 in
theorem zCd201 : Cond.code zM201.1.1 zM201.1.2.1 zM201.1.2.2.1 zM201.1.2.2.2 ∈ zTB := zcode_mem (q := (9, 104)) rfl rfl
set_option maxRecDepth 100000 in
theorem zCd202 : Cond.code zM202.1.1 zM202.1.2.1 zM202.1.2.2.1 zM202.1.2.2.2 ∈ zTB := zcode_mem (q := (9, 112)) rfl rfl
set_option maxRecDepth 100000 in
theorem zCd203 : Cond.code zM203.1.1 zM203.1.2.1 zM203.1.2.2.1 zM203.1.2.2.2 ∈ zTB := zcode_mem (q := (9, 120)) rfl rfl
set_option maxRecDepth 100000 in
theorem zCd204 : Cond.code zM204.1.1 zM204.1.2.1 zM204.1.2.2.1 zM204.1.2.2.2 ∈ zTB := zcode_mem (q := (9, 124)) rfl rfl
set_option maxRecDepth 100000 in
theorem zCd205 : Cond.code zM205.1.1 zM205.1.2.1 zM205.1.2.2.1 zM205.1.2.2.2 ∈ zTB := zcode_mem (q := (9, 128)) rfl rfl
set_option maxRecDepth 100000 in
theorem zCd206 : Cond.code zM206.1.1 zM206.1.2.1 zM206.1.2.2.1 zM206.1.2.2.2 ∈ zTB := zcode_mem (q := (9, 132)) rfl rfl
set_option maxRecDepth 100000 in
theorem zCd207 : Cond.code zM207.1.1 zM207.1.2.1 zM207.1.2.2.1 zM207.1.2.2.2 ∈ zTB := zcode_mem (q := (9, 136)) rfl rfl
set_option maxRecDepth 100000 in
theorem zCd208 : Cond.code zM208.1.1 zM208.1.2.1 zM208.1.2.2.1 zM208.1.2.2.2 ∈ zTB := zcode_mem (q := (9, 140)) rfl rfl
set_option maxRecDepth 100000 in
theorem zCd209 : Cond.code zM209.1.1 zM209.1.2.1 zM209.1.2.2.1 zM209.1.2.2.2 ∈ zTB := zcode_mem (q := (9, 144)) rfl rfl
set_option maxRecDepth 100000 in
theorem zCd210 : Cond.code zM210.1.1 zM210.1.2.1 zM210.1.2.2.1 zM210.1.2.2.2 ∈ zTB := zcode_mem (q := (9, 55)) rfl rfl
set_option maxRecDepth 100000 in
theorem zCd211 : Cond.code zM211.1.1 zM211.1.2.1 zM211.1.2.2.1 zM211.1.2.2.2 ∈ zTB := zcode_mem (q := (9, 59)) rfl rfl
set_option maxRecDepth 100000 in
theorem zCd212 : Cond.code zM212.1.1 zM212.1.2.1 zM212.1.2.2.1 zM212.1.2.2.2 ∈ zTB := zcode_mem (q := (9, 63)) rfl rfl
set_option maxRecDepth 100000 in
theorem zCd213 : Cond.code zM213.1.1 zM213.1.2.1 zM213.1.2.2.1 zM213.1.2.2.2 ∈ zTB := zcode_mem (q := (3, 60)) rfl rfl
set_option maxRecDepth 100000 in
theorem zCd214 : Cond.code zM214.1.1 zM214.1.2.1 zM214.1.2.2.1 zM214.1.2.2.2 ∈ zTB := zcode_mem (q := (3, 66)) rfl rfl
set_option maxRecDepth 100000 in
theorem zCd215 : Cond.code zM215.1.1 zM215.1.2.1 zM215.1.2.2.1 zM215.1.2.2.2 ∈ zTB := zcode_mem (q := (3, 70)) rfl rfl
set_option maxRecDepth 100000 in
theorem zCd216 : Cond.code zM216.1.1 zM216.1.2.1 zM216.1.2.2.1 zM216.1.2.2.2 ∈ zTB := zcode_mem (q := (3, 74)) rfl rfl
set_option maxRecDepth 100000 in
theorem zCd217 : Cond.code zM217.1.1 zM217.1.2.1 zM217.1.2.2.1 zM217.1.2.2.2 ∈ zTB := zcode_mem (q := (3, 77)) rfl rfl
set_option maxRecDepth 100000 in
theorem zCd218 : Cond.code zM218.1.1 zM218.1.2.1 zM218.1.2.2.1 zM218.1.2.2.2 ∈ zTB := zcode_mem (q := (3, 83)) rfl rfl
set_option maxRecDepth 100000 in
theorem zCd219 : Cond.code zM219.1.1 zM219.1.2.1 zM219.1.2.2.1 zM219.1.2.2.2 ∈ zTB := zcode_mem (q := (3, 87)) rfl rfl
set_option maxRecDepth 100000 in
theorem zCd220 : Cond.code zM220.1.1 zM220.1.2.1 zM220.1.2.2.1 zM220.1.2.2.2 ∈ zTB := zcode_mem (q := (3, 92)) rfl rfl
set_option maxRecDepth 100000 in
theorem zCd221 : Cond.code zM221.1.1 zM221.1.2.1 zM221.1.2.2.1 zM221.1.2.2.2 ∈ zTB := zcode_mem (q := (3, 99)) rfl rfl
set_option maxRecDepth 100000 in
theorem zCd222 : Cond.code zM222.1.1 zM222.1.2.1 zM222.1.2.2.1 zM222.1.2.2.2 ∈ zTB := zcode_mem (q := (3, 102)) rfl rfl
set_option maxRecDepth 100000 in
theorem zCd223 : Cond.code zM223.1.1 zM223.1.2.1 zM223.1.2.2.1 zM223.1.2.2.2 ∈ zTB := zcode_mem (q := (3, 105)) rfl rfl
set_option maxRecDepth 100000 in
theorem zCd224 : Cond.code zM224.1.1 zM224.1.2.1 zM224.1.2.2.1 zM224.1.2.2.2 ∈ zTB := zcode_mem (q := (3, 110)) rfl rfl
set_option maxRecDepth 100000 in
theorem zCd225 : Cond.code zM225.1.1 zM225.1.2.1 zM225.1.2.2.1 zM225.1.2.2.2 ∈ zTB := zcode_mem (q := (3, 115)) rfl rfl
set_option maxRecDepth 100000 in
theorem zCd226 : Cond.code zM226.1.1 zM226.1.2.1 zM226.1.2.2.1 zM226.1.2.2.2 ∈ zTB := zcode_mem (q := (3, 119)) rfl rfl
set_option maxRecDepth 100000 in
theorem zCd227 : Cond.code zM227.1.1 zM227.1.2.1 zM227.1.2.2.1 zM227.1.2.2.2 ∈ zTB := zcode_mem (q := (3, 123)) rfl rfl
set_option maxRecDepth 100000 in
theorem zCd228 : Cond.code zM228.1.1 zM228.1.2.1 zM228.1.2.2.1 zM228.1.2.2.2 ∈ zTB := zcode_mem (q := (3, 146)) rfl rfl
set_option maxRecDepth 100000 in
theorem zCd229 : Cond.code zM229.1.1 zM229.1.2.1 zM229.1.2.2.1 zM229.1.2.2.2 ∈ zTB := zcode_mem (q := (3, 151)) rfl rfl
set_option maxRecDepth 100000 in
theorem zCd230 : Cond.code zM230.1.1 zM230.1.2.1 zM230.1.2.2.1 zM230.1.2.2.2 ∈ zTB := zcode_mem (q := (3, 164)) rfl rfl
set_option maxRecDepth 100000 in
theorem zCd231 : Cond.code zM231.1.1 zM231.1.2.1 zM231.1.2.2.1 zM231.1.2.2.2 ∈ zTB := zcode_mem (q := (3, 168)) rfl rfl
set_option maxRecDepth 100000 in
theorem zCd232 : Cond.code zM232.1.1 zM232.1.2.1 zM232.1.2.2.1 zM232.1.2.2.2 ∈ zTB := zcode_mem (q := (3, 179)) rfl rfl
set_option maxRecDepth 100000 in
theorem zCd233 : Cond.code zM233.1.1 zM233.1.2.1 zM233.1.2.2.1 zM233.1.2.2.2 ∈ zTB := zcode_mem (q := (3, 224)) rfl rfl
set_option maxRecDepth 100000 in
theorem zCd234 : Cond.code zM234.1.1 zM234.1.2.1 zM234.1.2.2.1 zM234.1.2.2.2 ∈ zTB := zcode_mem (q := (3, 227)) rfl rfl
set_option maxRecDepth 100000 in
theorem zCd235 : Cond.code zM235.1.1 zM235.1.2.1 zM235.1.2.2.1 zM235.1.2.2.2 ∈ zTB := zcode_mem (q := (3, 230)) rfl rfl
set_option maxRecDepth 100000 in
theorem zCd236 : Cond.code zM236.1.1 zM236.1.2.1 zM236.1.2.2.1 zM236.1.2.2.2 ∈ zTB := zcode_mem (q := (3, 234)) rfl rfl
set_option maxRecDepth 100000 in
theorem zCd237 : Cond.code zM237.1.1 zM237.1.2.1 zM237.1.2.2.1 zM237.1.2.2.2 ∈ zTB := zcode_mem (q := (3, 238)) rfl rfl
set_option maxRecDepth 100000 in
theorem zCd238 : Cond.code zM238.1.1 zM238.1.2.1 zM238.1.2.2.1 zM238.1.2.2.2 ∈ zTB := zcode_mem (q := (4, 2)) rfl rfl
set_option maxRecDepth 100000 in
theorem zCd239 : Cond.code zM239.1.1 zM239.1.2.1 zM239.1.2.2.1 zM239.1.2.2.2 ∈ zTB := zcode_mem (q := (4, 55)) rfl rfl
set_option maxRecDepth 100000 in
theorem zCd240 : Cond.code zM240.1.1 zM240.1.2.1 zM240.1.2.2.1 zM240.1.2.2.2 ∈ zTB := zcode_mem (q := (4, 63)) rfl rfl
set_option maxRecDepth 100000 in
theorem zCd241 : Cond.code zM241.1.1 zM241.1.2.1 zM241.1.2.2.1 zM241.1.2.2.2 ∈ zTB := zcode_mem (q := (4, 128)) rfl rfl
set_option maxRecDepth 100000 in
theorem zCd242 : Cond.code zM242.1.1 zM242.1.2.1 zM242.1.2.2.1 zM242.1.2.2.2 ∈ zTB := zcode_mem (q := (4, 132)) rfl rfl
set_option maxRecDepth 100000 in
theorem zCd243 : Cond.code zM243.1.1 zM243.1.2.1 zM243.1.2.2.1 zM243.1.2.2.2 ∈ zTB := zcode_mem (q := (4, 136)) rfl rfl
set_option maxRecDepth 100000 in
theorem zCd244 : Cond.code zM244.1.1 zM244.1.2.1 zM244.1.2.2.1 zM244.1.2.2.2 ∈ zTB := zcode_mem (q := (4, 140)) rfl rfl
set_option maxRecDepth 100000 in
theorem zCd245 : Cond.code zM245.1.1 zM245.1.2.1 zM245.1.2.2.1 zM245.1.2.2.2 ∈ zTB := zcode_mem (q := (4, 144)) rfl rfl
set_option maxRecDepth 100000 in
theorem zCd246 : Cond.code zM246.1.1 zM246.1.2.1 zM246.1.2.2.1 zM246.1.2.2.2 ∈ zTB := zcode_mem (q := (4, 148)) rfl rfl
set_option maxRecDepth 100000 in
theorem zCd247 : Cond.code zM247.1.1 zM247.1.2.1 zM247.1.2.2.1 zM247.1.2.2.2 ∈ zTB := zcode_mem (q := (4, 152)) rfl rfl
set_option maxRecDepth 100000 in
theorem zCd248 : Cond.code zM248.1.1 zM248.1.2.1 zM248.1.2.2.1 zM248.1.2.2.2 ∈ zTB := zcode_mem (q := (4, 156)) rfl rfl
set_option maxRecDepth 100000 in
theorem zCd249 : Cond.code zM249.1.1 zM249.1.2.1 zM249.1.2.2.1 zM249.1.2.2.2 ∈ zTB := zcode_mem (q := (4, 160)) rfl rfl
set_option maxRecDepth 100000 in
theorem zCd250 : Cond.code zM250.1.1 zM250.1.2.1 zM250.1.2.2.1 zM250.1.2.2.2 ∈ zTB := zcode_mem (q := (4, 164)) rfl rfl
set_option maxRecDepth 100000 in
theorem zCd251 : Cond.code zM251.1.1 zM251.1.2.1 zM251.1.2.2.1 zM251.1.2.2.2 ∈ zTB := zcode_mem (q := (4, 168)) rfl rfl
set_option maxRecDepth 100000 in
theorem zCd252 : Cond.code zM252.1.1 zM252.1.2.1 zM252.1.2.2.1 zM252.1.2.2.2 ∈ zTB := zcode_mem (q := (4, 172)) rfl rfl
set_option maxRecDepth 100000 in
theorem zCd253 : Cond.code zM253.1.1 zM253.1.2.1 zM253.1.2.2.1 zM253.1.2.2.2 ∈ zTB := zcode_mem (q := (4, 176)) rfl rfl
set_option maxRecDepth 100000 in
theorem zCd254 : Cond.code zM254.1.1 zM254.1.2.1 zM254.1.2.2.1 zM254.1.2.2.2 ∈ zTB := zcode_mem (q := (4, 180)) rfl rfl
set_option maxRecDepth 100000 in
theorem zCd255 : Cond.code zM255.1.1 zM255.1.2.1 zM255.1.2.2.1 zM255.1.2.2.2 ∈ zTB := zcode_mem (q := (4, 184)) rfl rfl
set_option maxRecDepth 100000 in
theorem zCd256 : Cond.code zM256.1.1 zM256.1.2.1 zM256.1.2.2.1 zM256.1.2.2.2 ∈ zTB := zcode_mem (q := (4, 188)) rfl rfl
set_option maxRecDepth 100000 in
theorem zCd257 : Cond.code zM257.1.1 zM257.1.2.1 zM257.1.2.2.1 zM257.1.2.2.2 ∈ zTB := zcode_mem (q := (4, 192)) rfl rfl
set_option maxRecDepth 100000 in
theorem zCd258 : Cond.code zM258.1.1 zM258.1.2.1 zM258.1.2.2.1 zM258.1.2.2.2 ∈ zTB := zcode_mem (q := (4, 196)) rfl rfl
set_option maxRecDepth 100000 in
theorem zCd259 : Cond.code zM259.1.1 zM259.1.2.1 zM259.1.2.2.1 zM259.1.2.2.2 ∈ zTB := zcode_mem (q := (4, 200)) rfl rfl
set_option maxRecDepth 100000 in
theorem zCd260 : Cond.code zM260.1.1 zM260.1.2.1 zM260.1.2.2.1 zM260.1.2.2.2 ∈ zTB := zcode_mem (q := (4, 218)) rfl rfl
set_option maxRecDepth 100000 in
theorem zCd261 : Cond.code zM261.1.1 zM261.1.2.1 zM261.1.2.2.1 zM261.1.2.2.2 ∈ zTB := zcode_mem (q := (5, 25)) rfl rfl
set_option maxRecDepth 100000 in
theorem zCd262 : Cond.code zM262.1.1 zM262.1.2.1 zM262.1.2.2.1 zM262.1.2.2.2 ∈ zTB := zcode_mem (q := (5, 28)) rfl rfl
set_option maxRecDepth 100000 in
theorem zCd263 : Cond.code zM263.1.1 zM263.1.2.1 zM263.1.2.2.1 zM263.1.2.2.2 ∈ zTB := zcode_mem (q := (5, 46)) rfl rfl
set_option maxRecDepth 100000 in
theorem zCd264 : Cond.code zM264.1.1 zM264.1.2.1 zM264.1.2.2.1 zM264.1.2.2.2 ∈ zTB := zcode_mem (q := (5, 56)) rfl rfl
set_option maxRecDepth 100000 in
theorem zCd265 : Cond.code zM265.1.1 zM265.1.2.1 zM265.1.2.2.1 zM265.1.2.2.2 ∈ zTB := zcode_mem (q := (5, 62)) rfl rfl
set_option maxRecDepth 100000 in
theorem zCd266 : Cond.code zM266.1.1 zM266.1.2.1 zM266.1.2.2.1 zM266.1.2.2.2 ∈ zTB := zcode_mem (q := (5, 66)) rfl rfl
set_option maxRecDepth 100000 in
theorem zCd267 : Cond.code zM267.1.1 zM267.1.2.1 zM267.1.2.2.1 zM267.1.2.2.2 ∈ zTB := zcode_mem (q := (5, 118)) rfl rfl
set_option maxRecDepth 100000 in
theorem zCd268 : Cond.code zM268.1.1 zM268.1.2.1 zM268.1.2.2.1 zM268.1.2.2.2 ∈ zTB := zcode_mem (q := (5, 121)) rfl rfl
set_option maxRecDepth 100000 in
theorem zCd269 : Cond.code zM269.1.1 zM269.1.2.1 zM269.1.2.2.1 zM269.1.2.2.2 ∈ zTB := zcode_mem (q := (5, 124)) rfl rfl
set_option maxRecDepth 100000 in
theorem zCd270 : Cond.code zM270.1.1 zM270.1.2.1 zM270.1.2.2.1 zM270.1.2.2.2 ∈ zTB := zcode_mem (q := (5, 176)) rfl rfl
set_option maxRecDepth 100000 in
theorem zCd271 : Cond.code zM271.1.1 zM271.1.2.1 zM271.1.2.2.1 zM271.1.2.2.2 ∈ zTB := zcode_mem (q := (5, 192)) rfl rfl
set_option maxRecDepth 100000 in
theorem zCd272 : Cond.code zM272.1.1 zM272.1.2.1 zM272.1.2.2.1 zM272.1.2.2.2 ∈ zTB := zcode_mem (q := (6, 21)) rfl rfl
set_option maxRecDepth 100000 in
theorem zCd273 : Cond.code zM273.1.1 zM273.1.2.1 zM273.1.2.2.1 zM273.1.2.2.2 ∈ zTB := zcode_mem (q := (6, 42)) rfl rfl
set_option maxRecDepth 100000 in
theorem zCd274 : Cond.code zM274.1.1 zM274.1.2.1 zM274.1.2.2.1 zM274.1.2.2.2 ∈ zTB := zcode_mem (q := (7, 130)) rfl rfl
set_option maxRecDepth 100000 in
theorem zCd275 : Cond.code zM275.1.1 zM275.1.2.1 zM275.1.2.2.1 zM275.1.2.2.2 ∈ zTB := zcode_mem (q := (7, 134)) rfl rfl
set_option maxRecDepth 100000 in
theorem zCd276 : Cond.code zM276.1.1 zM276.1.2.1 zM276.1.2.2.1 zM276.1.2.2.2 ∈ zTB := zcode_mem (q := (7, 138)) rfl rfl
set_option maxRecDepth 100000 in
theorem zCd277 : Cond.code zM277.1.1 zM277.1.2.1 zM277.1.2.2.1 zM277.1.2.2.2 ∈ zTB := zcode_mem (q := (7, 142)) rfl rfl
set_option maxRecDepth 100000 in
theorem zCd278 : Cond.code zM278.1.1 zM278.1.2.1 zM278.1.2.2.1 zM278.1.2.2.2 ∈ zTB := zcode_mem (q := (7, 154)) rfl rfl
set_option maxRecDepth 100000 in
theorem zCd279 : Cond.code zM279.1.1 zM279.1.2.1 zM279.1.2.2.1 zM279.1.2.2.2 ∈ zTB := zcode_mem (q := (7, 158)) rfl rfl
set_option maxRecDepth 100000 in
theorem zCd280 : Cond.code zM280.1.1 zM280.1.2.1 zM280.1.2.2.1 zM280.1.2.2.2 ∈ zTB := zcode_mem (q := (7, 162)) rfl rfl
set_option maxRecDepth 100000 in
theorem zCd281 : Cond.code zM281.1.1 zM281.1.2.1 zM281.1.2.2.1 zM281.1.2.2.2 ∈ zTB := zcode_mem (q := (7, 166)) rfl rfl
set_option maxRecDepth 100000 in
theorem zCd282 : Cond.code zM282.1.1 zM282.1.2.1 zM282.1.2.2.1 zM282.1.2.2.2 ∈ zTB := zcode_mem (q := (7, 170)) rfl rfl
set_option maxRecDepth 100000 in
theorem zCd283 : Cond.code zM283.1.1 zM283.1.2.1 zM283.1.2.2.1 zM283.1.2.2.2 ∈ zTB := zcode_mem (q := (7, 174)) rfl rfl
set_option maxRecDepth 100000 in
theorem zCd284 : Cond.code zM284.1.1 zM284.1.2.1 zM284.1.2.2.1 zM284.1.2.2.2 ∈ zTB := zcode_mem (q := (7, 182)) rfl rfl
set_option maxRecDepth 100000 in
theorem zCd285 : Cond.code zM285.1.1 zM285.1.2.1 zM285.1.2.2.1 zM285.1.2.2.2 ∈ zTB := zcode_mem (q := (7, 186)) rfl rfl
set_option maxRecDepth 100000 in
theorem zCd286 : Cond.code zM286.1.1 zM286.1.2.1 zM286.1.2.2.1 zM286.1.2.2.2 ∈ zTB := zcode_mem (q := (7, 194)) rfl rfl
set_option maxRecDepth 100000 in
theorem zCd287 : Cond.code zM287.1.1 zM287.1.2.1 zM287.1.2.2.1 zM287.1.2.2.2 ∈ zTB := zcode_mem (q := (7, 198)) rfl rfl
set_option maxRecDepth 100000 in
theorem zCd288 : Cond.code zM288.1.1 zM288.1.2.1 zM288.1.2.2.1 zM288.1.2.2.2 ∈ zTB := zcode_mem (q := (7, 210)) rfl rfl
set_option maxRecDepth 100000 in
theorem zCd289 : Cond.code zM289.1.1 zM289.1.2.1 zM289.1.2.2.1 zM289.1.2.2.2 ∈ zTB := zcode_mem (q := (7, 214)) rfl rfl
set_option maxRecDepth 100000 in
theorem zCd290 : Cond.code zM290.1.1 zM290.1.2.1 zM290.1.2.2.1 zM290.1.2.2.2 ∈ zTB := zcode_mem (q := (7, 218)) rfl rfl
set_option maxRecDepth 100000 in
theorem zCd291 : Cond.code zM291.1.1 zM291.1.2.1 zM291.1.2.2.1 zM291.1.2.2.2 ∈ zTB := zcode_mem (q := (7, 222)) rfl rfl
set_option maxRecDepth 100000 in
theorem zCd292 : Cond.code zM292.1.1 zM292.1.2.1 zM292.1.2.2.1 zM292.1.2.2.2 ∈ zTB := zcode_mem (q := (7, 226)) rfl rfl
set_option maxRecDepth 100000 in
theorem zCd293 : Cond.code zM293.1.1 zM293.1.2.1 zM293.1.2.2.1 zM293.1.2.2.2 ∈ zTB := zcode_mem (q := (7, 230)) rfl rfl
set_option maxRecDepth 100000 in
theorem zCd294 : Cond.code zM294.1.1 zM294.1.2.1 zM294.1.2.2.1 zM294.1.2.2.2 ∈ zTB := zcode_mem (q := (7, 234)) rfl rfl
set_option maxRecDepth 100000 in
theorem zCd295 : Cond.code zM295.1.1 zM295.1.2.1 zM295.1.2.2.1 zM295.1.2.2.2 ∈ zTB := zcode_mem (q := (7, 238)) rfl rfl
set_option maxRecDepth 100000 in
theorem zCd296 : Cond.code zM296.1.1 zM296.1.2.1 zM296.1.2.2.1 zM296.1.2.2.2 ∈ zTB := zcode_mem (q := (8, 2)) rfl rfl
set_option maxRecDepth 100000 in
theorem zCd297 : Cond.code zM297.1.1 zM297.1.2.1 zM297.1.2.2.1 zM297.1.2.2.2 ∈ zTB := zcode_mem (q := (8, 26)) rfl rfl
set_option maxRecDepth 100000 in
theorem zCd298 : Cond.code zM298.1.1 zM298.1.2.1 zM298.1.2.2.1 zM298.1.2.2.2 ∈ zTB := zcode_mem (q := (8, 30)) rfl rfl
set_option maxRecDepth 100000 in
theorem zCd299 : Cond.code zM299.1.1 zM299.1.2.1 zM299.1.2.2.1 zM299.1.2.2.2 ∈ zTB := zcode_mem (q := (8, 34)) rfl rfl
set_option maxRecDepth 100000 in
theorem zCd300 : Cond.code zM300.1.1 zM300.1.2.1 zM300.1.2.2.1 zM300.1.2.2.2 ∈ zTB := zcode_mem (q := (8, 38)) rfl rfl
set_option maxRecDepth 100000 in
theorem zCd301 : Cond.code zM301.1.1 zM301.1.2.1 zM301.1.2.2.1 zM301.1.2.2.2 ∈ zTB := zcode_mem (q := (8, 42)) rfl rfl
set_option maxRecDepth 100000 in
theorem zCd302 : Cond.code zM302.1.1 zM302.1.2.1 zM302.1.2.2.1 zM302.1.2.2.2 ∈ zTB := zcode_mem (q := (8, 46)) rfl rfl
set_option maxRecDepth 100000 in
theorem zCd303 : Cond.code zM303.1.1 zM303.1.2.1 zM303.1.2.2.1 zM303.1.2.2.2 ∈ zTB := zcode_mem (q := (8, 54)) rfl rfl
set_option maxRecDepth 100000 in
theorem zCd304 : Cond.code zM304.1.1 zM304.1.2.1 zM304.1.2.2.1 zM304.1.2.2.2 ∈ zTB := zcode_mem (q := (8, 58)) rfl rfl
set_option maxRecDepth 100000 in
theorem zCd305 : Cond.code zM305.1.1 zM305.1.2.1 zM305.1.2.2.1 zM305.1.2.2.2 ∈ zTB := zcode_mem (q := (8, 62)) rfl rfl
set_option maxRecDepth 100000 in
theorem zCd306 : Cond.code zM306.1.1 zM306.1.2.1 zM306.1.2.2.1 zM306.1.2.2.2 ∈ zTB := zcode_mem (q := (8, 66)) rfl rfl
set_option maxRecDepth 100000 in
theorem zCd307 : Cond.code zM307.1.1 zM307.1.2.1 zM307.1.2.2.1 zM307.1.2.2.2 ∈ zTB := zcode_mem (q := (8, 70)) rfl rfl
set_option maxRecDepth 100000 in
theorem zCd308 : Cond.code zM308.1.1 zM308.1.2.1 zM308.1.2.2.1 zM308.1.2.2.2 ∈ zTB := zcode_mem (q := (8, 78)) rfl rfl
set_option maxRecDepth 100000 in
theorem zCd309 : Cond.code zM309.1.1 zM309.1.2.1 zM309.1.2.2.1 zM309.1.2.2.2 ∈ zTB := zcode_mem (q := (8, 82)) rfl rfl
set_option maxRecDepth 100000 in
theorem zCd310 : Cond.code zM310.1.1 zM310.1.2.1 zM310.1.2.2.1 zM310.1.2.2.2 ∈ zTB := zcode_mem (q := (8, 86)) rfl rfl
set_option maxRecDepth 100000 in
theorem zCd311 : Cond.code zM311.1.1 zM311.1.2.1 zM311.1.2.2.1 zM311.1.2.2.2 ∈ zTB := zcode_mem (q := (8, 102)) rfl rfl
set_option maxRecDepth 100000 in
theorem zCd312 : Cond.code zM312.1.1 zM312.1.2.1 zM312.1.2.2.1 zM312.1.2.2.2 ∈ zTB := zcode_mem (q := (8, 110)) rfl rfl
set_option maxRecDepth 100000 in
theorem zCd313 : Cond.code zM313.1.1 zM313.1.2.1 zM313.1.2.2.1 zM313.1.2.2.2 ∈ zTB := zcode_mem (q := (8, 114)) rfl rfl
set_option maxRecDepth 100000 in
theorem zCd314 : Cond.code zM314.1.1 zM314.1.2.1 zM314.1.2.2.1 zM314.1.2.2.2 ∈ zTB := zcode_mem (q := (8, 118)) rfl rfl
set_option maxRecDepth 100000 in
theorem zCd315 : Cond.code zM315.1.1 zM315.1.2.1 zM315.1.2.2.1 zM315.1.2.2.2 ∈ zTB := zcode_mem (q := (8, 128)) rfl rfl
set_option maxRecDepth 100000 in
theorem zCd316 : Cond.code zM316.1.1 zM316.1.2.1 zM316.1.2.2.1 zM316.1.2.2.2 ∈ zTB := zcode_mem (q := (8, 132)) rfl rfl
set_option maxRecDepth 100000 in
theorem zCd317 : Cond.code zM317.1.1 zM317.1.2.1 zM317.1.2.2.1 zM317.1.2.2.2 ∈ zTB := zcode_mem (q := (8, 136)) rfl rfl
set_option maxRecDepth 100000 in
theorem zCd318 : Cond.code zM318.1.1 zM318.1.2.1 zM318.1.2.2.1 zM318.1.2.2.2 ∈ zTB := zcode_mem (q := (8, 185)) rfl rfl
set_option maxRecDepth 100000 in
theorem zCd319 : Cond.code zM319.1.1 zM319.1.2.1 zM319.1.2.2.1 zM319.1.2.2.2 ∈ zTB := zcode_mem (q := (8, 193)) rfl rfl
set_option maxRecDepth 100000 in
theorem zCd320 : Cond.code zM320.1.1 zM320.1.2.1 zM320.1.2.2.1 zM320.1.2.2.2 ∈ zTB := zcode_mem (q := (9, 25)) rfl rfl
set_option maxRecDepth 100000 in
theorem zCd321 : Cond.code zM321.1.1 zM321.1.2.1 zM321.1.2.2.1 zM321.1.2.2.2 ∈ zTB := zcode_mem (q := (9, 29)) rfl rfl
set_option maxRecDepth 100000 in
theorem zCd322 : Cond.code zM322.1.1 zM322.1.2.1 zM322.1.2.2.1 zM322.1.2.2.2 ∈ zTB := zcode_mem (q := (9, 96)) rfl rfl
set_option maxRecDepth 100000 in
theorem zCd323 : Cond.code zM323.1.1 zM323.1.2.1 zM323.1.2.2.1 zM323.1.2.2.2 ∈ zTB := zcode_mem (q := (9, 108)) rfl rfl
set_option maxRecDepth 100000 in
theorem zCd324 : Cond.code zM324.1.1 zM324.1.2.1 zM324.1.2.2.1 zM324.1.2.2.2 ∈ zTB := zcode_mem (q := (9, 116)) rfl rfl
