/-! the methods' rows are right -/
set_option maxRecDepth 100000 in
theorem zMk0 : sx_meok zCl zCDs zM0 := zkMe_ok zDe0 (by decide +kernel)
set_option maxRecDepth 100000 in
theorem zMk1 : sx_meok zCl zCDs zM1 := zkMe_ok zDe1 (by decide +kernel)
set_option maxRecDepth 100000 in
theorem zMk2 : sx_meok zCl zCDs zM2 := zkMe_ok zDe2 (by decide +kernel)
set_option maxRecDepth 100000 in
theorem zMk3 : sx_meok zCl zCDs zM3 := zkMe_ok zDe3 (by decide +kernel)
set_option maxRecDepth 100000 in
theorem zMk4 : sx_meok zCl zCDs zM4 := zkMe_ok zDe4 (by decide +kernel)
set_option maxRecDepth 100000 in
theorem zMk5 : sx_meok zCl zCDs zM5 := zkMe_ok zDe5 (by decide +kernel)
set_option maxRecDepth 100000 in
theorem zMk6 : sx_meok zCl zCDs zM6 := zkMe_ok zDe6 (by decide +kernel)
set_option maxRecDepth 100000 in
theorem zMk7 : sx_meok zCl zCDs zM7 := zkMe_ok zDe7 (by decide +kernel)
set_option maxRecDepth 100000 in
theorem zMk8 : sx_meok zCl zCDs zM8 := zkMe_ok zDe8 (by decide +kernel)
set_option maxRecDepth 100000 in
theorem zMk9 : sx_meok zCl zCDs zM9 := zkMe_ok zDe9 (by decide +kernel)
set_option maxRecDepth 100000 in
theorem zMk10 : sx_meok zCl zCDs zM10 := zkMe_ok zDe10 (by decide +kernel)
set_option maxRecDepth 100000 in
theorem zMk11 : sx_meok zCl zCDs zM11 := zkMe_ok zDe11 (by decide +kernel)
set_option maxRecDepth 100000 in
theorem zMk12 : sx_meok zCl zCDs zM12 := zkMe_ok zDe12 (by decide +kernel)
set_option maxRecDepth 100000 in
theorem zMk13 : sx_meok zCl zCDs zM13 := zkMe_ok zDe13 (by decide +kernel)
set_option maxRecDepth 100000 in
theorem zMk14 : sx_meok zCl zCDs zM14 := zkMe_ok zDe14 (by decide +kernel)
set_option maxRecDepth 100000 in
theorem zMk15 : sx_meok zCl zCDs zM15 := zkMe_ok zDe15 (by decide +kernel)
set_option maxRecDepth 100000 in
theorem zMk16 : sx_meok zCl zCDs zM16 := zkMe_ok zDe16 (by decide +kernel)
set_option maxRecDepth 100000 in
theorem zMk17 : sx_meok zCl zCDs zM17 := zkMe_ok zDe17 (by decide +kernel)
set_option maxRecDepth 100000 in
theorem zMk18 : sx_meok zCl zCDs zM18 := zkMe_ok zDe18 (by decide +kernel)
set_option maxRecDepth 100000 in
theorem zMk19 : sx_meok zCl zCDs zM19 := zkMe_ok zDe19 (by decide +kernel)
set_option maxRecDepth 100000 in
theorem zMk20 : sx_meok zCl zCDs zM20 := zkMe_ok zDe20 (by decide +kernel)
set_option maxRecDepth 100000 in
theorem zMk21 : sx_meok zCl zCDs zM21 := zkMe_ok zDe21 (by decide +kernel)
set_option maxRecDepth 100000 in
theorem zMk22 : sx_meok zCl zCDs zM22 := zkMe_ok zDe22 (by decide +kernel)
set_option maxRecDepth 100000 in
theorem zMk23 : sx_meok zCl zCDs zM23 := zkMe_ok zDe23 (by decide +kernel)
set_option maxRecDepth 100000 in
theorem zMk24 : sx_meok zCl zCDs zM24 := zkMe_ok zDe24 (by decide +kernel)
set_option maxRecDepth 100000 in
theorem zMk25 : sx_meok zCl zCDs zM25 := zkMe_ok zDe25 (by decide +kernel)
set_option maxRecDepth 100000 in
theorem zMk26 : sx_meok zCl zCDs zM26 := zkMe_ok zDe26 (by decide +kernel)
set_option maxRecDepth 100000 in
theorem zMk27 : sx_meok zCl zCDs zM27 := zkMe_ok zDe27 (by decide +kernel)
set_option maxRecDepth 100000 in
theorem zMk28 : sx_meok zCl zCDs zM28 := zkMe_ok zDe28 (by decide +kernel)
set_option maxRecDepth 100000 in
theorem zMk29 : sx_meok zCl zCDs zM29 := zkMe_ok zDe29 (by decide +kernel)
set_option maxRecDepth 100000 in
theorem zMk30 : sx_meok zCl zCDs zM30 := zkMe_ok zDe30 (by decide +kernel)
set_option maxRecDepth 100000 in
theorem zMk31 : sx_meok zCl zCDs zM31 := zkMe_ok zDe31 (by decide +kernel)
set_option maxRecDepth 100000 in
theorem zMk32 : sx_meok zCl zCDs zM32 := zkMe_ok zDe32 (by decide +kernel)
set_option maxRecDepth 100000 in
theorem zMk33 : sx_meok zCl zCDs zM33 := zkMe_ok zDe33 (by decide +kernel)
set_option maxRecDepth 100000 in
theorem zMk34 : sx_meok zCl zCDs zM34 := zkMe_ok zDe34 (by decide +kernel)
set_option maxRecDepth 100000 in
theorem zMk35 : sx_meok zCl zCDs zM35 := zkMe_ok zDe35 (by decide +kernel)
set_option maxRecDepth 100000 in
theorem zMk36 : sx_meok zCl zCDs zM36 := zkMe_ok zDe36 (by decide +kernel)
set_option maxRecDepth 100000 in
theorem zMk37 : sx_meok zCl zCDs zM37 := zkMe_ok zDe37 (by decide +kernel)
set_option maxRecDepth 100000 in
theorem zMk38 : sx_meok zCl zCDs zM38 := zkMe_ok zDe38 (by decide +kernel)
set_option maxRecDepth 100000 in
theorem zMk39 : sx_meok zCl zCDs zM39 := zkMe_ok zDe39 (by decide +kernel)
set_option maxRecDepth 100000 in
theorem zMk40 : sx_meok zCl zCDs zM40 := zkMe_ok zDe40 (by decide +kernel)
set_option maxRecDepth 100000 in
theorem zMk41 : sx_meok zCl zCDs zM41 := zkMe_ok zDe41 (by decide +kernel)
set_option maxRecDepth 100000 in
theorem zMk42 : sx_meok zCl zCDs zM42 := zkMe_ok zDe42 (by decide +kernel)
set_option maxRecDepth 100000 in
theorem zMk43 : sx_meok zCl zCDs zM43 := zkMe_ok zDe43 (by decide +kernel)
set_option maxRecDepth 100000 in
theorem zMk44 : sx_meok zCl zCDs zM44 := zkMe_ok zDe44 (by decide +kernel)
set_option maxRecDepth 100000 in
theorem zMk45 : sx_meok zCl zCDs zM45 := zkMe_ok zDe45 (by decide +kernel)
set_option maxRecDepth 100000 in
theorem zMk46 : sx_meok zCl zCDs zM46 := zkMe_ok zDe46 (by decide +kernel)
set_option maxRecDepth 100000 in
theorem zMk47 : sx_meok zCl zCDs zM47 := zkMe_ok zDe47 (by decide +kernel)
set_option maxRecDepth 100000 in
theorem zMk48 : sx_meok zCl zCDs zM48 := zkMe_ok zDe48 (by decide +kernel)
set_option maxRecDepth 100000 in
theorem zMk49 : sx_meok zCl zCDs zM49 := zkMe_ok zDe49 (by decide +kernel)
set_option maxRecDepth 100000 in
theorem zMk50 : sx_meok zCl zCDs zM50 := zkMe_ok zDe50 (by decide +kernel)
set_option maxRecDepth 100000 in
theorem zMk51 : sx_meok zCl zCDs zM51 := zkMe_ok zDe51 (by decide +kernel)
set_option maxRecDepth 100000 in
theorem zMk52 : sx_meok zCl zCDs zM52 := zkMe_ok zDe52 (by decide +kernel)
set_option maxRecDepth 100000 in
theorem zMk53 : sx_meok zCl zCDs zM53 := zkMe_ok zDe53 (by decide +kernel)
set_option maxRecDepth 100000 in
theorem zMk54 : sx_meok zCl zCDs zM54 := zkMe_ok zDe54 (by decide +kernel)
set_option maxRecDepth 100000 in
theorem zMk55 : sx_meok zCl zCDs zM55 := zkMe_ok zDe55 (by decide +kernel)
set_option maxRecDepth 100000 in
theorem zMk56 : sx_meok zCl zCDs zM56 := zkMe_ok zDe56 (by decide +kernel)
set_option maxRecDepth 100000 in
theorem zMk57 : sx_meok zCl zCDs zM57 := zkMe_ok zDe57 (by decide +kernel)
set_option maxRecDepth 100000 in
theorem zMk58 : sx_meok zCl zCDs zM58 := zkMe_ok zDe58 (by decide +kernel)
set_option maxRecDepth 100000 in
theorem zMk59 : sx_meok zCl zCDs zM59 := zkMe_ok zDe59 (by decide +kernel)
set_option maxRecDepth 100000 in
theorem zMk60 : sx_meok zCl zCDs zM60 := zkMe_ok zDe60 (by decide +kernel)
set_option maxRecDepth 100000 in
theorem zMk61 : sx_meok zCl zCDs zM61 := zkMe_ok zDe61 (by decide +kernel)
set_option maxRecDepth 100000 in
theorem zMk62 : sx_meok zCl zCDs zM62 := zkMe_ok zDe62 (by decide +kernel)
set_option maxRecDepth 100000 in
theorem zMk63 : sx_meok zCl zCDs zM63 := zkMe_ok zDe63 (by decide +kernel)
set_option maxRecDepth 100000 in
theorem zMk64 : sx_meok zCl zCDs zM64 := zkMe_ok zDe64 (by decide +kernel)
set_option maxRecDepth 100000 in
theorem zMk65 : sx_meok zCl zCDs zM65 := zkMe_ok zDe65 (by decide +kernel)
set_option maxRecDepth 100000 in
theorem zMk66 : sx_meok zCl zCDs zM66 := zkMe_ok zDe66 (by decide +kernel)
set_option maxRecDepth 100000 in
theorem zMk67 : sx_meok zCl zCDs zM67 := zkMe_ok zDe67 (by decide +kernel)
set_option maxRecDepth 100000 in
theorem zMk68 : sx_meok zCl zCDs zM68 := zkMe_ok zDe68 (by decide +kernel)
set_option maxRecDepth 100000 in
theorem zMk69 : sx_meok zCl zCDs zM69 := zkMe_ok zDe69 (by decide +kernel)
set_option maxRecDepth 100000 in
theorem zMk70 : sx_meok zCl zCDs zM70 := zkMe_ok zDe70 (by decide +kernel)
set_option maxRecDepth 100000 in
theorem zMk71 : sx_meok zCl zCDs zM71 := zkMe_ok zDe71 (by decide +kernel)
set_option maxRecDepth 100000 in
theorem zMk72 : sx_meok zCl zCDs zM72 := zkMe_ok zDe72 (by decide +kernel)
set_option maxRecDepth 100000 in
theorem zMk73 : sx_meok zCl zCDs zM73 := zkMe_ok zDe73 (by decide +kernel)
set_option maxRecDepth 100000 in
theorem zMk74 : sx_meok zCl zCDs zM74 := zkMe_ok zDe74 (by decide +kernel)
set_option maxRecDepth 100000 in
theorem zMk75 : sx_meok zCl zCDs zM75 := zkMe_ok zDe75 (by decide +kernel)
set_option maxRecDepth 100000 in
theorem zMk76 : sx_meok zCl zCDs zM76 := zkMe_ok zDe76 (by decide +kernel)
set_option maxRecDepth 100000 in
theorem zMk77 : sx_meok zCl zCDs zM77 := zkMe_ok zDe77 (by decide +kernel)
set_option maxRecDepth 100000 in
theorem zMk78 : sx_meok zCl zCDs zM78 := zkMe_ok zDe78 (by decide +kernel)
set_option maxRecDepth 100000 in
theorem zMk79 : sx_meok zCl zCDs zM79 := zkMe_ok zDe79 (by decide +kernel)
set_option maxRecDepth 100000 in
theorem zMk80 : sx_meok zCl zCDs zM80 := zkMe_ok zDe80 (by decide +kernel)
set_option maxRecDepth 100000 in
theorem zMk81 : sx_meok zCl zCDs zM81 := zkMe_ok zDe81 (by decide +kernel)
set_option maxRecDepth 100000 in
theorem zMk82 : sx_meok zCl zCDs zM82 := zkMe_ok zDe82 (by decide +kernel)
set_option maxRecDepth 100000 in
theorem zMk83 : sx_meok zCl zCDs zM83 := zkMe_ok zDe83 (by decide +kernel)
set_option maxRecDepth 100000 in
theorem zMk84 : sx_meok zCl zCDs zM84 := zkMe_ok zDe84 (by decide +kernel)
set_option maxRecDepth 100000 in
theorem zMk85 : sx_meok zCl zCDs zM85 := zkMe_ok zDe85 (by decide +kernel)
set_option maxRecDepth 100000 in
theorem zMk86 : sx_meok zCl zCDs zM86 := zkMe_ok zDe86 (by decide +kernel)
set_option maxRecDepth 100000 in
theorem zMk87 : sx_meok zCl zCDs zM87 := zkMe_ok zDe87 (by decide +kernel)
set_option maxRecDepth 100000 in
theorem zMk88 : sx_meok zCl zCDs zM88 := zkMe_ok zDe88 (by decide +kernel)
set_option maxRecDepth 100000 in
theorem zMk89 : sx_meok zCl zCDs zM89 := zkMe_ok zDe89 (by decide +kernel)
set_option maxRecDepth 100000 in
theorem zMk90 : sx_meok zCl zCDs zM90 := zkMe_ok zDe90 (by decide +kernel)
set_option maxRecDepth 100000 in
theorem zMk91 : sx_meok zCl zCDs zM91 := zkMe_ok zDe91 (by decide +kernel)
set_option maxRecDepth 100000 in
theorem zMk92 : sx_meok zCl zCDs zM92 := zkMe_ok zDe92 (by decide +kernel)
set_option maxRecDepth 100000 in
theorem zMk93 : sx_meok zCl zCDs zM93 := zkMe_ok zDe93 (by decide +kernel)
set_option maxRecDepth 100000 in
theorem zMk94 : sx_meok zCl zCDs zM94 := zkMe_ok zDe94 (by decide +kernel)
set_option maxRecDepth 100000 in
theorem zMk95 : sx_meok zCl zCDs zM95 := zkMe_ok zDe95 (by decide +kernel)
set_option maxRecDepth 100000 in
theorem zMk96 : sx_meok zCl zCDs zM96 := zkMe_ok zDe96 (by decide +kernel)
set_option maxRecDepth 100000 in
theorem zMk97 : sx_meok zCl zCDs zM97 := zkMe_ok zDe97 (by decide +kernel)
set_option maxRecDepth 100000 in
theorem zMk98 : sx_meok zCl zCDs zM98 := zkMe_ok zDe98 (by decide +kernel)
set_option maxRecDepth 100000 in
theorem zMk99 : sx_meok zCl zCDs zM99 := zkMe_ok zDe99 (by decide +kernel)
set_option maxRecDepth 100000 in
theorem zMk100 : sx_meok zCl zCDs zM100 := zkMe_ok zDe100 (by decide +kernel)
set_option maxRecDepth 100000 in
theorem zMk101 : sx_meok zCl zCDs zM101 := zkMe_ok zDe101 (by decide +kernel)
set_option maxRecDepth 100000 in
theorem zMk102 : sx_meok zCl zCDs zM102 := zkMe_ok zDe102 (by decide +kernel)
set_option maxRecDepth 100000 in
theorem zMk103 : sx_meok zCl zCDs zM103 := zkMe_ok zDe103 (by decide +kernel)
set_option maxRecDepth 100000 in
theorem zMk104 : sx_meok zCl zCDs zM104 := zkMe_ok zDe104 (by decide +kernel)
set_option maxRecDepth 100000 in
theorem zMk105 : sx_meok zCl zCDs zM105 := zkMe_ok zDe105 (by decide +kernel)
set_option maxRecDepth 100000 in
theorem zMk106 : sx_meok zCl zCDs zM106 := zkMe_ok zDe106 (by decide +kernel)
set_option maxRecDepth 100000 in
theorem zMk107 : sx_meok zCl zCDs zM107 := zkMe_ok zDe107 (by decide +kernel)
set_option maxRecDepth 100000 in
theorem zMk108 : sx_meok zCl zCDs zM108 := zkMe_ok zDe108 (by decide +kernel)
set_option maxRecDepth 100000 in
theorem zMk109 : sx_meok zCl zCDs zM109 := zkMe_ok zDe109 (by decide +kernel)
set_option maxRecDepth 100000 in
theorem zMk110 : sx_meok zCl zCDs zM110 := zkMe_ok zDe110 (by decide +kernel)
set_option maxRecDepth 100000 in
theorem zMk111 : sx_meok zCl zCDs zM111 := zkMe_ok zDe111 (by decide +kernel)
set_option maxRecDepth 100000 in
theorem zMk112 : sx_meok zCl zCDs zM112 := zkMe_ok zDe112 (by decide +kernel)
set_option maxRecDepth 100000 in
theorem zMk113 : sx_meok zCl zCDs zM113 := zkMe_ok zDe113 (by decide +kernel)
set_option maxRecDepth 100000 in
theorem zMk114 : sx_meok zCl zCDs zM114 := zkMe_ok zDe114 (by decide +kernel)
set_option maxRecDepth 100000 in
theorem zMk115 : sx_meok zCl zCDs zM115 := zkMe_ok zDe115 (by decide +kernel)
set_option maxRecDepth 100000 in
theorem zMk116 : sx_meok zCl zCDs zM116 := zkMe_ok zDe116 (by decide +kernel)
set_option maxRecDepth 100000 in
theorem zMk117 : sx_meok zCl zCDs zM117 := zkMe_ok zDe117 (by decide +kernel)
set_option maxRecDepth 100000 in
theorem zMk118 : sx_meok zCl zCDs zM118 := zkMe_ok zDe118 (by decide +kernel)
set_option maxRecDepth 100000 in
theorem zMk119 : sx_meok zCl zCDs zM119 := zkMe_ok zDe119 (by decide +kernel)
set_option maxRecDepth 100000 in
theorem zMk120 : sx_meok zCl zCDs zM120 := zkMe_ok zDe120 (by decide +kernel)
set_option maxRecDepth 100000 in
theorem zMk121 : sx_meok zCl zCDs zM121 := zkMe_ok zDe121 (by decide +kernel)
set_option maxRecDepth 100000 in
theorem zMk122 : sx_meok zCl zCDs zM122 := zkMe_ok zDe122 (by decide +kernel)
set_option maxRecDepth 100000 in
theorem zMk123 : sx_meok zCl zCDs zM123 := zkMe_ok zDe123 (by decide +kernel)
set_option maxRecDepth 100000 in
theorem zMk124 : sx_meok zCl zCDs zM124 := zkMe_ok zDe124 (by decide +kernel)
set_option maxRecDepth 100000 in
theorem zMk125 : sx_meok zCl zCDs zM125 := zkMe_ok zDe125 (by decide +kernel)
set_option maxRecDepth 100000 in
theorem zMk126 : sx_meok zCl zCDs zM126 := zkMe_ok zDe126 (by decide +kernel)
set_option maxRecDepth 100000 in
theorem zMk127 : sx_meok zCl zCDs zM127 := zkMe_ok zDe127 (by decide +kernel)
set_option maxRecDepth 100000 in
theorem zMk128 : sx_meok zCl zCDs zM128 := zkMe_ok zDe128 (by decide +kernel)
set_option maxRecDepth 100000 in
theorem zMk129 : sx_meok zCl zCDs zM129 := zkMe_ok zDe129 (by decide +kernel)
set_option maxRecDepth 100000 in
theorem zMk130 : sx_meok zCl zCDs zM130 := zkMe_ok zDe130 (by decide +kernel)
set_option maxRecDepth 100000 in
theorem zMk131 : sx_meok zCl zCDs zM131 := zkMe_ok zDe131 (by decide +kernel)
set_option maxRecDepth 100000 in
theorem zMk132 : sx_meok zCl zCDs zM132 := zkMe_ok zDe132 (by decide +kernel)
set_option maxRecDepth 100000 in
theorem zMk133 : sx_meok zCl zCDs zM133 := zkMe_ok zDe133 (by decide +kernel)
set_option maxRecDepth 100000 in
theorem zMk134 : sx_meok zCl zCDs zM134 := zkMe_ok zDe134 (by decide +kernel)
set_option maxRecDepth 100000 in
theorem zMk135 : sx_meok zCl zCDs zM135 := zkMe_ok zDe135 (by decide +kernel)
set_option maxRecDepth 100000 in
theorem zMk136 : sx_meok zCl zCDs zM136 := zkMe_ok zDe136 (by decide +kernel)
set_option maxRecDepth 100000 in
theorem zMk137 : sx_meok zCl zCDs zM137 := zkMe_ok zDe137 (by decide +kernel)
set_option maxRecDepth 100000 in
theorem zMk138 : sx_meok zCl zCDs zM138 := zkMe_ok zDe138 (by decide +kernel)
set_option maxRecDepth 100000 in
theorem zMk139 : sx_meok zCl zCDs zM139 := zkMe_ok zDe139 (by decide +kernel)
set_option maxRecDepth 100000 in
theorem zMk140 : sx_meok zCl zCDs zM140 := zkMe_ok zDe140 (by decide +kernel)
set_option maxRecDepth 100000 in
theorem zMk141 : sx_meok zCl zCDs zM141 := zkMe_ok zDe141 (by decide +kernel)
set_option maxRecDepth 100000 in
theorem zMk142 : sx_meok zCl zCDs zM142 := zkMe_ok zDe142 (by decide +kernel)
set_option maxRecDepth 100000 in
theorem zMk143 : sx_meok zCl zCDs zM143 := zkMe_ok zDe143 (by decide +kernel)
set_option maxRecDepth 100000 in
theorem zMk144 : sx_meok zCl zCDs zM144 := zkMe_ok zDe144 (by decide +kernel)
set_option maxRecDepth 100000 in
theorem zMk145 : sx_meok zCl zCDs zM145 := zkMe_ok zDe145 (by decide +kernel)
set_option maxRecDepth 100000 in
theorem zMk146 : sx_meok zCl zCDs zM146 := zkMe_ok zDe146 (by decide +kernel)
set_option maxRecDepth 100000 in
theorem zMk147 : sx_meok zCl zCDs zM147 := zkMe_ok zDe147 (by decide +kernel)
set_option maxRecDepth 100000 in
theorem zMk148 : sx_meok zCl zCDs zM148 := zkMe_ok zDe148 (by decide +kernel)
set_option maxRecDepth 100000 in
theorem zMk149 : sx_meok zCl zCDs zM149 := zkMe_ok zDe149 (by decide +kernel)
set_option maxRecDepth 100000 in
theorem zMk150 : sx_meok zCl zCDs zM150 := zkMe_ok zDe150 (by decide +kernel)
set_option maxRecDepth 100000 in
theorem zMk151 : sx_meok zCl zCDs zM151 := zkMe_ok zDe151 (by decide +kernel)
set_option maxRecDepth 100000 in
theorem zMk152 : sx_meok zCl zCDs zM152 := zkMe_ok zDe152 (by decide +kernel)
set_option maxRecDepth 100000 in
theorem zMk153 : sx_meok zCl zCDs zM153 := zkMe_ok zDe153 (by decide +kernel)
set_option maxRecDepth 100000 in
theorem zMk154 : sx_meok zCl zCDs zM154 := zkMe_ok zDe154 (by decide +kernel)
set_option maxRecDepth 100000 in
theorem zMk155 : sx_meok zCl zCDs zM155 := zkMe_ok zDe155 (by decide +kernel)
set_option maxRecDepth 100000 in
theorem zMk156 : sx_meok zCl zCDs zM156 := zkMe_ok zDe156 (by decide +kernel)
set_option maxRecDepth 100000 in
theorem zMk157 : sx_meok zCl zCDs zM157 := zkMe_ok zDe157 (by decide +kernel)
set_option maxRecDepth 100000 in
theorem zMk158 : sx_meok zCl zCDs zM158 := zkMe_ok zDe158 (by decide +kernel)
set_option maxRecDepth 100000 in
theorem zMk159 : sx_meok zCl zCDs zM159 := zkMe_ok zDe159 (by decide +kernel)
set_option maxRecDepth 100000 in
theorem zMk160 : sx_meok zCl zCDs zM160 := zkMe_ok zDe160 (by decide +kernel)
set_option maxRecDepth 100000 in
theorem zMk161 : sx_meok zCl zCDs zM161 := zkMe_ok zDe161 (by decide +kernel)
set_option maxRecDepth 100000 in
theorem zMk162 : sx_meok zCl zCDs zM162 := zkMe_ok zDe162 (by decide +kernel)
set_option maxRecDepth 100000 in
theorem zMk163 : sx_meok zCl zCDs zM163 := zkMe_ok zDe163 (by decide +kernel)
set_option maxRecDepth 100000 in
theorem zMk164 : sx_meok zCl zCDs zM164 := zkMe_ok zDe164 (by decide +kernel)
set_option maxRecDepth 100000 in
theorem zMk165 : sx_meok zCl zCDs zM165 := zkMe_ok zDe165 (by decide +kernel)
set_option maxRecDepth 100000 in
theorem zMk166 : sx_meok zCl zCDs zM166 := zkMe_ok zDe166 (by decide +kernel)
set_option maxRecDepth 100000 in
theorem zMk167 : sx_meok zCl zCDs zM167 := zkMe_ok zDe167 (by decide +kernel)
set_option maxRecDepth 100000 in
theorem zMk168 : sx_meok zCl zCDs zM168 := zkMe_ok zDe168 (by decide +kernel)
set_option maxRecDepth 100000 in
theorem zMk169 : sx_meok zCl zCDs zM169 := zkMe_ok zDe169 (by decide +kernel)
set_option maxRecDepth 100000 in
theorem zMk170 : sx_meok zCl zCDs zM170 := zkMe_ok zDe170 (by decide +kernel)
set_option maxRecDepth 100000 in
theorem zMk171 : sx_meok zCl zCDs zM171 := zkMe_ok zDe171 (by decide +kernel)
set_option maxRecDepth 100000 in
theorem zMk172 : sx_meok zCl zCDs zM172 := zkMe_ok zDe172 (by decide +kernel)
set_option maxRecDepth 100000 in
theorem zMk173 : sx_meok zCl zCDs zM173 := zkMe_ok zDe173 (by decide +kernel)
set_option maxRecDepth 100000 in
theorem zMk174 : sx_meok zCl zCDs zM174 := zkMe_ok zDe174 (by decide +kernel)
set_option maxRecDepth 100000 in
theorem zMk175 : sx_meok zCl zCDs zM175 := zkMe_ok zDe175 (by decide +kernel)
set_option maxRecDepth 100000 in
theorem zMk176 : sx_meok zCl zCDs zM176 := zkMe_ok zDe176 (by decide +kernel)
set_option maxRecDepth 100000 in
theorem zMk177 : sx_meok zCl zCDs zM177 := zkMe_ok zDe177 (by decide +kernel)
set_option maxRecDepth 100000 in
theorem zMk178 : sx_meok zCl zCDs zM178 := zkMe_ok zDe178 (by decide +kernel)
set_option maxRecDepth 100000 in
theorem zMk179 : sx_meok zCl zCDs zM179 := zkMe_ok zDe179 (by decide +kernel)
set_option maxRecDepth 100000 in
theorem zMk180 : sx_meok zCl zCDs zM180 := zkMe_ok zDe180 (by decide +kernel)
set_option maxRecDepth 100000 in
theorem zMk181 : sx_meok zCl zCDs zM181 := zkMe_ok zDe181 (by decide +kernel)
set_option maxRecDepth 100000 in
theorem zMk182 : sx_meok zCl zCDs zM182 := zkMe_ok zDe182 (by decide +kernel)
set_option maxRecDepth 100000 in
theorem zMk183 : sx_meok zCl zCDs zM183 := zkMe_ok zDe183 (by decide +kernel)
set_option maxRecDepth 100000 in
theorem zMk184 : sx_meok zCl zCDs zM184 := zkMe_ok zDe184 (by decide +kernel)
set_option maxRecDepth 100000 in
theorem zMk185 : sx_meok zCl zCDs zM185 := zkMe_ok zDe185 (by decide +kernel)
set_option maxRecDepth 100000 in
theorem zMk186 : sx_meok zCl zCDs zM186 := zkMe_ok zDe186 (by decide +kernel)
set_option maxRecDepth 100000 in
theorem zMk187 : sx_meok zCl zCDs zM187 := zkMe_ok zDe187 (by decide +kernel)
set_option maxRecDepth 100000 in
theorem zMk188 : sx_meok zCl zCDs zM188 := zkMe_ok zDe188 (by decide +kernel)
set_option maxRecDepth 100000 in
theorem zMk189 : sx_meok zCl zCDs zM189 := zkMe_ok zDe189 (by decide +kernel)
set_option maxRecDepth 100000 in
theorem zMk190 : sx_meok zCl zCDs zM190 := zkMe_ok zDe190 (by decide +kernel)
set_option maxRecDepth 100000 in
theorem zMk191 : sx_meok zCl zCDs zM191 := zkMe_ok zDe191 (by decide +kernel)
set_option maxRecDepth 100000 in
theorem zMk192 : sx_meok zCl zCDs zM192 := zkMe_ok zDe192 (by decide +kernel)
set_option maxRecDepth 100000 in
theorem zMk193 : sx_meok zCl zCDs zM193 := zkMe_ok zDe193 (by decide +kernel)
set_option maxRecDepth 100000 in
theorem zMk194 : sx_meok zCl zCDs zM194 := zkMe_ok zDe194 (by decide +kernel)
set_option maxRecDepth 100000 in
theorem zMk195 : sx_meok zCl zCDs zM195 := zkMe_ok zDe195 (by decide +kernel)
set_option maxRecDepth 100000 in
theorem zMk196 : sx_meok zCl zCDs zM196 := zkMe_ok zDe196 (by decide +kernel)
set_option maxRecDepth 100000 in
theorem zMk197 : sx_meok zCl zCDs zM197 := zkMe_ok zDe197 (by decide +kernel)
set_option maxRecDepth 100000 in
theorem zMk198 : sx_meok zCl zCDs zM198 := zkMe_ok zDe198 (by decide +kernel)
set_option maxRecDepth 100000 in
theorem zMk199 : sx_meok zCl zCDs zM199 := zkMe_ok zDe199 (by decide +kernel)
set_option maxRecDepth 100000 in
theorem zMk200 : sx_meok zCl zCDs zM200 := zkMe_ok zDe200 (by decide +kernel)
set_option maxRecDepth 100000 in
theorem zMk201 : sx_meok zCl zCDs zM201 := zkMe_ok zDe201 (by decide +kernel)
set_option maxRecDepth 100000 in
theorem zMk202 : sx_meok zCl zCDs zM202 := zkMe_ok zDe202 (by decide +kernel)
set_option maxRecDepth 100000 in
theorem zMk203 : sx_meok zCl zCDs zM203 := zkMe_ok zDe203 (by decide +kernel)
set_option maxRecDepth 100000 in
theorem zMk204 : sx_meok zCl zCDs zM204 := zkMe_ok zDe204 (by decide +kernel)
set_option maxRecDepth 100000 in
theorem zMk205 : sx_meok zCl zCDs zM205 := zkMe_ok zDe205 (by decide +kernel)
set_option maxRecDepth 100000 in
theorem zMk206 : sx_meok zCl zCDs zM206 := zkMe_ok zDe206 (by decide +kernel)
set_option maxRecDepth 100000 in
theorem zMk207 : sx_meok zCl zCDs zM207 := zkMe_ok zDe207 (by decide +kernel)
set_option maxRecDepth 100000 in
theorem zMk208 : sx_meok zCl zCDs zM208 := zkMe_ok zDe208 (by decide +kernel)
set_option maxRecDepth 100000 in
theorem zMk209 : sx_meok zCl zCDs zM209 := zkMe_ok zDe209 (by decide +kernel)
set_option maxRecDepth 100000 in
theorem zMk210 : sx_meok zCl zCDs zM210 := zkMe_ok zDe210 (by decide +kernel)
set_option maxRecDepth 100000 in
theorem zMk211 : sx_meok zCl zCDs zM211 := zkMe_ok zDe211 (by decide +kernel)
set_option maxRecDepth 100000 in
theorem zMk212 : sx_meok zCl zCDs zM212 := zkMe_ok zDe212 (by decide +kernel)
set_option maxRecDepth 100000 in
theorem zMk213 : sx_meok zCl zCDs zM213 := zkMe_ok zDe213 (by decide +kernel)
set_option maxRecDepth 100000 in
theorem zMk214 : sx_meok zCl zCDs zM214 := zkMe_ok zDe214 (by decide +kernel)
set_option maxRecDepth 100000 in
theorem zMk215 : sx_meok zCl zCDs zM215 := zkMe_ok zDe215 (by decide +kernel)
set_option maxRecDepth 100000 in
theorem zMk216 : sx_meok zCl zCDs zM216 := zkMe_ok zDe216 (by decide +kernel)
set_option maxRecDepth 100000 in
theorem zMk217 : sx_meok zCl zCDs zM217 := zkMe_ok zDe217 (by decide +kernel)
set_option maxRecDepth 100000 in
theorem zMk218 : sx_meok zCl zCDs zM218 := zkMe_ok zDe218 (by decide +kernel)
set_option maxRecDepth 100000 in
theorem zMk219 : sx_meok zCl zCDs zM219 := zkMe_ok zDe219 (by decide +kernel)
set_option maxRecDepth 100000 in
theorem zMk220 : sx_meok zCl zCDs zM220 := zkMe_ok zDe220 (by decide +kernel)
set_option maxRecDepth 100000 in
theorem zMk221 : sx_meok zCl zCDs zM221 := zkMe_ok zDe221 (by decide +kernel)
set_option maxRecDepth 100000 in
theorem zMk222 : sx_meok zCl zCDs zM222 := zkMe_ok zDe222 (by decide +kernel)
set_option maxRecDepth 100000 in
theorem zMk223 : sx_meok zCl zCDs zM223 := zkMe_ok zDe223 (by decide +kernel)
set_option maxRecDepth 100000 in
theorem zMk224 : sx_meok zCl zCDs zM224 := zkMe_ok zDe224 (by decide +kernel)
set_option maxRecDepth 100000 in
theorem zMk225 : sx_meok zCl zCDs zM225 := zkMe_ok zDe225 (by decide +kernel)
set_option maxRecDepth 100000 in
theorem zMk226 : sx_meok zCl zCDs zM226 := zkMe_ok zDe226 (by decide +kernel)
set_option maxRecDepth 100000 in
theorem zMk227 : sx_meok zCl zCDs zM227 := zkMe_ok zDe227 (by decide +kernel)
set_option maxRecDepth 100000 in
theorem zMk228 : sx_meok zCl zCDs zM228 := zkMe_ok zDe228 (by decide +kernel)
set_option maxRecDepth 100000 in
theorem zMk229 : sx_meok zCl zCDs zM229 := zkMe_ok zDe229 (by decide +kernel)
set_option maxRecDepth 100000 in
theorem zMk230 : sx_meok zCl zCDs zM230 := zkMe_ok zDe230 (by decide +kernel)
set_option maxRecDepth 100000 in
theorem zMk231 : sx_meok zCl zCDs zM231 := zkMe_ok zDe231 (by decide +kernel)
set_option maxRecDepth 100000 in
theorem zMk232 : sx_meok zCl zCDs zM232 := zkMe_ok zDe232 (by decide +kernel)
set_option maxRecDepth 100000 in
theorem zMk233 : sx_meok zCl zCDs zM233 := zkMe_ok zDe233 (by decide +kernel)
set_option maxRecDepth 100000 in
theorem zMk234 : sx_meok zCl zCDs zM234 := zkMe_ok zDe234 (by decide +kernel)
set_option maxRecDepth 100000 in
theorem zMk235 : sx_meok zCl zCDs zM235 := zkMe_ok zDe235 (by decide +kernel)
set_option maxRecDepth 100000 in
theorem zMk236 : sx_meok zCl zCDs zM236 := zkMe_ok zDe236 (by decide +kernel)
set_option maxRecDepth 100000 in
theorem zMk237 : sx_meok zCl zCDs zM237 := zkMe_ok zDe237 (by decide +kernel)
set_option maxRecDepth 100000 in
theorem zMk238 : sx_meok zCl zCDs zM238 := zkMe_ok zDe238 (by decide +kernel)
set_option maxRecDepth 100000 in
theorem zMk239 : sx_meok zCl zCDs zM239 := zkMe_ok zDe239 (by decide +kernel)
set_option maxRecDepth 100000 in
theorem zMk240 : sx_meok zCl zCDs zM240 := zkMe_ok zDe240 (by decide +kernel)
set_option maxRecDepth 100000 in
theorem zMk241 : sx_meok zCl zCDs zM241 := zkMe_ok zDe241 (by decide +kernel)
set_option maxRecDepth 100000 in
theorem zMk242 : sx_meok zCl zCDs zM242 := zkMe_ok zDe242 (by decide +kernel)
set_option maxRecDepth 100000 in
theorem zMk243 : sx_meok zCl zCDs zM243 := zkMe_ok zDe243 (by decide +kernel)
set_option maxRecDepth 100000 in
theorem zMk244 : sx_meok zCl zCDs zM244 := zkMe_ok zDe244 (by decide +kernel)
set_option maxRecDepth 100000 in
theorem zMk245 : sx_meok zCl zCDs zM245 := zkMe_ok zDe245 (by decide +kernel)
set_option maxRecDepth 100000 in
theorem zMk246 : sx_meok zCl zCDs zM246 := zkMe_ok zDe246 (by decide +kernel)
set_option maxRecDepth 100000 in
theorem zMk247 : sx_meok zCl zCDs zM247 := zkMe_ok zDe247 (by decide +kernel)
set_option maxRecDepth 100000 in
theorem zMk248 : sx_meok zCl zCDs zM248 := zkMe_ok zDe248 (by decide +kernel)
set_option maxRecDepth 100000 in
theorem zMk249 : sx_meok zCl zCDs zM249 := zkMe_ok zDe249 (by decide +kernel)
set_option maxRecDepth 100000 in
theorem zMk250 : sx_meok zCl zCDs zM250 := zkMe_ok zDe250 (by decide +kernel)
set_option maxRecDepth 100000 in
theorem zMk251 : sx_meok zCl zCDs zM251 := zkMe_ok zDe251 (by decide +kernel)
set_option maxRecDepth 100000 in
theorem zMk252 : sx_meok zCl zCDs zM252 := zkMe_ok zDe252 (by decide +kernel)
set_option maxRecDepth 100000 in
theorem zMk253 : sx_meok zCl zCDs zM253 := zkMe_ok zDe253 (by decide +kernel)
set_option maxRecDepth 100000 in
theorem zMk254 : sx_meok zCl zCDs zM254 := zkMe_ok zDe254 (by decide +kernel)
set_option maxRecDepth 100000 in
theorem zMk255 : sx_meok zCl zCDs zM255 := zkMe_ok zDe255 (by decide +kernel)
set_option maxRecDepth 100000 in
theorem zMk256 : sx_meok zCl zCDs zM256 := zkMe_ok zDe256 (by decide +kernel)
set_option maxRecDepth 100000 in
theorem zMk257 : sx_meok zCl zCDs zM257 := zkMe_ok zDe257 (by decide +kernel)
set_option maxRecDepth 100000 in
theorem zMk258 : sx_meok zCl zCDs zM258 := zkMe_ok zDe258 (by decide +kernel)
set_option maxRecDepth 100000 in
theorem zMk259 : sx_meok zCl zCDs zM259 := zkMe_ok zDe259 (by decide +kernel)
set_option maxRecDepth 100000 in
theorem zMk260 : sx_meok zCl zCDs zM260 := zkMe_ok zDe260 (by decide +kernel)
set_option maxRecDepth 100000 in
theorem zMk261 : sx_meok zCl zCDs zM261 := zkMe_ok zDe261 (by decide +kernel)
set_option maxRecDepth 100000 in
theorem zMk262 : sx_meok zCl zCDs zM262 := zkMe_ok zDe262 (by decide +kernel)
set_option maxRecDepth 100000 in
theorem zMk263 : sx_meok zCl zCDs zM263 := zkMe_ok zDe263 (by decide +kernel)
set_option maxRecDepth 100000 in
theorem zMk264 : sx_meok zCl zCDs zM264 := zkMe_ok zDe264 (by decide +kernel)
set_option maxRecDepth 100000 in
theorem zMk265 : sx_meok zCl zCDs zM265 := zkMe_ok zDe265 (by decide +kernel)
set_option maxRecDepth 100000 in
theorem zMk266 : sx_meok zCl zCDs zM266 := zkMe_ok zDe266 (by decide +kernel)
set_option maxRecDepth 100000 in
theorem zMk267 : sx_meok zCl zCDs zM267 := zkMe_ok zDe267 (by decide +kernel)
set_option maxRecDepth 100000 in
theorem zMk268 : sx_meok zCl zCDs zM268 := zkMe_ok zDe268 (by decide +kernel)
set_option maxRecDepth 100000 in
theorem zMk269 : sx_meok zCl zCDs zM269 := zkMe_ok zDe269 (by decide +kernel)
set_option maxRecDepth 100000 in
theorem zMk270 : sx_meok zCl zCDs zM270 := zkMe_ok zDe270 (by decide +kernel)
set_option maxRecDepth 100000 in
theorem zMk271 : sx_meok zCl zCDs zM271 := zkMe_ok zDe271 (by decide +kernel)
set_option maxRecDepth 100000 in
theorem zMk272 : sx_meok zCl zCDs zM272 := zkMe_ok zDe272 (by decide +kernel)
set_option maxRecDepth 100000 in
theorem zMk273 : sx_meok zCl zCDs zM273 := zkMe_ok zDe273 (by decide +kernel)
set_option maxRecDepth 100000 in
theorem zMk274 : sx_meok zCl zCDs zM274 := zkMe_ok zDe274 (by decide +kernel)
set_option maxRecDepth 100000 in
theorem zMk275 : sx_meok zCl zCDs zM275 := zkMe_ok zDe275 (by decide +kernel)
set_option maxRecDepth 100000 in
theorem zMk276 : sx_meok zCl zCDs zM276 := zkMe_ok zDe276 (by decide +kernel)
set_option maxRecDepth 100000 in
theorem zMk277 : sx_meok zCl zCDs zM277 := zkMe_ok zDe277 (by decide +kernel)
set_option maxRecDepth 100000 in
theorem zMk278 : sx_meok zCl zCDs zM278 := zkMe_ok zDe278 (by decide +kernel)
set_option maxRecDepth 100000 in
theorem zMk279 : sx_meok zCl zCDs zM279 := zkMe_ok zDe279 (by decide +kernel)
set_option maxRecDepth 100000 in
theorem zMk280 : sx_meok zCl zCDs zM280 := zkMe_ok zDe280 (by decide +kernel)
set_option maxRecDepth 100000 in
theorem zMk281 : sx_meok zCl zCDs zM281 := zkMe_ok zDe281 (by decide +kernel)
set_option maxRecDepth 100000 in
theorem zMk282 : sx_meok zCl zCDs zM282 := zkMe_ok zDe282 (by decide +kernel)
set_option maxRecDepth 100000 in
theorem zMk283 : sx_meok zCl zCDs zM283 := zkMe_ok zDe283 (by decide +kernel)
set_option maxRecDepth 100000 in
theorem zMk284 : sx_meok zCl zCDs zM284 := zkMe_ok zDe284 (by decide +kernel)
set_option maxRecDepth 100000 in
theorem zMk285 : sx_meok zCl zCDs zM285 := zkMe_ok zDe285 (by decide +kernel)
set_option maxRecDepth 100000 in
theorem zMk286 : sx_meok zCl zCDs zM286 := zkMe_ok zDe286 (by decide +kernel)
set_option maxRecDepth 100000 in
theorem zMk287 : sx_meok zCl zCDs zM287 := zkMe_ok zDe287 (by decide +kernel)
set_option maxRecDepth 100000 in
theorem zMk288 : sx_meok zCl zCDs zM288 := zkMe_ok zDe288 (by decide +kernel)
set_option maxRecDepth 100000 in
theorem zMk289 : sx_meok zCl zCDs zM289 := zkMe_ok zDe289 (by decide +kernel)
set_option maxRecDepth 100000 in
theorem zMk290 : sx_meok zCl zCDs zM290 := zkMe_ok zDe290 (by decide +kernel)
set_option maxRecDepth 100000 in
theorem zMk291 : sx_meok zCl zCDs zM291 := zkMe_ok zDe291 (by decide +kernel)
set_option maxRecDepth 100000 in
theorem zMk292 : sx_meok zCl zCDs zM292 := zkMe_ok zDe292 (by decide +kernel)
set_option maxRecDepth 100000 in
theorem zMk293 : sx_meok zCl zCDs zM293 := zkMe_ok zDe293 (by decide +kernel)
set_option maxRecDepth 100000 in
theorem zMk294 : sx_meok zCl zCDs zM294 := zkMe_ok zDe294 (by decide +kernel)
set_option maxRecDepth 100000 in
theorem zMk295 : sx_meok zCl zCDs zM295 := zkMe_ok zDe295 (by decide +kernel)
set_option maxRecDepth 100000 in
theorem zMk296 : sx_meok zCl zCDs zM296 := zkMe_ok zDe296 (by decide +kernel)
set_option maxRecDepth 100000 in
theorem zMk297 : sx_meok zCl zCDs zM297 := zkMe_ok zDe297 (by decide +kernel)
set_option maxRecDepth 100000 in
theorem zMk298 : sx_meok zCl zCDs zM298 := zkMe_ok zDe298 (by decide +kernel)
set_option maxRecDepth 100000 in
theorem zMk299 : sx_meok zCl zCDs zM299 := zkMe_ok zDe299 (by decide +kernel)
set_option maxRecDepth 100000 in
theorem zMk300 : sx_meok zCl zCDs zM300 := zkMe_ok zDe300 (by decide +kernel)
set_option maxRecDepth 100000 in
theorem zMk301 : sx_meok zCl zCDs zM301 := zkMe_ok zDe301 (by decide +kernel)
set_option maxRecDepth 100000 in
theorem zMk302 : sx_meok zCl zCDs zM302 := zkMe_ok zDe302 (by decide +kernel)
set_option maxRecDepth 100000 in
theorem zMk303 : sx_meok zCl zCDs zM303 := zkMe_ok zDe303 (by decide +kernel)
set_option maxRecDepth 100000 in
theorem zMk304 : sx_meok zCl zCDs zM304 := zkMe_ok zDe304 (by decide +kernel)
set_option maxRecDepth 100000 in
theorem zMk305 : sx_meok zCl zCDs zM305 := zkMe_ok zDe305 (by decide +kernel)
set_option maxRecDepth 100000 in
theorem zMk306 : sx_meok zCl zCDs zM306 := zkMe_ok zDe306 (by decide +kernel)
set_option maxRecDepth 100000 in
theorem zMk307 : sx_meok zCl zCDs zM307 := zkMe_ok zDe307 (by decide +kernel)
set_option maxRecDepth 100000 in
theorem zMk308 : sx_meok zCl zCDs zM308 := zkMe_ok zDe308 (by decide +kernel)
set_option maxRecDepth 100000 in
theorem zMk309 : sx_meok zCl zCDs zM309 := zkMe_ok zDe309 (by decide +kernel)
set_option maxRecDepth 100000 in
theorem zMk310 : sx_meok zCl zCDs zM310 := zkMe_ok zDe310 (by decide +kernel)
set_option maxRecDepth 100000 in
theorem zMk311 : sx_meok zCl zCDs zM311 := zkMe_ok zDe311 (by decide +kernel)
set_option maxRecDepth 100000 in
theorem zMk312 : sx_meok zCl zCDs zM312 := zkMe_ok zDe312 (by decide +kernel)
set_option maxRecDepth 100000 in
theorem zMk313 : sx_meok zCl zCDs zM313 := zkMe_ok zDe313 (by decide +kernel)
set_option maxRecDepth 100000 in
theorem zMk314 : sx_meok zCl zCDs zM314 := zkMe_ok zDe314 (by decide +kernel)
set_option maxRecDepth 100000 in
theorem zMk315 : sx_meok zCl zCDs zM315 := zkMe_ok zDe315 (by decide +kernel)
set_option maxRecDepth 100000 in
theorem zMk316 : sx_meok zCl zCDs zM316 := zkMe_ok zDe316 (by decide +kernel)
set_option maxRecDepth 100000 in
theorem zMk317 : sx_meok zCl zCDs zM317 := zkMe_ok zDe317 (by decide +kernel)
set_option maxRecDepth 100000 in
theorem zMk318 : sx_meok zCl zCDs zM318 := zkMe_ok zDe318 (by decide +kernel)
set_option maxRecDepth 100000 in
theorem zMk319 : sx_meok zCl zCDs zM319 := zkMe_ok zDe319 (by decide +kernel)
set_option maxRecDepth 100000 in
theorem zMk320 : sx_meok zCl zCDs zM320 := zkMe_ok zDe320 (by decide +kernel)
set_option maxRecDepth 100000 in
theorem zMk321 : sx_meok zCl zCDs zM321 := zkMe_ok zDe321 (by decide +kernel)
set_option maxRecDepth 100000 in
theorem zMk322 : sx_meok zCl zCDs zM322 := zkMe_ok zDe322 (by decide +kernel)
set_option maxRecDepth 100000 in
theorem zMk323 : sx_meok zCl zCDs zM323 := zkMe_ok zDe323 (by decide +kernel)
set_option maxRecDepth 100000 in
theorem zMk324 : sx_meok zCl zCDs zM324 := zkMe_ok zDe324 (by decide +kernel)
