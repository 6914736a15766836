/-! runs by contract -/
set_option maxRecDepth 100000 in
theorem zU0 : zrun2 0 30000 = true := by decide +kernel
set_option maxRecDepth 100000 in
theorem zU1 : zrun2 1 30000 = true := by decide +kernel
set_option maxRecDepth 100000 in
theorem zU2 : zrun2 2 30000 = true := by decide +kernel
set_option maxRecDepth 100000 in
theorem zU3 : zrun2 3 30000 = true := by decide +kernel
set_option maxRecDepth 100000 in
theorem zU4 : zrun2 4 30000 = true := by decide +kernel
set_option maxRecDepth 100000 in
theorem zU5 : zrun2 5 30000 = true := by decide +kernel
set_option maxRecDepth 100000 in
theorem zU6 : zrun2 6 30000 = true := by decide +kernel
set_option maxRecDepth 100000 in
theorem zU7 : zrun2 7 30000 = true := by decide +kernel
set_option maxRecDepth 100000 in
theorem zU8 : zrun2 8 30000 = true := by decide +kernel
set_option maxRecDepth 100000 in
theorem zU9 : zrun2 9 30000 = true := by decide +kernel
set_option maxRecDepth 100000 in
theorem zU10 : zrun2 10 30000 = true := by decide +kernel
set_option maxRecDepth 100000 in
theorem zU11 : zrun2 11 30000 = true := by decide +kernel
set_option maxRecDepth 100000 in
theorem zU12 : zrun2 12 30000 = true := by decide +kernel
set_option maxRecDepth 100000 in
theorem zU13 : zrun2 13 30000 = true := by decide +kernel
set_option maxRecDepth 100000 in
theorem zU14 : zrun2 14 30000 = true := by decide +kernel
set_option maxRecDepth 100000 in
theorem zU15 : zrun2 15 30000 = true := by decide +kernel
set_option maxRecDepth 100000 in
theorem zU16 : zrun2 16 30000 = true := by decide +kernel
set_option maxRecDepth 100000 in
theorem zU17 : zrun2 17 30000 = true := by decide +kernel
set_option maxRecDepth 100000 in
theorem zU18 : zrun2 18 30000 = true := by decide +kernel
set_option maxRecDepth 100000 in
theorem zU19 : zrun2 19 30000 = true := by decide +kernel
set_option maxRecDepth 100000 in
theorem zU20 : zrun2 20 30000 = true := by decide +kernel
set_option maxRecDepth 100000 in
theorem zU21 : zrun2 21 30000 = true := by decide +kernel
set_option maxRecDepth 100000 in
theorem zU22 : zrun2 22 30000 = true := by decide +kernel
set_option maxRecDepth 100000 in
theorem zU23 : zrun2 23 30000 = true := by decide +kernel
set_option maxRecDepth 100000 in
theorem zU24 : zrun2 24 30000 = true := by decide +kernel
set_option maxRecDepth 100000 in
theorem zU25 : zrun2 25 30000 = true := by decide +kernel
set_option maxRecDepth 100000 in
theorem zU26 : zrun2 26 30000 = true := by decide +kernel
set_option maxRecDepth 100000 in
theorem zU27 : zrun2 27 30000 = true := by decide +kernel
set_option maxRecDepth 100000 in
theorem zU28 : zrun2 28 30000 = true := by decide +kernel
set_option maxRecDepth 100000 in
theorem zU29 : zrun2 29 30000 = true := by decide +kernel
set_option maxRecDepth 100000 in
theorem zU30 : zrun2 30 30000 = true := by decide +kernel
set_option maxRecDepth 100000 in
theorem zU31 : zrun2 31 30000 = true := by decide +kernel
set_option maxRecDepth 100000 in
theorem zU32 : zrun2 32 30000 = true := by decide +kernel
set_option maxRecDepth 100000 in
theorem zU33 : zrun2 33 30000 = true := by decide +kernel
set_option maxRecDepth 100000 in
theorem zU34 : zrun2 34 30000 = true := by decide +kernel
set_option maxRecDepth 100000 in
theorem zU35 : zrun2 35 30000 = true := by decide +kernel
set_option maxRecDepth 100000 in
theorem zU36 : zrun2 36 30000 = true := by decide +kernel
set_option maxRecDepth 100000 in
theorem zU37 : zrun2 37 30000 = true := by decide +kernel
set_option maxRecDepth 100000 in
theorem zU38 : zrun2 38 30000 = true := by decide +kernel
set_option maxRecDepth 100000 in
theorem zU39 : zrun2 39 30000 = true := by decide +kernel
set_option maxRecDepth 100000 in
theorem zU40 : zrun2 40 30000 = true := by decide +kernel
set_option maxRecDepth 100000 in
theorem zU41 : zrun2 41 30000 = true := by decide +kernel
set_option maxRecDepth 100000 in
theorem zU42 : zrun2 42 30000 = true := by decide +kernel
set_option maxRecDepth 100000 in
theorem zU43 : zrun2 43 30000 = true := by decide +kernel
set_option maxRecDepth 100000 in
theorem zU44 : zrun2 44 30000 = true := by decide +kernel
set_option maxRecDepth 100000 in
theorem zU45 : zrun2 45 30000 = true := by decide +kernel
set_option maxRecDepth 100000 in
theorem zU46 : zrun2 46 30000 = true := by decide +kernel
set_option maxRecDepth 100000 in
theorem zU47 : zrun2 47 30000 = true := by decide +kernel
set_option maxRecDepth 100000 in
theorem zU48 : zrun2 48 30000 = true := by decide +kernel
set_option maxRecDepth 100000 in
theorem zU49 : zrun2 49 30000 = true := by decide +kernel
set_option maxRecDepth 100000 in
theorem zU50 : zrun2 50 30000 = true := by decide +kernel
set_option maxRecDepth 100000 in
theorem zU51 : zrun2 51 30000 = true := by decide +kernel
set_option maxRecDepth 100000 in
theorem zU52 : zrun2 52 30000 = true := by decide +kernel
set_option maxRecDepth 100000 in
theorem zU53 : zrun2 53 30000 = true := by decide +kernel
set_option maxRecDepth 100000 in
theorem zU54 : zrun2 54 30000 = true := by decide +kernel
set_option maxRecDepth 100000 in
theorem zU55 : zrun2 55 30000 = true := by decide +kernel
set_option maxRecDepth 100000 in
theorem zU56 : zrun2 56 30000 = true := by decide +kernel
set_option maxRecDepth 100000 in
theorem zU57 : zrun2 57 30000 = true := by decide +kernel
set_option maxRecDepth 100000 in
theorem zU58 : zrun2 58 30000 = true := by decide +kernel
set_option maxRecDepth 100000 in
theorem zU59 : zrun2 59 30000 = true := by decide +kernel
set_option maxRecDepth 100000 in
theorem zU60 : zrun2 60 30000 = true := by decide +kernel
set_option maxRecDepth 100000 in
theorem zU61 : zrun2 61 30000 = true := by decide +kernel
set_option maxRecDepth 100000 in
theorem zU62 : zrun2 62 30000 = true := by decide +kernel
set_option maxRecDepth 100000 in
theorem zU63 : zrun2 63 30000 = true := by decide +kernel
