/-! the static tables and constant texts at the law's start (printed by wip/p30/mk983.py) -/
def zTv0 : List Int := [0, 1, 2, 3, 2, 1, 2, 3, 4, 2]
set_option maxRecDepth 100000 in
theorem zGl0 : Cond.fieldLink "ArcadePoles$Puzzles" 71 "ArcadePoles$Puzzles" "LETTERS" "[I" ∈ zTB := zw_ok (q := (5, 211)) (by decide +kernel)
set_option maxRecDepth 100000 in
theorem zsl0 : zget (5, 212) = some (Cond.laysStatic "ArcadePoles$Puzzles" "LETTERS" "[I") := by decide +kernel
def zTv1 : List Int := [1000, 900, 500, 400, 100, 90, 50, 40, 10, 9, 5, 4, 1]
set_option maxRecDepth 100000 in
theorem zGl1 : Cond.fieldLink "ArcadePoles$Puzzles" 74 "ArcadePoles$Puzzles" "SIGN_WORTH" "[I" ∈ zTB := zw_ok (q := (5, 220)) (by decide +kernel)
set_option maxRecDepth 100000 in
theorem zsl1 : zget (5, 221) = some (Cond.laysStatic "ArcadePoles$Puzzles" "SIGN_WORTH" "[I") := by decide +kernel
def zTv2 : List Int := [6, 4, 5, 4, 4, 2, 3, 2, 2, 0, 1, 0, 0]
set_option maxRecDepth 100000 in
theorem zGl2 : Cond.fieldLink "ArcadePoles$Puzzles" 77 "ArcadePoles$Puzzles" "SIGN_FIRST" "[I" ∈ zTB := zw_ok (q := (5, 222)) (by decide +kernel)
set_option maxRecDepth 100000 in
theorem zsl2 : zget (5, 223) = some (Cond.laysStatic "ArcadePoles$Puzzles" "SIGN_FIRST" "[I") := by decide +kernel
def zTv3 : List Int := [-1, 6, -1, 5, -1, 4, -1, 3, -1, 2, -1, 1, -1]
set_option maxRecDepth 100000 in
theorem zGl3 : Cond.fieldLink "ArcadePoles$Puzzles" 80 "ArcadePoles$Puzzles" "SIGN_SECOND" "[I" ∈ zTB := zw_ok (q := (5, 224)) (by decide +kernel)
set_option maxRecDepth 100000 in
theorem zsl3 : zget (5, 225) = some (Cond.laysStatic "ArcadePoles$Puzzles" "SIGN_SECOND" "[I") := by decide +kernel
def zTv4 : List Int := [612220032, 34012224, 1889568, 104976, 5832, 324, 18, 1]
set_option maxRecDepth 100000 in
theorem zGl4 : Cond.fieldLink "ArcadePoles$Cheapest" 51 "ArcadePoles$Cheapest" "DIGIT" "[J" ∈ zTB := zw_ok (q := (5, 20)) (by decide +kernel)
set_option maxRecDepth 100000 in
theorem zsl4 : zget (5, 21) = some (Cond.laysStatic "ArcadePoles$Cheapest" "DIGIT" "[J") := by decide +kernel
set_option maxRecDepth 100000 in
theorem zsia : zget (1, 12) = some (Cond.initialized "ArcadePoles$Puzzles") := by decide +kernel
set_option maxRecDepth 100000 in
theorem zsib : zget (1, 10) = some (Cond.initialized "ArcadePoles$Cheapest") := by decide +kernel
set_option maxRecDepth 100000 in
theorem zsic : zget (1, 17) = some (Cond.initialized "java/lang/String") := by decide +kernel
set_option maxRecDepth 100000 in
theorem zsid : zget (1, 19) = some (Cond.initialized "jdk/internal/util/Preconditions") := by decide +kernel
set_option maxRecDepth 100000 in
theorem zslc : zget (4, 13) = some (Cond.laysStatic "java/lang/String" "COMPACT_STRINGS" "Z") := by decide +kernel
set_option maxRecDepth 100000 in
theorem zsld : zget (4, 29) = some (Cond.laysStatic "jdk/internal/util/Preconditions" "SIOOBE_FORMATTER" "Ljava/util/function/BiFunction;") := by decide +kernel
set_option maxRecDepth 100000 in
theorem zsrW : zget (4, 3) = some (Cond.stringRef "ArcadePoles$Reader" 126 zWT) := by decide +kernel
set_option maxRecDepth 100000 in
theorem zsrS : zget (4, 64) = some (Cond.stringRef "ArcadePoles$Reader" 119 zSGT) := by decide +kernel
def zswI (C n : String) (v : List Int) : List Cond := Cond.arrayOf (.static C n "[I") .int :: Cond.eq (.length (.static C n "[I")) (.int (Int32.ofNat v.length)) :: (List.range v.length).map (fun j => Cond.eq (.elem (.static C n "[I") (.int (Int32.ofNat j))) (.int (Int32.ofInt (v.getD j 0))))
def zswJ (C n : String) (v : List Int) : List Cond := Cond.arrayOf (.static C n "[J") .long :: Cond.eq (.length (.static C n "[J")) (.int (Int32.ofNat v.length)) :: (List.range v.length).map (fun j => Cond.eq (.elem (.static C n "[J") (.int (Int32.ofNat j))) (.long (Int64.ofInt (v.getD j 0))))
def zswT (k : Nat) (tx : String) : List Cond := Cond.exactly (.string "ArcadePoles$Reader" k) "java/lang/String" :: Cond.eq (.field (.string "ArcadePoles$Reader" k) "java/lang/String" "coder" "B") (.int 0) :: Cond.arrayOf (.field (.string "ArcadePoles$Reader" k) "java/lang/String" "value" "[B") .byte :: Cond.eq (.length (.field (.string "ArcadePoles$Reader" k) "java/lang/String" "value" "[B")) (.int (Int32.ofNat (sx_tb tx).length)) :: (List.range (sx_tb tx).length).map (fun j => Cond.eq (.elem (.field (.string "ArcadePoles$Reader" k) "java/lang/String" "value" "[B") (.int (Int32.ofNat j))) (.int ((sx_tb tx).getD j 0)))
def zskL (i : Nat) (l : List Cond) : Bool := decide (((flatC (Jvm.Cond.and given_1 narrow_1)).drop i).take l.length = l)
set_option maxRecDepth 100000 in
theorem zsq0 : zskL 21 (zswI "ArcadePoles$Puzzles" "LETTERS" zTv0) = true := by decide +kernel
set_option maxRecDepth 100000 in
theorem zsq1 : zskL 34 (zswI "ArcadePoles$Puzzles" "SIGN_WORTH" zTv1) = true := by decide +kernel
set_option maxRecDepth 100000 in
theorem zsq2 : zskL 50 (zswI "ArcadePoles$Puzzles" "SIGN_FIRST" zTv2) = true := by decide +kernel
set_option maxRecDepth 100000 in
theorem zsq3 : zskL 66 (zswI "ArcadePoles$Puzzles" "SIGN_SECOND" zTv3) = true := by decide +kernel
set_option maxRecDepth 100000 in
theorem zsq4 : zskL 10 (zswJ "ArcadePoles$Cheapest" "DIGIT" zTv4) = true := by decide +kernel
set_option maxRecDepth 100000 in
theorem zsqW : zskL 81 (zswT 126 zWT) = true := by decide +kernel
set_option maxRecDepth 100000 in
theorem zsqS : zskL 230 (zswT 119 zSGT) = true := by decide +kernel
set_option maxRecDepth 100000 in
theorem zsqc : zskL 4 [Cond.eq (.static "java/lang/String" "COMPACT_STRINGS" "Z") (.int 1), Cond.isRef (.static "jdk/internal/util/Preconditions" "SIOOBE_FORMATTER" "Ljava/util/function/BiFunction;")] = true := by decide +kernel
section ZS0
variable {s : State} {args : Array Value}
theorem zsk_w (hgv : (Jvm.Cond.and given_1 narrow_1).before args s = true) {i : Nat} {l : List Cond} (h : zskL i l = true) : ∀ w ∈ l, w.before args s = true := fun w hw => by
  have e : ((flatC (Jvm.Cond.and given_1 narrow_1)).drop i).take l.length = l := of_decide_eq_true h
  have h1 : w ∈ ((flatC (Jvm.Cond.and given_1 narrow_1)).drop i).take l.length := by rw [e]; exact hw
  exact flat_of_before _ hgv w (List.mem_of_mem_drop (List.mem_of_mem_take h1))
theorem zsA (a : Nat) (h : a < s.heap.size) : ¬ s.heap.size ≤ a := by omega
theorem zstatI (hgv : (Jvm.Cond.and given_1 narrow_1).before args s = true) {C n : String} {v : List Int} (hn : v.length < 2 ^ 31) {q : Nat} (hk : zskL q (zswI C n v) = true) (hl : (Cond.laysStatic C n "[I").before args s = true) (hi : (Cond.initialized C).before args s = true) :
    ∃ a : Nat, va_Z C n "[I" (.ref a) (fun q => s.heap.size ≤ q) s s.heap ∧ va_T .int a v.length (fun j => .int (Int32.ofInt (v.getD j 0))) (fun q => s.heap.size ≤ q) s s.heap := by
  have hw := zsk_w hgv hk
  obtain ⟨t, t1, t2⟩ := va_Tof (N := v.length) (f := fun j => .int (Int32.ofInt (v.getD j 0))) (A := fun q => s.heap.size ≤ q) hn (hw _ List.mem_cons_self) (va_eqt (hw _ (List.mem_cons_of_mem _ List.mem_cons_self))) (fun j hj => va_eqt (hw _ (List.mem_cons_of_mem _ (List.mem_cons_of_mem _ (List.mem_map.mpr ⟨j, List.mem_range.mpr hj, rfl⟩))))) zsA
  exact ⟨t, va_Zref hl hi t1 zsA, t2⟩
theorem zstatJ (hgv : (Jvm.Cond.and given_1 narrow_1).before args s = true) {C n : String} {v : List Int} (hn : v.length < 2 ^ 31) {q : Nat} (hk : zskL q (zswJ C n v) = true) (hl : (Cond.laysStatic C n "[J").before args s = true) (hi : (Cond.initialized C).before args s = true) :
    ∃ a : Nat, va_Z C n "[J" (.ref a) (fun q => s.heap.size ≤ q) s s.heap ∧ va_T .long a v.length (fun j => .long (Int64.ofInt (v.getD j 0))) (fun q => s.heap.size ≤ q) s s.heap := by
  have hw := zsk_w hgv hk
  obtain ⟨t, t1, t2⟩ := va_Tof (N := v.length) (f := fun j => .long (Int64.ofInt (v.getD j 0))) (A := fun q => s.heap.size ≤ q) hn (hw _ List.mem_cons_self) (va_eqt (hw _ (List.mem_cons_of_mem _ List.mem_cons_self))) (fun j hj => va_eqtl (hw _ (List.mem_cons_of_mem _ (List.mem_cons_of_mem _ (List.mem_map.mpr ⟨j, List.mem_range.mpr hj, rfl⟩))))) zsA
  exact ⟨t, va_Zref hl hi t1 zsA, t2⟩
theorem zstatT (hgv : (Jvm.Cond.and given_1 narrow_1).before args s = true) {k : Nat} {tx : String} (hn : (sx_tb tx).length < 2 ^ 31) {q : Nat} (hk : zskL q (zswT k tx) = true) (hr : (Cond.stringRef "ArcadePoles$Reader" k tx).before args s = true) :
    ∃ a : Nat, vk_R "ArcadePoles$Reader" k tx a s ∧ sx_tx a tx (fun q => s.heap.size ≤ q) s s.heap := by
  have hw := zsk_w hgv hk
  obtain ⟨adK, adV, h1, h2⟩ := vk_Sof (args := args) (s := s) (N := 1) (tm := fun _ => Term.string "ArcadePoles$Reader" k) (len := [(sx_tb tx).length]) (byt := [sx_tb tx]) (A := fun q => s.heap.size ≤ q) (fun i hi => by
      obtain rfl : i = 0 := by omega
      exact hn)
    (fun i _ => hw _ List.mem_cons_self) (fun i _ => hw _ (List.mem_cons_of_mem _ List.mem_cons_self)) (fun i _ => hw _ (List.mem_cons_of_mem _ (List.mem_cons_of_mem _ List.mem_cons_self)))
    (fun i hi => by
      obtain rfl : i = 0 := by omega
      exact hw _ (List.mem_cons_of_mem _ (List.mem_cons_of_mem _ (List.mem_cons_of_mem _ List.mem_cons_self))))
    (fun i hi j hj => by
      obtain rfl : i = 0 := by omega
      exact hw _ (List.mem_cons_of_mem _ (List.mem_cons_of_mem _ (List.mem_cons_of_mem _ (List.mem_cons_of_mem _ (List.mem_map.mpr ⟨j, List.mem_range.mpr hj, rfl⟩))))))
    (fun i j hi hj hne => absurd (show i = j by omega) hne) zsA
  obtain ⟨g1, g2, g3, g4⟩ := h1.1 0 (by decide)
  exact ⟨adK 0, vk_R.of hr (h2 0 (by decide)), g1, g2, adV 0, g3, g4⟩
end ZS0
