/-! constant texts in walks: the text, its length, a char of it -/
def zWT : String := "buys yields costs purse polite goods price till nights poles crowd hour bought day when or and not customer at in out on stock give push shop by "
def zSGT : String := ";+-*/()<=>"
set_option maxRecDepth 100000 in
theorem zwt_len : (sx_tb zWT).length = 145 := by decide +kernel
set_option maxRecDepth 100000 in
theorem zsg_len : (sx_tb zSGT).length = 10 := by decide +kernel
/-- the text's chars as numbers; how many blanks stand ahead of a place -/
def zwn (k : Nat) : Int := (zch zWT (Int32.ofNat k)).toInt
def zrw : Nat → Int
  | 0 => 0
  | k + 1 => zrw k + (if zwn k = 32 then 1 else 0)
set_option maxRecDepth 100000 in
theorem zwt_ck : ∀ k, k < 145 → (zch zWT (Int32.ofNat k)).toUInt32.toUInt16.toUInt32.toInt32 = zch zWT (Int32.ofNat k) := by decide +kernel
theorem zwt_at {y : Int32} {k : Int} (h : y.toInt = k) (h0 : 0 ≤ k) (h1 : k < 145) : narrow .char (.int (zch zWT y)) = .int (zch zWT y) ∧ (zch zWT y).toInt = zwn k.toNat := by
  have e : y = Int32.ofNat k.toNat := Int32.toInt_inj.mp (by rw [h, Int32.toInt_ofNat_of_lt (by omega)]; omega)
  have a1 := zwt_ck k.toNat (by omega)
  rw [← e] at a1
  exact ⟨congrArg Value.int a1, by rw [e]; rfl⟩
set_option maxRecDepth 100000 in
theorem zrw_ck : ∀ k, k < 145 → zwn k = 32 → 0 ≤ zrw k ∧ zrw k ≤ 27 := by decide +kernel
theorem zrw_s (k : Nat) : zrw (k + 1) = zrw k + (if zwn k = 32 then 1 else 0) := rfl
theorem zrw_bd : ∀ k : Nat, 0 ≤ zrw k ∧ zrw k ≤ k
  | 0 => ⟨Int.le_refl _, Int.le_refl _⟩
  | k + 1 => by
    have := zrw_bd k
    rw [zrw_s]
    split <;> omega
/-- what stands in ST of the class's constant texts -/
def zSTt (ST : List (String × String × String × Nat)) (aW aS : Nat) : Prop := zSTk ST ∧ ("ArcadePoles$Reader", zWT, "S126", aW) ∈ ST ∧ ("ArcadePoles$Reader", zSGT, "S119", aS) ∈ ST
section PTX
variable {D : va_G} {Wm : Nat} {ST : List (String × String × String × Nat)} {b0 : sx_B} {l : Launch} {Sg : Nat → Option Nat} {M : sx_Me} {bud : sx_Bu} {X : Nat → List pm_V → List pm_V → pm_Mem → Prop} {pc a : Nat} {tx : String} {lv st : List pm_V} {μ : pm_Mem} {d : sx_Da}
theorem zp_ldc (hK : zKK ST) (hm : pm_m zMT zCDs M d) {own dS : String} {k : Nat} (hown : M.1.1.cls = own) (hz : (own, tx, dS, a) ∈ ST) (hk : sx_sk dS = k + 3) (hrow : sx_row M.2.1 pc = some (pc, .ldc (k + 1), 2)) (kk : zW D Wm ST b0 l Sg M bud X (pc + 2) lv ((4, (a : Int)) :: st) μ) : zW D Wm ST b0 l Sg M bud X pc lv st μ := by
  intro p e R s m args below meth c Q H locs ls stk hF hP K
  obtain ⟨hx, hb, hml, hown', hts⟩ := id hF.1
  refine va_ldcS hx hb (own := own) (by rw [← hown]; exact hown') (sx_ZS_tx hF.2.2.2.2.2.2.2.2.2.2 hz hk).1 (pm_row hK hm hrow) ?_
  obtain ⟨hH, hM, hV, hL, hS⟩ := hP
  exact kk p e R s m args below meth c Q H locs ls _ hF ⟨hH, hM, hV, hL, ⟨Or.inr (Or.inr (Or.inr (Or.inr ⟨rfl, rfl⟩))), hS⟩⟩ K
theorem zp_len (hK : zKK ST) (hm : pm_m zMT zCDs M d) (hk : zSTk ST) (ha : zTxa ST a tx) {n : Int} (hn : (Int32.ofNat (sx_tb tx).length).toInt = n) {own : String} (hown : M.1.1.cls = own) {idx : Nat} {q5 : zQ5} (hl : zkM zJT own "" (idx, 0, 0, 0) q5 = true) (hrow : sx_row M.2.1 pc = some (pc, .invokevirtual idx, 3)) (hcs : pm_cs st ≤ 8) (hb : 2 ≤ bud.1 ∧ 40 ≤ bud.2.1)
    (kk : zW D Wm ST b0 l Sg M bud X (pc + 3) lv ((0, n) :: st) μ) : zW D Wm ST b0 l Sg M bud X pc lv ((4, (a : Int)) :: st) μ := by
  intro p e R s m args below meth c Q H locs ls stk hF hP K
  obtain ⟨hH, hM, hV, hL, hS⟩ := hP
  obtain ⟨w, t, rfl, h1, h2⟩ := pm_S_cons hS
  obtain rfl : w = .ref a := pm_v_adr h1 rfl
  have htx := zTxa_tx hF ha
  have hml := (zkM_ok zJcd hF.1.2.2.2.2 hl zJm0 (show sx_at2 zJT 0 = some zJm0 from rfl)).1
  rw [← hown] at hml
  refine jd_call (M := zJm0) (bf := 1) (bl := 20) (q := (idx, 0, 0, 0)) (vs := [.ref a]) (rest := t) zJk0 zJc0 hF hml (pm_row hK hm hrow) rfl (Nat.le_of_ble_eq_true rfl) (by rw [pm_cs_ok h2]; exact hcs) hb.1 hb.2 (fun h => by cases h) (Nat.zero_le _) (Nat.zero_le _) (fun _ => ?_) (fun _ _ _ => trivial) (fun _ _ _ _ _ => trivial) hV hL.1 (jc_len hk ha) (fun vo locs2 hV2 hp => ?_)
  · obtain ⟨cell, c1, c2, c3, -⟩ := htx.1.kept hV.2.1
    exact ⟨a, [], rfl, cell, c1, c2, c3⟩
  · subst hp
    exact kk p e R s m args below meth c Q H locs2 ls _ hF ⟨hH, hM, hV2, hL, ⟨Or.inl ⟨rfl, _, rfl, hn⟩, h2⟩⟩ K
theorem zp_chr (hK : zKK ST) (hm : pm_m zMT zCDs M d) (hk : zSTk ST) (ha : zTxa ST a tx) (hn : (sx_tb tx).length < 2 ^ 31) {k v : Int} (h0 : 0 ≤ k) (h1 : k < (sx_tb tx).length) (hc : ∀ y : Int32, y.toInt = k → narrow .char (.int (zch tx y)) = .int (zch tx y) ∧ (zch tx y).toInt = v) {own : String} (hown : M.1.1.cls = own) {idx : Nat} {q5 : zQ5} (hl : zkM zJT own "" (idx, 0, 3, 1) q5 = true) (hrow : sx_row M.2.1 pc = some (pc, .invokevirtual idx, 3)) (hcs : pm_cs st ≤ 8) (hb : 4 ≤ bud.1 ∧ 85 ≤ bud.2.1)
    (kk : zW D Wm ST b0 l Sg M bud X (pc + 3) lv ((0, v) :: st) μ) : zW D Wm ST b0 l Sg M bud X pc lv ((0, k) :: (4, (a : Int)) :: st) μ := by
  intro p e R s m args below meth c Q H locs ls stk hF hP K
  obtain ⟨hH, hM, hV, hL, hS⟩ := hP
  obtain ⟨w0, t0, rfl, g1, g2⟩ := pm_S_cons hS
  obtain ⟨w, t, rfl, f1, f2⟩ := pm_S_cons g2
  obtain rfl : w = .ref a := pm_v_adr f1 rfl
  obtain ⟨y, rfl, hy⟩ := pm_v_int g1 rfl
  have hy : y.toInt = k := hy
  have htx := zTxa_tx hF ha
  obtain ⟨hc1, hc2⟩ := hc y hy
  have hml := (zkM_ok zJcd hF.1.2.2.2.2 hl zJm3 (show sx_at2 zJT 3 = some zJm3 from rfl)).1
  rw [← hown] at hml
  refine jd_call (M := zJm3) (bf := 3) (bl := 64) (q := (idx, 0, 3, 1)) (vs := [.ref a, .int y]) (rest := t) zJk3 zJc3 hF hml (pm_row hK hm hrow) rfl (Nat.le_of_ble_eq_true rfl) (by rw [pm_cs_ok f2]; exact hcs) hb.1 hb.2 (fun h => by cases h) (Nat.zero_le _) (Nat.zero_le _) (fun _ => ?_) (fun _ _ _ => trivial) (fun _ _ _ _ _ => trivial) hV hL.1 (jc_chr hk ha hn (by omega) (by omega) hc1) (fun vo locs2 hV2 hp => ?_)
  · obtain ⟨cell, c1, c2, c3, -⟩ := htx.1.kept hV.2.1
    exact ⟨a, [.int y], rfl, cell, c1, c2, c3⟩
  · subst hp
    exact kk p e R s m args below meth c Q H locs2 ls _ hF ⟨hH, hM, hV2, hL, ⟨Or.inl ⟨rfl, _, rfl, hc2⟩, f2⟩⟩ K
end PTX
theorem zwt_n : (Int32.ofNat (sx_tb zWT).length).toInt = 145 := by rw [zwt_len]; decide
