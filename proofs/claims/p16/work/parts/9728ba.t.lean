/-! pm: longs -/
theorem zg_v_long {Sg : Nat → Option Nat} {a : pm_V} {v : Value} (h : pm_v Sg a v) (ha : a.1 = 1) : ∃ y : Int64, v = .long y ∧ y.toInt = a.2 := by
  rcases h with ⟨h1, -⟩ | ⟨-, h⟩ | ⟨h1, -⟩ | ⟨h1, -⟩ | ⟨h1, -⟩
  · omega
  · exact h
  all_goals omega
theorem zg_mk {Sg : Nat → Option Nat} {y : Int64} {x : Int} (h : y.toInt = x) : pm_v Sg (1, x) (.long y) := Or.inr (Or.inl ⟨rfl, y, rfl, h⟩)
def zg_in (z : Int) : Prop := -9223372036854775808 ≤ z ∧ z ≤ 9223372036854775807
theorem zg_mkin {z : Int} (h1 : -9223372036854775808 ≤ z) (h2 : z ≤ 9223372036854775807) : zg_in z := ⟨h1, h2⟩
theorem zg_of {n : Int} (h : zg_in n) : (Int64.ofInt n).toInt = n := by
  rw [Int64.toInt_ofInt]
  exact sx_bmod64 h.1 h.2
section PLG
variable {D : va_G} {Wm : Nat} {ST : List (String × String × String × Nat)} {b0 : sx_B} {l : Launch} {Sg : Nat → Option Nat} {M : sx_Me} {bud : sx_Bu} {X : Nat → List pm_V → List pm_V → pm_Mem → Prop} {pc : Nat} {lv st : List pm_V} {μ : pm_Mem} {d : sx_Da}
theorem zg_lconst (hK : zKK ST) (hm : pm_m zMT zCDs M d) {n : Fin 2} (h : sx_row M.2.1 pc = some (pc, .lconst n, 1)) (kk : zW D Wm ST b0 l Sg M bud X (pc + 1) lv ((1, ((n : Nat) : Int)) :: st) μ) : zW D Wm ST b0 l Sg M bud X pc lv st μ := by
  intro p e R s m args below meth c Q H locs ls stk hF hP K
  obtain ⟨hx, hb, -, -, -⟩ := id hF.1
  obtain ⟨hH, hM, hV, hL, hS⟩ := hP
  refine lv_lconst hx hb (pm_row hK hm h) rfl ?_
  have e9 : (Int64.ofNat (n : Nat)).toInt = ((n : Nat) : Int) := by
    have := n.isLt
    rcases (show (n : Nat) = 0 ∨ (n : Nat) = 1 by omega) with q | q <;> rw [q] <;> decide
  exact kk p e R s m args below meth c Q H locs ls _ hF ⟨hH, hM, hV, hL, ⟨zg_mk e9, hS⟩⟩ K
theorem zg_ldc2 (hK : zKK ST) (hm : pm_m zMT zCDs M d) {k : Nat} {n : Int} (h : sx_row M.2.1 pc = some (pc, .ldc2_w k, 3)) (hk : (k, n) ∈ d.2.1.2.1) (hn : zg_in n) (kk : zW D Wm ST b0 l Sg M bud X (pc + 3) lv ((1, n) :: st) μ) : zW D Wm ST b0 l Sg M bud X pc lv st μ := by
  intro p e R s m args below meth c Q H locs ls stk hF hP K
  have hp := hK.1
  obtain ⟨hg, hcl, hRT, hCJ, hai, hal, hMT, hDA⟩ := hp
  have hdn := (hMT M hm.1).2.2.2.1 d hm.2
  obtain ⟨hcd, -⟩ := hDA d (List.mem_of_getElem? hm.2) args s hF.1.2.2.2.2 hF.2.1.2.1
  rw [hdn] at hcd
  obtain ⟨-, cd2, -, -, -⟩ := hcd
  obtain ⟨hx, hb, -, hown, -⟩ := id hF.1
  obtain ⟨hH, hM, hV, hL, hS⟩ := hP
  refine lv_ldc2 hx hb hown (cd2 _ hk) (pm_row hK hm h) ?_
  exact kk p e R s m args below meth c Q H locs ls _ hF ⟨hH, hM, hV, hL, ⟨zg_mk (zg_of hn), hS⟩⟩ K
theorem zg_i2l (hK : zKK ST) (hm : pm_m zMT zCDs M d) {x : Int} (h : sx_row M.2.1 pc = some (pc, .i2l, 1)) (kk : zW D Wm ST b0 l Sg M bud X (pc + 1) lv ((1, x) :: st) μ) : zW D Wm ST b0 l Sg M bud X pc lv ((0, x) :: st) μ := by
  intro p e R s m args below meth c Q H locs ls stk hF hP K
  obtain ⟨hx, hb, -, -, -⟩ := id hF.1
  obtain ⟨hH, hM, hV, hL, hS⟩ := hP
  obtain ⟨v, t, rfl, k1, k2⟩ := pm_S_cons hS
  obtain ⟨y, rfl, hy⟩ := pm_v_int k1 rfl
  have hy : y.toInt = x := hy
  refine lv_i2l hx hb (pm_row hK hm h) rfl ?_
  exact kk p e R s m args below meth c Q H locs ls _ hF ⟨hH, hM, hV, hL, ⟨zg_mk (by rw [Int32.toInt_toInt64]; exact hy), k2⟩⟩ K
theorem zg_l2i (hK : zKK ST) (hm : pm_m zMT zCDs M d) {x : Int} (hx32 : pm_in x) (h : sx_row M.2.1 pc = some (pc, .l2i, 1)) (kk : zW D Wm ST b0 l Sg M bud X (pc + 1) lv ((0, x) :: st) μ) : zW D Wm ST b0 l Sg M bud X pc lv ((1, x) :: st) μ := by
  intro p e R s m args below meth c Q H locs ls stk hF hP K
  obtain ⟨hx, hb, -, -, -⟩ := id hF.1
  obtain ⟨hH, hM, hV, hL, hS⟩ := hP
  obtain ⟨v, t, rfl, k1, k2⟩ := pm_S_cons hS
  obtain ⟨y, rfl, hy⟩ := zg_v_long k1 rfl
  have hy : y.toInt = x := hy
  refine lv_l2i hx hb (pm_row hK hm h) rfl ?_
  refine kk p e R s m args below meth c Q H locs ls _ hF ⟨hH, hM, hV, hL, ⟨Or.inl ⟨rfl, _, rfl, ?_⟩, k2⟩⟩ K
  rw [Int64.toInt_toInt32, hy]
  exact sx_bmod32 hx32.1 hx32.2
theorem zg_ladd (hK : zKK ST) (hm : pm_m zMT zCDs M d) {x y : Int} (hz : zg_in (x + y)) (h : sx_row M.2.1 pc = some (pc, .ladd, 1)) (kk : zW D Wm ST b0 l Sg M bud X (pc + 1) lv ((1, x + y) :: st) μ) : zW D Wm ST b0 l Sg M bud X pc lv ((1, y) :: (1, x) :: st) μ := by
  intro p e R s m args below meth c Q H locs ls stk hF hP K
  obtain ⟨hx, hb, -, -, -⟩ := id hF.1
  obtain ⟨hH, hM, hV, hL, hS⟩ := hP
  obtain ⟨v, t, rfl, k1, k2⟩ := pm_S_cons hS
  obtain ⟨w, t2, rfl, k3, k4⟩ := pm_S_cons k2
  obtain ⟨a, rfl, ha⟩ := zg_v_long k1 rfl
  obtain ⟨b, rfl, hb2⟩ := zg_v_long k3 rfl
  have ha : a.toInt = y := ha
  have hb2 : b.toInt = x := hb2
  refine lv_ladd hx hb (pm_row hK hm h) ?_
  exact kk p e R s m args below meth c Q H locs ls _ hF ⟨hH, hM, hV, hL, ⟨zg_mk (by rw [Int64.toInt_add, ha, hb2]; exact sx_bmod64 hz.1 hz.2), k4⟩⟩ K
theorem zg_lmul (hK : zKK ST) (hm : pm_m zMT zCDs M d) {x y : Int} (hz : zg_in (x * y)) (h : sx_row M.2.1 pc = some (pc, .lmul, 1)) (kk : zW D Wm ST b0 l Sg M bud X (pc + 1) lv ((1, x * y) :: st) μ) : zW D Wm ST b0 l Sg M bud X pc lv ((1, y) :: (1, x) :: st) μ := by
  intro p e R s m args below meth c Q H locs ls stk hF hP K
  obtain ⟨hx, hb, -, -, -⟩ := id hF.1
  obtain ⟨hH, hM, hV, hL, hS⟩ := hP
  obtain ⟨v, t, rfl, k1, k2⟩ := pm_S_cons hS
  obtain ⟨w, t2, rfl, k3, k4⟩ := pm_S_cons k2
  obtain ⟨a, rfl, ha⟩ := zg_v_long k1 rfl
  obtain ⟨b, rfl, hb2⟩ := zg_v_long k3 rfl
  have ha : a.toInt = y := ha
  have hb2 : b.toInt = x := hb2
  refine lv_lmul hx hb (pm_row hK hm h) ?_
  exact kk p e R s m args below meth c Q H locs ls _ hF ⟨hH, hM, hV, hL, ⟨zg_mk (by rw [Int64.toInt_mul, ha, hb2]; exact sx_bmod64 hz.1 hz.2), k4⟩⟩ K
theorem zg_dv {a b : Int64} {x y : Int} (ha : a.toInt = y) (hb2 : b.toInt = x) (h0 : 0 ≤ x) (h1 : 1 ≤ y) : (b / a).toInt = x / y := by
  rw [Int64.toInt_div_of_ne_right _ _ (fun q => by
    have e := congrArg Int64.toInt q
    rw [ha, show (-1 : Int64).toInt = -1 by decide] at e
    omega), hb2, ha]
  exact Int.tdiv_eq_ediv_of_nonneg h0
theorem zg_ldiv (hK : zKK ST) (hm : pm_m zMT zCDs M d) {x y : Int} (h0 : 0 ≤ x) (h1 : 1 ≤ y) (h : sx_row M.2.1 pc = some (pc, .ldiv, 1)) (kk : zW D Wm ST b0 l Sg M bud X (pc + 1) lv ((1, x / y) :: st) μ) : zW D Wm ST b0 l Sg M bud X pc lv ((1, y) :: (1, x) :: st) μ := by
  intro p e R s m args below meth c Q H locs ls stk hF hP K
  obtain ⟨hx, hb, -, -, -⟩ := id hF.1
  obtain ⟨hH, hM, hV, hL, hS⟩ := hP
  obtain ⟨v, t, rfl, k1, k2⟩ := pm_S_cons hS
  obtain ⟨w, t2, rfl, k3, k4⟩ := pm_S_cons k2
  obtain ⟨a, rfl, ha⟩ := zg_v_long k1 rfl
  obtain ⟨b, rfl, hb2⟩ := zg_v_long k3 rfl
  have ha : a.toInt = y := ha
  have hb2 : b.toInt = x := hb2
  refine lv_ldiv hx hb (pm_row hK hm h) (fun q => by
    have e := congrArg Int64.toInt q
    rw [ha, show (0 : Int64).toInt = 0 by decide] at e
    omega) ?_
  exact kk p e R s m args below meth c Q H locs ls _ hF ⟨hH, hM, hV, hL, ⟨zg_mk (zg_dv ha hb2 h0 h1), k4⟩⟩ K
theorem zg_lrem (hK : zKK ST) (hm : pm_m zMT zCDs M d) {x y : Int} (h0 : 0 ≤ x) (h1 : 1 ≤ y) (h : sx_row M.2.1 pc = some (pc, .lrem, 1)) (kk : zW D Wm ST b0 l Sg M bud X (pc + 1) lv ((1, x % y) :: st) μ) : zW D Wm ST b0 l Sg M bud X pc lv ((1, y) :: (1, x) :: st) μ := by
  intro p e R s m args below meth c Q H locs ls stk hF hP K
  obtain ⟨hx, hb, -, -, -⟩ := id hF.1
  obtain ⟨hH, hM, hV, hL, hS⟩ := hP
  obtain ⟨v, t, rfl, k1, k2⟩ := pm_S_cons hS
  obtain ⟨w, t2, rfl, k3, k4⟩ := pm_S_cons k2
  obtain ⟨a, rfl, ha⟩ := zg_v_long k1 rfl
  obtain ⟨b, rfl, hb2⟩ := zg_v_long k3 rfl
  have ha : a.toInt = y := ha
  have hb2 : b.toInt = x := hb2
  have hlo := Int64.le_toInt b
  have hhi := Int64.toInt_lt b
  rw [hb2] at hlo hhi
  refine lv_lrem hx hb (pm_row hK hm h) (fun q => by
    have e := congrArg Int64.toInt q
    rw [ha, show (0 : Int64).toInt = 0 by decide] at e
    omega) ?_
  refine kk p e R s m args below meth c Q H locs ls _ hF ⟨hH, hM, hV, hL, ⟨zg_mk ?_, k4⟩⟩ K
  have e1 := Int.emod_add_mul_ediv x y
  have e2 := Int.emod_nonneg x (show y ≠ 0 by omega)
  have e3 : 0 ≤ y * (x / y) := Int.mul_nonneg (by omega) (Int.ediv_nonneg h0 (by omega))
  have e4 : Int.bmod (y * (x / y)) (2 ^ 64) = y * (x / y) := sx_bmod64 (by omega) (by omega)
  rw [Int64.toInt_sub, Int64.toInt_mul, zg_dv ha hb2 h0 h1, ha, hb2, Int.mul_comm (x / y) y, e4, sx_bmod64 (by omega) (by omega)]
  omega
theorem zg_lcmp (hK : zKK ST) (hm : pm_m zMT zCDs M d) {x y : Int} (h : sx_row M.2.1 pc = some (pc, .lcmp, 1)) (kk : ∀ z : Int, (x < y ∧ z = -1) ∨ (x = y ∧ z = 0) ∨ (y < x ∧ z = 1) → zW D Wm ST b0 l Sg M bud X (pc + 1) lv ((0, z) :: st) μ) : zW D Wm ST b0 l Sg M bud X pc lv ((1, y) :: (1, x) :: st) μ := by
  intro p e R s m args below meth c Q H locs ls stk hF hP K
  obtain ⟨hx, hb, -, -, -⟩ := id hF.1
  obtain ⟨hH, hM, hV, hL, hS⟩ := hP
  obtain ⟨v, t, rfl, k1, k2⟩ := pm_S_cons hS
  obtain ⟨w, t2, rfl, k3, k4⟩ := pm_S_cons k2
  obtain ⟨a, rfl, ha⟩ := zg_v_long k1 rfl
  obtain ⟨b, rfl, hb2⟩ := zg_v_long k3 rfl
  have ha : a.toInt = y := ha
  have hb2 : b.toInt = x := hb2
  refine W.lcmp hx hb (pm_row hK hm h) ?_
  have e1 : (1 : Int32).toInt = 1 := by decide
  have e2 : (-1 : Int32).toInt = -1 := by decide
  have e3 : (0 : Int32).toInt = 0 := by decide
  have hz : (x < y ∧ (lg_cmp b a).toInt = -1) ∨ (x = y ∧ (lg_cmp b a).toInt = 0) ∨ (y < x ∧ (lg_cmp b a).toInt = 1) := by
    rcases (show x < y ∨ x = y ∨ y < x by omega) with q | q | q
    · have hn : ¬ a < b := fun r => by have := Int64.lt_iff_toInt_lt.mp r; omega
      have hne : ¬ b = a := fun r => by rw [r] at hb2; omega
      exact Or.inl ⟨q, by rw [show lg_cmp b a = -1 from by simp [lg_cmp, hn, hne]]; exact e2⟩
    · have he : b = a := Int64.toInt_inj.mp (by omega)
      subst he
      have hn : ¬ b < b := fun r => by have := Int64.lt_iff_toInt_lt.mp r; omega
      exact Or.inr (Or.inl ⟨q, by rw [show lg_cmp b b = 0 from by simp [lg_cmp, hn]]; exact e3⟩)
    · have hlt : a < b := Int64.lt_iff_toInt_lt.mpr (by omega)
      exact Or.inr (Or.inr ⟨q, by rw [show lg_cmp b a = 1 from by simp [lg_cmp, hlt]]; exact e1⟩)
  exact kk _ hz p e R s m args below meth c Q H locs ls _ hF ⟨hH, hM, hV, hL, ⟨Or.inl ⟨rfl, _, rfl, rfl⟩, k4⟩⟩ K
theorem zg_lload (hK : zKK ST) (hm : pm_m zMT zCDs M d) {i : Fin 4} {x : Int} (h : sx_row M.2.1 pc = some (pc, .lload_n i, 1)) (hl : lv[(i : Nat)]? = some (1, x)) (kk : zW D Wm ST b0 l Sg M bud X (pc + 1) lv ((1, x) :: st) μ) : zW D Wm ST b0 l Sg M bud X pc lv st μ := by
  intro p e R s m args below meth c Q H locs ls stk hF hP K
  obtain ⟨hx, hb, -, -, -⟩ := id hF.1
  obtain ⟨hH, hM, hV, hL, hS⟩ := hP
  obtain ⟨v, v1, v2⟩ := hL.2.2 _ _ hl (by show (1 : Nat) ≠ 9; decide)
  obtain ⟨y, rfl, hy⟩ := zg_v_long v1 rfl
  refine lv_lload_n hx hb (pm_row hK hm h) rfl v2 ?_
  exact kk p e R s m args below meth c Q H locs ls _ hF ⟨hH, hM, hV, hL, ⟨v1, hS⟩⟩ K
theorem zg_lald (hK : zKK ST) (hm : pm_m zMT zCDs M d) {r : Nat} {i : Int} {g : sx_Rg} (hg : zRT2 r = some g) (hg2 : g.1 = 2) (hft : ∀ k : Nat, ∀ t, sx_ft g k = some t → t.1 = 1) {Nn : Nat} (hN : g.2.1 = Nn) (hi : 0 ≤ i ∧ i < (Nn : Int)) (hrow : sx_row M.2.1 pc = some (pc, .laload, 1)) (kk : zW D Wm ST b0 l Sg M bud X (pc + 1) lv ((1, μ r i) :: st) μ) : zW D Wm ST b0 l Sg M bud X pc lv ((0, i) :: (2, (r : Int)) :: st) μ := by
  intro p e R s m args below meth c Q H locs ls stk hF hP K
  rw [← hN] at hi
  obtain ⟨hH, hM, hV, hL, hS⟩ := hP
  obtain ⟨v1, t1, rfl, w1, s1⟩ := pm_S_cons hS
  obtain ⟨v2, t2, rfl, w2, s2⟩ := pm_S_cons s1
  obtain ⟨x, rfl, hx⟩ := pm_v_int w1 rfl
  obtain ⟨a, rfl, ha⟩ := pm_v_ref w2 rfl
  have hx : x.toInt = i := hx
  have ha : Sg a = some r := ha
  obtain ⟨cell, c1, c2, c3, -, -⟩ := pm_cell hH ha hg
  have g0 : g.1 ≠ 0 := by omega
  have hwd : sx_wd g = g.2.1 := by unfold sx_wd; rw [if_neg g0]
  have hcn : x.toNatClampNeg = x.toInt.toNat := rfl
  have hk : x.toNatClampNeg < sx_wd g := by rw [hwd, hcn]; omega
  obtain ⟨u, t0, e1, e2, e3⟩ := c3 _ hk
  have ht := hft _ _ e2
  obtain ⟨u', u1, u2⟩ := hM a r g cell _ t0 ha hg c1 hk e2 (by omega)
  rw [e1] at u1
  cases u1
  rw [sx_sl1 g0] at e1
  rw [ht, show ((x.toNatClampNeg : Nat) : Int) = i by omega] at u2
  exact sx_Wald hF.1 (Or.inr (Or.inl ⟨rfl, hg2⟩)) c1 c2 (by omega) (by omega) e1 (pm_row hK hm hrow) (kk p e R s m args below meth c Q H locs ls _ hF ⟨hH, hM, hV, hL, ⟨u2, s2⟩⟩ K)
theorem zg_alen (hK : zKK ST) (hm : pm_m zMT zCDs M d) {r : Nat} {g : sx_Rg} (hg : zRT2 r = some g) (hg2 : g.1 = 2) {Nn : Nat} (hN : g.2.1 = Nn) (hNn : Nn < 2147483648) (hrow : sx_row M.2.1 pc = some (pc, .arraylength, 1)) (kk : zW D Wm ST b0 l Sg M bud X (pc + 1) lv ((0, (Nn : Int)) :: st) μ) : zW D Wm ST b0 l Sg M bud X pc lv ((2, (r : Int)) :: st) μ := by
  intro p e R s m args below meth c Q H locs ls stk hF hP K
  obtain ⟨hx, hb, -, hown, -⟩ := id hF.1
  obtain ⟨hH, hM, hV, hL, hS⟩ := hP
  obtain ⟨v1, t1, rfl, w1, s1⟩ := pm_S_cons hS
  obtain ⟨a, rfl, ha⟩ := pm_v_ref w1 rfl
  have ha : Sg a = some r := ha
  obtain ⟨cell, c1, c2, c3, -, -⟩ := pm_cell hH ha hg
  rcases c2 with ⟨q2, -⟩ | ⟨q2, q3, q4, q5, q6⟩
  · omega
  · exact W.alen (n := Int32.ofNat g.2.1) hx hb c1 q3 q6.1 rfl rfl (pm_row hK hm hrow) (kk p e R s m args below meth c Q H locs ls _ hF ⟨hH, hM, hV, hL, ⟨Or.inl ⟨rfl, _, rfl, by rw [hN]; exact Int32.toInt_ofNat_of_lt hNn⟩, s1⟩⟩ K)
theorem zg_last (hK : zKK ST) (hm : pm_m zMT zCDs M d) {r : Nat} {i x : Int} {g : sx_Rg} (hg : zRT2 r = some g) (hg2 : g.1 = 2) (hc3 : g.2.2.1 = 0) (hft : ∀ k : Nat, ∀ t, sx_ft g k = some t → t.1 = 1) (hb : sx_bit Wm r = true) {Nn : Nat} (hN : g.2.1 = Nn) (hi : 0 ≤ i ∧ i < (Nn : Int)) (hrow : sx_row M.2.1 pc = some (pc, .lastore, 1)) (kk : zW D Wm ST b0 l Sg M bud X (pc + 1) lv st (pm_up μ r i x)) : zW D Wm ST b0 l Sg M bud X pc lv ((1, x) :: (0, i) :: (2, (r : Int)) :: st) μ := by
  intro p e R s m args below meth c Q H locs ls stk hF hP K
  rw [← hN] at hi
  obtain ⟨hH, hM, hV, hL, hS⟩ := hP
  obtain ⟨v0, t0, rfl, w0, s0⟩ := pm_S_cons hS
  obtain ⟨v1, t1, rfl, w1, s1⟩ := pm_S_cons s0
  obtain ⟨v2, t2, rfl, w2, s2⟩ := pm_S_cons s1
  obtain ⟨z, rfl, hz⟩ := zg_v_long w0 rfl
  obtain ⟨y, rfl, hy⟩ := pm_v_int w1 rfl
  obtain ⟨a, rfl, ha⟩ := pm_v_ref w2 rfl
  have hy : y.toInt = i := hy
  have ha : Sg a = some r := ha
  obtain ⟨cell, k4, k5, k6, k7, -⟩ := pm_cell hH ha hg
  have g0 : g.1 ≠ 0 := by omega
  have hwd : sx_wd g = g.2.1 := by unfold sx_wd; rw [if_neg g0]
  have hcn : y.toNatClampNeg = y.toInt.toNat := rfl
  have hk : y.toNatClampNeg < sx_wd g := by rw [hwd, hcn]; omega
  obtain ⟨u, t9, e1, e2, e3⟩ := k6 _ hk
  have ht := hft _ _ e2
  have hap : ∀ x y, x < sx_wd g → y < sx_wd g → x ≠ y → sx_sl D g x ≠ sx_sl D g y := fun x y _ _ hne => by rw [sx_sl1 g0, sx_sl1 g0]; exact hne
  obtain ⟨hxx, hb0, -, hown, -⟩ := id hF.1
  rcases id k5 with ⟨q2, -⟩ | ⟨q2, q3, q4, q5, q6⟩
  · exact absurd q2 g0
  · have haa : sx_aty zCl g = .long := by unfold sx_aty; rw [if_neg (by omega), if_pos hg2]
    rw [haa] at q3
    obtain ⟨f1, -, -⟩ := sx_idx (x := y) (n := g.2.1) (by omega) (by omega) q5
    refine W.last hxx hb0 k4 q3 q4 f1 rfl rfl (pm_row hK hm hrow) (fun H' h1 h2 h3 => ?_)
    obtain ⟨x1, x2⟩ := pm_write (x := x) (v := .long z) hH hM ha hg k4 hk e2 (by omega) (by rw [ht]; exact zg_mk hz) hap (by rw [sx_sl1 g0]; exact h1) h3
    rw [show ((y.toNatClampNeg : Nat) : Int) = i by omega] at x2
    exact kk p e R s m args below meth c Q H' _ ls _ hF ⟨x1, x2, hV.put h2 h3 (k7 hb hc3), hL, s2⟩ K
end PLG
/-! a call with longs among what is handed over; a long handed back -/
def zg_rv (ret : Option FieldType) (i : Instr) (st : List pm_V) : Prop := pm_rv ret i st ∨ (i = .lreturn ∧ ret = some .long ∧ ∃ x, st = [(1, x)])
theorem zg_rv_ok {Sg : Nat → Option Nat} {ret : Option FieldType} {i : Instr} {st : List pm_V} {stk : List Value} (h : zg_rv ret i st) (hS : pm_S Sg st stk) : ∃ vo, stk = vo.toList ∧ sx_rv ret i vo := by
  rcases h with h | ⟨h1, h2, x, rfl⟩
  · exact pm_rv_ok h hS
  · obtain ⟨v, t, rfl, k1, k2⟩ := pm_S_cons hS
    obtain rfl := pm_S_nil k2
    obtain ⟨y, rfl, -⟩ := zg_v_long k1 rfl
    exact ⟨some (.long y), rfl, Or.inr (Or.inr (Or.inr (Or.inr ⟨h1, h2, y, rfl⟩)))⟩
def zg_X (M : sx_Me) (Post : List pm_V → pm_Mem → Prop) : Nat → List pm_V → List pm_V → pm_Mem → Prop := fun pc _ st μ => (∃ i, sx_row M.2.1 pc = some (pc, i, 1) ∧ zg_rv M.1.2.2.2 i st) ∧ Post st μ
def zg_fl (as : List pm_V) : List pm_V := as.flatMap (fun a => if a.1 = 1 then [a, (9, 0)] else [a])
def zg_ent (nL : Nat) (as : List pm_V) : List pm_V := zg_fl as ++ List.replicate (nL - (zg_fl as).length) (9, 0)
theorem zg_fl_len {Sg : Nat → Option Nat} : ∀ {as : List pm_V} {vs : List Value}, pm_S Sg as vs → (lg_sl vs).length = (zg_fl as).length
  | [], [], _ => rfl
  | a :: as, v :: vs, h => by
    have hc := pm_cat h.1
    have ih := zg_fl_len h.2
    unfold lg_sl zg_fl at ih ⊢
    simp only [List.flatMap_cons, List.length_append, List.length_cons]
    rw [ih]
    by_cases h1 : a.1 = 1
    · rw [if_pos h1] at hc ⊢
      rw [if_pos (by omega)]
      simp only [List.length_cons, List.length_nil] <;> omega
    · rw [if_neg h1] at hc ⊢
      rw [if_neg (by omega)]
      simp only [List.length_cons, List.length_nil] <;> omega
  | [], _ :: _, h => h.elim
  | _ :: _, [], h => h.elim
theorem zg_lvargs {Sg : Nat → Option Nat} : ∀ {as : List pm_V} {vs : List Value} (i : Nat), pm_S Sg as vs → ∀ j a, (zg_fl as)[j]? = some a → a.1 ≠ 9 → ∃ v, pm_v Sg a v ∧ (i + j, v) ∈ lv_args i vs
  | [], [], i, _, j, a, hj, _ => by
    have : ([] : List pm_V)[j]? = some a := hj
    simp at this
  | a :: as, v :: vs, i, h, j, b, hj, hb => by
    have hc := pm_cat h.1
    have hj : ((if a.1 = 1 then [a, (9, 0)] else [a]) ++ zg_fl as)[j]? = some b := hj
    by_cases h1 : a.1 = 1
    · rw [if_pos h1] at hj hc
      match j, hj with
      | 0, hj =>
        simp at hj
        subst hj
        exact ⟨v, h.1, List.mem_cons_self⟩
      | 1, hj =>
        simp at hj
        rw [← hj] at hb
        exact absurd rfl hb
      | j + 2, hj =>
        have hj : (zg_fl as)[j]? = some b := by simpa using hj
        obtain ⟨w, w1, w2⟩ := zg_lvargs (i + 2) h.2 j b hj hb
        refine ⟨w, w1, List.mem_cons_of_mem _ ?_⟩
        rw [if_pos (by omega), show i + (j + 2) = i + 2 + j by omega]
        exact w2
    · rw [if_neg h1] at hj hc
      match j, hj with
      | 0, hj =>
        simp at hj
        subst hj
        exact ⟨v, h.1, List.mem_cons_self⟩
      | j + 1, hj =>
        have hj : (zg_fl as)[j]? = some b := by simpa using hj
        obtain ⟨w, w1, w2⟩ := zg_lvargs (i + 1) h.2 j b hj hb
        refine ⟨w, w1, List.mem_cons_of_mem _ ?_⟩
        rw [if_neg (by omega), show i + (j + 1) = i + 1 + j by omega]
        exact w2
  | [], _ :: _, i, h, _, _, _, _ => h.elim
  | _ :: _, [], i, h, _, _, _, _ => h.elim
theorem zg_entL {Sg : Nat → Option Nat} {nL : Nat} {as : List pm_V} {vs : List Value} {ls : Array Slot} (h : pm_S Sg as vs) (hl : lv_has ls nL (lv_args 0 vs)) : pm_L Sg nL (zg_ent nL as) ls := by
  refine ⟨hl.1, hl.2.1, fun i a hi ha => ?_⟩
  unfold zg_ent at hi
  by_cases hlt : i < (zg_fl as).length
  · rw [List.getElem?_append_left hlt] at hi
    obtain ⟨v, v1, v2⟩ := zg_lvargs 0 h i a hi ha
    rw [Nat.zero_add] at v2
    exact ⟨v, v1, hl.2.2 _ v2⟩
  · rw [List.getElem?_append_right (by omega)] at hi
    have := List.mem_of_getElem? hi
    obtain ⟨-, rfl⟩ := List.mem_replicate.mp this
    exact absurd rfl ha
noncomputable def zg_cok (RT : Nat → Option sx_Rg) (q : sx_Ml) (M' : sx_Me) (as rest : List pm_V) : Bool :=
  sx_ab (Nat.beq as.length (q.2.2.2 + (if q.2.1 = 1 then 0 else 1))) (sx_ab (Nat.ble (zg_fl as).length M'.1.2.2.1) (sx_ab (Nat.ble (pm_cs rest) 8) (sx_ab (Nat.beq M'.2.2.1.2.2.1 0) (sx_ab (Nat.beq M'.2.2.1.2.2.2.1 0) (pm_rcv RT q.2.1 M'.2.2.1.2.2.2.2 as)))))
section ZGC
variable {D : va_G} {cl : List vw_C} {RT : Nat → Option sx_Rg} {Wm : Nat} {AO : sx_Ao} {TB : List Cond} {CJ : List (List Nat)} {MT : List (List sx_Me)} {CDs : List sx_Da} {b0 : sx_B} {l : Launch} {Sg : Nat → Option Nat} {M : sx_Me} {bud : sx_Bu} {X : Nat → List pm_V → List pm_V → pm_Mem → Prop} {pc : Nat} {lv st : List pm_V} {μ : pm_Mem} {d : sx_Da}
theorem zg_call (hK : pm_K cl RT CJ AO TB MT CDs) (hm : pm_m MT CDs M d) (q : sx_Ml) (M' : sx_Me) (bc : Nat × Nat) (as rest : List pm_V) {Post : List pm_V → pm_Mem → Prop} (hq : sx_fnd (fun x => Nat.beq x.1 q.1) d.2.2.1 = some q) (hrow : sx_row M.2.1 pc = some (pc, sx_inv q.2.1 q.1, 3)) (hM' : sx_at2 MT q.2.2.1 = some M') (hc : zg_cok RT q M' as rest = true) (hb : bc.1 + 1 ≤ bud.1 ∧ 19 + M'.1.2.2.1 + bc.2 ≤ bud.2.1)
    (hC : pm_W D cl RT Wm AO TB b0 l Sg M' (bc.1, bc.2, 0, 0) (zg_X M' Post) 0 (zg_ent M'.1.2.2.1 as) [] μ) (k : ∀ st' μ', Post st' μ' → pm_W D cl RT Wm AO TB b0 l Sg M bud X (pc + 3) lv (st' ++ rest) μ') : pm_W D cl RT Wm AO TB b0 l Sg M bud X pc lv (as.reverse ++ rest) μ := by
  intro p e R s m args below meth c Q H locs ls stk hF hP K
  obtain ⟨hH, hMm, hV, hL, hS⟩ := hP
  obtain ⟨t1, t2, rfl, g1, g2⟩ := pm_S_split hS
  generalize hvs : t1.reverse = vs
  have ht1 : t1 = vs.reverse := by rw [← hvs, List.reverse_reverse]
  subst ht1
  have gv : pm_S Sg as vs := by
    have := pm_S_rev g1
    rwa [List.reverse_reverse, List.reverse_reverse] at this
  unfold zg_cok at hc
  simp only [sx_ab_eq, Bool.and_eq_true] at hc
  obtain ⟨c1, c3, c4, c5, c6, c7⟩ := hc
  have c1 := Nat.eq_of_beq_eq_true c1
  have c3 := Nat.le_of_ble_eq_true c3
  have c4 := Nat.le_of_ble_eq_true c4
  have c5 := Nat.eq_of_beq_eq_true c5
  have c6 := Nat.eq_of_beq_eq_true c6
  have hM'm := sx_at2_mem hM'
  obtain ⟨hg, hcl, hRT, hCJ, hai, hal, hMT, hDA⟩ := hK.1
  have hdn := (hMT M hm.1).2.2.2.1 d hm.2
  obtain ⟨-, hml, -, -⟩ := hDA d (List.mem_of_getElem? hm.2) args s hF.1.2.2.2.2 hF.2.1.2.1
  obtain ⟨hmlk, mo3⟩ := hml q (sx_fnd_mem hq) M' hM'
  rw [hdn] at hmlk
  obtain ⟨hrv, hne2⟩ := pm_rcv_ok (q := q) hK hM'm hF.2.1 hH c7 gv
  refine pv_call3 (bc0 := b0) (RTc := pm_w (sx_fz Wm RT)) (bc := (bc.1, bc.2, M'.2.2.1.2.2.1, M'.2.2.1.2.2.2.1)) (post := fun vo H2 => ∃ st' μ', Post st' μ' ∧ pm_M D RT Sg μ' H2 ∧ pm_S Sg st' vo.toList) hg (hMT M' hM'm) mo3 hF hmlk (pm_row hK hm hrow) (by rw [pm_S_len gv]; exact c1) (by rw [zg_fl_len gv]; exact c3) (by rw [pm_cs_ok g2]; exact c4) hb.1 hb.2 rfl rfl (fun h => absurd h hne2) (by rw [c5]; exact Nat.zero_le _) (by rw [c6]; exact Nat.zero_le _) hrv
    (fun a ha => ha) (fun a ha => hF.2.2.1 a (Nat.le_trans hV.1 ha)) (fun U hU => hU) (fun U U2 H2 _ h2 => h2) hH hV hL.1 ?_ (fun vo H2 locs2 hH2 hV2 hfr hres => ?_)
  · intro p' e' R' s' m' args' below' meth' c' Q' ls' hF' hh' hH' hl' K'
    rw [c5, c6] at hF'
    refine hC p' e' R' s' m' args' below' meth' c' Q' H [] ls' [] hF' ⟨hH', hMm, by rw [hh']; exact va_S.rf, zg_entL gv hl', trivial⟩ (fun pc' lv' st' μ' H' locs' ls'' stk' hX hP' => ?_)
    obtain ⟨⟨i, i1, i2⟩, hpost⟩ := hX
    obtain ⟨vo, rfl, hrv'⟩ := zg_rv_ok i2 hP'.2.2.2.2
    exact K' vo H' locs' i pc' ls'' hP'.1 hP'.2.2.1 ⟨st', μ', hpost, hP'.2.1, hP'.2.2.2.2⟩ hrv' (pv_row (hMT M' hM'm).1 i1)
  · obtain ⟨st', μ', q1, q2, q3⟩ := hres
    rw [c5, c6]
    exact k st' μ' q1 p e R s m args below meth c Q H2 locs2 ls _ hF ⟨hH2, q2, hV2, hL, pm_S_join q3 g2⟩ K
end ZGC
theorem zg_ft {g : sx_Rg} (g0 : g.1 ≠ 0) (h : ∀ t ∈ g.2.2.2, t.1 = 1) : ∀ (k : Nat) (t : sx_Ty), sx_ft g k = some t → t.1 = 1 := fun k t hk => by
  unfold sx_ft at hk
  rw [if_neg g0] at hk
  exact h t (List.mem_of_getElem? hk)
theorem zg_lret {D : va_G} {cl : List vw_C} {RT : Nat → Option sx_Rg} {Wm : Nat} {AO : sx_Ao} {TB : List Cond} {b0 : sx_B} {l : Launch} {Sg : Nat → Option Nat} {M : sx_Me} {bud : sx_Bu} {pc : Nat} {lv : List pm_V} {μ : pm_Mem} {Post : List pm_V → pm_Mem → Prop} {x : Int} (h : sx_row M.2.1 pc = some (pc, .lreturn, 1)) (hr : M.1.2.2.2 = some .long) (hp : Post [(1, x)] μ) : pm_W D cl RT Wm AO TB b0 l Sg M bud (zg_X M Post) pc lv [(1, x)] μ := pm_exit ⟨⟨.lreturn, h, Or.inr ⟨rfl, hr, x, rfl⟩⟩, hp⟩
theorem zg_vret {D : va_G} {cl : List vw_C} {RT : Nat → Option sx_Rg} {Wm : Nat} {AO : sx_Ao} {TB : List Cond} {b0 : sx_B} {l : Launch} {Sg : Nat → Option Nat} {M : sx_Me} {bud : sx_Bu} {pc : Nat} {lv : List pm_V} {μ : pm_Mem} {Post : List pm_V → pm_Mem → Prop} (h : sx_row M.2.1 pc = some (pc, .return_, 1)) (hr : M.1.2.2.2 = none) (hp : Post [] μ) : pm_W D cl RT Wm AO TB b0 l Sg M bud (zg_X M Post) pc lv [] μ := pm_exit ⟨⟨.return_, h, Or.inl (Or.inr (Or.inr (Or.inl ⟨rfl, hr, rfl⟩)))⟩, hp⟩
/-- rows of longs, told to stand within bounds -/
noncomputable def zgk1 (g : sx_Rg) (lo hi : Int) (k : Nat) : Bool := Nat.blt k (sx_wd g) && (match sx_ft g k with
  | some t => Nat.beq t.1 1 && decide (t.2.1 = lo) && decide (t.2.2 = hi)
  | none => false)
noncomputable def zgk (r a n : Nat) (lo hi : Int) : Bool := match zRT2 r with
  | some g => Nat.blt r zNR && (List.range n).all (fun j => zgk1 g lo hi (a + j))
  | none => false
theorem zgk1_ok {g : sx_Rg} {lo hi : Int} {k : Nat} (h : zgk1 g lo hi k = true) : k < sx_wd g ∧ sx_ft g k = some (1, lo, hi) := by
  unfold zgk1 at h
  simp only [Bool.and_eq_true] at h
  obtain ⟨k1, k2⟩ := h
  refine ⟨Nat.blt_eq.mp k1, ?_⟩
  split at k2
  · rename_i t ht
    simp only [Bool.and_eq_true, decide_eq_true_eq] at k2
    obtain ⟨⟨e1, e2⟩, e3⟩ := k2
    have e1 := Nat.eq_of_beq_eq_true e1
    obtain ⟨t1, t2, t3⟩ := t
    have e1 : t1 = 1 := e1
    have e2 : t2 = lo := e2
    have e3 : t3 = hi := e3
    subst e1; subst e2; subst e3
    exact ht
  · cases k2
theorem zgk_ok {r a n : Nat} {lo hi : Int} (h : zgk r a n lo hi = true) : ∃ g, zRT2 r = some g ∧ r < zNR ∧ ∀ k, a ≤ k → k < a + n → k < sx_wd g ∧ sx_ft g k = some (1, lo, hi) := by
  unfold zgk at h
  split at h
  · rename_i g hg
    simp only [Bool.and_eq_true] at h
    refine ⟨g, hg, Nat.blt_eq.mp h.1, fun k h1 h2 => ?_⟩
    have := List.all_eq_true.mp h.2 (k - a) (List.mem_range.mpr (by omega))
    rw [show a + (k - a) = k by omega] at this
    exact zgk1_ok this
  · cases h
theorem zgTy_up {μ : pm_Mem} (hT : zTy μ) {r k : Nat} {g : sx_Rg} {lo hi i x : Int} (h1 : zRT2 r = some g) (h4 : sx_ft g k = some (1, lo, hi)) (h5 : i = (k : Int)) (h6 : lo ≤ x) (h7 : x ≤ hi) : zTy (pm_up μ r i x) := by
  subst h5
  intro r' g' k' t e1 e2 e3 e4 e5
  unfold pm_up
  split
  · rename_i hc
    obtain ⟨rfl, hk⟩ := hc
    rw [h1] at e2
    cases e2
    have : k' = k := by omega
    subst this
    rw [h4] at e4
    cases e4
    exact ⟨h6, h7⟩
  · exact hT r' g' k' t e1 e2 e3 e4 e5
theorem zgT_up {φ : Option pm_Mem} {μ : pm_Mem} (hT : zTJ φ μ) {r a n : Nat} {lo hi : Int} (h : zgk r a n lo hi = true) {i x : Int} (hg : zgdi r i = false) (h1 : (a : Int) ≤ i) (h2 : i < a + n) (h3 : lo ≤ x) (h4 : x ≤ hi) : zTJ φ (pm_up μ r i x) := by
  obtain ⟨g, g1, g2, g3⟩ := zgk_ok h
  obtain ⟨k1, k2⟩ := g3 i.toNat (by omega) (by omega)
  exact ⟨zgTy_up hT.1 g1 k2 (by omega) h3 h4, zJ_up hg hT.2⟩
/-- DIGIT, as it stands in its row -/
theorem zg_dig {φ : Option pm_Mem} {μ : pm_Mem} (hT : zTJ φ μ) {s : Int} (h0 : 0 ≤ s) (h8 : s < 8) : μ 0 s = ch_p s.toNat := by
  rcases (show s = 0 ∨ s = 1 ∨ s = 2 ∨ s = 3 ∨ s = 4 ∨ s = 5 ∨ s = 6 ∨ s = 7 by omega) with rfl | rfl | rfl | rfl | rfl | rfl | rfl | rfl
  · have h : (612220032 : Int) ≤ μ 0 (0 : Int) ∧ μ 0 (0 : Int) ≤ (612220032 : Int) := hT.1 0 zG250 0 (1, 612220032, 612220032) (by decide) rfl (by decide) rfl (by decide)
    show μ 0 0 = 612220032
    omega
  · have h : (34012224 : Int) ≤ μ 0 (1 : Int) ∧ μ 0 (1 : Int) ≤ (34012224 : Int) := hT.1 0 zG250 1 (1, 34012224, 34012224) (by decide) rfl (by decide) rfl (by decide)
    show μ 0 1 = 34012224
    omega
  · have h : (1889568 : Int) ≤ μ 0 (2 : Int) ∧ μ 0 (2 : Int) ≤ (1889568 : Int) := hT.1 0 zG250 2 (1, 1889568, 1889568) (by decide) rfl (by decide) rfl (by decide)
    show μ 0 2 = 1889568
    omega
  · have h : (104976 : Int) ≤ μ 0 (3 : Int) ∧ μ 0 (3 : Int) ≤ (104976 : Int) := hT.1 0 zG250 3 (1, 104976, 104976) (by decide) rfl (by decide) rfl (by decide)
    show μ 0 3 = 104976
    omega
  · have h : (5832 : Int) ≤ μ 0 (4 : Int) ∧ μ 0 (4 : Int) ≤ (5832 : Int) := hT.1 0 zG250 4 (1, 5832, 5832) (by decide) rfl (by decide) rfl (by decide)
    show μ 0 4 = 5832
    omega
  · have h : (324 : Int) ≤ μ 0 (5 : Int) ∧ μ 0 (5 : Int) ≤ (324 : Int) := hT.1 0 zG250 5 (1, 324, 324) (by decide) rfl (by decide) rfl (by decide)
    show μ 0 5 = 324
    omega
  · have h : (18 : Int) ≤ μ 0 (6 : Int) ∧ μ 0 (6 : Int) ≤ (18 : Int) := hT.1 0 zG250 6 (1, 18, 18) (by decide) rfl (by decide) rfl (by decide)
    show μ 0 6 = 18
    omega
  · have h : (1 : Int) ≤ μ 0 (7 : Int) ∧ μ 0 (7 : Int) ≤ (1 : Int) := hT.1 0 zG250 7 (1, 1, 1) (by decide) rfl (by decide) rfl (by decide)
    show μ 0 7 = 1
    omega
theorem ch_p_1 : ∀ s, 1 ≤ ch_p s
  | 0 => by decide
  | 1 => by decide
  | 2 => by decide
  | 3 => by decide
  | 4 => by decide
  | 5 => by decide
  | 6 => by decide
  | _ + 7 => by
    show 1 ≤ (1 : Int)
    decide
theorem ch_cp {c : Int} {k : Nat} (h : 0 ≤ c ∧ c ≤ 17) : 0 ≤ c * ch_p k ∧ c * ch_p k ≤ 10407740544 := by
  have h1 := ch_p_b k
  refine ⟨Int.mul_nonneg h.1 h1.1, ?_⟩
  have h2 : c * ch_p k ≤ 17 * ch_p k := Int.mul_le_mul_of_nonneg_right h.2 h1.1
  omega
