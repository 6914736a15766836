/-! pm: a reference out of an array of references -/
section PAL
variable {D : va_G} {Wm : Nat} {ST : List (String × String × String × Nat)} {b0 : sx_B} {l : Launch} {Sg : Nat → Option Nat} {M : sx_Me} {bud : sx_Bu} {X : Nat → List pm_V → List pm_V → pm_Mem → Prop} {pc : Nat} {lv st : List pm_V} {μ : pm_Mem} {d : sx_Da}
theorem zp_aald (hK : zKK ST) (hm : pm_m zMT zCDs M d) {r q k : Nat} {i : Int} {g : sx_Rg} {t : sx_Ty} (hg : zRT2 r = some g) (hg3 : g.1 = 3) (hk : k < g.2.1) (hi : i = (k : Int)) (hft : sx_ft g k = some t) (ht : t.1 = 2) (hq : t.2.1 = (q : Int)) (hrow : sx_row M.2.1 pc = some (pc, .aaload, 1)) (kk : zW D Wm ST b0 l Sg M bud X (pc + 1) lv ((2, (q : Int)) :: st) μ) : zW D Wm ST b0 l Sg M bud X pc lv ((0, i) :: (2, (r : Int)) :: st) μ := by
  intro p e R s m args below meth c Q H locs ls stk hF hP K
  obtain ⟨hH, hM, hV, hL, hS⟩ := hP
  obtain ⟨v1, t1, rfl, w1, s1⟩ := pm_S_cons hS
  obtain ⟨v2, t2, rfl, w2, s2⟩ := pm_S_cons s1
  obtain ⟨x, rfl, hx⟩ := pm_v_int w1 rfl
  obtain ⟨a, rfl, ha⟩ := pm_v_ref w2 rfl
  have hx : x.toInt = i := hx
  have ha : Sg a = some r := ha
  obtain ⟨cell, c1, c2, c3, -, -⟩ := pm_cell hH ha hg
  have g0 : g.1 ≠ 0 := by omega
  have hwd : sx_wd g = g.2.1 := by unfold sx_wd; rw [if_neg g0]
  obtain ⟨u, t0, e1, e2, e3⟩ := c3 k (by rw [hwd]; exact hk)
  rw [hft] at e2
  cases e2
  rw [sx_sl1 g0] at e1
  have hnn : x.toNatClampNeg = k := by
    have h : x.toNatClampNeg = x.toInt.toNat := rfl
    omega
  refine sx_Wald hF.1 (Or.inr (Or.inr ⟨rfl, hg3⟩)) c1 c2 (by omega) (by omega) (by rw [hnn]; exact e1) (pm_row hK hm hrow) ?_
  refine kk p e R s m args below meth c Q H locs ls _ hF ⟨hH, hM, hV, hL, ⟨?_, s2⟩⟩ K
  unfold pm_wt at e3
  rw [if_neg (by omega), if_neg (by omega)] at e3
  rcases e3 with ⟨h1, -⟩ | ⟨h1, -⟩ | ⟨-, b, rfl, hb⟩ | ⟨h1, -⟩
  · omega
  · omega
  · refine Or.inr (Or.inr (Or.inl ⟨rfl, b, rfl, ?_⟩))
    rw [hb, hq]
  · omega
theorem zp_dup2 (hK : zKK ST) (hm : pm_m zMT zCDs M d) {x y : Int} (h : sx_row M.2.1 pc = some (pc, .dup2, 1)) (kk : zW D Wm ST b0 l Sg M bud X (pc + 1) lv ((0, x) :: (2, y) :: (0, x) :: (2, y) :: st) μ) : zW D Wm ST b0 l Sg M bud X pc lv ((0, x) :: (2, y) :: st) μ := by
  intro p e R s m args below meth c Q H locs ls stk hF hP K
  obtain ⟨hx, hb, -, -, -⟩ := id hF.1
  obtain ⟨hH, hM, hV, hL, hS⟩ := hP
  obtain ⟨v, t, rfl, k1, k2⟩ := pm_S_cons hS
  obtain ⟨w, t2, rfl, k3, k4⟩ := pm_S_cons k2
  obtain ⟨a, rfl, ha⟩ := pm_v_int k1 rfl
  obtain ⟨q, rfl, hq⟩ := pm_v_ref k3 rfl
  refine lv_dup2_11 hx hb (pm_row hK hm h) rfl rfl ?_
  exact kk p e R s m args below meth c Q H locs ls _ hF ⟨hH, hM, hV, hL, ⟨k1, k3, k1, k3, k4⟩⟩ K
end PAL
section ZTR
variable {D : va_G} {Wm : Nat} {ST : List (String × String × String × Nat)} {b0 : sx_B} {l : Launch} {Sg : Nat → Option Nat} {M : sx_Me} {bud : sx_Bu} {X : Nat → List pm_V → List pm_V → pm_Mem → Prop} {pc : Nat} {lv st : List pm_V} {μ : pm_Mem} {d : sx_Da}
theorem zp_tin (hK : zKK ST) (hm : pm_m zMT zCDs M d) {dflt lo hi off : Int} {offs : Array Int} {len tgt : Nat} {x : Int} (hrow : sx_row M.2.1 pc = some (pc, .tableswitch dflt lo hi offs, len)) (h1 : ¬ x < lo) (h2 : ¬ hi < x) (ho : offs[(x - lo).toNat]? = some off) (ht : (pc : Int) + off = (tgt : Int)) (kk : zW D Wm ST b0 l Sg M bud X tgt lv st μ) : zW D Wm ST b0 l Sg M bud X pc lv ((0, x) :: st) μ := by
  intro p e R s m args below meth c Q H locs ls stk hF hP K
  obtain ⟨hx, hb, -, -, -⟩ := id hF.1
  obtain ⟨hH, hM, hV, hL, hS⟩ := hP
  obtain ⟨v, t, rfl, k1, k2⟩ := pm_S_cons hS
  obtain ⟨y, rfl, hy⟩ := pm_v_int k1 rfl
  have hy : y.toInt = x := hy
  refine lv_tableIn hx hb (pm_row hK hm hrow) (by rw [hy]; exact h1) (by rw [hy]; exact h2) (off := off) (tgt := tgt) (by rw [hy]; exact ho) ht ?_
  exact kk p e R s m args below meth c Q H locs ls _ hF ⟨hH, hM, hV, hL, k2⟩ K
theorem zp_tout (hK : zKK ST) (hm : pm_m zMT zCDs M d) {dflt lo hi : Int} {offs : Array Int} {len tgt : Nat} {x : Int} (hrow : sx_row M.2.1 pc = some (pc, .tableswitch dflt lo hi offs, len)) (h : x < lo ∨ hi < x) (ht : (pc : Int) + dflt = (tgt : Int)) (kk : zW D Wm ST b0 l Sg M bud X tgt lv st μ) : zW D Wm ST b0 l Sg M bud X pc lv ((0, x) :: st) μ := by
  intro p e R s m args below meth c Q H locs ls stk hF hP K
  obtain ⟨hx, hb, -, -, -⟩ := id hF.1
  obtain ⟨hH, hM, hV, hL, hS⟩ := hP
  obtain ⟨v, t, rfl, k1, k2⟩ := pm_S_cons hS
  obtain ⟨y, rfl, hy⟩ := pm_v_int k1 rfl
  have hy : y.toInt = x := hy
  refine lv_tableOut hx hb (pm_row hK hm hrow) (by rw [hy]; exact h) (tgt := tgt) ht ?_
  exact kk p e R s m args below meth c Q H locs ls _ hF ⟨hH, hM, hV, hL, k2⟩ K
end ZTR
