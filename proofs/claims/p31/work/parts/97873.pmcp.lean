/-! pm: System.arraycopy within one row of ints; getstatic of a table -/
def pm_cp (μ : pm_Mem) (r : Nat) (sp dp n : Int) : pm_Mem := fun r' i' => if r' = r ∧ dp ≤ i' ∧ i' < dp + n then μ r (i' - dp + sp) else μ r' i'
section PCP
variable {D : va_G} {Wm : Nat} {ST : List (String × String × String × Nat)} {b0 : sx_B} {l : Launch} {Sg : Nat → Option Nat} {M : sx_Me} {bud : sx_Bu} {X : Nat → List pm_V → List pm_V → pm_Mem → Prop} {pc : Nat} {lv st : List pm_V} {μ : pm_Mem} {d : sx_Da}
theorem zp_gst (hK : zKK ST) (hm : pm_m zMT zCDs M d) {own idx r : Nat} {C n dS : String} {d0 : sx_Da} (hg : sx_gtok zCDs (zAS ST) zTB Sg (own, idx, (C, n, dS), r)) (hd : zCDs[own]? = some d0) (hcl : d0.1 = M.1.1.cls) (hrow : sx_row M.2.1 pc = some (pc, .getstatic idx, 3)) (kk : zW D Wm ST b0 l Sg M bud X (pc + 3) lv ((2, (r : Int)) :: st) μ) : zW D Wm ST b0 l Sg M bud X pc lv st μ := by
  intro p e R s m args below meth c Q H locs ls stk hF hP K
  obtain ⟨hx, hb, hml, hown', hts⟩ := id hF.1
  obtain ⟨a, ha, hSg, hlk, hsk⟩ := hg
  obtain ⟨hH, hM, hV, hL, hS⟩ := hP
  refine va_gets hx hb (sx_ZS_va hF.2.2.2.2.2.2.2.2.2.2 ha hsk) hV hown' (hts _ (hcl ▸ hlk d0 hd)) (fun x hx => hx) (pm_row hK hm hrow) ?_
  exact kk p e R s m args below meth c Q H locs ls _ hF ⟨hH, hM, hV, hL, ⟨Or.inr (Or.inr (Or.inl ⟨rfl, a, rfl, hSg⟩)), hS⟩⟩ K
theorem zp_nfw : nativeFrameWords "java/lang/System" "arraycopy" 5 ≤ 21 := by decide
theorem zp_acp (hK : zKK ST) (hm : pm_m zMT zCDs M d) {r idx : Nat} {sp dp n : Int} {g : sx_Rg} {t : sx_Ty} (hg : zRT2 r = some g) (hg1 : g.1 = 1) (hg2 : g.2.2.1 = 0) (hgl : g.2.2.2 = [t]) (ht : t.1 = 0) (hbit : sx_bit Wm r = true) (hn : 0 ≤ n) (hd : 0 ≤ dp) (hs : 0 ≤ sp) (hd2 : dp + n ≤ (g.2.1 : Int)) (hs2 : sp + n ≤ (g.2.1 : Int)) (hidx : idx ∈ d.2.2.2.2) (hrow : sx_row M.2.1 pc = some (pc, .invokestatic idx, 3)) (hcs : pm_cs st ≤ 8) (hb : 1 ≤ bud.1 ∧ 40 ≤ bud.2.1)
    (kk : zW D Wm ST b0 l Sg M bud X (pc + 3) lv st (pm_cp μ r sp dp n)) : zW D Wm ST b0 l Sg M bud X pc lv ((0, n) :: (0, dp) :: (2, (r : Int)) :: (0, sp) :: (2, (r : Int)) :: st) μ := by
  intro p e R s m args below meth c Q H locs ls stk hF hP K
  obtain ⟨hx, hb', hml, hown, hts⟩ := id hF.1
  obtain ⟨hH, hM, hV, hL, hS⟩ := hP
  obtain ⟨v1, t1, rfl, w1, s1⟩ := pm_S_cons hS
  obtain ⟨v2, t2, rfl, w2, s2⟩ := pm_S_cons s1
  obtain ⟨v3, t3, rfl, w3, s3⟩ := pm_S_cons s2
  obtain ⟨v4, t4, rfl, w4, s4⟩ := pm_S_cons s3
  obtain ⟨v5, t5, rfl, w5, s5⟩ := pm_S_cons s4
  obtain ⟨xn, rfl, hxn⟩ := pm_v_int w1 rfl
  obtain ⟨xd, rfl, hxd⟩ := pm_v_int w2 rfl
  obtain ⟨ad, rfl, had⟩ := pm_v_ref w3 rfl
  obtain ⟨xs, rfl, hxs⟩ := pm_v_int w4 rfl
  obtain ⟨ad', rfl, had'⟩ := pm_v_ref w5 rfl
  have hxn : xn.toInt = n := hxn
  have hxd : xd.toInt = dp := hxd
  have hxs : xs.toInt = sp := hxs
  have had : Sg ad = some r := had
  have had' : Sg ad' = some r := had'
  obtain ⟨cell, c1, c2, -, c4, c5⟩ := pm_cell hH had hg
  obtain rfl : ad' = ad := c5 ad' had'
  obtain ⟨n1, n2⟩ := sx_nneg (x := xn) (by omega)
  obtain ⟨n3, n4⟩ := sx_nneg (x := xd) (by omega)
  obtain ⟨n5, n6⟩ := sx_nneg (x := xs) (by omega)
  have g0 : g.1 ≠ 0 := by omega
  have hwd : sx_wd g = g.2.1 := by unfold sx_wd; rw [if_neg g0]
  have hty : sx_aty zCl g = .int := by unfold sx_aty; rw [if_pos hg1]
  rcases c2 with ⟨q2, -⟩ | ⟨-, q3, q4, q5, q6⟩
  · exact absurd q2 g0
  rw [hty] at q3
  obtain ⟨q3a, kd, hkd, cmd, hkkd⟩ := q3
  have hft : ∀ k, sx_ft g k = some t := fun k => sx_ft1 g0 (by rw [hgl]; rfl) (by rw [hgl]; rfl)
  have hel : ∀ k : Nat, k < g.2.1 → ∃ y : Int32, cell.slots[k]? = some (.int y) ∧ y.toInt = μ r (k : Int) := fun k hk => by
    obtain ⟨v, e1, e2⟩ := hM ad' r g cell k t had hg c1 (by rw [hwd]; exact hk) (hft k) (by omega)
    rw [sx_sl1 g0] at e1
    obtain ⟨y, rfl, hy⟩ := pm_v_int e2 ht
    exact ⟨y, e1, hy⟩
  obtain ⟨-, -, -, -, -, -, hMT, hDA⟩ := hK.1
  obtain ⟨-, -, -, hac⟩ := hDA d (List.mem_of_getElem? hm.2) args s hts hF.2.1.2.1
  obtain ⟨o1, o2, o3, o4⟩ := hac idx hidx
  have hdn := (hMT M hm.1).2.2.2.1 d hm.2
  rw [hdn] at o1
  have r1 : R.frames = bud.1 := hF.2.2.2.1
  have r2 : R.locals = bud.2.1 := hF.2.2.2.2.1
  have hnf := zp_nfw
  intro T hT Xs
  obtain ⟨vm', X', step⟩ := Xs.arraycopy hx hown o1 o2 o3 o4 (src := ad') (dst := ad') (cs := cell) (cd := cell) (srcPos := xs) (destPos := xd) (n := xn) (by rw [hT]; exact c1) (by rw [hT]; exact c1) q3a q3a q4 q4 hkd hkd hkkd hkkd (by simp [refKind]) n5 n3 n1
    (by omega) (by omega)
    (fun vm₁ _ i hi => by
      obtain ⟨y, y1, -⟩ := hel (xs.toNatClampNeg + i) (by omega)
      have ee : cell.slots.getD (xs.toNatClampNeg + i) .null = .int y := by rw [Array.getD_eq_getD_getElem?, y1]; rfl
      rw [ee]
      exact ⟨rfl, trivial⟩)
    (g := F0 m pc ls (.int xn :: .int xd :: .ref ad' :: .int xs :: .ref ad' :: t5)) rfl (by rw [hml]; exact hL.1) (rest := t5) rfl (by rw [hb']; exact pm_row hK hm hrow) (by rw [r1]; exact hb.1) (by show 2 * 0 + _ + _ ≤ _; rw [pm_cs_ok s5, r2]; omega)
  generalize hcp : copied cell cell xs xd xn = cp at X' step
  have hsf := Cell.storeRun_facts cell xd.toNatClampNeg (cell.stretch xs.toNatClampNeg xn.toNatClampNeg)
  have hstl : (cell.stretch xs.toNatClampNeg xn.toNatClampNeg).length = xn.toNatClampNeg := by simp [Cell.stretch]
  have hge := fun j => Cell.storeRun_get cell xd.toNatClampNeg (cell.stretch xs.toNatClampNeg xn.toNatClampNeg) j (by rw [hstl]; omega)
  have hcpe : cp = cell.storeRun xd.toNatClampNeg (cell.stretch xs.toNatClampNeg xn.toNatClampNeg) := hcp.symm
  rw [← hcpe] at hsf
  have hlt : ad' < H.size := (Array.getElem?_eq_some_iff.mp c1).1
  have hheap : ((T.setVm vm').setCell ad' cp).heap = H.setIfInBounds ad' cp := by rw [← hT]; rfl
  have e1 : (H.setIfInBounds ad' cp)[ad']? = some cp := by simp [Array.getElem?_setIfInBounds, hlt]
  have e3 : ∀ q : Nat, q ≠ ad' → (H.setIfInBounds ad' cp)[q]? = H[q]? := fun q hq => by simp [Array.getElem?_setIfInBounds, Ne.symm hq]
  have e2 : (H.setIfInBounds ad' cp).size = H.size := by simp
  have hkind : sx_kind D zCl s g cp := by
    refine Or.inr ⟨g0, ?_, by rw [hsf.2.1]; exact q4, by rw [hsf.2.2.1]; exact q5, by rw [hsf.2.2.1]; exact q6.1, fun h3 => by omega⟩
    rw [hty]
    exact ⟨fun k => by rw [hsf.2.1]; exact q3a k, kd, by rw [hsf.1]; exact hkd, cmd, hkkd⟩
  have hcs2 : ∀ k : Nat, k < g.2.1 → ∃ y : Int32, cp.slots[k]? = some (.int y) ∧ y.toInt = pm_cp μ r sp dp n r (k : Int) := fun k hk => by
    rw [hcpe, hge k]
    split
    · rename_i hin
      rw [hstl] at hin
      obtain ⟨y, z1, z2⟩ := hel (xs.toNatClampNeg + (k - xd.toNatClampNeg)) (by omega)
      refine ⟨y, ?_, ?_⟩
      · unfold Cell.stretch
        rw [List.getElem?_map, List.getElem?_range (by omega)]
        show some (cell.slots.getD (xs.toNatClampNeg + (k - xd.toNatClampNeg)) .null) = _
        rw [Array.getD_eq_getD_getElem?, z1]; rfl
      · rw [z2]
        unfold pm_cp
        rw [if_pos ⟨rfl, by omega, by omega⟩, show ((xs.toNatClampNeg + (k - xd.toNatClampNeg) : Nat) : Int) = (k : Int) - dp + sp by omega]
    · rename_i hin
      rw [hstl] at hin
      obtain ⟨y, z1, z2⟩ := hel k hk
      refine ⟨y, z1, ?_⟩
      rw [z2]
      unfold pm_cp
      rw [if_neg (fun q => hin ⟨by omega, by omega⟩)]
  have hwt : pm_wt t = (0, -2147483648, 2147483647) := by unfold pm_wt; rw [if_pos ht]
  have hH' : sx_H D zCl (pm_w (sx_fz Wm zRT2)) b0 Sg s (H.setIfInBounds ad' cp) := by
    intro a ra ha
    obtain ⟨ga, y1, ⟨ca, y2, y3, y4⟩, y5⟩ := hH a ra ha
    by_cases haq : a = ad'
    · subst haq
      rw [had] at ha
      cases ha
      obtain ⟨g1, m1, rfl⟩ := pm_w_ok y1
      rw [sx_fz_some hg] at m1
      cases m1
      refine ⟨_, y1, ⟨cp, e1, (pm_wg_kind _ cp).mpr ((sx_fz1_kind Wm r g cp).mpr hkind), fun j hj => ?_⟩, y5⟩
      have hj : j < g.2.1 := by rw [pm_wg_wd, sx_fz1_wd, hwd] at hj; exact hj
      obtain ⟨y, z1, -⟩ := hcs2 j hj
      refine ⟨.int y, pm_wt t, by rw [pm_wg_sl, sx_fz1_sl, sx_sl1 g0]; exact z1, by rw [pm_wg_ft, sx_fz1_ft, hft j]; rfl, ?_⟩
      rw [hwt]
      have := Int32.le_toInt y
      have := Int32.toInt_lt y
      exact Or.inl ⟨rfl, y, rfl, by show (-2147483648 : Int) ≤ y.toInt; omega, by show y.toInt ≤ (2147483647 : Int); omega⟩
    · exact ⟨ga, y1, ⟨ca, by rw [e3 a haq]; exact y2, y3, y4⟩, y5⟩
  have hM' : pm_M D zRT2 Sg (pm_cp μ r sp dp n) (H.setIfInBounds ad' cp) := by
    intro q r1 g1 cell1 k t1 h1 h2 h3 h4 h5 h6
    by_cases hq : q = ad'
    · subst hq
      rw [had] at h1
      cases h1
      rw [hg] at h2
      cases h2
      rw [e1] at h3
      cases h3
      rw [hft k] at h5
      cases h5
      obtain ⟨y, z1, z2⟩ := hcs2 k (by rw [hwd] at h4; exact h4)
      exact ⟨.int y, by rw [sx_sl1 g0]; exact z1, by rw [ht]; exact Or.inl ⟨rfl, y, rfl, z2⟩⟩
    · rw [e3 q hq] at h3
      obtain ⟨v, z1, z2⟩ := hM q r1 g1 cell1 k t1 h1 h2 h3 h4 h5 h6
      have hr : r1 ≠ r := fun e => hq (c5 q (e ▸ h1))
      have hμ : pm_cp μ r sp dp n r1 (k : Int) = μ r1 (k : Int) := if_neg (fun x => hr x.1)
      exact ⟨v, z1, by rw [hμ]; exact z2⟩
  have hV' : ∀ zs : List (Value × Nat), va_S b0.1 s.heap (H.setIfInBounds ad' cp) (locs ++ List.map (fun q => { base := ad', slot := xd.toNatClampNeg + q.snd }) zs) := fun zs => by
    refine ⟨by rw [e2]; exact hV.1, fun q g1 g2 => ?_, fun q hq => ?_⟩
    · rw [e3 q (fun e => g2 (by rw [e]; exact c4 hbit hg2))]
      exact hV.2.1 q g1 g2
    · rcases List.mem_append.mp hq with h | h
      · exact hV.2.2 q h
      · obtain ⟨i, -, hi⟩ := List.mem_map.mp h
        rw [← hi]
        exact c4 hbit hg2
  obtain ⟨tt, a1, b1⟩ := kk p e R s m args below meth c Q (H.setIfInBounds ad' cp) _ ls t5 hF ⟨hH', hM', hV' _, hL, s5⟩ K _ hheap X'
  exact ⟨tt, step tt a1, b1⟩
end PCP
