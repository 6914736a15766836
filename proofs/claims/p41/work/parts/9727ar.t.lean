/-! System.arraycopy of a whole row over another, its content told -/
def pm_cpy (μ : pm_Mem) (r r' : Nat) (n : Int) : pm_Mem := fun q i => if q = r ∧ 0 ≤ i ∧ i < n then μ r' i else μ q i
theorem pm_cpy_row {μ : pm_Mem} {r r' q : Nat} {n : Int} (h : q ≠ r) : pm_cpy μ r r' n q = μ q := funext fun _ => if_neg (fun x => h x.1)
theorem pm_cpy_at {μ : pm_Mem} {r r' : Nat} {n i : Int} (h0 : 0 ≤ i) (h1 : i < n) : pm_cpy μ r r' n r i = μ r' i := if_pos ⟨rfl, h0, h1⟩
theorem zTJ_cpy {φ : Option pm_Mem} {μ : pm_Mem} (hT : zTJ φ μ) {r r' n : Nat} {g g' : sx_Rg} {t : sx_Ty} (hr : zRT2 r = some g) (hr' : zRT2 r' = some g') (h1 : r' < zNR) (hg : g.1 ≠ 0 ∧ g.2.2.2 = [t]) (hg' : g'.1 ≠ 0 ∧ g'.2.1 = n ∧ g'.2.2.2 = [t]) (hz : zgd r = false) (hq : sx_Fz.all (fun q => !(Nat.beq q.1 r)) = true) : zTJ φ (pm_cpy μ r r' n) := by
  refine ⟨fun q gq k tq e1 e2 e3 e4 e5 => ?_, ?_⟩
  · unfold pm_cpy
    split
    · rename_i hc
      obtain ⟨rfl, c1, c2⟩ := hc
      rw [hr] at e2
      cases e2
      rw [sx_ft1 hg.1 (by rw [hg.2]; rfl) (show g.2.2.2[0]? = some t by rw [hg.2]; rfl)] at e4
      cases e4
      refine hT.1 r' g' k t h1 hr' ?_ (sx_ft1 hg'.1 (by rw [hg'.2.2]; rfl) (show g'.2.2.2[0]? = some t by rw [hg'.2.2]; rfl)) e5
      unfold sx_wd
      rw [if_neg hg'.1, hg'.2.1]
      omega
    · exact hT.1 q gq k tq e1 e2 e3 e4 e5
  · have key : ∀ x ∈ [213, 215, 216, 217, 218, 219, 222, 245], x ≠ r := fun y hy he => by
      unfold zgd at hz
      have := List.any_eq_false.mp hz y hy
      rw [he] at this
      exact this (Nat.beq_refl r)
    unfold zJ
    rw [pm_cpy_row (key 213 (by decide)), pm_cpy_row (key 215 (by decide)), pm_cpy_row (key 216 (by decide)), pm_cpy_row (key 217 (by decide)), pm_cpy_row (key 218 (by decide)), pm_cpy_row (key 219 (by decide)), pm_cpy_row (key 222 (by decide)), pm_cpy_row (key 245 (by decide))]
    exact ⟨hT.2.1, hT.2.2.1, hT.2.2.2.1, zF_of hT.2.2.2.2 (fun q hq2 => by rw [pm_cpy_row (zFz_ne hq hq2)])⟩
section PCP
variable {D : va_G} {Wm : Nat} {ST : List (String × String × String × Nat)} {b0 : sx_B} {l : Launch} {Sg : Nat → Option Nat} {M : sx_Me} {bud : sx_Bu} {X : Nat → List pm_V → List pm_V → pm_Mem → Prop} {pc : Nat} {lv st : List pm_V} {μ : pm_Mem} {d : sx_Da}
theorem zp_acw (hK : zKK ST) (hm : pm_m zMT zCDs M d) {idx r r' n : Nat} {g g' : sx_Rg} {t t' : sx_Ty} (hac : idx ∈ d.2.2.2.2) (hrow : sx_row M.2.1 pc = some (pc, .invokestatic idx, 3)) (hr : zRT2 r = some g) (hr' : zRT2 r' = some g') (hg : g.1 = 1 ∧ g.2.1 = n ∧ g.2.2.1 = 0 ∧ g.2.2.2 = [t]) (hg' : g'.1 = 1 ∧ g'.2.1 = n ∧ g'.2.2.2 = [t']) (hb : sx_bit Wm r = true) (hbud : 1 ≤ bud.1 ∧ pm_cs st + 18 ≤ bud.2.1) {x : Int} (hxn : x = (n : Int))
    (kk : zW D Wm ST b0 l Sg M bud X (pc + 3) lv st (pm_cpy μ r r' n)) : zW D Wm ST b0 l Sg M bud X pc lv ((0, x) :: (0, 0) :: (2, (r : Int)) :: (0, 0) :: (2, (r' : Int)) :: st) μ := by
  subst hxn
  intro p e R s m args below meth c Q H locs ls stk hF hP K
  obtain ⟨hH, hM, hV, hL, hS⟩ := hP
  obtain ⟨w1, t1, rfl, a1, s1⟩ := pm_S_cons hS
  obtain ⟨w2, t2, rfl, a2, s2⟩ := pm_S_cons s1
  obtain ⟨w3, t3, rfl, a3, s3⟩ := pm_S_cons s2
  obtain ⟨w4, t4, rfl, a4, s4⟩ := pm_S_cons s3
  obtain ⟨w5, t5, rfl, a5, s5⟩ := pm_S_cons s4
  obtain ⟨xn, rfl, e1⟩ := pm_v_int a1 rfl
  obtain ⟨xd, rfl, e2⟩ := pm_v_int a2 rfl
  obtain ⟨ad, rfl, k2⟩ := pm_v_ref a3 rfl
  obtain ⟨xs, rfl, e4⟩ := pm_v_int a4 rfl
  obtain ⟨ad', rfl, j2⟩ := pm_v_ref a5 rfl
  have k2 : Sg ad = some r := k2
  have j2 : Sg ad' = some r' := j2
  have e1 : xn.toInt = (n : Int) := e1
  have e2 : xd.toInt = 0 := e2
  have e4 : xs.toInt = 0 := e4
  obtain ⟨cell, k4, k5, k6, k7, k8⟩ := pm_cell hH k2 hr
  obtain ⟨cell', j4, j5, j6, -, -⟩ := pm_cell hH j2 hr'
  have hF0 := hF
  obtain ⟨hCx, hKs, hb0, r1, r2, r3, r4, hini, hret, hlocks, hZS⟩ := hF
  have hdn : d.1 = M.1.1.cls := (hK.1.2.2.2.2.2.2.1 M hm.1).2.2.2.1 d hm.2
  obtain ⟨o1, o2, o3, o4⟩ := (hK.1.2.2.2.2.2.2.2 d (List.mem_of_getElem? hm.2) args s hCx.2.2.2.2 hKs.2.1).2.2.2 idx hac
  rw [hdn] at o1
  obtain ⟨hx, hb', hml, hown, hts⟩ := id hCx
  have hdec := pm_row hK hm hrow
  have g0 : g.1 ≠ 0 := by omega
  have g0' : g'.1 ≠ 0 := by omega
  have ht0 : t.1 = 0 := hK.2 r g hr hg.1 t (by rw [hg.2.2.2]; exact List.mem_cons_self)
  have ht0' : t'.1 = 0 := hK.2 r' g' hr' hg'.1 t' (by rw [hg'.2.2]; exact List.mem_cons_self)
  have hwd : sx_wd g = n := by unfold sx_wd; rw [if_neg g0, hg.2.1]
  have hwd' : sx_wd g' = n := by unfold sx_wd; rw [if_neg g0', hg'.2.1]
  have hft : ∀ k, sx_ft g k = some t := fun k => sx_ft1 g0 (by rw [hg.2.2.2]; rfl) (by rw [hg.2.2.2]; rfl)
  have hft' : ∀ k, sx_ft g' k = some t' := fun k => sx_ft1 g0' (by rw [hg'.2.2]; rfl) (by rw [hg'.2.2]; rfl)
  have hty : sx_aty zCl g = .int := by unfold sx_aty; rw [if_pos hg.1]
  have hty' : sx_aty zCl g' = .int := by unfold sx_aty; rw [if_pos hg'.1]
  obtain ⟨n1, n2⟩ := sx_nneg (x := xn) (by omega)
  obtain ⟨n3, n4⟩ := sx_nneg (x := xd) (by omega)
  obtain ⟨n5, n6⟩ := sx_nneg (x := xs) (by omega)
  rcases k5 with ⟨q2, -⟩ | ⟨-, q3, q4, q5, q6⟩
  · exact absurd q2 g0
  rcases j5 with ⟨u2, -⟩ | ⟨-, u3, u4, u5, u6⟩
  · exact absurd u2 g0'
  rw [hty] at q3
  rw [hty'] at u3
  rw [hg.2.1] at q5
  rw [hg'.2.1] at u5
  obtain ⟨q3a, kd, hkd, cmd, hkkd⟩ := q3
  obtain ⟨u3a, ks, hks, cms, hkks⟩ := u3
  have hel : ∀ i : Nat, i < n → ∃ y : Int32, cell'.slots[i]? = some (.int y) ∧ y.toInt = μ r' (i : Int) := fun i hi => by
    obtain ⟨v, v1, v2⟩ := hM ad' r' g' cell' i t' j2 hr' j4 (by rw [hwd']; exact hi) (hft' i) (by omega)
    rw [sx_sl1 g0'] at v1
    obtain ⟨y, rfl, hy⟩ := pm_v_int v2 ht0'
    exact ⟨y, v1, hy⟩
  have z0 : xs.toNatClampNeg = 0 := by omega
  have z1 : xd.toNatClampNeg = 0 := by omega
  have z2 : xn.toNatClampNeg = n := by omega
  intro T hT X0
  obtain ⟨vm', X', step⟩ := X0.arraycopy hx hown o1 o2 o3 o4 (src := ad') (dst := ad) (cs := cell') (cd := cell) (srcPos := xs) (destPos := xd) (n := xn) (by rw [hT]; exact j4) (by rw [hT]; exact k4) u3a q3a u4 q4 hks hkd hkks hkkd (by simp [refKind]) n5 n3 n1
    (by omega) (by omega)
    (fun vm₁ _ i hi => by
      obtain ⟨y, y1, -⟩ := hel i (by omega)
      have ee : cell'.slots.getD (xs.toNatClampNeg + i) .null = .int y := by rw [z0, Nat.zero_add, Array.getD_eq_getD_getElem?, y1]; rfl
      rw [ee]
      exact ⟨rfl, trivial⟩)
    (g := F0 m pc ls (.int xn :: .int xd :: .ref ad :: .int xs :: .ref ad' :: t5)) rfl (by rw [hml]; exact hL.1) (rest := t5) rfl (by rw [hb']; exact hdec) (by rw [r1]; exact hbud.1) (by
      show 2 * 0 + _ + _ ≤ _
      rw [pm_cs_ok s5, r2]
      have hN : nativeFrameWords "java/lang/System" "arraycopy" 5 = 7 := by decide
      have := hbud.2
      omega)
  generalize hcp : copied cell' cell xs xd xn = cp at X' step
  have hsf := Cell.storeRun_facts cell xd.toNatClampNeg (cell'.stretch xs.toNatClampNeg xn.toNatClampNeg)
  have hstl : (cell'.stretch xs.toNatClampNeg xn.toNatClampNeg).length = xn.toNatClampNeg := by simp [Cell.stretch]
  have hge := fun j => Cell.storeRun_get cell xd.toNatClampNeg (cell'.stretch xs.toNatClampNeg xn.toNatClampNeg) j (by rw [hstl]; omega)
  have hcpe : cp = cell.storeRun xd.toNatClampNeg (cell'.stretch xs.toNatClampNeg xn.toNatClampNeg) := hcp.symm
  rw [← hcpe] at hsf
  have hlt : ad < H.size := (Array.getElem?_eq_some_iff.mp k4).1
  have hheap : ((T.setVm vm').setCell ad cp).heap = H.setIfInBounds ad cp := by rw [← hT]; rfl
  have h1 : (H.setIfInBounds ad cp)[ad]? = some cp := by simp [Array.getElem?_setIfInBounds, hlt]
  have h3 : ∀ q : Nat, q ≠ ad → (H.setIfInBounds ad cp)[q]? = H[q]? := fun q hq => by simp [Array.getElem?_setIfInBounds, Ne.symm hq]
  have h2 : (H.setIfInBounds ad cp).size = H.size := by simp
  have hkind : sx_kind D zCl s g cp := by
    refine Or.inr ⟨g0, ?_, by rw [hsf.2.1]; exact q4, by rw [hsf.2.2.1, hg.2.1]; exact q5, by rw [hsf.2.2.1]; exact q6.1, fun h3 => by omega⟩
    rw [hty]
    exact ⟨fun k => by rw [hsf.2.1]; exact q3a k, kd, by rw [hsf.1]; exact hkd, cmd, hkkd⟩
  have hsl : ∀ j : Nat, j < n → ∃ y : Int32, cp.slots[j]? = some (.int y) ∧ y.toInt = μ r' (j : Int) := fun j hj => by
    obtain ⟨y, y1, y2⟩ := hel j hj
    refine ⟨y, ?_, y2⟩
    rw [hcpe, hge j, if_pos (by rw [hstl]; omega)]
    unfold Cell.stretch
    rw [List.getElem?_map, List.getElem?_range (by omega)]
    show some (cell'.slots.getD (xs.toNatClampNeg + (j - xd.toNatClampNeg)) .null) = _
    rw [Array.getD_eq_getD_getElem?, z0, z1, Nat.zero_add, Nat.sub_zero, y1]
    rfl
  have hH' : sx_H D zCl (pm_w (sx_fz Wm zRT2)) b0 Sg s (H.setIfInBounds ad cp) := by
    intro a ra ha
    obtain ⟨ga, y1, ⟨ca, y2, y3, y4⟩, y5⟩ := hH a ra ha
    by_cases haq : a = ad
    · subst haq
      rw [k2] at ha
      cases ha
      obtain ⟨g1, m1, rfl⟩ := pm_w_ok y1
      rw [sx_fz_some hr] at m1
      cases m1
      refine ⟨_, y1, ⟨cp, h1, (pm_wg_kind _ cp).mpr ((sx_fz1_kind Wm r g cp).mpr hkind), fun j hj => ?_⟩, y5⟩
      obtain ⟨v, tt, x1, x2, x3⟩ := y4 j hj
      rw [pm_wg_wd, sx_fz1_wd, hwd] at hj
      rw [pm_wg_ft, sx_fz1_ft, hft j] at x2
      obtain ⟨y, w1, w2⟩ := hsl j hj
      refine ⟨.int y, pm_wt t, by rw [pm_wg_sl, sx_fz1_sl, sx_sl1 g0]; exact w1, by rw [pm_wg_ft, sx_fz1_ft, hft j]; rfl, ?_⟩
      unfold pm_wt
      rw [if_pos ht0]
      exact Or.inl ⟨rfl, y, rfl, Int32.le_toInt y, by have := Int32.toInt_lt y; show y.toInt ≤ 2147483647; omega⟩
    · exact ⟨ga, y1, ⟨ca, by rw [h3 a haq]; exact y2, y3, y4⟩, y5⟩
  have hM' : pm_M D zRT2 Sg (pm_cpy μ r r' n) (H.setIfInBounds ad cp) := by
    intro q ra ga ca k tt hq hra hca hk hfk ht1
    by_cases hqa : q = ad
    · subst hqa
      rw [k2] at hq
      cases hq
      rw [hr] at hra
      cases hra
      rw [h1] at hca
      cases hca
      rw [hwd] at hk
      rw [hft k] at hfk
      cases hfk
      obtain ⟨y, w1, w2⟩ := hsl k hk
      exact ⟨.int y, by rw [sx_sl1 g0]; exact w1, Or.inl ⟨ht0, y, rfl, by show y.toInt = pm_cpy μ r r' n r (k : Int); rw [pm_cpy_at (by omega) (by omega)]; exact w2⟩⟩
    · rw [h3 q hqa] at hca
      have hne : ra ≠ r := fun he => hqa (k8 q (by rw [← he]; exact hq))
      rw [pm_cpy_row hne]
      exact hM q ra ga ca k tt hq hra hca hk hfk ht1
  have hV' : ∀ zs : List (Value × Nat), va_S b0.1 s.heap (H.setIfInBounds ad cp) (locs ++ List.map (fun q => { base := ad, slot := xd.toNatClampNeg + q.snd }) zs) := fun zs => by
    refine ⟨by rw [h2]; exact hV.1, fun q g1 g2 => ?_, fun q hq => ?_⟩
    · rw [h3 q (fun e => g2 (by rw [e]; exact k7 hb hg.2.2.1))]
      exact hV.2.1 q g1 g2
    · rcases List.mem_append.mp hq with h | h
      · exact hV.2.2 q h
      · obtain ⟨i, -, hi⟩ := List.mem_map.mp h
        rw [← hi]
        exact k7 hb hg.2.2.1
  obtain ⟨tt, b1, b2⟩ := kk p e R s m args below meth c Q (H.setIfInBounds ad cp) _ ls t5 hF0 ⟨hH', hM', hV' _, hL, s5⟩ K _ hheap X'
  exact ⟨tt, step tt b1, b2⟩
end PCP
