/-! sx, System.arraycopy over ints: what is known of the target goes -/
noncomputable def sx_acpF (r : Nat) (FA : sx_FA) : sx_FA := (sx_flt (fun x => sx_nb (Nat.beq x.1 r)) FA.1, sx_flt (fun x => sx_nb (Nat.beq x.1 r)) FA.2.1, FA.2.2)
noncomputable def sx_acp (RT : Nat → Option sx_Rg) (lo fr : Nat) (E : List sx_Ty) (C N : List sx_LF) (U : List (Nat × List sx_LF × Nat)) (FA : sx_FA) (L : List (Nat × sx_AV)) (S : List sx_AV) (nc ns : Nat) : Option sx_St := match S with
  | n :: dp :: dst :: sp :: src :: S' => match sx_reg E RT dst, sx_reg E RT src with
    | some (_, r, g), some (_, _, g') => match g.2.2.2[0]?, g'.2.2.2[0]? with
      | some t, some t' => if (n.1 = 0 ∧ dp.1 = 0 ∧ sp.1 = 0 ∧ g.1 = 1 ∧ g'.1 = 1 ∧ sx_mut g = true) ∧ (sx_ge E C n.2 = true ∧ sx_ge E C dp.2 = true ∧ sx_ge E C sp.2 = true) ∧ (sx_ge E C (sx_sub ((g.2.1 : Int), []) (sx_add dp.2 n.2)) = true ∧ sx_ge E C (sx_sub ((g'.2.1 : Int), []) (sx_add sp.2 n.2)) = true) ∧ (t.1 = 0 ∧ t'.1 = 0 ∧ t.2.1 ≤ t'.2.1 ∧ t'.2.2 ≤ t.2.2 ∧ g.2.2.2.length = 1 ∧ g'.2.2.2.length = 1) ∧ 1 ≤ fr ∧ (S'.map (fun a => if a.1 = 1 then 2 else 1)).sum + (nativeFrameWords "java/lang/System" "arraycopy" 5 + 11) ≤ lo then
          some (((E, C, N, U), sx_acpF r FA), (L, S'), nc, ns) else none
      | _, _ => none
    | _, _ => none
  | _ => none
section SX17
variable {FT : Nat → List Int → Int} {D : va_G} {cl : List vw_C} {RT : Nat → Option sx_Rg} {b0 : sx_B} {nL : Nat} {p : Program} {l : Launch} {e : Env} {R : Room} {s : State} {m : MethodId} {args : Array Value} {below : List Frame} {meth : Method} {c : Code} {Q : State → Prop}
  {Sg0 : Nat → Option Nat} {ρ0 : List Value} {pc nc ns : Nat} {cc : ByteArray} {own : String} {Ts : List Cond} {Sg : Nat → Option Nat} {H : Heap} {ρ : List Value} {ls : Array Slot} {stk : List Value} {locs : List Loc} {E : List sx_Ty} {C N : List sx_LF} {U : List (Nat × List sx_LF × Nat)}
  {FA : sx_FA} {L : List (Nat × sx_AV)} {S : List sx_AV}
theorem sx_csum {ρ : List Value} : ∀ {S : List sx_AV} {t : List Value}, sx_stk ρ S t → (t.map fun v => v.category).sum = (S.map (fun a => if a.1 = 1 then 2 else 1)).sum
  | [], [], _ => rfl
  | a :: S, v :: t, h => by
    have e1 := sx_csum h.2
    have e2 := sx_cat h.1
    simp only [List.map_cons, List.sum_cons]
    rw [e1, e2]
  | [], _ :: _, h => h.elim
  | _ :: _, [], h => h.elim
theorem sx_nneg {x : Int32} (h : 0 ≤ x.toInt) : ¬ x < 0 ∧ (x.toNatClampNeg : Int) = x.toInt := by
  have e0 : (0 : Int32).toInt = 0 := by decide
  have hc : x.toNatClampNeg = x.toInt.toNat := rfl
  exact ⟨fun q => by rw [Int32.lt_iff_toInt_lt] at q; omega, by omega⟩
theorem sx_acp_ok {idx lo fr : Nat} {st' : sx_St} (hC : sx_Cx p s m args c cc nL own Ts) (hlink : (Cond.methodLink own idx arraycopyName).before args s = true) (hnat : (Cond.native arraycopyName).before args s = true) (hstat : (Cond.static arraycopyName).before args s = true) (hini : (Cond.initialized "java/lang/System").before args s = true)
    (hR : R.frames = fr ∧ R.locals = lo) (h : sx_acp RT lo fr E C N U FA L S nc ns = some st') (hd : decode cc pc = .ok (.invokestatic idx, 3))
    (hP : sx_Pt FT D cl RT b0 nL s Sg H ρ ((E, C, N, U), FA) L S ls stk locs) (hle : sx_le Sg0 Sg) (hpre : ρ0 <+: ρ) (hW : sx_W FT D cl RT b0 nL p l e R s m args below meth c Q Sg0 ρ0 (pc + 3) st') : W p l e R s m args below meth c H locs nc ns Q (F0 m pc ls stk) := by
  unfold sx_acp at h
  split at h
  · rename_i n dp dst sp src S'
    split at h
    · rename_i z r g z' r' g' hreg hreg'
      split at h
      · rename_i t t' ht ht'
        split at h
        · rename_i hc
          obtain ⟨⟨c1, c2, c3, c4, c5, c6⟩, ⟨d1, d2, d3⟩, ⟨d4, d5⟩, ⟨f1, f2, f3, f4, f41, f42⟩, f5, f6⟩ := hc
          cases h
          obtain ⟨v1, t1, rfl, w1, s1⟩ := sx_stk_cons hP.2.2.1.2.2.2
          obtain ⟨v2, t2, rfl, w2, s2⟩ := sx_stk_cons s1
          obtain ⟨v3, t3, rfl, w3, s3⟩ := sx_stk_cons s2
          obtain ⟨v4, t4, rfl, w4, s4⟩ := sx_stk_cons s3
          obtain ⟨v5, t5, rfl, w5, s5⟩ := sx_stk_cons s4
          have hG := hP.2.1
          obtain ⟨ad, cell, rfl, k1, k2, k3, -, k4, k5, k6, k7⟩ := sx_reg_ok hreg hG.1 hP.1 w3
          obtain ⟨ad', cell', rfl, j1, j2, j3, -, j4, j5, -, j7⟩ := sx_reg_ok hreg' hG.1 hP.1 w5
          obtain ⟨nt, nf⟩ := n
          obtain ⟨dt, df⟩ := dp
          obtain ⟨st, sf⟩ := sp
          have c1 : nt = 0 := c1
          have c2 : dt = 0 := c2
          have c3 : st = 0 := c3
          subst c1; subst c2; subst c3
          obtain ⟨xn, rfl, hn⟩ := sx_av_int w1
          obtain ⟨xd, rfl, hdp⟩ := sx_av_int w2
          obtain ⟨xs, rfl, hsp⟩ := sx_av_int w4
          have m1 := sx_ge_ok hG.1 hG.2.1 hn d1
          have m2 := sx_ge_ok hG.1 hG.2.1 hdp d2
          have m3 := sx_ge_ok hG.1 hG.2.1 hsp d3
          have m4 := sx_ge_ok hG.1 hG.2.1 (sx_sub_ok (sx_const_ok _) (sx_add_ok hdp hn)) d4
          have m5 := sx_ge_ok hG.1 hG.2.1 (sx_sub_ok (sx_const_ok _) (sx_add_ok hsp hn)) d5
          obtain ⟨n1, n2⟩ := sx_nneg m1
          obtain ⟨n3, n4⟩ := sx_nneg m2
          obtain ⟨n5, n6⟩ := sx_nneg m3
          have g0 : g.1 ≠ 0 := by omega
          have g0' : g'.1 ≠ 0 := by omega
          have hwd : sx_wd g = g.2.1 := by unfold sx_wd; rw [if_neg g0]
          have hwd' : sx_wd g' = g'.2.1 := by unfold sx_wd; rw [if_neg g0']
          have hty : sx_aty cl g = .int := by unfold sx_aty; rw [if_pos c4]
          have hty' : sx_aty cl g' = .int := by unfold sx_aty; rw [if_pos c5]
          rcases k5 with ⟨q2, -⟩ | ⟨-, q3, q4, q5, q6⟩
          · exact absurd q2 g0
          rcases j5 with ⟨u2, -⟩ | ⟨-, u3, u4, u5, u6⟩
          · exact absurd u2 g0'
          rw [hty] at q3
          rw [hty'] at u3
          obtain ⟨q3a, kd, hkd, cmd, hkkd⟩ := q3
          obtain ⟨u3a, ks, hks, cms, hkks⟩ := u3
          obtain ⟨hx, hb, hml, hown, hts⟩ := hC
          have hel : ∀ i, i < xn.toNatClampNeg → ∃ y : Int32, cell'.slots[xs.toNatClampNeg + i]? = some (.int y) ∧ t'.2.1 ≤ y.toInt ∧ y.toInt ≤ t'.2.2 := fun i hi => by
            obtain ⟨v, tt, e1, e2, e3⟩ := j7 (xs.toNatClampNeg + i) (by rw [hwd']; omega)
            rw [sx_sl1 g0'] at e1
            have e2' : sx_ft g' (xs.toNatClampNeg + i) = some t' := sx_ft1 g0' f42 ht'
            rw [e2'] at e2
            cases e2
            rcases e3 with ⟨-, y, rfl, y1, y2⟩ | ⟨y0, -⟩ | ⟨y0, -⟩ | ⟨y0, -⟩
            · exact ⟨y, e1, y1, y2⟩
            · omega
            · omega
            · omega
          intro T hT X
          obtain ⟨vm', X', step⟩ := X.arraycopy hx hown hlink hnat hstat hini (src := ad') (dst := ad) (cs := cell') (cd := cell) (srcPos := xs) (destPos := xd) (n := xn) (by rw [hT]; exact j4) (by rw [hT]; exact k4) u3a q3a u4 q4 hks hkd hkks hkkd (by simp [refKind]) n5 n3 n1
            (by omega) (by omega)
            (fun vm₁ _ i hi => by
              obtain ⟨y, y1, -, -⟩ := hel i hi
              have ee : cell'.slots.getD (xs.toNatClampNeg + i) .null = .int y := by rw [Array.getD_eq_getD_getElem?, y1]; rfl
              rw [ee]
              exact ⟨rfl, trivial⟩)
            (g := F0 m pc ls (.int xn :: .int xd :: .ref ad :: .int xs :: .ref ad' :: t5)) rfl (by rw [hml]; exact hP.2.2.1.1) (rest := t5) rfl (by rw [hb]; exact hd) (by rw [hR.1]; exact f5) (by show 2 * 0 + _ + _ ≤ _; rw [sx_csum s5, hR.2]; omega)
          generalize hcp : copied cell' cell xs xd xn = cp at X' step
          have hsf := Cell.storeRun_facts cell xd.toNatClampNeg (cell'.stretch xs.toNatClampNeg xn.toNatClampNeg)
          have hstl : (cell'.stretch xs.toNatClampNeg xn.toNatClampNeg).length = xn.toNatClampNeg := by simp [Cell.stretch]
          have hge := fun j => Cell.storeRun_get cell xd.toNatClampNeg (cell'.stretch xs.toNatClampNeg xn.toNatClampNeg) j (by rw [hstl]; omega)
          have hcpe : cp = cell.storeRun xd.toNatClampNeg (cell'.stretch xs.toNatClampNeg xn.toNatClampNeg) := hcp.symm
          rw [← hcpe] at hsf
          have hlt : ad < H.size := (Array.getElem?_eq_some_iff.mp k4).1
          have hheap : ((T.setVm vm').setCell ad cp).heap = H.setIfInBounds ad cp := by rw [← hT]; rfl
          have e1 : (H.setIfInBounds ad cp)[ad]? = some cp := by simp [Array.getElem?_setIfInBounds, hlt]
          have e3 : ∀ q : Nat, q ≠ ad → (H.setIfInBounds ad cp)[q]? = H[q]? := fun q hq => by simp [Array.getElem?_setIfInBounds, Ne.symm hq]
          have e2 : (H.setIfInBounds ad cp).size = H.size := by simp
          have hkind : sx_kind D cl s g cp := by
            refine Or.inr ⟨g0, ?_, by rw [hsf.2.1]; exact q4, by rw [hsf.2.2.1]; exact q5, by rw [hsf.2.2.1]; exact q6.1, fun h3 => by omega⟩
            rw [hty]
            exact ⟨fun k => by rw [hsf.2.1]; exact q3a k, kd, by rw [hsf.1]; exact hkd, cmd, hkkd⟩
          have hH' : sx_H D cl RT b0 Sg s (H.setIfInBounds ad cp) := by
            intro a ra ha
            obtain ⟨ga, y1, ⟨ca, y2, y3, y4⟩, y5⟩ := hP.1 a ra ha
            by_cases haq : a = ad
            · subst haq
              rw [k2] at ha; cases ha
              rw [k3] at y1; cases y1
              refine ⟨g, k3, ⟨cp, e1, hkind, fun j hj => ?_⟩, y5⟩
              have hft : sx_ft g j = some t := sx_ft1 g0 f41 ht
              rw [sx_sl1 g0, hcpe, hge j]
              split
              · rename_i hin
                rw [hstl] at hin
                obtain ⟨y, z1, z2, z3⟩ := hel (j - xd.toNatClampNeg) (by omega)
                refine ⟨.int y, t, ?_, hft, Or.inl ⟨f1, y, rfl, by omega, by omega⟩⟩
                unfold Cell.stretch
                rw [List.getElem?_map, List.getElem?_range (by omega)]
                show some (cell'.slots.getD (xs.toNatClampNeg + (j - xd.toNatClampNeg)) .null) = _
                rw [Array.getD_eq_getD_getElem?, z1]; rfl
              · obtain ⟨v, tt, z1, z2, z3⟩ := k7 j hj
                rw [sx_sl1 g0] at z1
                rw [hft] at z2
                cases z2
                exact ⟨v, t, z1, hft, z3⟩
            · exact ⟨ga, y1, ⟨ca, by rw [e3 a haq]; exact y2, y3, y4⟩, y5⟩
          obtain ⟨hH, -, hF, hV⟩ := hP
          have hV' : ∀ zs : List (Value × Nat), va_S b0.1 s.heap (H.setIfInBounds ad cp) (locs ++ List.map (fun q => { base := ad, slot := xd.toNatClampNeg + q.snd }) zs) := fun zs => by
            refine ⟨by rw [e2]; exact hV.1.1, fun q g1 g2 => ?_, fun q hq => ?_⟩
            · rw [e3 q (fun e => g2 (by rw [e]; exact k6 c6))]
              exact hV.1.2.1 q g1 g2
            · rcases List.mem_append.mp hq with h | h
              · exact hV.1.2.2 q h
              · obtain ⟨i, -, hi⟩ := List.mem_map.mp h
                rw [← hi]
                exact k6 c6
          have hGp : sx_G FT D RT Sg (H.setIfInBounds ad cp) ρ ((E, C, N, U), sx_acpF r FA) := by
            refine ⟨hG.1, hG.2.1, hG.2.2.1, hG.2.2.2.1, fun x hx => ?_, fun x hx => ?_, hG.2.2.2.2.2.2⟩
            · obtain ⟨x1, x2⟩ := sx_mem_flt.mp hx
              obtain ⟨a, ra, ga, ca, v, o1, o2, o3, o4, o5, o6, o7⟩ := hG.2.2.2.2.1 x x1
              have hne : a ≠ ad := fun he => by
                rw [he, k2] at o2
                cases o2
                simp [sx_nb_eq, sx_beq_eq, o1] at x2
              exact ⟨a, ra, ga, ca, v, o1, o2, o3, by rw [e3 a hne]; exact o4, o5, o6, o7⟩
            · obtain ⟨x1, x2⟩ := sx_mem_flt.mp hx
              obtain ⟨a, ra, ga, ca, o1, o2, o3, o4, o5, o6⟩ := hG.2.2.2.2.2.1 x x1
              have hne : a ≠ ad := fun he => by
                rw [he, k2] at o2
                cases o2
                simp [sx_nb_eq, sx_beq_eq, o1] at x2
              exact ⟨a, ra, ga, ca, o1, o2, o3, o4, by rw [e3 a hne]; exact o5, o6⟩
          obtain ⟨tt, a1, b1⟩ := hW Sg (H.setIfInBounds ad cp) ρ ls t5 _ hle hpre ⟨hH', hGp, sx_stkS hF s5, sx_V_set hV k2 k3 c6 e2 e3 (hV' _)⟩ _ hheap X'
          exact ⟨tt, step tt a1, b1⟩
        · cases h
      · cases h
    · cases h
  · cases h
end SX17
