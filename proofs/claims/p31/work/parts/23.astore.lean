/-! sx, writes of arrays -/
/-- the place differs from that of an index -/
def sx_nidx (E : List sx_Ty) (C : List sx_LF) (f : sx_LF) (k : Nat) : Bool := sx_ge E C (sx_addC f (-(k : Int) - 1)) || sx_ge E C (sx_sub ((k : Int) - 1, []) f)
theorem sx_nidx_ok {Sg : Nat → Option Nat} {E : List sx_Ty} {C : List sx_LF} {ρ : List Value} (hE : sx_env Sg E ρ) (hC : sx_cs C ρ) {f : sx_LF} {k : Nat} {x : Int} (hf : sx_lf ρ f = some x) (h : sx_nidx E C f k = true) : x ≠ (k : Int) := by
  rcases Bool.or_eq_true_iff.mp h with h1 | h1
  · have := sx_ge_ok hE hC (sx_addC_ok (c := -(k : Int) - 1) hf) h1
    omega
  · have := sx_ge_ok hE hC (sx_sub_ok (sx_const_ok _) hf) h1
    omega
def sx_aupd (E : List sx_Ty) (C : List sx_LF) (r : Nat) (v : sx_AV) (f : sx_LF) (x : Nat × sx_Ty × List Nat) : Option (Nat × sx_Ty × List Nat) :=
  if !(x.1 == r) then some x else if sx_conf E C v x.2.1 then some x else if f.2 = [] then some (x.1, x.2.1, f.1.toNat :: x.2.2) else none
/-- the place that a fact speaks of differs from that of an index -/
noncomputable def sx_nix (E : List sx_Ty) (C : List sx_LF) (f : sx_LF) (k : Nat) : Bool := if (f.2.isEmpty && Nat.blt k 1048576) = true then sx_nb (Nat.beq f.1.toNat k) else sx_ge E C (sx_addC (sx_sub f (sx_ixf k)) (-1)) || sx_ge E C (sx_addC (sx_sub (sx_ixf k) f) (-1))
theorem sx_nix_ok {Sg : Nat → Option Nat} {E : List sx_Ty} {C : List sx_LF} {ρ : List Value} (hE : sx_env Sg E ρ) (hC : sx_cs C ρ) {f : sx_LF} {k i j : Nat} (hf : sx_lf ρ f = some (j : Int)) (hk : sx_ix ρ k = some i) (h : sx_nix E C f k = true) : i ≠ j := by
  unfold sx_nix at h
  split at h
  · rename_i hc
    simp only [Bool.and_eq_true, List.isEmpty_iff] at hc
    have h1 : (j : Int) = f.1 := sx_lf_const hf hc.1
    have h2 := sx_ix_con' hc.2 hk
    simp only [sx_nb_eq, Bool.not_eq_true'] at h
    intro he
    have : f.1.toNat = k := by omega
    rw [this, Nat.beq_refl] at h
    cases h
  · have hkl := sx_ix_lf hk
    rcases Bool.or_eq_true_iff.mp h with h1 | h1
    · have := sx_ge_ok hE hC (sx_addC_ok (c := -1) (sx_sub_ok hf hkl)) h1
      omega
    · have := sx_ge_ok hE hC (sx_addC_ok (c := -1) (sx_sub_ok hkl hf)) h1
      omega
noncomputable def sx_aF (E : List sx_Ty) (C : List sx_LF) (r : Nat) (v : sx_AV) (f : sx_LF) (F : List (Nat × Nat × sx_AV)) : List (Nat × Nat × sx_AV) :=
  sx_ecs r v f (sx_flt (fun x => sx_nb (sx_ab (Nat.beq x.1 r) (sx_nb (sx_nix E C f x.2.1)))) F)
noncomputable def sx_ast (kd : Nat) (RT : Nat → Option sx_Rg) (E : List sx_Ty) (C N : List sx_LF) (U : List (Nat × List sx_LF × Nat)) (FA : sx_FA) (L : List (Nat × sx_AV)) (S : List sx_AV) (nc ns : Nat) : Option sx_St := match S with
  | v :: b :: a :: S' => match sx_reg E RT a with
    | some (z, r, g) => match sx_tys g.2.2.2 (sx_ixs E g.2.2.2.length b.2) with
      | some ts => if b.1 = 0 ∧ g.1 = kd ∧ sx_mut g = true ∧ sx_inb E C b.2 g.2.1 = true ∧ ts.all (fun t => sx_conf E C v t) = true ∧ (kd = 3 ∨ v.1 = kd - 1) then
          some (((E, C, N, U), (sx_aF E C r v b.2 FA.1, FA.2.1.filterMap (sx_aupd E C r v b.2), FA.2.2)), (L, S'), nc, ns) else none
      | none => none
    | none => none
  | _ => none
section SX9
variable {FT : Nat → List Int → Int} {D : va_G} {cl : List vw_C} {RT : Nat → Option sx_Rg} {b0 : sx_B} {nL : Nat} {p : Program} {l : Launch} {e : Env} {R : Room} {s : State} {m : MethodId} {args : Array Value} {below : List Frame} {meth : Method} {c : Code} {Q : State → Prop}
  {Sg0 : Nat → Option Nat} {ρ0 : List Value} {pc nc ns : Nat} {cc : ByteArray} {own : String} {Ts : List Cond} {Sg : Nat → Option Nat} {H : Heap} {ρ : List Value} {ls : Array Slot} {stk : List Value} {locs : List Loc} {E : List sx_Ty} {C N : List sx_LF} {U : List (Nat × List sx_LF × Nat)}
  {FA : sx_FA} {L : List (Nat × sx_AV)} {S : List sx_AV} {i : Instr} {n : Nat}
/-- what is known behind a write at place j of the array -/
theorem sx_aw {z r q j : Nat} {g : sx_Rg} {cell : Cell} {v : sx_AV} {w : Value} {f : sx_LF} {t : sx_Ty} {H' : Heap} (hG : sx_G FT D RT Sg H ρ ((E, C, N, U), FA)) (k1 : ρ[z]? = some (.ref q)) (k2 : Sg q = some r) (k3 : RT (r) = some g) (k4 : H[q]? = some cell) (g0 : g.1 ≠ 0) (hj : j < sx_wd g) (hf : sx_lf ρ f = some (j : Int)) (hw : sx_av ρ v w)
    (hs : ∃ u, cell.slots[j]? = some u) (e1 : H'[q]? = some (cell.setSlot j w)) (e3 : ∀ x, x ≠ q → H'[x]? = H[x]?) : sx_G FT D RT Sg H' ρ ((E, C, N, U), (sx_aF E C r v f FA.1, FA.2.1.filterMap (sx_aupd E C r v f), FA.2.2)) := by
  have hap : ∀ x y, x < sx_wd g → y < sx_wd g → x ≠ y → sx_sl D g x ≠ sx_sl D g y := fun x y _ _ hne => by rw [sx_sl1 g0, sx_sl1 g0]; exact hne
  have e1' : H'[q]? = some (cell.setSlot (sx_sl D g j) w) := by rw [sx_sl1 g0]; exact e1
  obtain ⟨u, hu⟩ := hs
  have old : ∀ x ∈ sx_flt (fun x => sx_nb (sx_ab (Nat.beq x.1 r) (sx_nb (sx_nix E C f x.2.1)))) FA.1, sx_fact D RT Sg H' ρ x := fun x hx => by
    obtain ⟨hx1, hx2⟩ := sx_mem_flt.mp hx
    refine sx_fact_set (hG.2.2.2.2.1 x hx1) k2 k3 k4 hj hap e1' e3 (fun hz hk => ?_)
    simp only [sx_nb_eq, sx_ab_eq, hz, Nat.beq_refl, Bool.true_and, Bool.not_not] at hx2
    exact sx_nix_ok hG.1 hG.2.1 hf hk hx2 rfl
  refine ⟨hG.1, hG.2.1, hG.2.2.1, hG.2.2.2.1, fun x hx => ?_, fun x hx => ?_, hG.2.2.2.2.2.2⟩
  · have hx : x ∈ sx_ecs r v f (sx_flt (fun x => sx_nb (sx_ab (Nat.beq x.1 r) (sx_nb (sx_nix E C f x.2.1)))) FA.1) := hx
    unfold sx_ecs at hx
    split at hx
    · rename_i kc hkc
      rcases List.mem_cons.mp hx with rfl | hx
      · exact sx_fact_mk (sx_enc_ok hkc hf) k2 k3 e1' hj (Cell.slots_setSlot_self _ (by rw [sx_sl1 g0]; exact k2_hasslot hu)) hw
      · exact old x hx
    · exact old x hx
  · obtain ⟨y, hy1, hy2⟩ := List.mem_filterMap.mp hx
    obtain ⟨a', r', g', cell', m1, m2, m3, m4, m5, m6⟩ := hG.2.2.2.2.2.1 y hy1
    have away : a' ≠ q → sx_all D RT Sg H' ρ y := fun hne => ⟨a', r', g', cell', m1, m2, m3, m4, by rw [e3 a' hne]; exact m5, m6⟩
    have same : a' = q → (∀ k u, k < sx_wd g → k ∉ y.2.2 → k ≠ j → cell.slots[k]? = some u → sx_ok Sg u y.2.1) := fun he k u hk hn _ hu' => by
      subst he
      rw [k2] at m2; cases m2
      rw [k3] at m3; cases m3
      rw [k4] at m5; cases m5
      exact m6 k u hk hn hu'
    unfold sx_aupd at hy2
    split at hy2
    · rename_i ho
      cases hy2
      exact away (fun he => by
        simp at ho
        rw [he, k2] at m2
        cases m2
        exact ho m1)
    · split at hy2
      · rename_i hcf
        cases hy2
        by_cases he : a' = q
        · refine ⟨q, r, g, _, by rw [he, k2] at m2; cases m2; exact m1, k2, k3, g0, e1, fun k u hk hn hu' => ?_⟩
          by_cases hkj : k = j
          · subst hkj
            rw [Cell.slots_setSlot_self _ (k2_hasslot hu)] at hu'
            cases hu'
            exact sx_conf_ok hG.1 hG.2.1 hw hcf
          · rw [slot_ne _ _ (Ne.symm hkj)] at hu'
            exact same he k u hk hn hkj hu'
        · exact away he
      · split at hy2
        · rename_i hf0
          cases hy2
          have hjc : (j : Int) = f.1 := sx_lf_const hf hf0
          have hjn : f.1.toNat = j := by omega
          by_cases he : a' = q
          · refine ⟨q, r, g, _, by rw [he, k2] at m2; cases m2; exact m1, k2, k3, g0, e1, fun k u hk hn hu' => ?_⟩
            have hn : k ∉ f.1.toNat :: y.2.2 := hn
            rw [hjn] at hn
            have hkj : k ≠ j := fun h => hn (by rw [h]; exact List.mem_cons_self)
            rw [slot_ne _ _ (Ne.symm hkj)] at hu'
            exact same he k u hk (fun h => hn (List.mem_cons_of_mem _ h)) hkj hu'
          · refine ⟨a', r', g', cell', m1, m2, m3, m4, by rw [e3 a' he]; exact m5, fun k u hk hn hu' => m6 k u hk (fun h => hn (List.mem_cons_of_mem _ h)) hu'⟩
        · cases hy2
theorem sx_ast_ok {kd : Nat} {st' : sx_St} (hC : sx_Cx p s m args c cc nL own Ts) (hi : (i = .iastore ∧ kd = 1) ∨ (i = .lastore ∧ kd = 2)) (h : sx_ast kd RT E C N U FA L S nc ns = some st') (hd : decode cc pc = .ok (i, 1))
    (hP : sx_Pt FT D cl RT b0 nL s Sg H ρ ((E, C, N, U), FA) L S ls stk locs) (hle : sx_le Sg0 Sg) (hpre : ρ0 <+: ρ) (hW : sx_W FT D cl RT b0 nL p l e R s m args below meth c Q Sg0 ρ0 (pc + 1) st') : W p l e R s m args below meth c H locs nc ns Q (F0 m pc ls stk) := by
  unfold sx_ast at h
  split at h
  · rename_i v b a S'
    split at h
    · rename_i z r g hreg
      obtain ⟨w, t0, rfl, h0, hs0⟩ := sx_stk_cons hP.2.2.1.2.2.2
      obtain ⟨w1, t1, rfl, h1, hs1⟩ := sx_stk_cons hs0
      obtain ⟨w2, t2, rfl, h2, hs2⟩ := sx_stk_cons hs1
      have hG := hP.2.1
      obtain ⟨ad, cell, rfl, k1, k2, k3, -, k4, k5, kb, k6⟩ := sx_reg_ok hreg hG.1 hP.1 h2
      split at h
      · rename_i ts hts
        split at h
        · rename_i hc
          obtain ⟨c1, c2, c3, c4, c5, c6⟩ := hc
          cases h
          obtain ⟨bt, bf⟩ := b
          have c1 : bt = 0 := c1
          subst c1
          obtain ⟨x, rfl, hf⟩ := sx_av_int h1
          obtain ⟨x0, x1⟩ := sx_inb_ok hG.1 hG.2.1 hf c4
          have g0 : g.1 ≠ 0 := by rcases hi with ⟨-, h⟩ | ⟨-, h⟩ <;> omega
          have hwd : sx_wd g = g.2.1 := by unfold sx_wd; rw [if_neg g0]
          have hcl : (x.toNatClampNeg : Int) = x.toInt := by have : x.toNatClampNeg = x.toInt.toNat := rfl
                                                             omega
          have hlt : x.toNatClampNeg < sx_wd g := by rw [hwd]; omega
          obtain ⟨u, t', s1, s2, s3⟩ := k6 x.toNatClampNeg hlt
          rw [sx_sl1 g0] at s1
          have hft : sx_ft g x.toNatClampNeg = some t' := s2
          have hcf : sx_conf E C v t' = true := List.all_eq_true.mp c5 t' (sx_tys_ft hG.1 g0 hf x0 hts s2)
          have hap : ∀ x y, x < sx_wd g → y < sx_wd g → x ≠ y → sx_sl D g x ≠ sx_sl D g y := fun x y _ _ hne => by rw [sx_sl1 g0, sx_sl1 g0]; exact hne
          have K : ∀ H' : Heap, H'[ad]? = some (cell.setSlot x.toNatClampNeg w) → H'.size = H.size → (∀ y, y ≠ ad → H'[y]? = H[y]?) → W p l e R s m args below meth c H' (locs ++ [⟨ad, x.toNatClampNeg⟩]) nc ns Q (F0 m (pc + 1) ls t2) := fun H' e1 e2 e3 => by
            have e1' : H'[ad]? = some (cell.setSlot (sx_sl D g x.toNatClampNeg) w) := by rw [sx_sl1 g0]; exact e1
            have hH' := sx_H_set hP.1 k2 k3 k4 hlt hft (sx_conf_ok hG.1 hG.2.1 h0 hcf) hap e1' e3
            obtain ⟨hH, -, hF, hV⟩ := hP
            exact hW Sg H' ρ ls t2 _ hle hpre ⟨hH', sx_aw (t := t') hG k1 k2 k3 k4 g0 hlt (by rw [hf, hcl]) h0 ⟨u, s1⟩ e1 e3, sx_stkS hF hs2, sx_V_set hV k2 k3 c3 e2 e3 (hV.1.put e2 e3 (kb c3))⟩
          obtain ⟨hx, hb, -, hown, hts⟩ := hC
          rcases k5 with ⟨q2, -⟩ | ⟨q2, q3, q4, q5, q6⟩
          · exact absurd q2 g0
          · obtain ⟨f1, -, -⟩ := sx_idx x0 x1 q5
            obtain ⟨vt, vf⟩ := v
            rcases hi with ⟨rfl, hk⟩ | ⟨rfl, hk⟩
            · have ha : sx_aty cl g = .int := by unfold sx_aty; rw [if_pos (by omega)]
              rw [ha] at q3
              have hv0 : vt = 0 := by rcases c6 with c6 | c6
                                      · omega
                                      · have c6 : vt = kd - 1 := c6
                                        omega
              subst hv0
              obtain ⟨y, rfl, -⟩ := sx_av_int h0
              exact W.iast hx hb k4 q3 q4 f1 rfl rfl hd (fun H' e1 e2 e3 => K H' e1 e2 e3)
            · have ha : sx_aty cl g = .long := by unfold sx_aty; rw [if_neg (by omega), if_pos (by omega)]
              rw [ha] at q3
              have hv0 : vt = 1 := by rcases c6 with c6 | c6
                                      · omega
                                      · have c6 : vt = kd - 1 := c6
                                        omega
              subst hv0
              obtain ⟨y, rfl, -⟩ := sx_av_long h0
              exact W.last hx hb k4 q3 q4 f1 rfl rfl hd (fun H' e1 e2 e3 => K H' e1 e2 e3)
        · cases h
      · cases h
    · cases h
  · cases h
/-- a reference into an array of its class -/
theorem sx_aast_ok {st' : sx_St} (hC : sx_Cx p s m args c cc nL own Ts) (hKn : va_K D cl [] s) (h : sx_ast 3 RT E C N U FA L S nc ns = some st') (hv : ∀ v b a S', S = v :: b :: a :: S' → ∃ z r g z' r' g', sx_reg E RT a = some (z, r, g) ∧ sx_reg E RT v = some (z', r', g') ∧ g'.1 = 0 ∧ g'.2.1 = g.2.2.1 ∧ ∃ q, cl[g.2.2.1]? = some q) (hd : decode cc pc = .ok (.aastore, 1))
    (hP : sx_Pt FT D cl RT b0 nL s Sg H ρ ((E, C, N, U), FA) L S ls stk locs) (hle : sx_le Sg0 Sg) (hpre : ρ0 <+: ρ) (hW : sx_W FT D cl RT b0 nL p l e R s m args below meth c Q Sg0 ρ0 (pc + 1) st') : W p l e R s m args below meth c H locs nc ns Q (F0 m pc ls stk) := by
  unfold sx_ast at h
  split at h
  · rename_i v b a S'
    obtain ⟨z, r, g, z', r', g', hreg, hregv, gv0, gvc, cq, hcq⟩ := hv v b a S' rfl
    rw [hreg] at h
    simp only at h
    obtain ⟨w, t0, rfl, h0, hs0⟩ := sx_stk_cons hP.2.2.1.2.2.2
    obtain ⟨w1, t1, rfl, h1, hs1⟩ := sx_stk_cons hs0
    obtain ⟨w2, t2, rfl, h2, hs2⟩ := sx_stk_cons hs1
    have hG := hP.2.1
    obtain ⟨ad, cell, rfl, k1, k2, k3, -, k4, k5, kb, k6⟩ := sx_reg_ok hreg hG.1 hP.1 h2
    obtain ⟨av, cellv, rfl, -, -, -, -, v4, v5, -, -⟩ := sx_reg_ok hregv hG.1 hP.1 h0
    split at h
    · rename_i ts hts
      split at h
      · rename_i hc
        obtain ⟨c1, c2, c3, c4, c5, c6⟩ := hc
        cases h
        obtain ⟨bt, bf⟩ := b
        have c1 : bt = 0 := c1
        subst c1
        obtain ⟨x, rfl, hf⟩ := sx_av_int h1
        obtain ⟨x0, x1⟩ := sx_inb_ok hG.1 hG.2.1 hf c4
        have g0 : g.1 ≠ 0 := by omega
        have hwd : sx_wd g = g.2.1 := by unfold sx_wd; rw [if_neg g0]
        have hcl : (x.toNatClampNeg : Int) = x.toInt := by have : x.toNatClampNeg = x.toInt.toNat := rfl
                                                           omega
        have hlt : x.toNatClampNeg < sx_wd g := by rw [hwd]; omega
        obtain ⟨u, t', s1, s2, s3⟩ := k6 x.toNatClampNeg hlt
        rw [sx_sl1 g0] at s1
        have hft : sx_ft g x.toNatClampNeg = some t' := s2
        have hcf : sx_conf E C v t' = true := List.all_eq_true.mp c5 t' (sx_tys_ft hG.1 g0 hf x0 hts s2)
        have hap : ∀ x y, x < sx_wd g → y < sx_wd g → x ≠ y → sx_sl D g x ≠ sx_sl D g y := fun x y _ _ hne => by rw [sx_sl1 g0, sx_sl1 g0]; exact hne
        obtain ⟨hx, hb, -, hown, hts⟩ := hC
        rcases k5 with ⟨q2, -⟩ | ⟨q2, q3, q4, q5, q6⟩
        · exact absurd q2 g0
        · obtain ⟨f1, -, -⟩ := sx_idx x0 x1 q5
          have ha : sx_aty cl g = .object cq.1 := by unfold sx_aty sx_cn; rw [if_neg (by omega), if_neg (by omega), hcq]
          rw [ha] at q3
          have hRA := q6.2 c2
          rw [ha] at hRA
          obtain ⟨kA, comp, r1, r2, r3, -⟩ := hRA
          have hcls := (hKn.1 g.2.2.1 cq hcq).2
          have hvk : cellv.cls = D.1 g.2.2.1 ∧ cellv.vm = .none := by
            rcases v5 with ⟨-, y1, y2⟩ | ⟨y1, -⟩
            · exact ⟨by rw [← gvc]; exact y1, y2⟩
            · exact absurd gv0 y1
          have hcomp : comp = D.1 g.2.2.1 := Option.some.inj (r3.symm.trans hcls.1)
          subst hcomp
          obtain ⟨kC, hkC, -⟩ := hcls.2
          refine W.aast hx hb k4 q3.1 q4 r1 r2 rfl hkC ⟨fun q => f1 (Or.inl q), Nat.not_le.mp fun q => f1 (Or.inr q)⟩ v4 (fun q hq => by rw [hvk.2] at hq; cases hq) (by rw [hvk.1]; exact hkC) (by rw [hvk.1]; exact va_assign hcls) rfl rfl hd fun H' e1 e2 e3 => ?_
          have e1' : H'[ad]? = some (cell.setSlot (sx_sl D g x.toNatClampNeg) (.ref av)) := by rw [sx_sl1 g0]; exact e1
          have hH' := sx_H_set hP.1 k2 k3 k4 hlt hft (sx_conf_ok hG.1 hG.2.1 h0 hcf) hap e1' e3
          obtain ⟨hH, -, hF, hV⟩ := hP
          exact hW Sg H' ρ ls t2 _ hle hpre ⟨hH', sx_aw (t := t') hG k1 k2 k3 k4 g0 hlt (by rw [hf, hcl]) h0 ⟨u, s1⟩ e1 e3, sx_stkS hF hs2, sx_V_set hV k2 k3 c3 e2 e3 (hV.1.put e2 e3 (kb c3))⟩
      · cases h
    · cases h
  · cases h
end SX9
