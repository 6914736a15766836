/-! calls by contract are right -/
section SXD
variable {FT : Nat → List Int → Int} {D : va_G} {cl : List vw_C} {RT : Nat → Option sx_Rg} {AO : sx_Ao} {TB : List Cond} {CJ : List (List Nat)} {MT : List (List sx_Me)} {CDs : List sx_Da} {l : Launch} {Sg : Nat → Option Nat} {B0 : Nat → Prop} {J : (Nat → Option Nat) → Heap → Prop} {V Wx : Nat}
theorem sx_H_base {b0 b1 : sx_B} {U : State} {H : Heap} (hb : ∀ a, b1.1 a) (h : sx_H D cl (sx_fz V RT) b0 Sg U H) : sx_H D cl RT b1 Sg U H := by
  intro a r har
  obtain ⟨g, h1, h2, h3, h4⟩ := h a r har
  obtain ⟨g0, k1, rfl⟩ := sx_fz_ok h1
  exact ⟨g0, k1, (sx_fz1_cell V r g0 a).mp h2, fun _ => hb a, h4⟩
/-- a fact of a region that the callee may not write -/
theorem sx_kept {W : Nat} {H H2 : Heap} {a r : Nat} {cell : Cell} (hk : sx_kp W RT r = true) (ha : Sg a = some r) (hc : H[a]? = some cell) (hf : H.size ≤ H2.size ∧ ∀ a, a < H.size → ¬ sx_bW RT W B0 Sg a → H2[a]? = H[a]?) : H2[a]? = some cell := by
  obtain ⟨g, g1, g2⟩ := sx_kp_ok hk
  rw [hf.2 a (Array.getElem?_eq_some_iff.mp hc).1 (fun hb => by rw [hb.2 r g ha g1] at g2; cases g2)]
  exact hc
theorem sx_ctm_ok {CT : List (List sx_Ct)} {nR lim : Nat} (hw : sx_Wd nR RT B0 Sg) (hJw : ∀ S H, J S H → sx_le Sg S) (hxv : sx_subm Wx V = true) (hp : sx_prog cl RT CJ AO TB MT CDs) (hCT : ∀ j, j < lim → ∀ ct, sx_at2 CT j = some ct → sx_CTok D cl RT AO TB B0 J l MT Sg ct) {h : sx_Ha} {M : sx_Me} {bud : sx_Bu} {pc : Nat} {st : sx_St} {X : List (Nat × sx_St)} (hM : M ∈ MT.flatten) (hmac : sx_ctm RT V MT CDs CT nR lim h M bud pc st = some X)
    {p : Program} {e : Env} {R : Room} {s : State} {m : MethodId} {args : Array Value} {below : List Frame} {meth : Method} {c : Code} {Q : State → Prop} {Sg0 : Nat → Option Nat} {ρ0 : List Value} (hF : sx_Frm D cl AO TB (sx_bW RT V B0 Sg, J) M bud p R s m args meth c)
    (hW : ∀ q ∈ X, sx_W FT D cl (sx_fz Wx RT) (sx_bW RT V B0 Sg, J) M.1.2.2.1 p l e R s m args below meth c Q Sg0 ρ0 q.1 q.2) : sx_W FT D cl (sx_fz Wx RT) (sx_bW RT V B0 Sg, J) M.1.2.2.1 p l e R s m args below meth c Q Sg0 ρ0 pc st := by
  obtain ⟨hg, hcl, hRT, hCJ, hai, hal, hMT, hDA⟩ := hp
  obtain ⟨mo1, mo2, mo4, mo5, mo6⟩ := hMT M hM
  have hF0 := hF
  obtain ⟨hCx, hKs, hb0, r1, r2, r3, r4, hini, hret, hlocks, hZS⟩ := hF0
  have hts := hCx.2.2.2.2
  unfold sx_ctm at hmac
  split at hmac
  · rename_i pc0 i len d hrow hd
    obtain ⟨⟨cc, hcc, hrm⟩, hpc0⟩ := sx_row_ok hrow
    have hpc0 : pc0 = pc := hpc0
    subst hpc0
    have hdec : decode M.1.2.1 pc0 = .ok (i, len) := mo1 cc hcc (pc0, i, len) hrm
    have hdn := mo5 d hd
    obtain ⟨-, hml, -, -⟩ := hDA d (List.mem_of_getElem? hd) args s hts hKs.2.1
    rw [hdn] at hml
    split at hmac
    · rename_i kind idx hinv
      have hi := sx_isinv_ok hinv
      subst hi
      split at hmac
      · rename_i q hq
        have hq1 := sx_fnd_mem hq
        have hq2 := sx_fnd_some hq
        simp only [sx_ab_eq, Bool.and_eq_true, Nat.beq_eq_true_eq] at hq2
        obtain ⟨q2, q3⟩ := hq2
        have q2 := Nat.eq_of_beq_eq_true q2
        have q3 := Nat.eq_of_beq_eq_true q3
        subst q2
        subst q3
        split at hmac
        · rename_i M' hM'
          have hM'm := sx_at2_mem hM'
          obtain ⟨hmlk, mo3⟩ := hml q hq1 M' hM'
          obtain ⟨⟨⟨E, C, N, U⟩, FA⟩, ⟨L, S⟩, nc, ns⟩ := st
          simp only at hmac
          generalize hn : q.2.2.2 + (if q.2.1 = 1 then 0 else 1) = n at hmac
          split at hmac
          · rename_i ct hpick
            obtain ⟨⟨j, hj1, hj2⟩, hcm, hca⟩ := sx_cpick_ok hpick
            split at hmac
            · rename_i hc
              obtain ⟨k0, k1, k2, k3, k4, k5, k6, k7, k8, k9, k10, k11, k12, k13⟩ := hc
              subst k0
              intro Sg' H ρ ls stk locs hle hpre hP
              obtain ⟨hH, hG, hFr, hV⟩ := hP
              have hSg : Sg' = Sg := sx_wd_eq hw.2.1 (hJw _ _ hV.2.1) (fun a r ha => by rw [← k12]; exact hG.2.2.2.2.2.2 a r ha) hH
              subst hSg
              have hH : sx_H D cl (sx_fz Wx RT) (sx_bW RT V B0 Sg', J) Sg' s H := hH
              have hG : sx_G FT D (sx_fz Wx RT) Sg' H ρ ((E, C, N, U), FA) := hG
              have hHb : sx_H D cl RT ((fun _ => True), J) Sg' s H := sx_H_base (fun _ => trivial) hH
              obtain ⟨f1, f2, f3, f4⟩ := hFr
              have f4 : sx_stk ρ S stk := f4
              have f4' := f4
              rw [← List.take_append_drop n S] at f4'
              obtain ⟨t1, t2, rfl, g1, g2⟩ := sx_stk_app f4'
              generalize hvs : t1.reverse = vs
              have ht1 : t1 = vs.reverse := by rw [← hvs, List.reverse_reverse]
              subst ht1
              have gv : sx_stk ρ (S.take n).reverse vs := by
                have := sx_stk_rev g1
                rwa [List.reverse_reverse] at this
              have hvl : vs.length = n := by rw [sx_stk_len gv, List.length_reverse]; exact k1
              have hcvs := sx_cargs_ok hG.1 hG.2.1 hHb hca gv
              have hCG := hCT j hj1 ct hj2 H vs M' (by rw [hcm]; exact hM') hcvs hV.2.1
              refine pv_call3 (bc0 := (sx_bW RT ct.2.2.2.2.2 B0 Sg', J)) (RTc := sx_fz ct.2.2.2.2.2 RT) (bc := (ct.2.2.2.1, ct.2.2.2.2.1, M'.2.2.1.2.2.1, M'.2.2.1.2.2.2.1)) hg (hMT M' hM'm) mo3 hF hmlk hdec (by rw [hvl, ← hn]) (by rw [sx_lgsl gv]; exact k2) (by rw [sx_cs8_ok g2]; exact k3) k4 k5 rfl rfl (fun h => absurd h k6) (by rw [k8]; exact k10) (by rw [k9]; exact k11) (fun hk => ?_)
                (fun a ha => sx_bW_sub k13 ha) (fun a ha => ⟨(hF.2.2.1 a (Nat.le_trans hV.1.1 ha)).1, fun r g hr _ => absurd (sx_H_lt hH hr) (by omega)⟩) (fun U hU => sx_H_conv hw.2.2 (by unfold sx_subm; rw [show Nat.land ct.2.2.2.2.2 ct.2.2.2.2.2 = ct.2.2.2.2.2 from Nat.and_self _]; exact Nat.beq_refl _) (Vm.Alike.refl U.vm) hU) (fun U U2 H2 _ h2 => sx_H_conv hw.2.2 hxv (Vm.Alike.refl U2.vm) h2) hH hV.1 f1 hCG (fun vo H2 locs2 hH2 hV2 hfr hres => ?_)
              · unfold sx_rcv at k7
                rw [if_neg hk] at k7
                split at k7
                · rename_i a avs' hav
                  split at k7
                  · rename_i z r g hreg
                    simp only [Bool.and_eq_true, beq_iff_eq] at k7
                    rw [hav] at gv
                    obtain ⟨v, vs', rfl, w1, w2⟩ := sx_stk_cons gv
                    obtain ⟨ad, cell, rfl, -, -, k33, -, k44, k55, -, -⟩ := sx_reg_ok (D := D) (cl := cl) (s := s) (H := H) hreg hG.1 hHb w1
                    refine ⟨ad, vs', rfl, cell, k44, ?_⟩
                    obtain ⟨mp1, mp2, mp4, mp5, mp6⟩ := hMT M' hM'm
                    rcases k55 with ⟨-, y1, y2⟩ | ⟨y1, -⟩
                    · refine ⟨by rw [y2]; rfl, ?_⟩
                      cases hcq : cl[g.2.1]? with
                      | none =>
                        obtain ⟨r', hr', -⟩ := hRT _ g k33 k7.1
                        rw [hcq] at hr'
                        cases hr'
                      | some cq =>
                        have e1 := mp6 cq (by rw [← k7.2]; exact hcq)
                        rw [← e1, y1]
                        exact (hKs.1.1 g.2.1 cq hcq).2.1
                    · exact absurd k7.1 y1
                  · cases k7
                · cases k7
              · obtain ⟨hcr, hJ2⟩ := hres
                rw [k8, k9]
                show W p l e R s m args below meth c H2 locs2 nc ns Q _
                have hG2 : sx_G FT D (sx_fz Wx RT) Sg' H2 ρ ((E, C, N, U), (sx_flt (fun x => sx_kp ct.2.2.2.2.2 RT x.1) FA.1, sx_flt (fun x => sx_kp ct.2.2.2.2.2 RT x.1) FA.2.1, nR)) := by
                  refine ⟨hG.1, hG.2.1, hG.2.2.1, hG.2.2.2.1, fun x hx => ?_, fun x hx => ?_, hw.1⟩
                  · obtain ⟨x1, x2⟩ := sx_mem_flt.mp hx
                    obtain ⟨a, r, g, cell, v, e1, e2, e3, e4, e5, e6, e7⟩ := hG.2.2.2.2.1 x x1
                    rw [e1] at x2
                    exact ⟨a, r, g, cell, v, e1, e2, e3, sx_kept x2 e2 e4 hfr, e5, e6, e7⟩
                  · obtain ⟨x1, x2⟩ := sx_mem_flt.mp hx
                    obtain ⟨a, r, g, cell, e1, e2, e3, e4, e5, e6⟩ := hG.2.2.2.2.2.1 x x1
                    rw [e1] at x2
                    exact ⟨a, r, g, cell, e1, e2, e3, e4, sx_kept x2 e2 e5 hfr, e6⟩
                have hV3 : sx_V (sx_fz Wx RT) (sx_bW RT V B0 Sg', J) s Sg' H2 locs2 := ⟨hV2, hJ2, hV.2.2⟩
                have hFr2 : sx_Fr ρ M.1.2.2.1 ls t2 L (S.drop n) := ⟨f1, f2, f3, g2⟩
                unfold sx_cres at hcr
                split at hmac
                · rename_i hnone
                  rw [hnone] at hcr
                  have hcr : vo = none := hcr
                  subst hcr
                  cases hmac
                  exact hW _ List.mem_cons_self Sg' H2 ρ ls t2 locs2 hle hpre ⟨hH2, hG2, hFr2, hV3⟩
                · rename_i t hsome
                  rw [hsome] at hcr
                  obtain ⟨v, rfl, hv⟩ := hcr
                  split at hmac
                  · rename_i ht2
                    cases hmac
                    have hG3 := sx_G_ext (t := t) (v := v) hG2 hv
                    have hav : sx_av (ρ ++ [v]) (sx_nav t E.length) v := sx_nav_ok (Sg := Sg') (sx_iv_new hG2.1.1) hv ht2
                    have hF3 := sx_Fr_ext (ρ2 := [v]) hFr2
                    exact hW _ List.mem_cons_self Sg' H2 (ρ ++ [v]) ls (v :: t2) locs2 hle (hpre.trans (List.prefix_append ρ _)) ⟨hH2, hG3, ⟨hF3.1, hF3.2.1, hF3.2.2.1, hav, sx_stk_ext g2⟩, hV3⟩
                  · cases hmac
            · cases hmac
          · cases hmac
        · cases hmac
      · cases hmac
    · cases hmac
  · cases hmac
/-- static tables that are regions: (class, index, class and field and its type by name, region) -/
abbrev sx_Gt : Type := Nat × Nat × (String × String × String) × Nat
def sx_gtok (CDs : List sx_Da) (AO : sx_Ao) (TB : List Cond) (Sg : Nat → Option Nat) (q : sx_Gt) : Prop := ∃ a, (q.2.2.1.1, q.2.2.1.2.1, q.2.2.1.2.2, a) ∈ AO.2 ∧ Sg a = some q.2.2.2 ∧ (∀ d, CDs[q.1]? = some d → Cond.fieldLink d.1 q.2.1 q.2.2.1.1 q.2.2.1.2.1 q.2.2.1.2.2 ∈ TB) ∧ sx_sk q.2.2.1.2.2 = 0
def sx_isgs (i : Instr) : Option Nat := match i with
  | .getstatic x => some x
  | _ => none
theorem sx_isgs_ok {i : Instr} {x : Nat} (h : sx_isgs i = some x) : i = .getstatic x := by
  unfold sx_isgs at h
  split at h
  · cases h; rfl
  · cases h
noncomputable def sx_gsm (GT : List sx_Gt) (CDs : List sx_Da) (h : sx_Ha) (M : sx_Me) (pc : Nat) (st : sx_St) : Option (List (Nat × sx_St)) := match sx_row M.2.1 pc, h.2.2, CDs[M.2.2.1.1]? with
  | some (_, i, len), [k], some _ => match sx_isgs i, GT[k.toNat]?, st with
    | some idx, some q, (((E, C, N, U), FA), (L, S), nc, ns) => if len = 3 ∧ Nat.beq q.1 M.2.2.1.1 = true ∧ Nat.beq q.2.1 idx = true then some [(pc + 3, (((E ++ [(2, (q.2.2.2 : Int), 0)], C, N, U), FA), (L, (2, ((E.length : Int), [])) :: S), nc, ns))] else none
    | _, _, _ => none
  | _, _, _ => none
theorem sx_gsm_ok {b0 : sx_B} {GT : List sx_Gt} (hp : sx_prog cl RT CJ AO TB MT CDs) (hGT : ∀ q ∈ GT, sx_gtok CDs AO TB Sg q) {h : sx_Ha} {M : sx_Me} {bud : sx_Bu} {pc : Nat} {st : sx_St} {X : List (Nat × sx_St)} (hM : M ∈ MT.flatten) (hmac : sx_gsm GT CDs h M pc st = some X) {RTx : Nat → Option sx_Rg}
    {p : Program} {e : Env} {R : Room} {s : State} {m : MethodId} {args : Array Value} {below : List Frame} {meth : Method} {c : Code} {Q : State → Prop} {Sg0 : Nat → Option Nat} {ρ0 : List Value} (hF : sx_Frm D cl AO TB b0 M bud p R s m args meth c) (hJw : ∀ S H, b0.2 S H → sx_le Sg S)
    (hW : ∀ q ∈ X, sx_W FT D cl RTx b0 M.1.2.2.1 p l e R s m args below meth c Q Sg0 ρ0 q.1 q.2) : sx_W FT D cl RTx b0 M.1.2.2.1 p l e R s m args below meth c Q Sg0 ρ0 pc st := by
  obtain ⟨hg, hcl, hRT, hCJ, hai, hal, hMT, hDA⟩ := hp
  obtain ⟨mo1, mo2, mo4, mo5, mo6⟩ := hMT M hM
  unfold sx_gsm at hmac
  split at hmac
  · rename_i pc0 i len k d hrow hps hd
    obtain ⟨⟨cc, hcc, hrm⟩, hpc0⟩ := sx_row_ok hrow
    have hpc0 : pc0 = pc := hpc0
    subst hpc0
    have hdec : decode M.1.2.1 pc0 = .ok (i, len) := mo1 cc hcc (pc0, i, len) hrm
    have hdn := mo5 d hd
    split at hmac
    · rename_i idx q E C N U FA L S nc ns hgs hq
      have hi := sx_isgs_ok hgs
      subst hi
      split at hmac
      · rename_i hc
        obtain ⟨k0, k1, k2⟩ := hc
        subst k0
        cases hmac
        have k1 := Nat.eq_of_beq_eq_true k1
        have k2 := Nat.eq_of_beq_eq_true k2
        obtain ⟨a, a1, a2, a3, a4⟩ := hGT q (List.mem_of_getElem? hq)
        have hlk := a3 d (by rw [k1]; exact hd)
        rw [hdn, k2] at hlk
        intro Sg' H ρ ls stk locs hle hpre hP
        obtain ⟨hH, hG, hFr, hV⟩ := hP
        have hz := sx_ZS_va hF.2.2.2.2.2.2.2.2.2.2 a1 a4
        refine va_gets hF.1.1 hF.1.2.1 hz hV.1 hF.1.2.2.2.1 (hF.1.2.2.2.2 _ hlk) (fun x hx => hx) hdec ?_
        have hSg : Sg' a = some q.2.2.2 := hJw _ _ hV.2.1 a _ a2
        have hGx := sx_G_ext (t := (2, (q.2.2.2 : Int), 0)) (v := .ref a) hG (Or.inr (Or.inr (Or.inl ⟨rfl, a, rfl, by show Sg' a = some ((q.2.2.2 : Int)).toNat; rw [Int.toNat_natCast]; exact hSg⟩)))
        have hF3 := sx_Fr_ext (ρ2 := [Value.ref a]) hFr
        refine hW _ List.mem_cons_self Sg' H (ρ ++ [.ref a]) ls (.ref a :: stk) locs hle (hpre.trans (List.prefix_append ρ _)) ⟨hH, hGx, ⟨hF3.1, hF3.2.1, hF3.2.2.1, ?_⟩, hV⟩
        exact ⟨Or.inr (Or.inr (Or.inl ⟨rfl, by show (ρ ++ [Value.ref a])[((E.length : Nat) : Int).toNat]? = some (.ref a); rw [Int.toNat_natCast]; exact sx_iv_new hG.1.1, a, rfl⟩)), hF3.2.2.2⟩
      · cases hmac
    · cases hmac
  · cases hmac
/-- the claim's own hooks, calls by contract (hook 100), static tables (hook 101) -/
noncomputable def sx_mac2 (mac : sx_Mac) (GT : List sx_Gt) (RT : Nat → Option sx_Rg) (V : Nat) (MT : List (List sx_Me)) (CDs : List sx_Da) (CT : List (List sx_Ct)) (nR lim : Nat) : sx_Mac := fun h M bud pc st => if h.2.1 = 100 then sx_ctm RT V MT CDs CT nR lim h M bud pc st else if h.2.1 = 101 then sx_gsm GT CDs h M pc st else mac h M bud pc st
theorem sx_mac2_ok {mac : sx_Mac} {GT : List sx_Gt} {CT : List (List sx_Ct)} {nR lim : Nat} (hw : sx_Wd nR RT B0 Sg) (hJw : ∀ S H, J S H → sx_le Sg S) (hxv : sx_subm Wx V = true) (hp : sx_prog cl RT CJ AO TB MT CDs) (hGT : ∀ q ∈ GT, sx_gtok CDs AO TB Sg q) (hm : sx_macok FT D cl (sx_fz Wx RT) AO TB (sx_bW RT V B0 Sg, J) l MT mac) (hCT : ∀ j, j < lim → ∀ ct, sx_at2 CT j = some ct → sx_CTok D cl RT AO TB B0 J l MT Sg ct) : sx_macok FT D cl (sx_fz Wx RT) AO TB (sx_bW RT V B0 Sg, J) l MT (sx_mac2 mac GT RT V MT CDs CT nR lim) := by
  intro h M bud pc st X hM hh hpc hmac p e R s m args below meth c Q Sg0 ρ0 hF hW
  unfold sx_mac2 at hmac
  split at hmac
  · exact sx_ctm_ok hw hJw hxv hp hCT hM hmac hF hW
  · split at hmac
    · exact sx_gsm_ok hp hGT hM hmac hF hJw hW
    · exact hm h M bud pc st X hM hh hpc hmac p e R s m args below meth c Q Sg0 ρ0 hF hW
/-- all contracts hold, if each stands on those ahead of it -/
theorem sx_ctall {CT : List (List sx_Ct)} (h : ∀ (j : Nat) (ct : sx_Ct), sx_at2 CT j = some ct → (∀ i, i < j → ∀ c, sx_at2 CT i = some c → sx_CTok D cl RT AO TB B0 J l MT Sg c) → sx_CTok D cl RT AO TB B0 J l MT Sg ct) : ∀ (j : Nat) (ct : sx_Ct), sx_at2 CT j = some ct → sx_CTok D cl RT AO TB B0 J l MT Sg ct := by
  intro j
  induction j using Nat.strongRecOn with
  | ind j ih => exact fun ct hct => h j ct hct (fun i hi c hc => ih i hi c hc)
end SXD
