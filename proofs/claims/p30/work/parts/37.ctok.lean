/-! calls by contract are right -/
section SXD
variable {FT : Nat → List Int → Int} {D : va_G} {cl : List vw_C} {RT : Nat → Option sx_Rg} {AO : sx_Ao} {TB : List Cond} {CJ : List (List Nat)} {MT : List (List sx_Me)} {CDs : List sx_Da} {b0 : Nat} {l : Launch}
theorem sx_env_le {Sg Sg2 : Nat → Option Nat} {E : List sx_Ty} {ρ : List Value} (h : sx_env Sg E ρ) (hle : sx_le Sg Sg2) : sx_env Sg2 E ρ := ⟨h.1, fun z t v a b => sx_ok_le hle (h.2 z t v a b)⟩
theorem sx_ctm_ok {CT : List (List sx_Ct)} {nR lim : Nat} (hp : sx_prog cl RT CJ AO TB MT CDs) (hCT : ∀ j, j < lim → ∀ ct, sx_at2 CT j = some ct → sx_CTok D cl RT AO TB b0 l MT nR ct) {h : sx_Ha} {M : sx_Me} {bud : sx_Bu} {pc : Nat} {st : sx_St} {X : List (Nat × sx_St)} (hM : M ∈ MT.flatten) (hmac : sx_ctm RT MT CDs CT nR lim h M bud pc st = some X)
    {p : Program} {e : Env} {R : Room} {s : State} {m : MethodId} {args : Array Value} {below : List Frame} {meth : Method} {c : Code} {Q : State → Prop} {Sg0 : Nat → Option Nat} {ρ0 : List Value} (hF : sx_Frm D cl AO TB b0 M bud p R s m args meth c)
    (hW : ∀ q ∈ X, sx_W FT D cl RT b0 M.1.2.2.1 p l e R s m args below meth c Q Sg0 ρ0 q.1 q.2) : sx_W FT D cl RT b0 M.1.2.2.1 p l e R s m args below meth c Q Sg0 ρ0 pc st := by
  obtain ⟨hg, hcl, hRT, hCJ, hai, hal, hMT, hDA⟩ := hp
  obtain ⟨mo1, mo2, mo4, mo5, mo6⟩ := hMT M hM
  have hF0 := hF
  obtain ⟨hCx, hKs, hb0, r1, r2, r3, r4, hini, hret, hlocks, hZS⟩ := hF0
  have hts := hCx.2.2.2.2
  unfold sx_ctm at hmac
  split at hmac
  · rename_i pc0 i len d hrow hd
    obtain ⟨⟨cc, hcc, hrm⟩, hpc0⟩ := sx_row_ok hrow
    have hpc0 : pc0 = pc := hpc0
    subst hpc0
    have hdec : decode M.1.2.1 pc0 = .ok (i, len) := mo1 cc hcc (pc0, i, len) hrm
    have hdn := mo5 d hd
    obtain ⟨-, hml, -, -⟩ := hDA d (List.mem_of_getElem? hd) args s hts hKs.2.1
    rw [hdn] at hml
    split at hmac
    · rename_i kind idx hinv
      have hi := sx_isinv_ok hinv
      subst hi
      split at hmac
      · rename_i q hq
        have hq1 := sx_fnd_mem hq
        have hq2 := sx_fnd_some hq
        simp only [sx_ab_eq, Bool.and_eq_true, Nat.beq_eq_true_eq] at hq2
        obtain ⟨q2, q3⟩ := hq2
        have q2 := Nat.eq_of_beq_eq_true q2
        have q3 := Nat.eq_of_beq_eq_true q3
        subst q2
        subst q3
        split at hmac
        · rename_i M' hM'
          have hM'm := sx_at2_mem hM'
          obtain ⟨hmlk, mo3⟩ := hml q hq1 M' hM'
          obtain ⟨⟨⟨E, C, N, U⟩, FA⟩, ⟨L, S⟩, nc, ns⟩ := st
          simp only at hmac
          generalize hn : q.2.2.2 + (if q.2.1 = 1 then 0 else 1) = n at hmac
          split at hmac
          · rename_i ct hpick
            obtain ⟨⟨j, hj1, hj2⟩, hcm, hca⟩ := sx_cpick_ok hpick
            split at hmac
            · rename_i hc
              obtain ⟨k0, k1, k2, k3, k4, k5, k6, k7, k8, k9, k10, k11, k12⟩ := hc
              subst k0
              intro Sg H ρ ls stk locs hle hpre hP
              obtain ⟨hH, hG, hFr, hV⟩ := hP
              have hH : sx_H D cl RT b0 Sg s H := hH
              have hG : sx_G FT D RT Sg H ρ ((E, C, N, U), FA) := hG
              obtain ⟨f1, f2, f3, f4⟩ := hFr
              have f4 : sx_stk ρ S stk := f4
              have f4' := f4
              rw [← List.take_append_drop n S] at f4'
              obtain ⟨t1, t2, rfl, g1, g2⟩ := sx_stk_app f4'
              generalize hvs : t1.reverse = vs
              have ht1 : t1 = vs.reverse := by rw [← hvs, List.reverse_reverse]
              subst ht1
              have gv : sx_stk ρ (S.take n).reverse vs := by
                have := sx_stk_rev g1
                rwa [List.reverse_reverse] at this
              have hvl : vs.length = n := by rw [sx_stk_len gv, List.length_reverse]; exact k1
              have hcvs := sx_cargs_ok hG.1 hG.2.1 hH hca gv
              have hnR : ∀ a r, Sg a = some r → r < nR := fun a r ha => by rw [← k12]; exact hG.2.2.2.2.2.2 a r ha
              have hCG := hCT j hj1 ct hj2 Sg H vs M' (by rw [hcm]; exact hM') hnR hcvs
              refine pv_call2 (bc := (ct.2.2.2.1, ct.2.2.2.2, M'.2.2.1.2.2.1, M'.2.2.1.2.2.2.1)) hg (hMT M' hM'm) mo3 hF hmlk hdec (by rw [hvl, ← hn]) (by rw [sx_lgsl gv]; exact k2) (by rw [sx_cs8_ok g2]; exact k3) k4 k5 rfl rfl (fun h => absurd h k6) (by rw [k8]; exact k10) (by rw [k9]; exact k11) (fun hk => ?_) hH hV f1 hCG (fun vo Sg2 H2 locs2 hle2 hH2 hV2 hres => ?_)
              · unfold sx_rcv at k7
                rw [if_neg hk] at k7
                split at k7
                · rename_i a avs' hav
                  split at k7
                  · rename_i z r g hreg
                    simp only [Bool.and_eq_true, beq_iff_eq] at k7
                    rw [hav] at gv
                    obtain ⟨v, vs', rfl, w1, w2⟩ := sx_stk_cons gv
                    obtain ⟨ad, cell, rfl, -, -, k33, -, k44, k55, -, -⟩ := sx_reg_ok (D := D) (cl := cl) (b0 := b0) (s := s) (H := H) hreg hG.1 hH w1
                    refine ⟨ad, vs', rfl, cell, k44, ?_⟩
                    obtain ⟨mp1, mp2, mp4, mp5, mp6⟩ := hMT M' hM'm
                    rcases k55 with ⟨-, y1, y2⟩ | ⟨y1, -⟩
                    · refine ⟨by rw [y2]; rfl, ?_⟩
                      cases hcq : cl[g.2.1]? with
                      | none =>
                        obtain ⟨r', hr', -⟩ := hRT _ g k33 k7.1
                        rw [hcq] at hr'
                        cases hr'
                      | some cq =>
                        have e1 := mp6 cq (by rw [← k7.2]; exact hcq)
                        rw [← e1, y1]
                        exact (hKs.1.1 g.2.1 cq hcq).2.1
                    · exact absurd k7.1 y1
                  · cases k7
                · cases k7
              · obtain ⟨hn2, hcr⟩ := hres
                rw [k8, k9]
                show W p l e R s m args below meth c H2 locs2 nc ns Q _
                have hG2 : sx_G FT D RT Sg2 H2 ρ ((E, C, N, U), ([], [], nR)) := ⟨sx_env_le hG.1 hle2, hG.2.1, hG.2.2.1, hG.2.2.2.1, fun x hx => absurd hx List.not_mem_nil, fun x hx => absurd hx List.not_mem_nil, hn2⟩
                have hFr2 : sx_Fr ρ M.1.2.2.1 ls t2 L (S.drop n) := ⟨f1, f2, f3, g2⟩
                unfold sx_cres at hcr
                split at hmac
                · rename_i hnone
                  rw [hnone] at hcr
                  have hcr : vo = none := hcr
                  subst hcr
                  cases hmac
                  exact hW _ List.mem_cons_self Sg2 H2 ρ ls t2 locs2 (sx_le_trans hle hle2) hpre ⟨hH2, hG2, hFr2, hV2⟩
                · rename_i t hsome
                  rw [hsome] at hcr
                  obtain ⟨v, rfl, hv⟩ := hcr
                  split at hmac
                  · rename_i ht2
                    cases hmac
                    have hG3 := sx_G_ext (t := t) (v := v) hG2 hv
                    have hav : sx_av (ρ ++ [v]) (sx_nav t E.length) v := sx_nav_ok (Sg := Sg2) (sx_iv_new hG2.1.1) hv ht2
                    have hF3 := sx_Fr_ext (ρ2 := [v]) hFr2
                    exact hW _ List.mem_cons_self Sg2 H2 (ρ ++ [v]) ls (v :: t2) locs2 (sx_le_trans hle hle2) (hpre.trans (List.prefix_append ρ _)) ⟨hH2, hG3, ⟨hF3.1, hF3.2.1, hF3.2.2.1, hav, sx_stk_ext g2⟩, hV2⟩
                  · cases hmac
            · cases hmac
          · cases hmac
        · cases hmac
      · cases hmac
    · cases hmac
  · cases hmac
/-- the claim's own hooks, and calls by contract (hook 100) -/
noncomputable def sx_mac2 (mac : sx_Mac) (RT : Nat → Option sx_Rg) (MT : List (List sx_Me)) (CDs : List sx_Da) (CT : List (List sx_Ct)) (nR lim : Nat) : sx_Mac := fun h M bud pc st => if h.2.1 = 100 then sx_ctm RT MT CDs CT nR lim h M bud pc st else mac h M bud pc st
theorem sx_mac2_ok {mac : sx_Mac} {CT : List (List sx_Ct)} {nR lim : Nat} (hp : sx_prog cl RT CJ AO TB MT CDs) (hm : sx_macok FT D cl RT AO TB b0 l MT mac) (hCT : ∀ j, j < lim → ∀ ct, sx_at2 CT j = some ct → sx_CTok D cl RT AO TB b0 l MT nR ct) : sx_macok FT D cl RT AO TB b0 l MT (sx_mac2 mac RT MT CDs CT nR lim) := by
  intro h M bud pc st X hM hh hpc hmac p e R s m args below meth c Q Sg0 ρ0 hF hW
  unfold sx_mac2 at hmac
  split at hmac
  · exact sx_ctm_ok hp hCT hM hmac hF hW
  · exact hm h M bud pc st X hM hh hpc hmac p e R s m args below meth c Q Sg0 ρ0 hF hW
/-- all contracts hold, if each stands on those ahead of it -/
theorem sx_ctall {CT : List (List sx_Ct)} {nR : Nat} (h : ∀ (j : Nat) (ct : sx_Ct), sx_at2 CT j = some ct → (∀ i, i < j → ∀ c, sx_at2 CT i = some c → sx_CTok D cl RT AO TB b0 l MT nR c) → sx_CTok D cl RT AO TB b0 l MT nR ct) : ∀ (j : Nat) (ct : sx_Ct), sx_at2 CT j = some ct → sx_CTok D cl RT AO TB b0 l MT nR ct := by
  intro j
  induction j using Nat.strongRecOn with
  | ind j ih => exact fun ct hct => h j ct hct (fun i hi c hc => ih i hi c hc)
end SXD
