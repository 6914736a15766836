/-! sx, the truth of the executor -/
section SX16
variable {FT : Nat → List Int → Int} {D : va_G} {cl : List vw_C} {RT : Nat → Option sx_Rg} {CJ : List (List Nat)} {AO : sx_Ao} {TB : List Cond} {MT : List (List sx_Me)} {CDs : List sx_Da} {b0 : sx_B} {l : Launch}
/-- a method's body is good from its entry on, in every frame -/
def sx_CG (FT : Nat → List Int → Int) (D : va_G) (cl : List vw_C) (RT : Nat → Option sx_Rg) (AO : sx_Ao) (TB : List Cond) (b0 : sx_B) (l : Launch) (M : sx_Me) (bud : sx_Bu) (st : sx_St) (k : sx_Ko) : Prop :=
  ∀ (p : Program) (e : Env) (R : Room) (s : State) (m : MethodId) (args : Array Value) (below : List Frame) (meth : Method) (c : Code) (Q : State → Prop) (Sg0 : Nat → Option Nat) (ρ0 : List Value), sx_Frm D cl AO TB b0 M bud p R s m args meth c → sx_KOK FT D cl RT b0 p l e R s m args below meth c Q M.1.2.1 M.1.2.2.2 Sg0 ρ0 k → sx_W FT D cl RT b0 M.1.2.2.1 p l e R s m args below meth c Q Sg0 ρ0 0 st
theorem sx_call_ok {recS : Nat → sx_St → Bool} {recC : sx_Me → sx_Bu → sx_St → sx_Ko → Bool} {M0 M : sx_Me} {bud : sx_Bu} {pc : Nat} {K : sx_Kn} {L : List (Nat × sx_AV)} {S : List sx_AV} {nc ns : Nat} {q : sx_Ml} {own : String} {p : Program} {e : Env} {R : Room} {s : State} {m : MethodId} {args : Array Value} {below : List Frame} {meth : Method} {c : Code} {Q : State → Prop} {Sg0 : Nat → Option Nat} {ρ0 : List Value}
    (hg : ∀ w ∈ TB, sx_gw w = true) (hRT : sx_rtok cl RT) (hM : sx_meok cl CDs M) (mo3 : Cond.code M.1.1 M.1.2.1 M.1.2.2.1 M.1.2.2.2 ∈ TB) (hF : sx_Frm D cl AO TB b0 M0 bud p R s m args meth c) (hml : sx_mlk M0.1.1.cls args s M.1.1 q) (hd : decode M0.1.2.1 pc = .ok (sx_inv q.2.1 q.1, 3))
    (hS : ∀ pc st, recS pc st = true → sx_W FT D cl RT b0 M0.1.2.2.1 p l e R s m args below meth c Q Sg0 ρ0 pc st) (hC : ∀ bud' st' k', recC M bud' st' k' = true → sx_CG FT D cl RT AO TB b0 l M bud' st' k')
    (h : sx_call RT recS recC bud pc K L S nc ns q M = true) : sx_W FT D cl RT b0 M0.1.2.2.1 p l e R s m args below meth c Q Sg0 ρ0 pc (K, (L, S), nc, ns) := by
  intro Sg H ρ ls stk locs hle hpre hP
  have hP : sx_Pt FT D cl RT b0 M0.1.2.2.1 s Sg H ρ K L S ls stk locs := hP
  unfold sx_call at h
  simp only [Bool.and_eq_true, decide_eq_true_eq, beq_iff_eq] at h
  generalize hn : q.2.2.2 + (if q.2.1 = 1 then 0 else 1) = n at h
  obtain ⟨⟨⟨⟨⟨⟨⟨⟨⟨⟨h1, h2⟩, h3⟩, h4⟩, h5⟩, h6⟩, h7⟩, h8⟩, h9⟩, h10⟩, h11⟩ := h
  obtain ⟨hH, hG, hFr, hV⟩ := hP
  have hFr' := hFr
  obtain ⟨f1, f2, f3, f4⟩ := hFr'
  have f4' := f4
  rw [← List.take_append_drop n S] at f4'
  obtain ⟨t1, t2, rfl, g1, g2⟩ := sx_stk_app f4'
  generalize hvs : t1.reverse = vs
  have ht1 : t1 = vs.reverse := by rw [← hvs, List.reverse_reverse]
  subst ht1
  have gv : sx_stk ρ (S.take n).reverse vs := by
    have := sx_stk_rev g1
    rwa [List.reverse_reverse] at this
  generalize havs : (S.take n).reverse = avs at h1 h2 h7 h11 gv
  have hvl : vs.length = n := by rw [sx_stk_len gv]; exact h1
  obtain ⟨hCx, hKs, hb0, r1, r2, r3, r4, hini, hret, hlocks, hZS⟩ := hF
  have hts := hCx.2.2.2.2
  obtain ⟨mo1, mo2, mo4, mo5, mo6⟩ := hM
  let mc := M.2.2.1.2.2.1
  let ms := M.2.2.1.2.2.2.1
  let rm : Room := { frames := bud.1 - 1, cells := M.2.2.1.2.2.1, slots := M.2.2.1.2.2.2.1, locals := bud.2.1 - (19 + M.1.2.2.1) }
  let Pc : Array Value → State → Prop := fun a U => a = vs.toArray ∧ U.heap = H ∧ sx_Ks D cl AO TB U ∧ sx_H D cl RT b0 Sg U H ∧ sx_ZS AO.2 b0 U
  let Qc : Array Value → State → Outcome → State → Prop := fun _ st o t => ∃ vo, o = .returned vo ∧ (s.vm.Alike t.vm → va_F b0.1 st t ∧ ∀ locs', va_S b0.1 s.heap t.heap locs' → W p l e R s m args below meth c t.heap locs' (nc + M.2.2.1.2.2.1) (ns + M.2.2.1.2.2.2.1) Q (F0 m (pc + 3) ls (vo.toList ++ t2)))
  have hMet : Met l M.1.1 [Cond.code M.1.1 M.1.2.1 M.1.2.2.1 M.1.2.2.2] rm Pc Qc M.2.2.1.2.2.1 M.2.2.1.2.2.2.1 b0.1 := by
    refine va_MetF (cc := M.1.2.1) (maxL := M.1.2.2.1) (ret := M.1.2.2.2) mo2 rfl ?_
    intro p' e' s' m' args' below' meth' c' s₁ B hml' hv
    obtain ⟨rfl, hh, hKs', hH', hZS'⟩ := hv
    have hown' : s'.vm.findClass M.1.1.cls = some m'.cls := findClass_of_methodNamed B.named
    have hnm : meth'.name = M.1.1.name := (name_of_methodNamed B.named B.method).1
    have hFrm : sx_Frm D cl AO TB b0 M (bud.1 - 1, bud.2.1 - (19 + M.1.2.2.1), M.2.2.1.2.2.1, M.2.2.1.2.2.2.1) p' rm s' m' vs.toArray meth' c' :=
      ⟨⟨B.exec, B.bytes, hml', hown', fun w hw => hKs'.2.2 w hw _⟩, hKs', sx_bs_step hb0 hV.1 hh, rfl, rfl, rfl, rfl, fun hi => by rw [hnm]; exact mo4 hi, B.returns, B.notSynchronized, hZS'⟩
    have hKOK : sx_KOK FT D cl RT b0 p' l e' rm s' m' vs.toArray below' meth' c' (MQ below' Qc vs.toArray s' M.2.2.1.2.2.1 M.2.2.1.2.2.2.1 b0.1) M.1.2.1 M.1.2.2.2 Sg ρ (fun r K' nc' ns' => decide (nc' ≤ M.2.2.1.2.2.1) && decide (ns' ≤ M.2.2.1.2.2.2.1) && recS (pc + 3) (K', (L, r.toList ++ S.drop n), nc + M.2.2.1.2.2.1, ns + M.2.2.1.2.2.2.1)) := by
      intro r K' nc' ns' hk Sg2 H2 ρ2 locs2 vo i pc2 ls2 hle2 hpre2 hH2 hG2 hV2 hvo hrv hd2
      simp only [Bool.and_eq_true, decide_eq_true_eq] at hk
      obtain ⟨⟨hk1, hk2⟩, hk3⟩ := hk
      refine sx_ret B.exec B.bytes B.returns B.notSynchronized hrv hk1 hk2 (fun t ht hWt => ?_) hV2.1.2.2 hd2
      refine ⟨vo, rfl, fun hal => ⟨hV2.1.F ht, fun locs' hV' => ?_⟩⟩
      rw [ht] at hV' ⊢
      have hst2 : sx_stk ρ2 (r.toList ++ S.drop n) (vo.toList ++ t2) := by
        refine sx_app_stk ?_ (sx_stk_pre hpre2 g2)
        cases r with
        | none =>
          have hvo : vo = none := hvo
          subst hvo
          exact trivial
        | some a =>
          obtain ⟨v, hv1, hv2⟩ := hvo
          subst hv1
          exact ⟨hv2, trivial⟩
      have hFr2 : sx_Fr ρ2 M0.1.2.2.1 ls (vo.toList ++ t2) L (r.toList ++ S.drop n) := ⟨f1, f2, fun x hx => by obtain ⟨v, x1, x2⟩ := f3 x hx; exact ⟨v, sx_av_pre hpre2 x1, x2⟩, hst2⟩
      exact hS _ _ hk3 Sg2 H2 ρ2 ls (vo.toList ++ t2) locs' (sx_le_trans hle hle2) (hpre.trans hpre2) ⟨sx_H_moved hal.symm (sx_H_moved hWt.alike hH2), hG2, hFr2, ⟨hV', hV2.2.1, hV2.2.2⟩⟩
    have hW0 := hC _ _ _ h11 p' e' rm s' m' vs.toArray below' meth' c' _ Sg ρ hFrm hKOK
    have hl := lv_entry vs (n := M.1.2.2.1) (by rw [sx_lgsl gv]; exact h2)
    show W p' l e' rm s' m' vs.toArray below' meth' c' s'.heap [] 0 0 _ (entryFrame m' vs.toArray M.1.2.2.1)
    rw [lg_entry_eq]
    refine hW0 Sg s'.heap ρ _ [] [] (fun _ _ h => h) (List.prefix_refl _) ⟨by rw [hh]; exact hH', by rw [hh]; exact hG, ⟨hl.1, hl.2.1, fun x hx => ?_, trivial⟩, ⟨va_S.rf, by rw [hh]; exact hV.2.1, hV.2.2⟩⟩
    obtain ⟨v, x1, x2⟩ := sx_ent_ok 0 gv x hx
    exact ⟨v, x1, hl.2.2 (x.1, v) x2⟩
  have hrun := sx_run (p := p) (l := l) (e := e) (R := R) (s := s) (m := m) (args := args) (below := below) (meth := meth) (c := c) (H := H) (locs := locs) (nc := nc) (ns := ns) (pc := pc) (ls := ls) (q := q) (vs := vs) (rest := t2) hCx hml hMet rfl rfl (by show bud.1 - 1 + 1 ≤ R.frames; rw [r1]; omega) (by show 8 + (M.1.2.2.1 + 11) + (bud.2.1 - (19 + M.1.2.2.1)) ≤ R.locals; rw [r2]; omega) (hts _ mo3)
    (fun hk => by
      rcases Bool.or_eq_true_iff.mp h8 with h8 | h8
      · simp [hk] at h8
      · simpa using h8)
    (fun a U g mk hq => by obtain ⟨q0, q1, q2, q3, q4⟩ := hq; exact ⟨q0, q1, sx_Ks_calling hg q2, sx_H_calling q3, sx_ZS_move (U := U.calling g mk a) (State.WarmedH.refl U) (fun _ _ _ => rfl) q4⟩)
    (fun U hU hWU => ⟨rfl, hU, sx_Ks_move hg hWU hKs, sx_H_moved hWU.alike hH, sx_ZS_move hWU (fun q h1 h2 => by rw [hU]; exact hV.1.2.1 q h1 h2) hZS⟩) f1 (by rw [hvl, ← hn])
    (fun hk => by
      unfold sx_rcv at h7
      rw [if_neg hk] at h7
      split at h7
      · rename_i a avs'
        split at h7
        · rename_i z r g hreg
          simp only [Bool.and_eq_true, beq_iff_eq] at h7
          obtain ⟨v, vs', rfl, w1, w2⟩ := sx_stk_cons gv
          obtain ⟨ad, cell, rfl, -, -, k3, -, k4, k5, -, -⟩ := sx_reg_ok (D := D) (cl := cl) (b0 := b0) (s := s) (H := H) hreg hG.1 hH w1
          refine ⟨ad, vs', rfl, cell, k4, ?_⟩
          rcases k5 with ⟨-, y1, y2⟩ | ⟨y1, -⟩
          · refine ⟨by rw [y2]; rfl, ?_⟩
            cases hcq : cl[g.2.1]? with
            | none =>
              obtain ⟨r', hr', -⟩ := hRT _ g k3 h7.1
              rw [hcq] at hr'
              cases hr'
            | some cq =>
              have e1 := mo6 cq (by rw [← h7.2]; exact hcq)
              rw [← e1, y1]
              exact (hKs.1.1 g.2.1 cq hcq).2.1
          · exact absurd h7.1 y1
        · cases h7
      · cases h7)
    (by rw [sx_cs8_ok g2]; exact h3) (by rw [r3, r4]; exact ⟨h9, h10⟩) hd
  refine sx_goes hrun hV.1 fun st₀ t vo h0 hQ hal => ?_
  obtain ⟨vo', hvo', hrest⟩ := hQ
  cases hvo'
  exact hrest hal
theorem sx_isinv_ok {i : Instr} {kind idx : Nat} (h : sx_isinv i = some (kind, idx)) : i = sx_inv kind idx := by
  unfold sx_isinv at h
  split at h
  · cases h; rfl
  · cases h; rfl
  · cases h; rfl
  · cases h
theorem sx_stp_ok {recS : Nat → sx_St → Bool} {recC : sx_Me → sx_Bu → sx_St → sx_Ko → Bool} {M : sx_Me} {bud : sx_Bu} {pc : Nat} {st : sx_St} {k : sx_Ko} {p : Program} {e : Env} {R : Room} {s : State} {m : MethodId} {args : Array Value} {below : List Frame} {meth : Method} {c : Code} {Q : State → Prop} {Sg0 : Nat → Option Nat} {ρ0 : List Value}
    (hp : sx_prog cl RT CJ AO TB MT CDs) (hMm : M ∈ MT.flatten) (hF : sx_Frm D cl AO TB b0 M bud p R s m args meth c) (hK : sx_KOK FT D cl RT b0 p l e R s m args below meth c Q M.1.2.1 M.1.2.2.2 Sg0 ρ0 k)
    (hS : ∀ pc st, recS pc st = true → sx_W FT D cl RT b0 M.1.2.2.1 p l e R s m args below meth c Q Sg0 ρ0 pc st) (hC : ∀ M' bud' st' k', M' ∈ MT.flatten → recC M' bud' st' k' = true → sx_CG FT D cl RT AO TB b0 l M' bud' st' k')
    (h : sx_stp cl RT CJ MT CDs recS recC M bud pc st k = true) : sx_W FT D cl RT b0 M.1.2.2.1 p l e R s m args below meth c Q Sg0 ρ0 pc st := by
  obtain ⟨hg, hcl, hRT, hCJ, hai, hal, hMT, hCD⟩ := hp
  obtain ⟨mo1, mo2, mo4, mo5, mo6⟩ := hMT M hMm
  have hF' := hF
  obtain ⟨hCx, hKs, hb0, r1, r2, r3, r4, hini, hret, hlocks⟩ := hF'
  have hts := hCx.2.2.2.2
  unfold sx_stp at h
  split at h
  · rename_i w i len d hcode hd0
    obtain ⟨⟨cr, hcr, hrow⟩, hpc⟩ := sx_row_ok hcode
    have hpc : w = pc := hpc
    have hdec : decode M.1.2.1 w = .ok (i, len) := mo1 cr hcr (w, i, len) hrow
    rw [hpc] at hdec
    have hown : d.1 = M.1.1.cls := mo5 d hd0
    obtain ⟨hcd, hml, hoi, hac⟩ := hCD d (List.mem_of_getElem? hd0) args s hts hKs.2.1
    rw [hown] at hcd hml hoi hac
    split at h
    · split at h
      · rename_i kind idx hinv
        simp only [Bool.and_eq_true, beq_iff_eq] at h
        obtain ⟨hlen, h⟩ := h
        subst hlen
        have hi := sx_isinv_ok hinv
        subst hi
        unfold sx_inv1 at h
        split at h
        · rename_i hk
          simp only [Bool.and_eq_true, beq_iff_eq] at hk
          obtain ⟨hk0, hk1⟩ := hk
          obtain ⟨j, j1, j2⟩ := List.any_eq_true.mp hk1
          simp at j2
          subst j2
          subst hk0
          obtain ⟨o1, o2, o3⟩ := hoi j j1
          obtain ⟨⟨⟨E, C, N, U⟩, FA⟩, ⟨L, S⟩, nc, ns⟩ := st
          unfold sx_oin at h
          split at h
          · rename_i a S' heq
            simp only at heq
            subst heq
            simp only [Bool.and_eq_true, decide_eq_true_eq, beq_iff_eq] at h
            obtain ⟨⟨⟨h1, h2⟩, h3⟩, h4⟩ := h
            intro Sg H ρ ls stk locs hle hpre hP
            obtain ⟨v, t1, rfl, w1, w2⟩ := sx_stk_cons hP.2.2.1.2.2.2
            obtain ⟨tg, f⟩ := a
            have h1 : tg = 2 := h1
            subst h1
            obtain ⟨-, q, rfl⟩ := sx_av_ref w1
            refine W.objInit hCx.1 hCx.2.1 hCx.2.2.2.1 o1 o2 o3 rfl (by rw [hCx.2.2.1]; exact hP.2.2.1.1) rfl hdec (by rw [r1]; exact h2) ?_ (sx_go0 hP hle hpre (hS _ _ h4) w2)
            rw [r2]
            have e1 := sx_cs8_ok w2
            have e2 : (F0 m pc ls (Value.ref q :: t1)).monitorRoom = 0 := rfl
            rw [e2, e1]
            omega
          · cases h
        · split at h
          · rename_i hk
            simp only [Bool.and_eq_true, beq_iff_eq] at hk
            obtain ⟨hk0, hk1⟩ := hk
            obtain ⟨j, j1, j2⟩ := List.any_eq_true.mp hk1
            simp at j2
            subst j2
            subst hk0
            obtain ⟨o1, o2, o3, o4⟩ := hac j j1
            obtain ⟨⟨⟨E, C, N, U⟩, FA⟩, ⟨L, S⟩, nc, ns⟩ := st
            split at h
            · rename_i st' hst'
              intro Sg H ρ ls stk locs hle hpre hP
              exact sx_acp_ok hCx o1 o2 o3 o4 ⟨r1, r2⟩ hst' hdec hP hle hpre (hS _ _ h)
            · cases h
          split at h
          · rename_i q hq
            have hq1 := sx_fnd_mem hq
            have hq2 := sx_fnd_some hq
            simp only [sx_ab_eq, Bool.and_eq_true, Nat.beq_eq_true_eq] at hq2
            obtain ⟨q2, q3⟩ := hq2
            have q2 := Nat.eq_of_beq_eq_true q2
            have q3 := Nat.eq_of_beq_eq_true q3
            subst q2
            subst q3
            split at h
            · rename_i M' hM'
              have hM'm := sx_at2_mem hM'
              exact sx_call_ok (own := "") hg hRT (hMT M' hM'm) (hml q hq1 M' hM').2 hF (hml q hq1 M' hM').1 hdec hS (fun b' st' k' hr => hC M' b' st' k' hM'm hr) h
            · cases h
          · cases h
      · cases h
    · split at h
      · rename_i r hr
        simp only [Bool.and_eq_true, beq_iff_eq] at h
        obtain ⟨hlen, h⟩ := h
        subst hlen
        intro Sg H ρ ls stk locs hle hpre hP
        obtain ⟨vo, rfl, v1, v2⟩ := sx_rav_ok hP.2.1.1 hP.2.1.2.1 hr hP.2.2.1.2.2.2
        exact hK r st.1 st.2.2.1 st.2.2.2 h Sg H ρ locs vo i pc ls hle hpre hP.1 hP.2.1 hP.2.2.2 v1 v2 hdec
      · cases h
    · split at h
      · rename_i X hX
        have hIn : sx_In D cl RT CJ d.2.1 b0 M.1.2.2.1 bud.2.2.1 bud.2.2.2 M.2.2.1.2.1 p R s m args meth c M.1.2.1 M.1.1.cls TB := ⟨hCx, hKs.1, hcl, hRT, hCJ, hcd, hts _ hai, hts _ hal, hb0, r3, r4, hini⟩
        exact sx_do_ok hIn hX hdec (fun q hq => hS _ _ (List.all_eq_true.mp h q hq))
      · cases h
  · cases h
theorem sx_mu_pre {a : sx_Al} {ρ0 ρ1 : List Value} (hpre : ρ0 <+: ρ1) (h : ∀ (k : Nat) (q : Nat × sx_Ty), a.2.1[k]? = some q → ∃ x, sx_iv ρ0 (a.2.2.2.1.1.1.length + k) = some x ∧ q.2.2.1 ≤ x ∧ x ≤ q.2.2.2) : sx_mu a ρ1 = sx_mu a ρ0 := by
  unfold sx_mu
  cases hk : sx_pos a.2.2.1.1 a.2.1 with
  | none => rfl
  | some k =>
    obtain ⟨q, q1, -⟩ := sx_pos_ok _ _ _ hk
    obtain ⟨x, x1, -⟩ := h k q q1
    simp only [q1, x1, sx_iv_det hpre x1]
theorem sx_LOK_pre {nL : Nat} {p : Program} {e : Env} {R : Room} {s : State} {m : MethodId} {args : Array Value} {below : List Frame} {meth : Method} {c : Code} {Q : State → Prop} {Sg0 Sg1 : Nat → Option Nat} {ρ0 ρ1 : List Value} {a : sx_Al} (hle : sx_le Sg0 Sg1) (hpre : ρ0 <+: ρ1) (h : sx_LOK FT D cl RT b0 nL p l e R s m args below meth c Q Sg0 ρ0 a) : sx_LOK FT D cl RT b0 nL p l e R s m args below meth c Q Sg1 ρ1 a := by
  obtain ⟨Sgl, Hl, ρl, stkl, l1, l2, l3, l4, l5, l8, l6, l7⟩ := h
  refine ⟨Sgl, Hl, ρl, stkl, sx_le_trans l1 hle, l2.trans hpre, l3, l4, l5, l8, fun k q hq => ?_, fun Sg H ρ ls stk locs m1 m2 m3 m4 => l7 Sg H ρ ls stk locs m1 m2 m3 (by rw [sx_mu_pre hpre l6] at m4; exact m4)⟩
  obtain ⟨x, x1, x2⟩ := l6 k q hq
  exact ⟨x, sx_iv_det hpre x1, x2⟩
theorem sx_KOK_pre {p : Program} {e : Env} {R : Room} {s : State} {m : MethodId} {args : Array Value} {below : List Frame} {meth : Method} {c : Code} {Q : State → Prop} {cc : ByteArray} {ret : Option FieldType} {Sg0 Sg1 : Nat → Option Nat} {ρ0 ρ1 : List Value} {k : sx_Ko} (hle : sx_le Sg0 Sg1) (hpre : ρ0 <+: ρ1) (h : sx_KOK FT D cl RT b0 p l e R s m args below meth c Q cc ret Sg0 ρ0 k) : sx_KOK FT D cl RT b0 p l e R s m args below meth c Q cc ret Sg1 ρ1 k :=
  fun r K nc ns hk Sg H ρ locs vo i pc ls m1 m2 m3 m4 m5 m6 m7 m8 => h r K nc ns hk Sg H ρ locs vo i pc ls (sx_le_trans hle m1) (hpre.trans m2) m3 m4 m5 m6 m7 m8
theorem sx_W_pre {nL : Nat} {p : Program} {e : Env} {R : Room} {s : State} {m : MethodId} {args : Array Value} {below : List Frame} {meth : Method} {c : Code} {Q : State → Prop} {Sg0 Sg1 : Nat → Option Nat} {ρ0 ρ1 : List Value} {pc : Nat} {st : sx_St} (hle : sx_le Sg0 Sg1) (hpre : ρ0 <+: ρ1) (h : sx_W FT D cl RT b0 nL p l e R s m args below meth c Q Sg0 ρ0 pc st) : sx_W FT D cl RT b0 nL p l e R s m args below meth c Q Sg1 ρ1 pc st :=
  fun Sg H ρ ls stk locs m1 m2 m3 => h Sg H ρ ls stk locs (sx_le_trans hle m1) (hpre.trans m2) m3
theorem sx_put_ok {ρ : List Value} {ls : Array Slot} {L : List (Nat × sx_AV)} {j : Nat} {a b : sx_AV} {v : Value} (hL : ∀ q ∈ L, ∃ v, sx_av ρ q.2 v ∧ ls[q.1]? = some (.val v)) (ha : sx_lk L j = some a) (hv : ∀ v, sx_av ρ a v → sx_av ρ b v) : ∀ q ∈ sx_put L j b, ∃ v, sx_av ρ q.2 v ∧ ls[q.1]? = some (.val v) := by
  intro q hq
  unfold sx_put at hq
  rcases List.mem_cons.mp hq with rfl | hq
  · unfold sx_lk at ha
    split at ha
    · rename_i q' hf
      cases ha
      have h1 := sx_fnd_mem hf
      have h2 := sx_fnd_some hf
      simp at h2
      obtain ⟨w, w1, w2⟩ := hL q' h1
      exact ⟨w, hv w w1, by rw [← h2]; exact w2⟩
    · cases ha
  · exact hL q (sx_mem_flt.mp hq).1
theorem sx_stk_set {ρ : List Value} {b : sx_AV} : ∀ {S : List sx_AV} {stk : List Value} {k : Nat} {a : sx_AV}, sx_stk ρ S stk → S[k]? = some a → (∀ v, sx_av ρ a v → sx_av ρ b v) → sx_stk ρ (S.set k b) stk
  | [], _, k, a, h, ha, hv => by simp at ha
  | c :: S, [], k, a, h, ha, hv => h.elim
  | c :: S, w :: stk, 0, a, h, ha, hv => by
    simp at ha
    subst ha
    exact ⟨hv w h.1, h.2⟩
  | c :: S, w :: stk, k + 1, a, h, ha, hv => ⟨h.1, sx_stk_set h.2 (by simpa using ha) hv⟩
theorem sx_stk_at {ρ : List Value} : ∀ {S : List sx_AV} {stk : List Value} {k : Nat} {a : sx_AV}, sx_stk ρ S stk → S[k]? = some a → ∃ v, sx_av ρ a v
  | [], _, k, a, h, ha => by simp at ha
  | c :: S, [], k, a, h, ha => h.elim
  | c :: S, w :: stk, 0, a, h, ha => by
    simp at ha
    subst ha
    exact ⟨w, h.1⟩
  | c :: S, w :: stk, k + 1, a, h, ha => sx_stk_at h.2 (by simpa using ha)
theorem sx_hook_ok {nL : Nat} {p : Program} {e : Env} {R : Room} {s : State} {m : MethodId} {args : Array Value} {below : List Frame} {meth : Method} {c : Code} {Q : State → Prop} {Sg0 : Nat → Option Nat} {ρ0 : List Value} {pc kind : Nat} {ps : List Int} {st : sx_St} {X : List sx_St} (h : sx_hook kind ps st = some X)
    (hW : ∀ st' ∈ X, sx_W FT D cl RT b0 nL p l e R s m args below meth c Q Sg0 ρ0 pc st') : sx_W FT D cl RT b0 nL p l e R s m args below meth c Q Sg0 ρ0 pc st := by
  obtain ⟨⟨⟨E, C, N, U⟩, FA⟩, ⟨L, S⟩, nc, ns⟩ := st
  intro Sg H ρ ls stk locs hle hpre hP
  obtain ⟨hH, hG, hF, hV⟩ := hP
  have hG1 : sx_env Sg E ρ := hG.1
  have hG2 : sx_cs C ρ := hG.2.1
  have hF3 : ∀ q ∈ L, ∃ v, sx_av ρ q.2 v ∧ ls[q.1]? = some (.val v) := hF.2.2.1
  unfold sx_hook at h
  simp only at h
  split at h
  · rename_i j lo hi
    split at h
    · rename_i t f hlk
      split at h
      · rename_i hc
        obtain ⟨rfl, c2, c3⟩ := hc
        cases h
        have hq : ∃ x : Int32, sx_lf ρ f = some x.toInt := by
          obtain ⟨w, w1, -⟩ := hF3 _ (sx_lk_mem hlk)
          obtain ⟨x, -, hx⟩ := sx_av_int w1
          exact ⟨x, hx⟩
        obtain ⟨x, hx⟩ := hq
        have e2 := sx_ge_ok hG1 hG2 (sx_addC_ok (c := -lo) hx) c2
        have e3 := sx_ge_ok hG1 hG2 (sx_sub_ok (sx_const_ok _) hx) c3
        obtain ⟨E1, C1, a1, a2, a3⟩ := sx_asEq_ok hG1 hG2 (d := sx_addC f (-x.toInt)) (by rw [sx_addC_ok (c := -x.toInt) hx]; congr 1; omega)
        have hmem := sx_spl_mem (j := j.toNat) (N := N) (U := U) (FA := FA) (L := L) (S := S) (nc := nc) (ns := ns) (hi - lo + 1).toNat lo x.toInt (by omega) (by omega) (E1, C1) a1
        refine hW _ hmem Sg H ρ ls stk locs hle hpre ⟨hH, ⟨a2, a3, hG.2.2⟩, ⟨hF.1, hF.2.1, sx_put_ok (v := .null) hF3 hlk (fun v hv => ?_), hF.2.2.2⟩, hV⟩
        obtain ⟨y, rfl, hy⟩ := sx_av_int hv
        have hxy : x.toInt = y.toInt := Option.some.inj (hx.symm.trans hy)
        refine sx_int_av ?_
        rw [← hxy]
        exact sx_const_ok _
      · cases h
    · cases h
  · rename_i j v
    split at h
    · rename_i t f hlk
      split at h
      · rename_i hc
        subst hc
        cases h
        have hq : ∃ x : Int32, sx_lf ρ f = some x.toInt := by
          obtain ⟨w, w1, -⟩ := hF3 _ (sx_lk_mem hlk)
          obtain ⟨x, -, hx⟩ := sx_av_int w1
          exact ⟨x, hx⟩
        obtain ⟨x, hx⟩ := hq
        have one : ∀ r : Option (List sx_Ty × List sx_LF), (∃ E' C', r = some (E', C') ∧ sx_env Sg E' ρ ∧ sx_cs C' ρ) → (∀ st' ∈ sx_o1 N U FA L S nc ns r, sx_W FT D cl RT b0 nL p l e R s m args below meth c Q Sg0 ρ0 pc st') → W p l e R s m args below meth c H locs nc ns Q (F0 m pc ls stk) := fun r hr hw => by
          obtain ⟨E', C', rfl, a2, a3⟩ := hr
          exact hw _ List.mem_cons_self Sg H ρ ls stk locs hle hpre ⟨hH, ⟨a2, a3, hG.2.2⟩, hF, hV⟩
        rcases Int.lt_trichotomy x.toInt v with hlt | heq | hgt
        · obtain ⟨E1, C1, a1, a2, a3⟩ := sx_assume_ok hG1 hG2 (f := sx_sub (v - 1, []) f) (sx_sub_ok (sx_const_ok _) hx) (by omega)
          exact one _ ⟨E1, C1, a1, a2, a3⟩ (fun st' hs => hW st' (List.mem_append_left _ (List.mem_append_left _ hs)))
        · obtain ⟨E1, C1, a1, a2, a3⟩ := sx_asEq_ok hG1 hG2 (d := sx_addC f (-v)) (by rw [sx_addC_ok (c := -v) hx]; congr 1; omega)
          exact one _ ⟨E1, C1, a1, a2, a3⟩ (fun st' hs => hW st' (List.mem_append_left _ (List.mem_append_right _ hs)))
        · obtain ⟨E1, C1, a1, a2, a3⟩ := sx_assume_ok hG1 hG2 (f := sx_addC f (-v - 1)) (sx_addC_ok (c := -v - 1) hx) (by omega)
          exact one _ ⟨E1, C1, a1, a2, a3⟩ (fun st' hs => hW st' (List.mem_append_right _ hs))
      · cases h
    · cases h
  · cases h
    exact hW _ List.mem_cons_self Sg H ρ ls stk locs hle hpre ⟨hH, ⟨hG1, hG2, hG.2.2.1, hG.2.2.2.1, fun x hx => hG.2.2.2.2.1 x (List.mem_filter.mp hx).1, fun x hx => hG.2.2.2.2.2.1 x (List.mem_filter.mp hx).1, hG.2.2.2.2.2.2⟩, hF, hV⟩
  · cases h
    have hb : sx_bad E C = false := by
      cases hb : sx_bad E C with
      | true => exact (sx_bad_ok hG1 hG2 hb).elim
      | false => rfl
    exact hW _ (by rw [hb]; exact List.mem_cons_self) Sg H ρ ls stk locs hle hpre ⟨hH, hG, hF, hV⟩
  · rename_i j lo hi
    split at h
    · rename_i t f hav
      split at h
      · rename_i hc
        obtain ⟨rfl, c2, c3⟩ := hc
        cases h
        have hq : ∃ x : Int32, sx_lf ρ f = some x.toInt := by
          unfold sx_hav at hav
          split at hav
          · obtain ⟨w, w1, -⟩ := hF3 _ (sx_lk_mem hav)
            obtain ⟨x, -, hx⟩ := sx_av_int w1
            exact ⟨x, hx⟩
          · obtain ⟨w, w1⟩ := sx_stk_at hF.2.2.2 hav
            obtain ⟨x, -, hx⟩ := sx_av_int w1
            exact ⟨x, hx⟩
        obtain ⟨x, hx⟩ := hq
        have e2 := sx_ge2_ok hG1 hG2 (sx_addC_ok (c := -lo) hx) c2
        have e3 := sx_ge2_ok hG1 hG2 (sx_sub_ok (sx_const_ok hi) hx) c3
        have hGx := sx_G_ext (t := (0, lo, hi)) (v := .int x) hG (Or.inl ⟨rfl, x, rfl, by show lo ≤ x.toInt; omega, by show x.toInt ≤ hi; omega⟩)
        have hsy : sx_lf (ρ ++ [.int x]) (0, [(E.length, 1)]) = some x.toInt := sx_sym_ok (by unfold sx_iv; rw [sx_iv_new hG.1.1])
        have hfx : sx_lf (ρ ++ [.int x]) f = some x.toInt := sx_lf_ext hx
        have hF2 := sx_Fr_ext (ρ2 := [Value.int x]) hF
        have hvv : ∀ v, sx_av (ρ ++ [.int x]) (0, f) v → sx_av (ρ ++ [.int x]) (0, (0, [(E.length, 1)])) v := fun v hv => by
          obtain ⟨y, rfl, hy⟩ := sx_av_int hv
          rw [hfx] at hy
          have hxy : x = y := Int32.toInt_inj.mp (Option.some.inj hy)
          subst hxy
          exact sx_int_av hsy
        refine hW _ List.mem_cons_self Sg H (ρ ++ [.int x]) ls stk locs hle (hpre.trans (List.prefix_append ρ _)) ⟨hH, ⟨hGx.1, fun q hq => ?_, hGx.2.2⟩, ⟨hF2.1, hF2.2.1, ?_, ?_⟩, hV⟩
        · rcases List.mem_cons.mp hq with rfl | hq
          · exact ⟨_, sx_sub_ok hfx hsy, by omega⟩
          · rcases List.mem_cons.mp hq with rfl | hq
            · exact ⟨_, sx_sub_ok hsy hfx, by omega⟩
            · exact hGx.2.1 q hq
        · show ∀ q ∈ sx_hpL L j.toNat (0, (0, [(E.length, 1)])), _
          unfold sx_hpL
          unfold sx_hav at hav
          split
          · rename_i hj
            rw [if_pos hj] at hav
            exact sx_put_ok (v := .null) hF2.2.2.1 hav hvv
          · exact hF2.2.2.1
        · show sx_stk _ (sx_hpS S j.toNat (0, (0, [(E.length, 1)]))) stk
          unfold sx_hpS
          unfold sx_hav at hav
          split
          · exact hF2.2.2.2
          · rename_i hj
            rw [if_neg hj] at hav
            exact sx_stk_set hF2.2.2.2 hav hvv
      · cases h
    · cases h
  · cases h
/-- the claim's own hooks are good -/
def sx_macok (FT : Nat → List Int → Int) (D : va_G) (cl : List vw_C) (RT : Nat → Option sx_Rg) (AO : sx_Ao) (TB : List Cond) (b0 : sx_B) (l : Launch) (MT : List (List sx_Me)) (mac : sx_Mac) : Prop :=
  ∀ (h : sx_Ha) (M : sx_Me) (bud : sx_Bu) (pc : Nat) (st : sx_St) (X : List (Nat × sx_St)), M ∈ MT.flatten → h ∈ M.2.2.2.2 → h.1 = pc → mac h M bud pc st = some X → ∀ (p : Program) (e : Env) (R : Room) (s : State) (m : MethodId) (args : Array Value) (below : List Frame) (meth : Method) (c : Code) (Q : State → Prop) (Sg0 : Nat → Option Nat) (ρ0 : List Value), sx_Frm D cl AO TB b0 M bud p R s m args meth c →
    (∀ q ∈ X, sx_W FT D cl RT b0 M.1.2.2.1 p l e R s m args below meth c Q Sg0 ρ0 q.1 q.2) → sx_W FT D cl RT b0 M.1.2.2.1 p l e R s m args below meth c Q Sg0 ρ0 pc st
/-- what the executor accepts comes to its end -/
theorem sx_ex_ok {mac : sx_Mac} (hp : sx_prog cl RT CJ AO TB MT CDs) (hm : sx_macok FT D cl RT AO TB b0 l MT mac) : ∀ (f : Nat) (M : sx_Me) (bud : sx_Bu) (lps : List sx_Al) (cks : Nat → sx_St → Bool) (pc : Nat) (st : sx_St) (k : sx_Ko), M ∈ MT.flatten → sx_ex cl RT CJ MT CDs mac f M bud lps cks pc st k = true →
    ∀ (p : Program) (e : Env) (R : Room) (s : State) (m : MethodId) (args : Array Value) (below : List Frame) (meth : Method) (c : Code) (Q : State → Prop) (Sg0 : Nat → Option Nat) (ρ0 : List Value), sx_Frm D cl AO TB b0 M bud p R s m args meth c → (∀ a ∈ lps, sx_LOK FT D cl RT b0 M.1.2.2.1 p l e R s m args below meth c Q Sg0 ρ0 a) → (∀ pc st, cks pc st = true → sx_W FT D cl RT b0 M.1.2.2.1 p l e R s m args below meth c Q Sg0 ρ0 pc st) → sx_KOK FT D cl RT b0 p l e R s m args below meth c Q M.1.2.1 M.1.2.2.2 Sg0 ρ0 k → sx_W FT D cl RT b0 M.1.2.2.1 p l e R s m args below meth c Q Sg0 ρ0 pc st := by
  intro f
  induction f with
  | zero => intro M bud lps cks pc st k _ h; cases h
  | succ f ih =>
    intro M bud lps cks pc st k hM h p e R s m args below meth c Q Sg0 ρ0 hF hL hck hK
    have callee : ∀ M' bud' st' k', M' ∈ MT.flatten → sx_ex cl RT CJ MT CDs mac f M' bud' [] (fun _ _ => false) 0 st' k' = true → sx_CG FT D cl RT AO TB b0 l M' bud' st' k' :=
      fun M' bud' st' k' hM' hr p e R s m args below meth c Q Sg0 ρ0 hF' hK' => ih M' bud' [] _ 0 st' k' hM' hr p e R s m args below meth c Q Sg0 ρ0 hF' (fun a ha => by simp at ha) (fun _ _ hf => by cases hf) hK'
    simp only [sx_ex] at h
    split at h
    · rename_i hc
      exact hck _ _ hc
    · split at h
      · rename_i a ha
        have h1 := sx_fnd_mem ha
        have h2 := sx_fnd_some ha
        simp at h2
        subst h2
        exact sx_back_ok h (hL a h1)
      · split at h
        · rename_i q hq
          have hq2 := sx_fnd_some hq
          simp at hq2
          subst hq2
          split at h
          · exact sx_stp_ok hp hM hF hK (fun pc st hr => ih M bud lps cks pc st k hM hr p e R s m args below meth c Q Sg0 ρ0 hF hL hck hK) callee h
          · split at h
            · rename_i a ha
              refine sx_enter_ok ha (fun Sg1 ρ1 hle hpre hLa => ?_)
              refine sx_stp_ok hp hM hF (sx_KOK_pre hle hpre hK) (fun pc st hr => ih M bud (a :: lps) cks pc st k hM hr p e R s m args below meth c Q Sg1 ρ1 hF (fun b hb => ?_) (fun pc st hcs => sx_W_pre hle hpre (hck pc st hcs)) (sx_KOK_pre hle hpre hK)) callee h
              rcases List.mem_cons.mp hb with rfl | hb
              · exact hLa
              · exact sx_LOK_pre hle hpre (hL b hb)
            · cases h
        · have hstp : ∀ st', sx_stp cl RT CJ MT CDs (fun pc st => sx_ex cl RT CJ MT CDs mac f M bud lps cks pc st k) (fun M' b' st' k' => sx_ex cl RT CJ MT CDs mac f M' b' [] (fun _ _ => false) 0 st' k') M bud pc st' k = true → sx_W FT D cl RT b0 M.1.2.2.1 p l e R s m args below meth c Q Sg0 ρ0 pc st' :=
            fun st' h => sx_stp_ok hp hM hF hK (fun pc st hr => ih M bud lps cks pc st k hM hr p e R s m args below meth c Q Sg0 ρ0 hF hL hck hK) callee h
          unfold sx_hk at h
          split at h
          · exact hstp _ h
          · rename_i hh hfh
            split at h
            · rename_i X hX
              exact sx_hook_ok hX (fun st' hs => hstp st' (List.all_eq_true.mp h st' hs))
            · split at h
              · rename_i Y hY
                exact hm hh M bud pc st Y hM (sx_fnd_mem hfh) (Nat.eq_of_beq_eq_true (sx_fnd_some (α := sx_Ha) (p := fun h => Nat.beq h.1 pc) hfh)) hY p e R s m args below meth c Q Sg0 ρ0 hF (fun q hq => ih M bud lps cks q.1 q.2 k hM (List.all_eq_true.mp h q hq) p e R s m args below meth c Q Sg0 ρ0 hF hL hck hK)
              · cases h
end SX16
