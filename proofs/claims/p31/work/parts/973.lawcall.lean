/-! calls out of the law's frame: the callee in its own world -/
section LC
variable {p : Program} {l : Launch} {e : Env} {R : Room} {s : State} {m : MethodId} {args : Array Value} {below : List Frame} {meth : Method} {c : Code} {H : Heap} {locs : List Loc} {nc ns pc : Nat} {ls : Array Slot} {D : va_G} {ST : List (String × String × String × Nat)} {b0 : sx_B} {M0 M : sx_Me} {bud : sx_Bu} {Q : State → Prop} {B0 : Nat → Prop} {Sg : Nat → Option Nat} {μ : pm_Mem}
theorem lw_call {bc0 : sx_B} {RTc : Nat → Option sx_Rg} {bf bl : Nat} {q : sx_Ml} {vs rest : List Value} {post : Option Value → Heap → Prop} (hM : sx_meok zCl zCDs M) (mo3 : Cond.code M.1.1 M.1.2.1 M.1.2.2.1 M.1.2.2.2 ∈ zTB) (hF : sx_Frm D zCl (zAS ST) zTB b0 M0 bud p R s m args meth c) (hml : sx_mlk M0.1.1.cls args s M.1.1 q) (hd : decode M0.1.2.1 pc = .ok (sx_inv q.2.1 q.1, 3))
    (hvl : vs.length = q.2.2.2 + (if q.2.1 = 1 then 0 else 1)) (hsl : (lg_sl vs).length ≤ M.1.2.2.1) (hrest : (rest.map fun v => v.category).sum ≤ 8) (hb1 : bf + 1 ≤ bud.1) (hb2 : 19 + M.1.2.2.1 + bl ≤ bud.2.1) (h8 : q.2.1 = 2 → M.1.2.2.2 = none) (hnc : nc ≤ bud.2.2.1) (hns : ns ≤ bud.2.2.2)
    (hrecv : q.2.1 ≠ 1 → ∃ b As, vs = .ref b :: As ∧ ∃ cellB : Cell, H[b]? = some cellB ∧ cellB.vm.isStatics = false ∧ s.vm.findClass M.1.1.cls = some cellB.cls)
    (hsub : ∀ a, bc0.1 a → b0.1 a) (hfresh : ∀ a, H.size ≤ a → bc0.1 a)
    (hH : sx_H D zCl RTc bc0 Sg s H) (hV : va_S b0.1 s.heap H locs) (hls : ls.size = M0.1.2.2.1)
    (hC : pv_CG3 D zCl RTc (zAS ST) zTB bc0 l M (bf, bl, 0, 0) Sg H vs post)
    (kk : ∀ (vo : Option Value) (H2 : Heap) (locs2 : List Loc), sx_H D zCl RTc bc0 Sg s H2 → va_S b0.1 s.heap H2 locs2 → (H.size ≤ H2.size ∧ ∀ a, a < H.size → ¬ bc0.1 a → H2[a]? = H[a]?) → post vo H2 → W p l e R s m args below meth c H2 locs2 nc ns Q (F0 m (pc + 3) ls (vo.toList ++ rest))) :
    W p l e R s m args below meth c H locs nc ns Q (F0 m pc ls (vs.reverse ++ rest)) := by
  have hg : ∀ w ∈ zTB, sx_gw w = true := fun w hw => (List.mem_filter.mp hw).2
  obtain ⟨hCx, hKs, hb0, r1, r2, r3, r4, hini, hret, hlocks, hZS⟩ := hF
  have hts := hCx.2.2.2.2
  obtain ⟨mo1, mo2, mo4, mo5, mo6⟩ := hM
  let rm : Room := { frames := bf, cells := 0, slots := 0, locals := bl }
  let Pc : Array Value → State → Prop := fun a U => a = vs.toArray ∧ U.heap = H ∧ sx_Ks D zCl (zAS ST) zTB U ∧ sx_H D zCl RTc bc0 Sg U H ∧ sx_ZS ST bc0 U
  let Qc : Array Value → State → Outcome → State → Prop := fun _ st o t => ∃ vo, o = .returned vo ∧ (s.vm.Alike t.vm → va_F b0.1 st t ∧ ∀ locs', va_S b0.1 s.heap t.heap locs' → W p l e R s m args below meth c t.heap locs' (nc + 0) (ns + 0) Q (F0 m (pc + 3) ls (vo.toList ++ rest)))
  have hMet : Met l M.1.1 [Cond.code M.1.1 M.1.2.1 M.1.2.2.1 M.1.2.2.2] rm Pc Qc 0 0 b0.1 := by
    refine va_MetF (cc := M.1.2.1) (maxL := M.1.2.2.1) (ret := M.1.2.2.2) mo2 rfl ?_
    intro p' e' s' m' args' below' meth' c' s₁ B hml' hv
    obtain ⟨rfl, hh, hKs', hH', hZS'⟩ := hv
    have hown' : s'.vm.findClass M.1.1.cls = some m'.cls := findClass_of_methodNamed B.named
    have hnm : meth'.name = M.1.1.name := (name_of_methodNamed B.named B.method).1
    have hFrm : sx_Frm D zCl (zAS ST) zTB bc0 M (bf, bl, 0, 0) p' rm s' m' vs.toArray meth' c' :=
      ⟨⟨B.exec, B.bytes, hml', hown', fun w hw => hKs'.2.2 w hw _⟩, hKs', fun a ha => hfresh a (by rw [← hh]; exact ha), rfl, rfl, rfl, rfl, fun hi => by rw [hnm]; exact mo4 hi, B.returns, B.notSynchronized, hZS'⟩
    have hl := lv_entry vs (n := M.1.2.2.1) hsl
    show W p' l e' rm s' m' vs.toArray below' meth' c' s'.heap [] 0 0 _ (entryFrame m' vs.toArray M.1.2.2.1)
    rw [lg_entry_eq, hh]
    refine hC p' e' rm s' m' vs.toArray below' meth' c' _ _ hFrm hh hH' hl (fun vo H2 locs2 i pc2 ls2 hH2 hV2 hpost hrv hd2 => ?_)
    refine sx_ret B.exec B.bytes B.returns B.notSynchronized hrv (Nat.zero_le _) (Nat.zero_le _) (fun t ht hWt => ?_) (fun x hx => hsub _ (hV2.2.2 x hx)) hd2
    refine ⟨vo, rfl, fun hal => ⟨?_, fun locs' hV' => ?_⟩⟩
    · obtain ⟨f1, f2⟩ := hV2.F ht
      exact ⟨f1, fun a ha hb => f2 a ha (fun hc => hb (hsub a hc))⟩
    rw [ht] at hV' ⊢
    rw [hh] at hV2
    exact kk vo H2 locs' (sx_H_moved hal.symm (sx_H_moved hWt.alike hH2)) hV' ⟨hV2.1, hV2.2.1⟩ hpost
  have hrun := sx_run (p := p) (l := l) (e := e) (R := R) (s := s) (m := m) (args := args) (below := below) (meth := meth) (c := c) (H := H) (locs := locs) (nc := nc) (ns := ns) (pc := pc) (ls := ls) (q := q) (vs := vs) (rest := rest) hCx hml hMet rfl rfl (by show bf + 1 ≤ R.frames; rw [r1]; exact hb1) (by show 8 + (M.1.2.2.1 + 11) + bl ≤ R.locals; rw [r2]; omega) (hts _ mo3) h8
    (fun a U g mk hq => by obtain ⟨q0, q1, q2, q3, q4⟩ := hq; exact ⟨q0, q1, sx_Ks_calling hg q2, sx_H_calling q3, sx_ZS_move (U := U.calling g mk a) (State.WarmedH.refl U) (fun _ _ _ => rfl) q4⟩)
    (fun U hU hWU => ⟨rfl, hU, sx_Ks_move hg hWU hKs, sx_H_moved hWU.alike hH, sx_ZS_sub hsub (sx_ZS_move hWU (fun q h1 h2 => by rw [hU]; exact hV.2.1 q h1 h2) hZS)⟩) hls hvl hrecv hrest (by rw [r3, r4]; exact ⟨hnc, hns⟩) hd
  refine sx_goes hrun hV fun st₀ t vo h0 hQ hal => ?_
  obtain ⟨vo', hvo', hrest'⟩ := hQ
  cases hvo'
  exact hrest' hal
/-- the world at the law's level -/
def zLS (D : va_G) (B0 : Nat → Prop) (Sg : Nat → Option Nat) (s : State) (μ : pm_Mem) (H : Heap) : Prop := sx_H D zCl (sx_fz 0 zRT2) (sx_bW zRT2 0 B0 Sg, pm_J D zRT2 Sg zGm zJ) Sg s H ∧ pm_M D zRT2 Sg μ H ∧ zTJ μ
theorem zsubm_self (V : Nat) : sx_subm V V = true := by unfold sx_subm; rw [show Nat.land V V = V from Nat.and_self _]; exact Nat.beq_refl _
/-- what lies outside of what was written stays -/
theorem zfix {V : Nat} (hw : sx_Wd zNR zRT2 B0 Sg) {H2 : Heap} {μ0 : pm_Mem} {b1 : sx_B} {RT1 : Nat → Option sx_Rg} (hH : sx_H D zCl RT1 b1 Sg s H) (hM : pm_M D zRT2 Sg μ H) (n2 : pm_M D zRT2 Sg μ0 H2) (hfr : H.size ≤ H2.size ∧ ∀ a, a < H.size → ¬ sx_bW zRT2 V B0 Sg a → H2[a]? = H[a]?) : ∀ (r : Nat) (g : sx_Rg) (k : Nat) (t : sx_Ty), sx_bit V r = false → r < zNR → zRT2 r = some g → g.1 ≤ 2 → k < sx_wd g → sx_ft g k = some t → t.1 ≤ 1 → μ0 r (k : Int) = μ r (k : Int) := fun r g k t hb0 hrn hrg hg2 hk hft ht1 => by
  obtain ⟨a, har⟩ := hw.2.1 r hrn
  have hlt := sx_H_lt hH har
  obtain ⟨cell, hcell⟩ : ∃ cell : Cell, H[a]? = some cell := ⟨H[a]'hlt, Array.getElem?_eq_getElem _⟩
  have hnb : ¬ (sx_bW zRT2 V B0 Sg) a := fun hbw => by
    have hmm := hbw.2 r _ har (sx_fz_some hrg)
    unfold sx_fz1 at hmm
    rw [if_neg (by rw [hb0, Bool.or_false]; exact fun h => by have := Nat.le_of_ble_eq_true h; omega)] at hmm
    unfold sx_mut at hmm
    simp only [Bool.or_eq_true, beq_iff_eq] at hmm
    rcases hmm with h | h
    · have h : g.1 = 3 := h
      omega
    · have h : (1 : Nat) = 0 := h
      omega
  have hcell2 : H2[a]? = some cell := by rw [hfr.2 a hlt hnb]; exact hcell
  obtain ⟨v, v1, v2⟩ := hM a r g cell k t har hrg hcell hk hft ht1
  obtain ⟨w, w1, w2⟩ := n2 a r g cell k t har hrg hcell2 hk hft ht1
  rw [v1] at w1
  cases w1
  exact pm_v_num ht1 w2 v2
theorem zfresh {V : Nat} (hB : ∀ a, s.heap.size ≤ a → B0 a) {b1 : sx_B} {RT1 : Nat → Option sx_Rg} (hH : sx_H D zCl RT1 b1 Sg s H) (hsz : s.heap.size ≤ H.size) : ∀ a, H.size ≤ a → sx_bW zRT2 V B0 Sg a := fun a ha => ⟨hB a (Nat.le_trans hsz ha), fun r g hr _ => absurd (sx_H_lt hH hr) (by omega)⟩
/-- a contract serves out of the law's frame -/
theorem zl_ct {ct : sx_Ct} (hK : zKK ST) (hw : sx_Wd zNR zRT2 B0 Sg) (hB : ∀ a, s.heap.size ≤ a → B0 a) (hB0 : ∀ a, B0 a → b0.1 a) (hct : zCK D ST B0 l Sg ct) (q : sx_Ml) (M' : sx_Me) (as : List pm_V) {vs rest : List Value} (hF : sx_Frm D zCl (zAS ST) zTB b0 zM0 bud p R s m args meth c) (hq : sx_fnd (fun x => Nat.beq x.1 q.1) zD13.2.2.1 = some q) (hq1 : q.2.2.1 = ct.1) (hrow : sx_row zM0.2.1 pc = some (pc, sx_inv q.2.1 q.1, 3)) (hM' : sx_at2 zMT q.2.2.1 = some M') (hc : pm_cok zRT2 q M' as [] = true)
    (hb : ct.2.2.2.1 + 1 ≤ bud.1 ∧ 19 + M'.1.2.2.1 + ct.2.2.2.2.1 ≤ bud.2.1) (ht : ct.2.1.all (fun t => Nat.beq t.1 0 || Nat.beq t.1 2) = true) (gv : pm_S Sg as vs) (ha : pm_as as ct.2.1) (hrest : (rest.map fun v => v.category).sum ≤ 8) (hnc : nc ≤ bud.2.2.1) (hns : ns ≤ bud.2.2.2) (hls : ls.size = 4) (hL : zLS D B0 Sg s μ H) (hV : va_S b0.1 s.heap H locs)
    (kk : ∀ (vo : Option Value) (μ' : pm_Mem) (H2 : Heap) (locs2 : List Loc), sx_cres Sg ct.2.2.1 vo → zLS D B0 Sg s μ' H2 → va_S b0.1 s.heap H2 locs2 → (∀ (r : Nat) (g : sx_Rg) (k : Nat) (t : sx_Ty), sx_bit ct.2.2.2.2.2 r = false → r < zNR → zRT2 r = some g → g.1 ≤ 2 → k < sx_wd g → sx_ft g k = some t → t.1 ≤ 1 → μ' r (k : Int) = μ r (k : Int)) → W p l e R s m args below meth c H2 locs2 nc ns Q (F0 m (pc + 3) ls (vo.toList ++ rest))) :
    W p l e R s m args below meth c H locs nc ns Q (F0 m pc ls (vs.reverse ++ rest)) := by
  obtain ⟨hH, hM, hT⟩ := hL
  unfold pm_cok at hc
  simp only [sx_ab_eq, Bool.and_eq_true] at hc
  obtain ⟨c1, c2, c3, c4, c5, c6, c7⟩ := hc
  have c1 := Nat.eq_of_beq_eq_true c1
  have c3 := Nat.le_of_ble_eq_true c3
  have c5 := Nat.eq_of_beq_eq_true c5
  have c6 := Nat.eq_of_beq_eq_true c6
  have hM'm := sx_at2_mem hM'
  have ht' : ∀ t ∈ ct.2.1, t.1 = 0 ∨ t.1 = 2 := fun t hm => by
    rcases Bool.or_eq_true_iff.mp (List.all_eq_true.mp ht t hm) with h | h
    · exact Or.inl (Nat.eq_of_beq_eq_true h)
    · exact Or.inr (Nat.eq_of_beq_eq_true h)
  obtain ⟨hg, hcl, hRT, hCJ, hai, hal, hMT, hDA⟩ := hK.1
  have hm0 : pm_m zMT zCDs zM0 zD13 := ⟨sx_at2_mem (i := 0) rfl, rfl⟩
  have hdn := (hMT zM0 hm0.1).2.2.2.1 zD13 hm0.2
  obtain ⟨-, hml, -, -⟩ := hDA zD13 (List.mem_of_getElem? hm0.2) args s hF.1.2.2.2.2 hF.2.1.2.1
  obtain ⟨hmlk, mo3⟩ := hml q (sx_fnd_mem hq) M' hM'
  rw [hdn] at hmlk
  have hHw : sx_H D zCl (pm_w (sx_fz 0 zRT2)) (sx_bW zRT2 0 B0 Sg, pm_J D zRT2 Sg zGm zJ) Sg s H := pm_widen hH (Vm.Alike.refl s.vm) (fun a r g ha hg hmut => by
    obtain ⟨g', k1, -, k5, -⟩ := hH a r ha
    rw [hg] at k1
    cases k1
    exact k5 hmut)
  obtain ⟨hrv, hne2⟩ := pm_rcv_ok (q := q) hK hM'm hF.2.1 hHw c7 gv
  have hCG := hct H vs M' (by rw [← hq1]; exact hM') (pm_cvs_of gv ha ht') (pm_J_mk hw.2.1 zGm_lt zJ_loc hH hM hT.2)
  rw [c5, c6] at hCG
  refine lw_call (RTc := sx_fz ct.2.2.2.2.2 zRT2) (bc0 := (sx_bW zRT2 ct.2.2.2.2.2 B0 Sg, pm_J D zRT2 Sg zGm zJ)) (hMT M' hM'm) mo3 hF hmlk (pm_row hK hm0 hrow) (by rw [pm_S_len gv]; exact c1) (by rw [pm_sl gv c2]; exact c3) hrest hb.1 hb.2 (fun h => absurd h hne2) hnc hns hrv (fun a ha => hB0 a ha.1) (zfresh hB hH hV.1) (sx_H_conv hw.2.2 (zsubm_self _) (Vm.Alike.refl s.vm) hH) hV hls hCG (fun vo H2 locs2 hH2 hV2 hfr hres => ?_)
  obtain ⟨hcr, hJ2⟩ := hres
  obtain ⟨μ0, n1, n2, n3⟩ := pm_down hH2
  exact kk vo μ0 H2 locs2 hcr ⟨sx_H_conv hw.2.2 (zsubm_self _) (Vm.Alike.refl s.vm) hH2, n2, ⟨zTy_of hw n3, pm_J_get hJ2 n2⟩⟩ hV2 (zfix hw hH hM n2 hfr)
/-- a method that was walked serves out of the law's frame -/
theorem zl_hd {Wm bf bl : Nat} (hK : zKK ST) (hw : sx_Wd zNR zRT2 B0 Sg) (hB : ∀ a, s.heap.size ≤ a → B0 a) (hB0 : ∀ a, B0 a → b0.1 a) (q : sx_Ml) (M' : sx_Me) (as : List pm_V) {vs rest : List Value} {Post : List pm_V → pm_Mem → Prop} (hC : zC D Wm ST (sx_bW zRT2 Wm B0 Sg, pm_J D zRT2 Sg zGm zJ) l Sg M' (bf, bl, 0, 0) as μ Post) (hF : sx_Frm D zCl (zAS ST) zTB b0 zM0 bud p R s m args meth c) (hq : sx_fnd (fun x => Nat.beq x.1 q.1) zD13.2.2.1 = some q) (hrow : sx_row zM0.2.1 pc = some (pc, sx_inv q.2.1 q.1, 3)) (hM' : sx_at2 zMT q.2.2.1 = some M') (hc : pm_cok zRT2 q M' as [] = true)
    (hb : bf + 1 ≤ bud.1 ∧ 19 + M'.1.2.2.1 + bl ≤ bud.2.1) (gv : pm_S Sg as vs) (hrest : (rest.map fun v => v.category).sum ≤ 8) (hnc : nc ≤ bud.2.2.1) (hns : ns ≤ bud.2.2.2) (hls : ls.size = 4) (hL : zLS D B0 Sg s μ H) (hV : va_S b0.1 s.heap H locs)
    (hp : ∀ st' μ', Post st' μ' → zTJ μ')
    (kk : ∀ (vo : Option Value) (st' : List pm_V) (μ' : pm_Mem) (H2 : Heap) (locs2 : List Loc), Post st' μ' → pm_S Sg st' vo.toList → zLS D B0 Sg s μ' H2 → va_S b0.1 s.heap H2 locs2 → (∀ (r : Nat) (g : sx_Rg) (k : Nat) (t : sx_Ty), sx_bit Wm r = false → r < zNR → zRT2 r = some g → g.1 ≤ 2 → k < sx_wd g → sx_ft g k = some t → t.1 ≤ 1 → μ' r (k : Int) = μ r (k : Int)) → W p l e R s m args below meth c H2 locs2 nc ns Q (F0 m (pc + 3) ls (vo.toList ++ rest))) :
    W p l e R s m args below meth c H locs nc ns Q (F0 m pc ls (vs.reverse ++ rest)) := by
  obtain ⟨hH, hM, hT⟩ := hL
  unfold pm_cok at hc
  simp only [sx_ab_eq, Bool.and_eq_true] at hc
  obtain ⟨c1, c2, c3, c4, c5, c6, c7⟩ := hc
  have c1 := Nat.eq_of_beq_eq_true c1
  have c3 := Nat.le_of_ble_eq_true c3
  have c5 := Nat.eq_of_beq_eq_true c5
  have c6 := Nat.eq_of_beq_eq_true c6
  have hM'm := sx_at2_mem hM'
  obtain ⟨hg, hcl, hRT, hCJ, hai, hal, hMT, hDA⟩ := hK.1
  have hm0 : pm_m zMT zCDs zM0 zD13 := ⟨sx_at2_mem (i := 0) rfl, rfl⟩
  have hdn := (hMT zM0 hm0.1).2.2.2.1 zD13 hm0.2
  obtain ⟨-, hml, -, -⟩ := hDA zD13 (List.mem_of_getElem? hm0.2) args s hF.1.2.2.2.2 hF.2.1.2.1
  obtain ⟨hmlk, mo3⟩ := hml q (sx_fnd_mem hq) M' hM'
  rw [hdn] at hmlk
  have hbb : ∀ {RT1 : Nat → Option sx_Rg} {b1 : sx_B}, ∀ a r g, Sg a = some r → sx_fz Wm zRT2 r = some g → sx_mut g = true → (sx_bW zRT2 Wm B0 Sg) a := fun a r g ha hg hmut => by
    obtain ⟨g0, m1, rfl⟩ := sx_fz_ok hg
    refine ⟨hw.2.2 a r g0 ha m1 (sx_fz1_mut0 hmut), fun r' g' hr' hg' => ?_⟩
    rw [ha] at hr'
    cases hr'
    rw [sx_fz_some m1] at hg'
    cases hg'
    exact hmut
  have hHw : sx_H D zCl (pm_w (sx_fz Wm zRT2)) (sx_bW zRT2 Wm B0 Sg, pm_J D zRT2 Sg zGm zJ) Sg s H := pm_widen hH (Vm.Alike.refl s.vm) (hbb (RT1 := zRT2) (b1 := b0))
  obtain ⟨hrv, hne2⟩ := pm_rcv_ok (q := q) hK hM'm hF.2.1 hHw c7 gv
  refine lw_call (RTc := pm_w (sx_fz Wm zRT2)) (bc0 := (sx_bW zRT2 Wm B0 Sg, pm_J D zRT2 Sg zGm zJ)) (post := fun vo H2 => ∃ st' μ', Post st' μ' ∧ pm_M D zRT2 Sg μ' H2 ∧ pm_S Sg st' vo.toList) (hMT M' hM'm) mo3 hF hmlk (pm_row hK hm0 hrow) (by rw [pm_S_len gv]; exact c1) (by rw [pm_sl gv c2]; exact c3) hrest hb.1 hb.2 (fun h => absurd h hne2) hnc hns hrv (fun a ha => hB0 a ha.1) (zfresh hB hH hV.1) hHw hV hls ?_ (fun vo H2 locs2 hH2 hV2 hfr hres => ?_)
  · intro p' e' R' s' m' args' below' meth' c' Q' ls' hF' hh' hH' hl' K'
    refine hC p' e' R' s' m' args' below' meth' c' Q' H [] ls' [] hF' ⟨hH', hM, by rw [hh']; exact va_S.rf, pm_entL gv c2 hl', trivial⟩ (fun pc' lv' st' μ' H' locs' ls'' stk' hX hP' => ?_)
    obtain ⟨⟨i, i1, i2⟩, hpost⟩ := hX
    obtain ⟨vo, rfl, hrv'⟩ := pm_rv_ok i2 hP'.2.2.2.2
    exact K' vo H' locs' i pc' ls'' hP'.1 hP'.2.2.1 ⟨st', μ', hpost, hP'.2.1, hP'.2.2.2.2⟩ hrv' (pv_row (hMT M' hM'm).1 i1)
  · obtain ⟨st', μ', q1, q2, q3⟩ := hres
    have hT' := hp _ _ q1
    exact kk vo st' μ' H2 locs2 q1 q3 ⟨sx_H_conv hw.2.2 (zsubm_self _) (Vm.Alike.refl s.vm) (pm_narrow (V := Wm) (b1 := (sx_bW zRT2 Wm B0 Sg, pm_J D zRT2 Sg zGm zJ)) hH2 q2 (zTy_T hw hT'.1) (Vm.Alike.refl s.vm) (hbb (RT1 := zRT2) (b1 := b0))), q2, hT'⟩ hV2 (zfix hw hH hM q2 hfr)
end LC
