/-! sx, calls by contract: a method, its arguments' types, its answer's type, the room that it takes (frames, locals); whoever calls it forgets all that it knew of the heap but its types -/
abbrev sx_Ct : Type := Nat × List sx_Ty × Option sx_Ty × Nat × Nat
def sx_cvs (Sg : Nat → Option Nat) : List Value → List sx_Ty → Prop
  | [], [] => True
  | v :: vs, t :: ts => sx_ok Sg v t ∧ sx_cvs Sg vs ts
  | _, _ => False
def sx_cres (Sg : Nat → Option Nat) (res : Option sx_Ty) (vo : Option Value) : Prop := match res with
  | none => vo = none
  | some t => ∃ v, vo = some v ∧ sx_ok Sg v t
/-- what a callee that is walked by hand is asked for -/
def pv_CG2 (D : va_G) (cl : List vw_C) (RT : Nat → Option sx_Rg) (AO : sx_Ao) (TB : List Cond) (b0 : Nat) (l : Launch) (M : sx_Me) (bud : sx_Bu) (Sg : Nat → Option Nat) (H : Heap) (vs : List Value) (post : (Nat → Option Nat) → Option Value → Heap → Prop) : Prop :=
  ∀ (p : Program) (e : Env) (R : Room) (s : State) (m : MethodId) (args : Array Value) (below : List Frame) (meth : Method) (c : Code) (Q : State → Prop) (ls : Array Slot), sx_Frm D cl AO TB b0 M bud p R s m args meth c → s.heap = H → sx_H D cl RT b0 Sg s H → lv_has ls M.1.2.2.1 (lv_args 0 vs) →
    (∀ (vo : Option Value) (Sg2 : Nat → Option Nat) (H2 : Heap) (locs2 : List Loc) (i : Instr) (pc2 : Nat) (ls2 : Array Slot), sx_le Sg Sg2 → sx_H D cl RT b0 Sg2 s H2 → va_S (fun q => b0 ≤ q) s.heap H2 locs2 → post Sg2 vo H2 → sx_rv M.1.2.2.2 i vo → decode M.1.2.1 pc2 = .ok (i, 1) → W p l e R s m args below meth c H2 locs2 0 0 Q (F0 m pc2 ls2 vo.toList)) →
    W p l e R s m args below meth c H [] 0 0 Q (F0 m 0 ls [])
def sx_CTok (D : va_G) (cl : List vw_C) (RT : Nat → Option sx_Rg) (AO : sx_Ao) (TB : List Cond) (b0 : Nat) (l : Launch) (MT : List (List sx_Me)) (nR : Nat) (ct : sx_Ct) : Prop :=
  ∀ (Sg : Nat → Option Nat) (H : Heap) (vs : List Value) (M : sx_Me), sx_at2 MT ct.1 = some M → (∀ a r, Sg a = some r → r < nR) → sx_cvs Sg vs ct.2.1 → pv_CG2 D cl RT AO TB b0 l M (ct.2.2.2.1, ct.2.2.2.2, M.2.2.1.2.2.1, M.2.2.1.2.2.2.1) Sg H vs (fun Sg2 vo _ => (∀ a r, Sg2 a = some r → r < nR) ∧ sx_cres Sg2 ct.2.2.1 vo)
section PVC
variable {D : va_G} {cl : List vw_C} {RT : Nat → Option sx_Rg} {AO : sx_Ao} {TB : List Cond} {CDs : List sx_Da} {b0 : Nat} {l : Launch} {Sg : Nat → Option Nat}
/-- a call, the callee in a room of its own -/
theorem pv_call2 {M0 M : sx_Me} {bud bc : sx_Bu} {pc : Nat} {nc ns : Nat} {q : sx_Ml} {p : Program} {e : Env} {R : Room} {s : State} {m : MethodId} {args : Array Value} {below : List Frame} {meth : Method} {c : Code} {Q : State → Prop} {H : Heap} {locs : List Loc} {ls : Array Slot} {vs rest : List Value} {post : (Nat → Option Nat) → Option Value → Heap → Prop}
    (hg : ∀ w ∈ TB, sx_gw w = true) (hM : sx_meok cl CDs M) (mo3 : Cond.code M.1.1 M.1.2.1 M.1.2.2.1 M.1.2.2.2 ∈ TB) (hF : sx_Frm D cl AO TB b0 M0 bud p R s m args meth c) (hml : sx_mlk M0.1.1.cls args s M.1.1 q) (hd : decode M0.1.2.1 pc = .ok (sx_inv q.2.1 q.1, 3))
    (hvl : vs.length = q.2.2.2 + (if q.2.1 = 1 then 0 else 1)) (hsl : (lg_sl vs).length ≤ M.1.2.2.1) (hrest : (rest.map fun v => v.category).sum ≤ 8) (hb1 : bc.1 + 1 ≤ bud.1) (hb2 : 19 + M.1.2.2.1 + bc.2.1 ≤ bud.2.1) (hb3 : bc.2.2.1 = M.2.2.1.2.2.1) (hb4 : bc.2.2.2 = M.2.2.1.2.2.2.1) (h8 : q.2.1 = 2 → M.1.2.2.2 = none) (hnc : nc + M.2.2.1.2.2.1 ≤ bud.2.2.1) (hns : ns + M.2.2.1.2.2.2.1 ≤ bud.2.2.2)
    (hrecv : q.2.1 ≠ 1 → ∃ b As, vs = .ref b :: As ∧ ∃ cellB : Cell, H[b]? = some cellB ∧ cellB.vm.isStatics = false ∧ s.vm.findClass M.1.1.cls = some cellB.cls)
    (hH : sx_H D cl RT b0 Sg s H) (hV : va_S (fun q => b0 ≤ q) s.heap H locs) (hls : ls.size = M0.1.2.2.1)
    (hC : pv_CG2 D cl RT AO TB b0 l M bc Sg H vs post)
    (kk : ∀ (vo : Option Value) (Sg2 : Nat → Option Nat) (H2 : Heap) (locs2 : List Loc), sx_le Sg Sg2 → sx_H D cl RT b0 Sg2 s H2 → va_S (fun q => b0 ≤ q) s.heap H2 locs2 → post Sg2 vo H2 → W p l e R s m args below meth c H2 locs2 (nc + M.2.2.1.2.2.1) (ns + M.2.2.1.2.2.2.1) Q (F0 m (pc + 3) ls (vo.toList ++ rest))) :
    W p l e R s m args below meth c H locs nc ns Q (F0 m pc ls (vs.reverse ++ rest)) := by
  obtain ⟨hCx, hKs, hb0, r1, r2, r3, r4, hini, hret, hlocks, hZS⟩ := hF
  have hts := hCx.2.2.2.2
  obtain ⟨mo1, mo2, mo4, mo5, mo6⟩ := hM
  have hbH : b0 ≤ H.size := Nat.le_trans hb0 hV.1
  obtain ⟨bf, bl, bcc, bs⟩ := bc
  have hb3 : bcc = M.2.2.1.2.2.1 := hb3
  have hb4 : bs = M.2.2.1.2.2.2.1 := hb4
  subst hb3; subst hb4
  have hb1 : bf + 1 ≤ bud.1 := hb1
  have hb2 : 19 + M.1.2.2.1 + bl ≤ bud.2.1 := hb2
  let rm : Room := { frames := bf, cells := M.2.2.1.2.2.1, slots := M.2.2.1.2.2.2.1, locals := bl }
  let Pc : Array Value → State → Prop := fun a U => a = vs.toArray ∧ U.heap = H ∧ sx_Ks D cl AO TB U ∧ sx_H D cl RT b0 Sg U H ∧ sx_ZS AO.2 b0 U
  let Qc : Array Value → State → Outcome → State → Prop := fun _ st o t => ∃ vo, o = .returned vo ∧ (s.vm.Alike t.vm → va_F (fun q => b0 ≤ q) st t ∧ ∀ locs', va_S (fun q => b0 ≤ q) s.heap t.heap locs' → W p l e R s m args below meth c t.heap locs' (nc + M.2.2.1.2.2.1) (ns + M.2.2.1.2.2.2.1) Q (F0 m (pc + 3) ls (vo.toList ++ rest)))
  have hMet : Met l M.1.1 [Cond.code M.1.1 M.1.2.1 M.1.2.2.1 M.1.2.2.2] rm Pc Qc M.2.2.1.2.2.1 M.2.2.1.2.2.2.1 (fun q => b0 ≤ q) := by
    refine va_MetF (cc := M.1.2.1) (maxL := M.1.2.2.1) (ret := M.1.2.2.2) mo2 rfl ?_
    intro p' e' s' m' args' below' meth' c' s₁ B hml' hv
    obtain ⟨rfl, hh, hKs', hH', hZS'⟩ := hv
    have hown' : s'.vm.findClass M.1.1.cls = some m'.cls := findClass_of_methodNamed B.named
    have hnm : meth'.name = M.1.1.name := (name_of_methodNamed B.named B.method).1
    have hFrm : sx_Frm D cl AO TB b0 M (bf, bl, M.2.2.1.2.2.1, M.2.2.1.2.2.2.1) p' rm s' m' vs.toArray meth' c' :=
      ⟨⟨B.exec, B.bytes, hml', hown', fun w hw => hKs'.2.2 w hw _⟩, hKs', by rw [hh]; exact hbH, rfl, rfl, rfl, rfl, fun hi => by rw [hnm]; exact mo4 hi, B.returns, B.notSynchronized, hZS'⟩
    have hl := lv_entry vs (n := M.1.2.2.1) hsl
    show W p' l e' rm s' m' vs.toArray below' meth' c' s'.heap [] 0 0 _ (entryFrame m' vs.toArray M.1.2.2.1)
    rw [lg_entry_eq, hh]
    refine hC p' e' rm s' m' vs.toArray below' meth' c' _ _ hFrm hh hH' hl (fun vo Sg2 H2 locs2 i pc2 ls2 hle2 hH2 hV2 hpost hrv hd2 => ?_)
    refine sx_ret B.exec B.bytes B.returns B.notSynchronized hrv (Nat.zero_le _) (Nat.zero_le _) (fun t ht hWt => ?_) hV2.2.2 hd2
    refine ⟨vo, rfl, fun hal => ⟨hV2.F ht, fun locs' hV' => ?_⟩⟩
    rw [ht] at hV' ⊢
    exact kk vo Sg2 H2 locs' hle2 (sx_H_moved hal.symm (sx_H_moved hWt.alike hH2)) hV' hpost
  have hrun := sx_run (p := p) (l := l) (e := e) (R := R) (s := s) (m := m) (args := args) (below := below) (meth := meth) (c := c) (H := H) (locs := locs) (nc := nc) (ns := ns) (pc := pc) (ls := ls) (q := q) (vs := vs) (rest := rest) hCx hml hMet rfl rfl (by show bf + 1 ≤ R.frames; rw [r1]; exact hb1) (by show 8 + (M.1.2.2.1 + 11) + bl ≤ R.locals; rw [r2]; omega) (hts _ mo3) h8
    (fun a U g mk hq => by obtain ⟨q0, q1, q2, q3, q4⟩ := hq; exact ⟨q0, q1, sx_Ks_calling hg q2, sx_H_calling q3, sx_ZS_move (U := U.calling g mk a) (Vm.Alike.refl U.vm) (fun _ _ _ => rfl) q4⟩)
    (fun U hU hWU => ⟨rfl, hU, sx_Ks_move hg hWU hKs, sx_H_moved hWU.alike hH, sx_ZS_move hWU.alike (fun q h1 h2 => by rw [hU]; exact hV.2.1 q h1 h2) hZS⟩) hls hvl hrecv hrest (by rw [r3, r4]; exact ⟨hnc, hns⟩) hd
  refine sx_goes hrun hV fun st₀ t vo h0 hQ hal => ?_
  obtain ⟨vo', hvo', hrest'⟩ := hQ
  cases hvo'
  exact hrest' hal
end PVC
/-! the arguments, checked -/
def sx_carg (RT : Nat → Option sx_Rg) (E : List sx_Ty) (C : List sx_LF) (a : sx_AV) (t : sx_Ty) : Bool := if t.1 = 2 then (match sx_reg E RT a with
    | some (_, r, _) => decide ((r : Int) = t.2.1)
    | none => false) else sx_conf E C a t
def sx_cargs (RT : Nat → Option sx_Rg) (E : List sx_Ty) (C : List sx_LF) : List sx_AV → List sx_Ty → Bool
  | [], [] => true
  | a :: as, t :: ts => sx_carg RT E C a t && sx_cargs RT E C as ts
  | _, _ => false
section SXC
variable {FT : Nat → List Int → Int} {D : va_G} {cl : List vw_C} {RT : Nat → Option sx_Rg} {AO : sx_Ao} {TB : List Cond} {CJ : List (List Nat)} {MT : List (List sx_Me)} {CDs : List sx_Da} {b0 : Nat} {l : Launch} {Sg : Nat → Option Nat} {s : State} {H : Heap} {E : List sx_Ty} {C : List sx_LF} {ρ : List Value}
theorem sx_carg_ok {a : sx_AV} {t : sx_Ty} {v : Value} (h : sx_carg RT E C a t = true) (hE : sx_env Sg E ρ) (hC : sx_cs C ρ) (hH : sx_H D cl RT b0 Sg s H) (hv : sx_av ρ a v) : sx_ok Sg v t := by
  unfold sx_carg at h
  split at h
  · rename_i ht
    split at h
    · rename_i z r g hreg
      have h := of_decide_eq_true h
      obtain ⟨ad, cell, rfl, -, k2, -⟩ := sx_reg_ok hreg hE hH hv
      refine Or.inr (Or.inr (Or.inl ⟨ht, ad, rfl, ?_⟩))
      rw [k2]
      congr 1; omega
    · cases h
  · exact sx_conf_ok hE hC hv h
theorem sx_cargs_ok (hE : sx_env Sg E ρ) (hC : sx_cs C ρ) (hH : sx_H D cl RT b0 Sg s H) : ∀ {as : List sx_AV} {ts : List sx_Ty} {vs : List Value}, sx_cargs RT E C as ts = true → sx_stk ρ as vs → sx_cvs Sg vs ts
  | [], [], [], _, _ => trivial
  | a :: as, t :: ts, v :: vs, h, k => by
    simp only [sx_cargs, Bool.and_eq_true] at h
    exact ⟨sx_carg_ok h.1 hE hC hH k.1, sx_cargs_ok hE hC hH h.2 k.2⟩
  | [], [], _ :: _, _, k => k.elim
  | _ :: _, _, [], _, k => k.elim
  | [], _ :: _, _, h, _ => by simp [sx_cargs] at h
  | _ :: _, [], _, h, _ => by simp [sx_cargs] at h
/-- the symbols with which a contract's method begins -/
def sx_cent : Nat → List sx_Ty → List sx_AV
  | _, [] => []
  | i, t :: ts => sx_nav t i :: sx_cent (i + 1) ts
theorem sx_nav_ok {t : sx_Ty} {z : Nat} {v : Value} (h : ρ[z]? = some v) (hv : sx_ok Sg v t) (ht : t.1 ≤ 2) : sx_av ρ (sx_nav t z) v := by
  unfold sx_nav
  rcases hv with ⟨h5, x, rfl, -⟩ | ⟨h5, x, rfl, -⟩ | ⟨h5, q', rfl, -⟩ | ⟨h5, -⟩
  · rw [if_neg (by omega), h5]; exact sx_int_av (sx_sym_ok (by unfold sx_iv; rw [h]))
  · rw [if_neg (by omega), h5]; exact sx_long_av (sx_sym_ok (by unfold sx_iv; rw [h]))
  · rw [if_pos h5]; exact Or.inr (Or.inr (Or.inl ⟨rfl, h, q', rfl⟩))
  · omega
theorem sx_cent_ok : ∀ {ts : List sx_Ty} {pre vs : List Value}, sx_cvs Sg vs ts → (∀ t ∈ ts, t.1 ≤ 2) → sx_stk (pre ++ vs) (sx_cent pre.length ts) vs
  | [], pre, [], _, _ => trivial
  | t :: ts, pre, v :: vs, h, ht => by
    refine ⟨sx_nav_ok (by simp) h.1 (ht t List.mem_cons_self), ?_⟩
    have := sx_cent_ok (pre := pre ++ [v]) h.2 (fun u hu => ht u (List.mem_cons_of_mem _ hu))
    rw [List.append_assoc, List.length_append] at this
    exact this
  | [], _, _ :: _, h, _ => h.elim
  | _ :: _, _, [], h, _ => h.elim
theorem sx_cenv : ∀ {ts : List sx_Ty} {vs : List Value}, sx_cvs Sg vs ts → sx_env Sg ts vs
  | [], [], _ => ⟨rfl, fun z t v h => by simp at h⟩
  | t :: ts, v :: vs, h => by
    obtain ⟨h1, h2⟩ := sx_cenv h.2
    refine ⟨by simp [h1], fun z u w hz hw => ?_⟩
    cases z with
    | zero =>
      simp at hz hw
      subst hz; subst hw
      exact h.1
    | succ z => exact h2 z u w (by simpa using hz) (by simpa using hw)
  | [], _ :: _, h => h.elim
  | _ :: _, [], h => h.elim
def sx_cst (nR : Nat) (ct : sx_Ct) : sx_St := (((ct.2.1, [], [], []), ([], [], nR)), (sx_ent 0 (sx_cent 0 ct.2.1), []), 0, 0)
def sx_ck (nR : Nat) (ct : sx_Ct) : sx_Ko := fun r K nc ns => decide (nc = 0) && decide (ns = 0) && decide (K.2.2.2 = nR) && (match r, ct.2.2.1 with
  | none, none => true
  | some a, some t => sx_conf K.1.1 K.1.2.1 a t
  | _, _ => false)
noncomputable def sx_crun (cl : List vw_C) (RT : Nat → Option sx_Rg) (CJ : List (List Nat)) (MT : List (List sx_Me)) (CDs : List sx_Da) (mac : sx_Mac) (nR fuel : Nat) (ct : sx_Ct) : Bool := ct.2.1.all (fun t => Nat.ble t.1 2) && (match sx_at2 MT ct.1 with
  | some M => sx_ex cl RT CJ MT CDs mac fuel M (ct.2.2.2.1, ct.2.2.2.2, M.2.2.1.2.2.1, M.2.2.1.2.2.2.1) [] (fun _ _ => false) 0 (sx_cst nR ct) (sx_ck nR ct)
  | none => false)
theorem sx_crun_ok {mac : sx_Mac} {nR fuel : Nat} {ct : sx_Ct} (hp : sx_prog cl RT CJ AO TB MT CDs) (hm : sx_macok FT D cl RT AO TB b0 l MT mac) (h : sx_crun cl RT CJ MT CDs mac nR fuel ct = true) : sx_CTok D cl RT AO TB b0 l MT nR ct := by
  intro Sg H vs M hM hnR hvs p e R s m args below meth c Q ls hF hh hH hl K
  unfold sx_crun at h
  rw [hM] at h
  simp only [Bool.and_eq_true] at h
  obtain ⟨h1, h2⟩ := h
  have ht : ∀ t ∈ ct.2.1, t.1 ≤ 2 := fun t ht => Nat.le_of_ble_eq_true (List.all_eq_true.mp h1 t ht)
  have hK : sx_KOK FT D cl RT b0 p l e R s m args below meth c Q M.1.2.1 M.1.2.2.2 Sg vs (sx_ck nR ct) := by
    intro r K' nc ns hk Sg2 H2 ρ locs vo i pc ls2 hle hpre hH2 hG2 hV2 hvo hrv hd
    unfold sx_ck at hk
    simp only [Bool.and_eq_true, decide_eq_true_eq] at hk
    obtain ⟨⟨⟨k1, k2⟩, k4⟩, k3⟩ := hk
    subst k1; subst k2
    refine K vo Sg2 H2 locs i pc ls2 hle hH2 hV2 ⟨fun a r ha => by rw [← k4]; exact hG2.2.2.2.2.2.2 a r ha, ?_⟩ hrv hd
    unfold sx_cres
    cases hr : ct.2.2.1 with
    | none =>
      rw [hr] at k3
      cases r with
      | none => exact hvo
      | some a => cases k3
    | some t =>
      rw [hr] at k3
      cases r with
      | none => cases k3
      | some a =>
        obtain ⟨v, v1, v2⟩ := hvo
        exact ⟨v, v1, sx_conf_ok hG2.1 hG2.2.1 v2 k3⟩
  have hW := sx_ex_ok hp hm fuel M _ [] _ 0 _ _ (sx_at2_mem hM) h2 p e R s m args below meth c Q Sg vs hF (fun a ha => by simp at ha) (fun _ _ hf => by cases hf) hK
  have hst := sx_cent_ok (pre := []) hvs ht
  refine hW Sg H vs ls [] [] (fun _ _ h => h) (List.prefix_refl _) ⟨hH, ⟨sx_cenv hvs, fun f hf => absurd hf List.not_mem_nil, fun f hf => absurd hf List.not_mem_nil, fun q hq => absurd hq List.not_mem_nil, fun q hq => absurd hq List.not_mem_nil, fun q hq => absurd hq List.not_mem_nil, hnR⟩, ⟨hl.1, hl.2.1, fun x hx => ?_, trivial⟩, by rw [← hh]; exact va_S.rf⟩
  obtain ⟨v, x1, x2⟩ := sx_ent_ok 0 hst x hx
  exact ⟨v, x1, hl.2.2 (x.1, v) x2⟩
/-- the contract of a call's place: of those that the hook names, the first that stands ahead of 'lim' and fits -/
noncomputable def sx_cpick (RT : Nat → Option sx_Rg) (CT : List (List sx_Ct)) (lim mi : Nat) (E : List sx_Ty) (C : List sx_LF) (avs : List sx_AV) : List Int → Option sx_Ct
  | [] => none
  | j :: js => if Nat.blt j.toNat lim = true then (match sx_at2 CT j.toNat with
      | some ct => if (Nat.beq ct.1 mi && sx_cargs RT E C avs ct.2.1) = true then some ct else sx_cpick RT CT lim mi E C avs js
      | none => sx_cpick RT CT lim mi E C avs js) else sx_cpick RT CT lim mi E C avs js
theorem sx_cpick_ok {CT : List (List sx_Ct)} {lim mi : Nat} {avs : List sx_AV} {ct : sx_Ct} : ∀ {js : List Int}, sx_cpick RT CT lim mi E C avs js = some ct → (∃ j, j < lim ∧ sx_at2 CT j = some ct) ∧ ct.1 = mi ∧ sx_cargs RT E C avs ct.2.1 = true
  | [], h => by simp [sx_cpick] at h
  | j :: js, h => by
    simp only [sx_cpick] at h
    split at h
    · rename_i hlt
      split at h
      · rename_i c hc
        split at h
        · rename_i hk
          cases h
          simp only [Bool.and_eq_true] at hk
          exact ⟨⟨_, Nat.blt_eq.mp hlt, hc⟩, Nat.eq_of_beq_eq_true hk.1, hk.2⟩
        · exact sx_cpick_ok h
      · exact sx_cpick_ok h
    · exact sx_cpick_ok h
noncomputable def sx_ctm (RT : Nat → Option sx_Rg) (MT : List (List sx_Me)) (CDs : List sx_Da) (CT : List (List sx_Ct)) (nR lim : Nat) : sx_Mac := fun h M bud pc st => match sx_row M.2.1 pc, CDs[M.2.2.1.1]? with
  | some (_, i, len), some d => match sx_isinv i with
    | some (kind, idx) => match sx_fnd (fun q => sx_ab (Nat.beq q.1 idx) (Nat.beq q.2.1 kind)) d.2.2.1 with
      | some q => match sx_at2 MT q.2.2.1 with
        | some M' => match st with
          | (((E, C, N, U), FA), (L, S), nc, ns) =>
            match sx_cpick RT CT lim q.2.2.1 E C (S.take (q.2.2.2 + (if q.2.1 = 1 then 0 else 1))).reverse h.2.2 with
            | some ct => if len = 3 ∧ (S.take (q.2.2.2 + (if q.2.1 = 1 then 0 else 1))).length = q.2.2.2 + (if q.2.1 = 1 then 0 else 1) ∧ sx_cs8 (S.take (q.2.2.2 + (if q.2.1 = 1 then 0 else 1))).reverse ≤ M'.1.2.2.1 ∧ sx_cs8 (S.drop (q.2.2.2 + (if q.2.1 = 1 then 0 else 1))) ≤ 8 ∧ ct.2.2.2.1 + 1 ≤ bud.1 ∧ 19 + M'.1.2.2.1 + ct.2.2.2.2 ≤ bud.2.1 ∧ q.2.1 ≠ 2 ∧ sx_rcv RT E q.2.1 M'.2.2.1.2.2.2.2 (S.take (q.2.2.2 + (if q.2.1 = 1 then 0 else 1))).reverse = true ∧ M'.2.2.1.2.2.1 = 0 ∧ M'.2.2.1.2.2.2.1 = 0 ∧ nc ≤ bud.2.2.1 ∧ ns ≤ bud.2.2.2 ∧ FA.2.2 = nR then
                (match ct.2.2.1 with
                | none => some [(pc + 3, (((E, C, N, U), ([], [], nR)), (L, S.drop (q.2.2.2 + (if q.2.1 = 1 then 0 else 1))), nc, ns))]
                | some t => if t.1 ≤ 2 then some [(pc + 3, (((E ++ [t], C, N, U), ([], [], nR)), (L, sx_nav t E.length :: S.drop (q.2.2.2 + (if q.2.1 = 1 then 0 else 1))), nc, ns))] else none) else none
            | none => none
        | none => none
      | none => none
    | none => none
  | _, _ => none
end SXC
