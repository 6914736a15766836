/-! the JDK's methods over constant texts, walked: they touch no heap -/
def jd_rv (ret : Option FieldType) (i : Instr) (vo : Option Value) : Prop := sx_rv ret i vo ∨ ∃ (ty : FieldType) (v : Int32), i = .ireturn ∧ ret = some ty ∧ narrow ty (.int v) = .int v ∧ vo = some (.int v)
/-- what a callee is asked for -/
def jd_C (D : va_G) (AO : sx_Ao) (b0 : sx_B) (l : Launch) (M : sx_Me) (bf bl : Nat) (X : State → Prop) (H : Heap) (vs : List Value) (post : Option Value → Prop) : Prop :=
  ∀ (p : Program) (e : Env) (R : Room) (s : State) (m : MethodId) (args : Array Value) (below : List Frame) (meth : Method) (c : Code) (Q : State → Prop) (ls : Array Slot), sx_Frm D zCl AO zTB b0 M (bf, bl, 0, 0) p R s m args meth c → s.heap = H → X s → lv_has ls M.1.2.2.1 (lv_args 0 vs) →
    (∀ (vo : Option Value) (i : Instr) (pc2 : Nat) (ls2 : Array Slot) (locs2 : List Loc), va_S b0.1 s.heap H locs2 → post vo → jd_rv M.1.2.2.2 i vo → decode M.1.2.1 pc2 = .ok (i, 1) → W p l e R s m args below meth c H locs2 0 0 Q (F0 m pc2 ls2 vo.toList)) →
    W p l e R s m args below meth c H [] 0 0 Q (F0 m 0 ls [])
section JD
variable {p : Program} {l : Launch} {e : Env} {R : Room} {s : State} {m : MethodId} {args : Array Value} {below : List Frame} {meth : Method} {c : Code} {H : Heap} {locs : List Loc} {nc ns pc : Nat} {cc : ByteArray} {ls : Array Slot}
theorem jd_ret {ret : Option FieldType} {i : Instr} {vo : Option Value} {Qc : Array Value → State → Outcome → State → Prop} {free : Addr → Prop} {mc ms : Nat} (hx : p.tables.exec = Jvm.exec) (hb : c.code = cc) (hr : meth.sig.returnType = ret) (hlocks : meth.locks = false) (hv : jd_rv ret i vo) (hc : nc ≤ mc) (hs : ns ≤ ms)
    (hq : ∀ t : State, t.heap = H → s.WarmedH t.vm → Qc args s (.returned vo) t) (hf : ∀ q ∈ locs, free q.base) (hd : decode cc pc = .ok (i, 1)) : W p l e R s m args below meth c H locs nc ns (MQ below Qc args s mc ms free) (F0 m pc ls vo.toList) := by
  rcases hv with hv | ⟨ty, v, rfl, rfl, hn, rfl⟩
  · exact sx_ret hx hb hr hlocks hv hc hs hq hf hd
  · refine W.widen hc hs ?_
    exact W.zret hx hb hr hn hq hf hd
variable {D : va_G} {AO : sx_Ao} {b0 : sx_B} {M0 M : sx_Me} {bud : sx_Bu} {Q : State → Prop}
/-- a call of one -/
theorem jd_call {bf bl : Nat} {X : State → Prop} {q : sx_Ml} {vs rest : List Value} {post : Option Value → Prop} (hM : sx_meok zCl zCDs M) (mo3 : Cond.code M.1.1 M.1.2.1 M.1.2.2.1 M.1.2.2.2 ∈ zTB) (hF : sx_Frm D zCl AO zTB b0 M0 bud p R s m args meth c) (hml : sx_mlk M0.1.1.cls args s M.1.1 q) (hd : decode M0.1.2.1 pc = .ok (sx_inv q.2.1 q.1, 3))
    (hvl : vs.length = q.2.2.2 + (if q.2.1 = 1 then 0 else 1)) (hsl : (lg_sl vs).length ≤ M.1.2.2.1) (hrest : (rest.map fun v => v.category).sum ≤ 8) (hb1 : bf + 1 ≤ bud.1) (hb2 : 19 + M.1.2.2.1 + bl ≤ bud.2.1) (h8 : q.2.1 = 2 → M.1.2.2.2 = none) (hnc : nc ≤ bud.2.2.1) (hns : ns ≤ bud.2.2.2)
    (hrecv : q.2.1 ≠ 1 → ∃ b As, vs = .ref b :: As ∧ ∃ cellB : Cell, H[b]? = some cellB ∧ cellB.vm.isStatics = false ∧ s.vm.findClass M.1.1.cls = some cellB.cls)
    (hX0 : ∀ U : State, U.heap = H → s.WarmedH U.vm → X U) (hXc : ∀ (U : State) g mk a, X U → X (U.calling g mk a))
    (hV : va_S b0.1 s.heap H locs) (hls : ls.size = M0.1.2.2.1) (hC : jd_C D AO b0 l M bf bl X H vs post)
    (kk : ∀ (vo : Option Value) (locs2 : List Loc), va_S b0.1 s.heap H locs2 → post vo → W p l e R s m args below meth c H locs2 nc ns Q (F0 m (pc + 3) ls (vo.toList ++ rest))) :
    W p l e R s m args below meth c H locs nc ns Q (F0 m pc ls (vs.reverse ++ rest)) := by
  have hg : ∀ w ∈ zTB, sx_gw w = true := fun w hw => (List.mem_filter.mp hw).2
  obtain ⟨hCx, hKs, hb0, r1, r2, r3, r4, hini, hret, hlocks, hZS⟩ := hF
  have hts := hCx.2.2.2.2
  obtain ⟨mo1, mo2, mo4, mo5, mo6⟩ := hM
  let rm : Room := { frames := bf, cells := 0, slots := 0, locals := bl }
  let Pc : Array Value → State → Prop := fun a U => a = vs.toArray ∧ U.heap = H ∧ sx_Ks D zCl AO zTB U ∧ X U ∧ sx_ZS AO.2 b0 U
  let Qc : Array Value → State → Outcome → State → Prop := fun _ st o t => ∃ vo, o = .returned vo ∧ (s.vm.Alike t.vm → va_F b0.1 st t ∧ ∀ locs', va_S b0.1 s.heap t.heap locs' → W p l e R s m args below meth c t.heap locs' (nc + 0) (ns + 0) Q (F0 m (pc + 3) ls (vo.toList ++ rest)))
  have hMet : Met l M.1.1 [Cond.code M.1.1 M.1.2.1 M.1.2.2.1 M.1.2.2.2] rm Pc Qc 0 0 b0.1 := by
    refine va_MetF (cc := M.1.2.1) (maxL := M.1.2.2.1) (ret := M.1.2.2.2) mo2 rfl ?_
    intro p' e' s' m' args' below' meth' c' s₁ B hml' hv
    obtain ⟨rfl, hh, hKs', hX', hZS'⟩ := hv
    have hown' : s'.vm.findClass M.1.1.cls = some m'.cls := findClass_of_methodNamed B.named
    have hnm : meth'.name = M.1.1.name := (name_of_methodNamed B.named B.method).1
    have hFrm : sx_Frm D zCl AO zTB b0 M (bf, bl, 0, 0) p' rm s' m' vs.toArray meth' c' :=
      ⟨⟨B.exec, B.bytes, hml', hown', fun w hw => hKs'.2.2 w hw _⟩, hKs', fun a ha => hb0 a (Nat.le_trans hV.1 (by rw [← hh]; exact ha)), rfl, rfl, rfl, rfl, fun hi => by rw [hnm]; exact mo4 hi, B.returns, B.notSynchronized, hZS'⟩
    have hl := lv_entry vs (n := M.1.2.2.1) hsl
    show W p' l e' rm s' m' vs.toArray below' meth' c' s'.heap [] 0 0 _ (entryFrame m' vs.toArray M.1.2.2.1)
    rw [lg_entry_eq, hh]
    refine hC p' e' rm s' m' vs.toArray below' meth' c' _ _ hFrm hh hX' hl (fun vo i pc2 ls2 locs2 hV2 hpost hrv hd2 => ?_)
    refine jd_ret B.exec B.bytes B.returns B.notSynchronized hrv (Nat.zero_le _) (Nat.zero_le _) (fun t ht hWt => ?_) (fun x hx => hV2.2.2 x hx) hd2
    refine ⟨vo, rfl, fun hal => ⟨hV2.F ht, fun locs' hV' => ?_⟩⟩
    rw [ht] at hV' ⊢
    exact kk vo locs' hV' hpost
  have hrun := sx_run (p := p) (l := l) (e := e) (R := R) (s := s) (m := m) (args := args) (below := below) (meth := meth) (c := c) (H := H) (locs := locs) (nc := nc) (ns := ns) (pc := pc) (ls := ls) (q := q) (vs := vs) (rest := rest) hCx hml hMet rfl rfl (by show bf + 1 ≤ R.frames; rw [r1]; exact hb1) (by show 8 + (M.1.2.2.1 + 11) + bl ≤ R.locals; rw [r2]; omega) (hts _ mo3) h8
    (fun a U g mk hq => by obtain ⟨q0, q1, q2, q3, q4⟩ := hq; exact ⟨q0, q1, sx_Ks_calling hg q2, hXc U g mk a q3, sx_ZS_move (U := U.calling g mk a) (State.WarmedH.refl U) (fun _ _ _ => rfl) q4⟩)
    (fun U hU hWU => ⟨rfl, hU, sx_Ks_move hg hWU hKs, hX0 U hU hWU, sx_ZS_move hWU (fun q h1 h2 => by rw [hU]; exact hV.2.1 q h1 h2) hZS⟩) hls hvl hrecv hrest (by rw [r3, r4]; exact ⟨hnc, hns⟩) hd
  refine sx_goes hrun hV fun st₀ t vo h0 hQ hal => ?_
  obtain ⟨vo', hvo', hrest'⟩ := hQ
  cases hvo'
  exact hrest' hal
end JD
