/-! calls walked by hand: the callee by a walk of its own, the heap behind it by what it hands over -/
def pv_CG (D : va_G) (cl : List vw_C) (RT : Nat → Option sx_Rg) (AO : sx_Ao) (TB : List Cond) (b0 : Nat) (l : Launch) (M : sx_Me) (bud : sx_Bu) (Sg : Nat → Option Nat) (H : Heap) (vs : List Value) (post : Option Value → Heap → Prop) : Prop :=
  ∀ (p : Program) (e : Env) (R : Room) (s : State) (m : MethodId) (args : Array Value) (below : List Frame) (meth : Method) (c : Code) (Q : State → Prop) (ls : Array Slot), sx_Frm D cl AO TB b0 M bud p R s m args meth c → s.heap = H → sx_H D cl RT b0 Sg s H → lv_has ls M.1.2.2.1 (lv_args 0 vs) →
    (∀ (vo : Option Value) (H2 : Heap) (locs2 : List Loc) (i : Instr) (pc2 : Nat) (ls2 : Array Slot), sx_H D cl RT b0 Sg s H2 → va_S (fun q => b0 ≤ q) s.heap H2 locs2 → post vo H2 → sx_rv M.1.2.2.2 i vo → decode M.1.2.1 pc2 = .ok (i, 1) → W p l e R s m args below meth c H2 locs2 0 0 Q (F0 m pc2 ls2 vo.toList)) →
    W p l e R s m args below meth c H [] 0 0 Q (F0 m 0 ls [])
section PVC
variable {D : va_G} {cl : List vw_C} {RT : Nat → Option sx_Rg} {AO : sx_Ao} {TB : List Cond} {CDs : List sx_Da} {b0 : Nat} {l : Launch} {Sg : Nat → Option Nat}
theorem pv_call {M0 M : sx_Me} {bud : sx_Bu} {pc : Nat} {nc ns : Nat} {q : sx_Ml} {p : Program} {e : Env} {R : Room} {s : State} {m : MethodId} {args : Array Value} {below : List Frame} {meth : Method} {c : Code} {Q : State → Prop} {H : Heap} {locs : List Loc} {ls : Array Slot} {vs rest : List Value} {post : Option Value → Heap → Prop}
    (hg : ∀ w ∈ TB, sx_gw w = true) (hM : sx_meok cl CDs M) (mo3 : Cond.code M.1.1 M.1.2.1 M.1.2.2.1 M.1.2.2.2 ∈ TB) (hF : sx_Frm D cl AO TB b0 M0 bud p R s m args meth c) (hml : sx_mlk M0.1.1.cls args s M.1.1 q) (hd : decode M0.1.2.1 pc = .ok (sx_inv q.2.1 q.1, 3))
    (hvl : vs.length = q.2.2.2 + (if q.2.1 = 1 then 0 else 1)) (hsl : (lg_sl vs).length ≤ M.1.2.2.1) (hrest : (rest.map fun v => v.category).sum ≤ 8) (hb1 : 1 ≤ bud.1) (hb2 : 19 + M.1.2.2.1 ≤ bud.2.1) (h8 : q.2.1 = 2 → M.1.2.2.2 = none) (hnc : nc + M.2.2.1.2.2.1 ≤ bud.2.2.1) (hns : ns + M.2.2.1.2.2.2.1 ≤ bud.2.2.2)
    (hrecv : q.2.1 ≠ 1 → ∃ b As, vs = .ref b :: As ∧ ∃ cellB : Cell, H[b]? = some cellB ∧ cellB.vm.isStatics = false ∧ s.vm.findClass M.1.1.cls = some cellB.cls)
    (hH : sx_H D cl RT b0 Sg s H) (hV : va_S (fun q => b0 ≤ q) s.heap H locs) (hls : ls.size = M0.1.2.2.1)
    (hC : pv_CG D cl RT AO TB b0 l M (bud.1 - 1, bud.2.1 - (19 + M.1.2.2.1), M.2.2.1.2.2.1, M.2.2.1.2.2.2.1) Sg H vs post)
    (kk : ∀ (vo : Option Value) (H2 : Heap) (locs2 : List Loc), sx_H D cl RT b0 Sg s H2 → va_S (fun q => b0 ≤ q) s.heap H2 locs2 → post vo H2 → W p l e R s m args below meth c H2 locs2 (nc + M.2.2.1.2.2.1) (ns + M.2.2.1.2.2.2.1) Q (F0 m (pc + 3) ls (vo.toList ++ rest))) :
    W p l e R s m args below meth c H locs nc ns Q (F0 m pc ls (vs.reverse ++ rest)) := by
  obtain ⟨hCx, hKs, hb0, r1, r2, r3, r4, hini, hret, hlocks, hZS⟩ := hF
  have hts := hCx.2.2.2.2
  obtain ⟨mo1, mo2, mo4, mo5, mo6⟩ := hM
  have hbH : b0 ≤ H.size := Nat.le_trans hb0 hV.1
  let rm : Room := { frames := bud.1 - 1, cells := M.2.2.1.2.2.1, slots := M.2.2.1.2.2.2.1, locals := bud.2.1 - (19 + M.1.2.2.1) }
  let Pc : Array Value → State → Prop := fun a U => a = vs.toArray ∧ U.heap = H ∧ sx_Ks D cl AO TB U ∧ sx_H D cl RT b0 Sg U H ∧ sx_ZS AO.2 b0 U
  let Qc : Array Value → State → Outcome → State → Prop := fun _ st o t => ∃ vo, o = .returned vo ∧ (s.vm.Alike t.vm → va_F (fun q => b0 ≤ q) st t ∧ ∀ locs', va_S (fun q => b0 ≤ q) s.heap t.heap locs' → W p l e R s m args below meth c t.heap locs' (nc + M.2.2.1.2.2.1) (ns + M.2.2.1.2.2.2.1) Q (F0 m (pc + 3) ls (vo.toList ++ rest)))
  have hMet : Met l M.1.1 [Cond.code M.1.1 M.1.2.1 M.1.2.2.1 M.1.2.2.2] rm Pc Qc M.2.2.1.2.2.1 M.2.2.1.2.2.2.1 (fun q => b0 ≤ q) := by
    refine va_MetF (cc := M.1.2.1) (maxL := M.1.2.2.1) (ret := M.1.2.2.2) mo2 rfl ?_
    intro p' e' s' m' args' below' meth' c' s₁ B hml' hv
    obtain ⟨rfl, hh, hKs', hH', hZS'⟩ := hv
    have hown' : s'.vm.findClass M.1.1.cls = some m'.cls := findClass_of_methodNamed B.named
    have hnm : meth'.name = M.1.1.name := (name_of_methodNamed B.named B.method).1
    have hFrm : sx_Frm D cl AO TB b0 M (bud.1 - 1, bud.2.1 - (19 + M.1.2.2.1), M.2.2.1.2.2.1, M.2.2.1.2.2.2.1) p' rm s' m' vs.toArray meth' c' :=
      ⟨⟨B.exec, B.bytes, hml', hown', fun w hw => hKs'.2.2 w hw _⟩, hKs', by rw [hh]; exact hbH, rfl, rfl, rfl, rfl, fun hi => by rw [hnm]; exact mo4 hi, B.returns, B.notSynchronized, hZS'⟩
    have hl := lv_entry vs (n := M.1.2.2.1) hsl
    show W p' l e' rm s' m' vs.toArray below' meth' c' s'.heap [] 0 0 _ (entryFrame m' vs.toArray M.1.2.2.1)
    rw [lg_entry_eq, hh]
    refine hC p' e' rm s' m' vs.toArray below' meth' c' _ _ hFrm hh hH' hl (fun vo H2 locs2 i pc2 ls2 hH2 hV2 hpost hrv hd2 => ?_)
    refine sx_ret B.exec B.bytes B.returns B.notSynchronized hrv (Nat.zero_le _) (Nat.zero_le _) (fun t ht hWt => ?_) hV2.2.2 hd2
    refine ⟨vo, rfl, fun hal => ⟨hV2.F ht, fun locs' hV' => ?_⟩⟩
    rw [ht] at hV' ⊢
    exact kk vo H2 locs' (sx_H_moved hal.symm (sx_H_moved hWt.alike hH2)) hV' hpost
  have hrun := sx_run (p := p) (l := l) (e := e) (R := R) (s := s) (m := m) (args := args) (below := below) (meth := meth) (c := c) (H := H) (locs := locs) (nc := nc) (ns := ns) (pc := pc) (ls := ls) (q := q) (vs := vs) (rest := rest) hCx hml hMet rfl rfl (by show bud.1 - 1 + 1 ≤ R.frames; rw [r1]; omega) (by show 8 + (M.1.2.2.1 + 11) + (bud.2.1 - (19 + M.1.2.2.1)) ≤ R.locals; rw [r2]; omega) (hts _ mo3) h8
    (fun a U g mk hq => by obtain ⟨q0, q1, q2, q3, q4⟩ := hq; exact ⟨q0, q1, sx_Ks_calling hg q2, sx_H_calling q3, sx_ZS_move (U := U.calling g mk a) (Vm.Alike.refl U.vm) (fun _ _ _ => rfl) q4⟩)
    (fun U hU hWU => ⟨rfl, hU, sx_Ks_move hg hWU hKs, sx_H_moved hWU.alike hH, sx_ZS_move hWU.alike (fun q h1 h2 => by rw [hU]; exact hV.2.1 q h1 h2) hZS⟩) hls hvl hrecv hrest (by rw [r3, r4]; exact ⟨hnc, hns⟩) hd
  refine sx_goes hrun hV fun st₀ t vo h0 hQ hal => ?_
  obtain ⟨vo', hvo', hrest'⟩ := hQ
  cases hvo'
  exact hrest' hal
end PVC
