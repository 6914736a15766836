/-! calls by hand, over this claim's tables -/
theorem zRT6 {L r : Nat} (h : r ≠ 0) : sxRT L r = sxRT 6 r := by
  cases r with
  | zero => exact absurd rfl h
  | succ r => rfl
section ZC
variable {L : Nat} {D : va_G} {b0 : Nat} {l : Launch} {Sg : Nat → Option Nat} {M0 M : sx_Me} {bud : sx_Bu} {pc : Nat} {nc ns : Nat} {p : Program} {e : Env} {R : Room} {s : State} {m : MethodId} {args : Array Value} {below : List Frame} {meth : Method} {c : Code} {Q : State → Prop} {H : Heap} {locs : List Loc} {ls : Array Slot} {vs rest : List Value} {post : Option Value → Heap → Prop}
theorem zcall (d : sx_Da) (q : sx_Ml) (hd0 : d ∈ zCDs) (hdn : d.1 = M0.1.1.cls) (hq : q ∈ d.2.2.1) (hMM : sx_at2 zMT q.2.2.1 = some M) (hM0 : M0 ∈ zMT.flatten) (hrow : sx_row M0.2.1 pc = some (pc, sx_inv q.2.1 q.1, 3)) (hF : sx_Frm D zCl zAO zTB b0 M0 bud p R s m args meth c)
    (hvl : vs.length = q.2.2.2 + (if q.2.1 = 1 then 0 else 1)) (hsl : (lg_sl vs).length ≤ M.1.2.2.1) (hrest : (rest.map fun v => v.category).sum ≤ 8) (hb1 : 1 ≤ bud.1) (hb2 : 19 + M.1.2.2.1 ≤ bud.2.1) (h8 : q.2.1 = 2 → M.1.2.2.2 = none) (hnc : nc + M.2.2.1.2.2.1 ≤ bud.2.2.1) (hns : ns + M.2.2.1.2.2.2.1 ≤ bud.2.2.2)
    (hrecv : q.2.1 ≠ 1 → ∃ b As, vs = .ref b :: As ∧ ∃ cellB : Cell, H[b]? = some cellB ∧ cellB.vm.isStatics = false ∧ s.vm.findClass M.1.1.cls = some cellB.cls)
    (hH : sx_H D zCl (sxRT L) b0 Sg s H) (hV : va_S (fun q => b0 ≤ q) s.heap H locs) (hls : ls.size = M0.1.2.2.1)
    (hC : pv_CG D zCl (sxRT L) zAO zTB b0 l M (bud.1 - 1, bud.2.1 - (19 + M.1.2.2.1), M.2.2.1.2.2.1, M.2.2.1.2.2.2.1) Sg H vs post)
    (kk : ∀ (vo : Option Value) (H2 : Heap) (locs2 : List Loc), sx_H D zCl (sxRT L) b0 Sg s H2 → va_S (fun q => b0 ≤ q) s.heap H2 locs2 → post vo H2 → W p l e R s m args below meth c H2 locs2 (nc + M.2.2.1.2.2.1) (ns + M.2.2.1.2.2.2.1) Q (F0 m (pc + 3) ls (vo.toList ++ rest))) :
    W p l e R s m args below meth c H locs nc ns Q (F0 m pc ls (vs.reverse ++ rest)) := by
  obtain ⟨hml, hcd⟩ := (zHda d hd0 args s hF.1.2.2.2.2 hF.2.1.2.1).2.1 q hq M hMM
  rw [hdn] at hml
  exact pv_call (zprog L).1 (zHme M (sx_at2_mem hMM)) hcd hF hml (pv_row (zHme M0 hM0).1 hrow) hvl hsl hrest hb1 hb2 h8 hnc hns hrecv hH hV hls hC kk
theorem zcall0 (d : sx_Da) (q : sx_Ml) (hd0 : d ∈ zCDs) (hdn : d.1 = M0.1.1.cls) (hq : q ∈ d.2.2.1) (hMM : sx_at2 zMT q.2.2.1 = some M) (hM0 : M0 ∈ zMT.flatten) (hrow : sx_row M0.2.1 pc = some (pc, sx_inv q.2.1 q.1, 3)) (hF : sx_Frm D zCl zAO zTB b0 M0 bud p R s m args meth c)
    (hvl : vs.length = q.2.2.2 + (if q.2.1 = 1 then 0 else 1)) (hsl : (lg_sl vs).length ≤ M.1.2.2.1) (hrest : (rest.map fun v => v.category).sum ≤ 8) (hb1 : 1 ≤ bud.1) (hb2 : 19 + M.1.2.2.1 ≤ bud.2.1) (h8 : q.2.1 = 2 → M.1.2.2.2 = none) (hm0 : M.2.2.1.2.2.1 = 0) (hs0 : M.2.2.1.2.2.2.1 = 0) (hnc : nc ≤ bud.2.2.1) (hns : ns ≤ bud.2.2.2)
    (hrecv : q.2.1 ≠ 1 → ∃ b As, vs = .ref b :: As ∧ ∃ cellB : Cell, H[b]? = some cellB ∧ cellB.vm.isStatics = false ∧ s.vm.findClass M.1.1.cls = some cellB.cls)
    (hH : sx_H D zCl (sxRT L) b0 Sg s H) (hV : va_S (fun q => b0 ≤ q) s.heap H locs) (hls : ls.size = M0.1.2.2.1)
    (hC : pv_CG D zCl (sxRT L) zAO zTB b0 l M (bud.1 - 1, bud.2.1 - (19 + M.1.2.2.1), 0, 0) Sg H vs post)
    (kk : ∀ (vo : Option Value) (H2 : Heap) (locs2 : List Loc), sx_H D zCl (sxRT L) b0 Sg s H2 → va_S (fun q => b0 ≤ q) s.heap H2 locs2 → post vo H2 → W p l e R s m args below meth c H2 locs2 nc ns Q (F0 m (pc + 3) ls (vo.toList ++ rest))) :
    W p l e R s m args below meth c H locs nc ns Q (F0 m pc ls (vs.reverse ++ rest)) :=
  zcall d q hd0 hdn hq hMM hM0 hrow hF hvl hsl hrest hb1 hb2 h8 (by rw [hm0]; exact hnc) (by rw [hs0]; exact hns) hrecv hH hV hls (by rw [hm0, hs0]; exact hC) (fun vo H2 locs2 h1 h2 h3 => by rw [hm0, hs0]; exact kk vo H2 locs2 h1 h2 h3)
theorem zrecv {th r k : Nat} {g : sx_Rg} {cq : vw_C} {As : List Value} (hKs : sx_Ks D zCl zAO zTB s) (hH : sx_H D zCl (sxRT L) b0 Sg s H) (h1 : Sg th = some r) (h2 : sxRT L r = some g) (h0 : g.1 = 0) (hc : zCl[g.2.1]? = some cq) (hn : cq.1 = M.1.1.cls) :
    k ≠ 1 → ∃ b As', Value.ref th :: As = .ref b :: As' ∧ ∃ cellB : Cell, H[b]? = some cellB ∧ cellB.vm.isStatics = false ∧ s.vm.findClass M.1.1.cls = some cellB.cls := fun _ => by
  obtain ⟨g', k1, ⟨cell, k2, k3, -⟩, -⟩ := hH th r h1
  rw [h2] at k1
  cases k1
  rcases k3 with ⟨-, x1, x2⟩ | ⟨x1, -⟩
  · refine ⟨th, As, rfl, cell, k2, by rw [x2]; rfl, ?_⟩
    rw [← hn, x1]
    exact (hKs.1.1 g.2.1 cq hc).2.1
  · exact absurd h0 x1
end ZC
