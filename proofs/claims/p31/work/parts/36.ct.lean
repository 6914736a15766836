/-! sx, calls by contract. A world: of each region below nR one cell, which stays; a contract tells which regions may be written (a number's bits); of all others the caller goes on to know what it knew -/
/-- a method, its arguments' types, its answer's type, the room that it takes (frames, locals), the regions that it may write -/
abbrev sx_Ct : Type := Nat × List sx_Ty × Option sx_Ty × Nat × Nat × Nat
def sx_cvs (Sg : Nat → Option Nat) : List Value → List sx_Ty → Prop
  | [], [] => True
  | v :: vs, t :: ts => sx_ok Sg v t ∧ sx_cvs Sg vs ts
  | _, _ => False
def sx_cres (Sg : Nat → Option Nat) (res : Option sx_Ty) (vo : Option Value) : Prop := match res with
  | none => vo = none
  | some t => ∃ v, vo = some v ∧ sx_ok Sg v t
def sx_bit (W r : Nat) : Bool := Nat.beq (Nat.land (Nat.shiftRight W r) 1) 1
def sx_subm (W V : Nat) : Bool := Nat.beq (Nat.land W V) W
theorem sx_bit_eq (W r : Nat) : sx_bit W r = W.testBit r := by
  unfold sx_bit Nat.testBit
  have e1 : Nat.land (Nat.shiftRight W r) 1 = (W >>> r) % 2 := Nat.and_one_is_mod _
  have e2 : (1 &&& W >>> r) = (W >>> r) % 2 := by rw [Nat.and_comm]; exact Nat.and_one_is_mod _
  rw [e1, e2]
  rcases Nat.mod_two_eq_zero_or_one (W >>> r) with h | h <;> rw [h] <;> rfl
theorem sx_subm_ok {W V : Nat} (h : sx_subm W V = true) {r : Nat} (hr : sx_bit W r = true) : sx_bit V r = true := by
  have h1 : W &&& V = W := Nat.eq_of_beq_eq_true h
  rw [sx_bit_eq] at hr ⊢
  rw [← h1, Nat.testBit_and, Bool.and_eq_true] at hr
  exact hr.2
/-- a region that may not be written -/
def sx_fz1 (W r : Nat) (g : sx_Rg) : sx_Rg := if (Nat.ble 3 g.1 || sx_bit W r) = true then g else (g.1, g.2.1, 1, g.2.2.2)
def sx_fz (W : Nat) (RT : Nat → Option sx_Rg) (r : Nat) : Option sx_Rg := match RT r with
  | some g => some (sx_fz1 W r g)
  | none => none
theorem sx_fz_ok {W : Nat} {RT : Nat → Option sx_Rg} {r : Nat} {g' : sx_Rg} (h : sx_fz W RT r = some g') : ∃ g, RT r = some g ∧ g' = sx_fz1 W r g := by
  unfold sx_fz at h
  cases hr : RT r with
  | none => rw [hr] at h; cases h
  | some g => rw [hr] at h; exact ⟨g, rfl, (Option.some.inj h).symm⟩
theorem sx_fz_some {W : Nat} {RT : Nat → Option sx_Rg} {r : Nat} {g : sx_Rg} (h : RT r = some g) : sx_fz W RT r = some (sx_fz1 W r g) := by
  unfold sx_fz; rw [h]
theorem sx_fz1_eq (W r : Nat) (g : sx_Rg) : (sx_fz1 W r g).1 = g.1 ∧ (sx_fz1 W r g).2.1 = g.2.1 ∧ (sx_fz1 W r g).2.2.2 = g.2.2.2 ∧ (3 ≤ g.1 → sx_fz1 W r g = g) := by
  unfold sx_fz1
  split
  · exact ⟨rfl, rfl, rfl, fun _ => rfl⟩
  · rename_i h
    refine ⟨rfl, rfl, rfl, fun h3 => ?_⟩
    exact absurd (by rw [Nat.ble_eq_true_of_le h3]; rfl) h
theorem sx_fz1_mut {W V r : Nat} {g : sx_Rg} (hs : sx_subm W V = true) (h : sx_mut (sx_fz1 W r g) = true) : sx_mut (sx_fz1 V r g) = true := by
  unfold sx_fz1 at h ⊢
  split at h
  · rename_i hc
    have : (Nat.ble 3 g.1 || sx_bit V r) = true := by
      rcases Bool.or_eq_true_iff.mp hc with hc | hc
      · rw [hc]; rfl
      · rw [sx_subm_ok hs hc]; simp
    rw [if_pos this]
    exact h
  · rename_i hc
    unfold sx_mut at h
    simp only [Bool.or_eq_true, beq_iff_eq] at h
    rcases h with h | h
    · have h : g.1 = 3 := h
      exact absurd (by rw [h]; rfl) hc
    · have h : (1 : Nat) = 0 := h
      exact absurd h (by decide)
theorem sx_fz1_mut0 {W r : Nat} {g : sx_Rg} (h : sx_mut (sx_fz1 W r g) = true) : sx_mut g = true := by
  unfold sx_fz1 at h
  split at h
  · exact h
  · rename_i hc
    unfold sx_mut at h
    simp only [Bool.or_eq_true, beq_iff_eq] at h
    rcases h with h | h
    · have h : g.1 = 3 := h
      exact absurd (by rw [h]; rfl) hc
    · have h : (1 : Nat) = 0 := h
      exact absurd h (by decide)
section FZ
variable {D : va_G} {cl : List vw_C} {RT : Nat → Option sx_Rg} {Sg : Nat → Option Nat} {U : State} {H H2 : Heap}
theorem sx_fz1_wd (W r : Nat) (g : sx_Rg) : sx_wd (sx_fz1 W r g) = sx_wd g := by
  obtain ⟨h1, h2, h3, -⟩ := sx_fz1_eq W r g
  unfold sx_wd; rw [h1, h2, h3]
theorem sx_fz1_ft (W r : Nat) (g : sx_Rg) (k : Nat) : sx_ft (sx_fz1 W r g) k = sx_ft g k := by
  obtain ⟨h1, h2, h3, -⟩ := sx_fz1_eq W r g
  unfold sx_ft; rw [h1, h3]
theorem sx_fz1_sl (W r : Nat) (g : sx_Rg) (k : Nat) : sx_sl D (sx_fz1 W r g) k = sx_sl D g k := by
  obtain ⟨h1, h2, h3, -⟩ := sx_fz1_eq W r g
  unfold sx_sl; rw [h1, h2]
theorem sx_fz1_kind (W r : Nat) (g : sx_Rg) (cell : Cell) : sx_kind D cl U (sx_fz1 W r g) cell ↔ sx_kind D cl U g cell := by
  obtain ⟨h1, h2, h3, h4⟩ := sx_fz1_eq W r g
  by_cases h : 3 ≤ g.1
  · rw [h4 h]
  unfold sx_kind
  rw [h1, h2]
  by_cases h6 : g.1 = 0
  · simp [h6]
  · have ha : sx_aty cl (sx_fz1 W r g) = sx_aty cl g := by
      unfold sx_aty
      rw [h1]
      by_cases e1 : g.1 = 1
      · rw [if_pos e1, if_pos e1]
      · have e2 : g.1 = 2 := by omega
        rw [if_neg e1, if_neg e1, if_pos e2, if_pos e2]
    rw [ha]
theorem sx_fz1_cell (W r : Nat) (g : sx_Rg) (a : Nat) : sx_cell D cl Sg U H a (sx_fz1 W r g) ↔ sx_cell D cl Sg U H a g := by
  unfold sx_cell
  simp only [sx_fz1_kind, sx_fz1_wd, sx_fz1_ft, sx_fz1_sl]
/-- which cells may be written, by the regions' bits -/
def sx_bW (RT : Nat → Option sx_Rg) (W : Nat) (B0 : Nat → Prop) (Sg : Nat → Option Nat) : Nat → Prop := fun a => B0 a ∧ ∀ r g, Sg a = some r → sx_fz W RT r = some g → sx_mut g = true
theorem sx_bW_sub {W V : Nat} {B0 : Nat → Prop} (hs : sx_subm W V = true) {a : Nat} (h : sx_bW RT W B0 Sg a) : sx_bW RT V B0 Sg a := by
  refine ⟨h.1, fun r g hr hg => ?_⟩
  obtain ⟨g0, k1, rfl⟩ := sx_fz_ok hg
  exact sx_fz1_mut hs (h.2 r _ hr (sx_fz_some k1))
theorem sx_H_conv {W V X : Nat} {b0 : sx_B} {B0 : Nat → Prop} {J : (Nat → Option Nat) → Heap → Prop} {U2 : State} (hB : ∀ a r g, Sg a = some r → RT r = some g → sx_mut g = true → B0 a) (hs : sx_subm W X = true) (hal : U.vm.Alike U2.vm) (h : sx_H D cl (sx_fz V RT) b0 Sg U H) : sx_H D cl (sx_fz W RT) (sx_bW RT X B0 Sg, J) Sg U2 H := by
  have h := sx_H_moved hal h
  intro a r har
  obtain ⟨g, h1, h2, h3, h4⟩ := h a r har
  obtain ⟨g0, k1, rfl⟩ := sx_fz_ok h1
  refine ⟨sx_fz1 W r g0, sx_fz_some k1, (sx_fz1_cell W r g0 a).mpr ((sx_fz1_cell V r g0 a).mp h2), fun hm => ?_, h4⟩
  refine ⟨hB a r g0 har k1 (sx_fz1_mut0 hm), fun r' g' hr' hg' => ?_⟩
  rw [har] at hr'
  cases hr'
  rw [sx_fz_some k1] at hg'
  cases hg'
  exact sx_fz1_mut hs hm
end FZ
/-- a world's regions -/
def sx_Wd (nR : Nat) (RT : Nat → Option sx_Rg) (B0 : Nat → Prop) (Sg : Nat → Option Nat) : Prop := (∀ a r, Sg a = some r → r < nR) ∧ (∀ r, r < nR → ∃ a, Sg a = some r) ∧ ∀ a r g, Sg a = some r → RT r = some g → sx_mut g = true → B0 a
theorem sx_wd_eq {D : va_G} {cl : List vw_C} {RT : Nat → Option sx_Rg} {b0 : sx_B} {U : State} {H : Heap} {nR : Nat} {Sg Sg2 : Nat → Option Nat} (hw : ∀ r, r < nR → ∃ a, Sg a = some r) (hle : sx_le Sg Sg2) (hn : ∀ a r, Sg2 a = some r → r < nR) (hH : sx_H D cl RT b0 Sg2 U H) : Sg2 = Sg := by
  funext a
  cases h : Sg2 a with
  | none =>
    cases h2 : Sg a with
    | none => rfl
    | some r => rw [hle a r h2] at h; cases h
  | some r =>
    obtain ⟨b, hb⟩ := hw r (hn a r h)
    have e := sx_uniq hH h (hle b r hb)
    subst e
    exact hb.symm
/-- what a callee in a world is asked for -/
def pv_CG3 (D : va_G) (cl : List vw_C) (RT : Nat → Option sx_Rg) (AO : sx_Ao) (TB : List Cond) (b0 : sx_B) (l : Launch) (M : sx_Me) (bud : sx_Bu) (Sg : Nat → Option Nat) (H : Heap) (vs : List Value) (post : Option Value → Heap → Prop) : Prop :=
  ∀ (p : Program) (e : Env) (R : Room) (s : State) (m : MethodId) (args : Array Value) (below : List Frame) (meth : Method) (c : Code) (Q : State → Prop) (ls : Array Slot), sx_Frm D cl AO TB b0 M bud p R s m args meth c → s.heap = H → sx_H D cl RT b0 Sg s H → lv_has ls M.1.2.2.1 (lv_args 0 vs) →
    (∀ (vo : Option Value) (H2 : Heap) (locs2 : List Loc) (i : Instr) (pc2 : Nat) (ls2 : Array Slot), sx_H D cl RT b0 Sg s H2 → va_S b0.1 s.heap H2 locs2 → post vo H2 → sx_rv M.1.2.2.2 i vo → decode M.1.2.1 pc2 = .ok (i, 1) → W p l e R s m args below meth c H2 locs2 0 0 Q (F0 m pc2 ls2 vo.toList)) →
    W p l e R s m args below meth c H [] 0 0 Q (F0 m 0 ls [])
theorem sx_ZS_sub {ST : List (String × String × String × Nat)} {b b' : sx_B} {U : State} (hs : ∀ a, b'.1 a → b.1 a) (h : sx_ZS ST b U) : sx_ZS ST b' U := fun z hz => by
  have h1 := h z hz
  unfold sx_ZS1 at h1 ⊢
  split at h1
  · obtain ⟨cf, kf, fi, f, a', cell, h1, h2, h3, h4, h5, h6, h7, h8⟩ := h1
    exact ⟨cf, kf, fi, f, a', cell, h1, h2, h3, h4, h5, h6, h7, fun hb => h8 (hs _ hb)⟩
  · obtain ⟨cf, kf, fi, f, a', cell, h1, h2, h3, h4, h5, h6, h7, h8⟩ := h1
    exact ⟨cf, kf, fi, f, a', cell, h1, h2, h3, h4, h5, h6, h7, fun hb => h8 (hs _ hb)⟩
  · exact h1.narrow hs
  · obtain ⟨k0, k1, k2, V, k3, k4⟩ := h1
    exact ⟨k0, k1.narrow hs, k2.narrow hs, V, k3.narrow hs, k4.narrow hs⟩
section PVC
variable {D : va_G} {cl : List vw_C} {RT RTc : Nat → Option sx_Rg} {AO : sx_Ao} {TB : List Cond} {CDs : List sx_Da} {b0 bc0 : sx_B} {l : Launch} {Sg : Nat → Option Nat}
/-- a call, the callee in a room of its own, with fewer cells that it may write -/
theorem pv_call3 {M0 M : sx_Me} {bud bc : sx_Bu} {pc : Nat} {nc ns : Nat} {q : sx_Ml} {p : Program} {e : Env} {R : Room} {s : State} {m : MethodId} {args : Array Value} {below : List Frame} {meth : Method} {c : Code} {Q : State → Prop} {H : Heap} {locs : List Loc} {ls : Array Slot} {vs rest : List Value} {post : Option Value → Heap → Prop}
    (hg : ∀ w ∈ TB, sx_gw w = true) (hM : sx_meok cl CDs M) (mo3 : Cond.code M.1.1 M.1.2.1 M.1.2.2.1 M.1.2.2.2 ∈ TB) (hF : sx_Frm D cl AO TB b0 M0 bud p R s m args meth c) (hml : sx_mlk M0.1.1.cls args s M.1.1 q) (hd : decode M0.1.2.1 pc = .ok (sx_inv q.2.1 q.1, 3))
    (hvl : vs.length = q.2.2.2 + (if q.2.1 = 1 then 0 else 1)) (hsl : (lg_sl vs).length ≤ M.1.2.2.1) (hrest : (rest.map fun v => v.category).sum ≤ 8) (hb1 : bc.1 + 1 ≤ bud.1) (hb2 : 19 + M.1.2.2.1 + bc.2.1 ≤ bud.2.1) (hb3 : bc.2.2.1 = M.2.2.1.2.2.1) (hb4 : bc.2.2.2 = M.2.2.1.2.2.2.1) (h8 : q.2.1 = 2 → M.1.2.2.2 = none) (hnc : nc + M.2.2.1.2.2.1 ≤ bud.2.2.1) (hns : ns + M.2.2.1.2.2.2.1 ≤ bud.2.2.2)
    (hrecv : q.2.1 ≠ 1 → ∃ b As, vs = .ref b :: As ∧ ∃ cellB : Cell, H[b]? = some cellB ∧ cellB.vm.isStatics = false ∧ s.vm.findClass M.1.1.cls = some cellB.cls)
    (hsub : ∀ a, bc0.1 a → b0.1 a) (hfresh : ∀ a, H.size ≤ a → bc0.1 a) (hdown : ∀ U : State, sx_H D cl RT b0 Sg U H → sx_H D cl RTc bc0 Sg U H) (hup : ∀ (U U2 : State) (H2 : Heap), sx_H D cl RT b0 Sg U H → sx_H D cl RTc bc0 Sg U2 H2 → sx_H D cl RT b0 Sg U2 H2)
    (hH : sx_H D cl RT b0 Sg s H) (hV : va_S b0.1 s.heap H locs) (hls : ls.size = M0.1.2.2.1)
    (hC : pv_CG3 D cl RTc AO TB bc0 l M bc Sg H vs post)
    (kk : ∀ (vo : Option Value) (H2 : Heap) (locs2 : List Loc), sx_H D cl RT b0 Sg s H2 → va_S b0.1 s.heap H2 locs2 → (H.size ≤ H2.size ∧ ∀ a, a < H.size → ¬ bc0.1 a → H2[a]? = H[a]?) → post vo H2 → W p l e R s m args below meth c H2 locs2 (nc + M.2.2.1.2.2.1) (ns + M.2.2.1.2.2.2.1) Q (F0 m (pc + 3) ls (vo.toList ++ rest))) :
    W p l e R s m args below meth c H locs nc ns Q (F0 m pc ls (vs.reverse ++ rest)) := by
  obtain ⟨hCx, hKs, hb0, r1, r2, r3, r4, hini, hret, hlocks, hZS⟩ := hF
  have hts := hCx.2.2.2.2
  obtain ⟨mo1, mo2, mo4, mo5, mo6⟩ := hM
  obtain ⟨bf, bl, bcc, bs⟩ := bc
  have hb3 : bcc = M.2.2.1.2.2.1 := hb3
  have hb4 : bs = M.2.2.1.2.2.2.1 := hb4
  subst hb3; subst hb4
  have hb1 : bf + 1 ≤ bud.1 := hb1
  have hb2 : 19 + M.1.2.2.1 + bl ≤ bud.2.1 := hb2
  let rm : Room := { frames := bf, cells := M.2.2.1.2.2.1, slots := M.2.2.1.2.2.2.1, locals := bl }
  let Pc : Array Value → State → Prop := fun a U => a = vs.toArray ∧ U.heap = H ∧ sx_Ks D cl AO TB U ∧ sx_H D cl RTc bc0 Sg U H ∧ sx_ZS AO.2 bc0 U
  let Qc : Array Value → State → Outcome → State → Prop := fun _ st o t => ∃ vo, o = .returned vo ∧ (s.vm.Alike t.vm → va_F b0.1 st t ∧ ∀ locs', va_S b0.1 s.heap t.heap locs' → W p l e R s m args below meth c t.heap locs' (nc + M.2.2.1.2.2.1) (ns + M.2.2.1.2.2.2.1) Q (F0 m (pc + 3) ls (vo.toList ++ rest)))
  have hMet : Met l M.1.1 [Cond.code M.1.1 M.1.2.1 M.1.2.2.1 M.1.2.2.2] rm Pc Qc M.2.2.1.2.2.1 M.2.2.1.2.2.2.1 b0.1 := by
    refine va_MetF (cc := M.1.2.1) (maxL := M.1.2.2.1) (ret := M.1.2.2.2) mo2 rfl ?_
    intro p' e' s' m' args' below' meth' c' s₁ B hml' hv
    obtain ⟨rfl, hh, hKs', hH', hZS'⟩ := hv
    have hown' : s'.vm.findClass M.1.1.cls = some m'.cls := findClass_of_methodNamed B.named
    have hnm : meth'.name = M.1.1.name := (name_of_methodNamed B.named B.method).1
    have hFrm : sx_Frm D cl AO TB bc0 M (bf, bl, M.2.2.1.2.2.1, M.2.2.1.2.2.2.1) p' rm s' m' vs.toArray meth' c' :=
      ⟨⟨B.exec, B.bytes, hml', hown', fun w hw => hKs'.2.2 w hw _⟩, hKs', fun a ha => hfresh a (by rw [← hh]; exact ha), rfl, rfl, rfl, rfl, fun hi => by rw [hnm]; exact mo4 hi, B.returns, B.notSynchronized, hZS'⟩
    have hl := lv_entry vs (n := M.1.2.2.1) hsl
    show W p' l e' rm s' m' vs.toArray below' meth' c' s'.heap [] 0 0 _ (entryFrame m' vs.toArray M.1.2.2.1)
    rw [lg_entry_eq, hh]
    refine hC p' e' rm s' m' vs.toArray below' meth' c' _ _ hFrm hh hH' hl (fun vo H2 locs2 i pc2 ls2 hH2 hV2 hpost hrv hd2 => ?_)
    refine sx_ret B.exec B.bytes B.returns B.notSynchronized hrv (Nat.zero_le _) (Nat.zero_le _) (fun t ht hWt => ?_) (fun x hx => hsub _ (hV2.2.2 x hx)) hd2
    refine ⟨vo, rfl, fun hal => ⟨?_, fun locs' hV' => ?_⟩⟩
    · obtain ⟨f1, f2⟩ := hV2.F ht
      exact ⟨f1, fun a ha hb => f2 a ha (fun hc => hb (hsub a hc))⟩
    rw [ht] at hV' ⊢
    rw [hh] at hV2
    exact kk vo H2 locs' (hup s s H2 hH (sx_H_moved hal.symm (sx_H_moved hWt.alike hH2))) hV' ⟨hV2.1, hV2.2.1⟩ hpost
  have hrun := sx_run (p := p) (l := l) (e := e) (R := R) (s := s) (m := m) (args := args) (below := below) (meth := meth) (c := c) (H := H) (locs := locs) (nc := nc) (ns := ns) (pc := pc) (ls := ls) (q := q) (vs := vs) (rest := rest) hCx hml hMet rfl rfl (by show bf + 1 ≤ R.frames; rw [r1]; exact hb1) (by show 8 + (M.1.2.2.1 + 11) + bl ≤ R.locals; rw [r2]; omega) (hts _ mo3) h8
    (fun a U g mk hq => by obtain ⟨q0, q1, q2, q3, q4⟩ := hq; exact ⟨q0, q1, sx_Ks_calling hg q2, sx_H_calling q3, sx_ZS_move (U := U.calling g mk a) (State.WarmedH.refl U) (fun _ _ _ => rfl) q4⟩)
    (fun U hU hWU => ⟨rfl, hU, sx_Ks_move hg hWU hKs, hdown U (sx_H_moved hWU.alike hH), sx_ZS_sub hsub (sx_ZS_move hWU (fun q h1 h2 => by rw [hU]; exact hV.2.1 q h1 h2) hZS)⟩) hls hvl hrecv hrest (by rw [r3, r4]; exact ⟨hnc, hns⟩) hd
  refine sx_goes hrun hV fun st₀ t vo h0 hQ hal => ?_
  obtain ⟨vo', hvo', hrest'⟩ := hQ
  cases hvo'
  exact hrest' hal
end PVC
/-! the arguments, checked -/
def sx_carg (RT : Nat → Option sx_Rg) (E : List sx_Ty) (C : List sx_LF) (a : sx_AV) (t : sx_Ty) : Bool := if t.1 = 2 then (match sx_reg E RT a with
    | some (_, r, _) => decide ((r : Int) = t.2.1)
    | none => false) else sx_conf E C a t
def sx_cargs (RT : Nat → Option sx_Rg) (E : List sx_Ty) (C : List sx_LF) : List sx_AV → List sx_Ty → Bool
  | [], [] => true
  | a :: as, t :: ts => sx_carg RT E C a t && sx_cargs RT E C as ts
  | _, _ => false
section SXC
variable {FT : Nat → List Int → Int} {D : va_G} {cl : List vw_C} {RT : Nat → Option sx_Rg} {AO : sx_Ao} {TB : List Cond} {CJ : List (List Nat)} {MT : List (List sx_Me)} {CDs : List sx_Da} {b0 : sx_B} {l : Launch} {Sg : Nat → Option Nat} {s : State} {H : Heap} {E : List sx_Ty} {C : List sx_LF} {ρ : List Value}
theorem sx_carg_ok {a : sx_AV} {t : sx_Ty} {v : Value} (h : sx_carg RT E C a t = true) (hE : sx_env Sg E ρ) (hC : sx_cs C ρ) (hH : sx_H D cl RT b0 Sg s H) (hv : sx_av ρ a v) : sx_ok Sg v t := by
  unfold sx_carg at h
  split at h
  · rename_i ht
    split at h
    · rename_i z r g hreg
      have h := of_decide_eq_true h
      obtain ⟨ad, cell, rfl, -, k2, -⟩ := sx_reg_ok hreg hE hH hv
      refine Or.inr (Or.inr (Or.inl ⟨ht, ad, rfl, ?_⟩))
      rw [k2]
      congr 1; omega
    · cases h
  · exact sx_conf_ok hE hC hv h
theorem sx_cargs_ok (hE : sx_env Sg E ρ) (hC : sx_cs C ρ) (hH : sx_H D cl RT b0 Sg s H) : ∀ {as : List sx_AV} {ts : List sx_Ty} {vs : List Value}, sx_cargs RT E C as ts = true → sx_stk ρ as vs → sx_cvs Sg vs ts
  | [], [], [], _, _ => trivial
  | a :: as, t :: ts, v :: vs, h, k => by
    simp only [sx_cargs, Bool.and_eq_true] at h
    exact ⟨sx_carg_ok h.1 hE hC hH k.1, sx_cargs_ok hE hC hH h.2 k.2⟩
  | [], [], _ :: _, _, k => k.elim
  | _ :: _, _, [], _, k => k.elim
  | [], _ :: _, _, h, _ => by simp [sx_cargs] at h
  | _ :: _, [], _, h, _ => by simp [sx_cargs] at h
/-- the symbols with which a contract's method begins -/
def sx_cent : Nat → List sx_Ty → List sx_AV
  | _, [] => []
  | i, t :: ts => sx_nav t i :: sx_cent (i + 1) ts
theorem sx_nav_ok {t : sx_Ty} {z : Nat} {v : Value} (h : ρ[z]? = some v) (hv : sx_ok Sg v t) (ht : t.1 ≤ 2) : sx_av ρ (sx_nav t z) v := by
  unfold sx_nav
  rcases hv with ⟨h5, x, rfl, -⟩ | ⟨h5, x, rfl, -⟩ | ⟨h5, q', rfl, -⟩ | ⟨h5, -⟩
  · rw [if_neg (by omega), h5]; exact sx_int_av (sx_sym_ok (by unfold sx_iv; rw [h]))
  · rw [if_neg (by omega), h5]; exact sx_long_av (sx_sym_ok (by unfold sx_iv; rw [h]))
  · rw [if_pos h5]; exact Or.inr (Or.inr (Or.inl ⟨rfl, h, q', rfl⟩))
  · omega
theorem sx_cent_ok : ∀ {ts : List sx_Ty} {pre vs : List Value}, sx_cvs Sg vs ts → (∀ t ∈ ts, t.1 ≤ 2) → sx_stk (pre ++ vs) (sx_cent pre.length ts) vs
  | [], pre, [], _, _ => trivial
  | t :: ts, pre, v :: vs, h, ht => by
    refine ⟨sx_nav_ok (by simp) h.1 (ht t List.mem_cons_self), ?_⟩
    have := sx_cent_ok (pre := pre ++ [v]) h.2 (fun u hu => ht u (List.mem_cons_of_mem _ hu))
    rw [List.append_assoc, List.length_append] at this
    exact this
  | [], _, _ :: _, h, _ => h.elim
  | _ :: _, _, [], h, _ => h.elim
theorem sx_cenv : ∀ {ts : List sx_Ty} {vs : List Value}, sx_cvs Sg vs ts → sx_env Sg ts vs
  | [], [], _ => ⟨rfl, fun z t v h => by simp at h⟩
  | t :: ts, v :: vs, h => by
    obtain ⟨h1, h2⟩ := sx_cenv h.2
    refine ⟨by simp [h1], fun z u w hz hw => ?_⟩
    cases z with
    | zero =>
      simp at hz hw
      subst hz; subst hw
      exact h.1
    | succ z => exact h2 z u w (by simpa using hz) (by simpa using hw)
  | [], _ :: _, h => h.elim
  | _ :: _, [], h => h.elim
def sx_cst (nR : Nat) (ct : sx_Ct) : sx_St := (((ct.2.1, [], [], []), ([], [], nR)), (sx_ent 0 (sx_cent 0 ct.2.1), []), 0, 0)
def sx_ck (nR : Nat) (ct : sx_Ct) : sx_Ko := fun r K nc ns => decide (nc = 0) && decide (ns = 0) && decide (K.2.2.2 = nR) && (match r, ct.2.2.1 with
  | none, none => true
  | some a, some t => sx_conf K.1.1 K.1.2.1 a t
  | _, _ => false)
/-- the executor's run of a contract: it may write the regions of its bits alone -/
noncomputable def sx_crun (cl : List vw_C) (RT : Nat → Option sx_Rg) (CJ : List (List Nat)) (MT : List (List sx_Me)) (CDs : List sx_Da) (mac : sx_Mac) (nR fuel : Nat) (ct : sx_Ct) : Bool := ct.2.1.all (fun t => Nat.ble t.1 2) && (match sx_at2 MT ct.1 with
  | some M => sx_ex cl (sx_fz ct.2.2.2.2.2 RT) CJ MT CDs mac fuel M (ct.2.2.2.1, ct.2.2.2.2.1, M.2.2.1.2.2.1, M.2.2.1.2.2.2.1) [] (fun _ _ => false) 0 (sx_cst nR ct) (sx_ck nR ct)
  | none => false)
theorem sx_prog_fz {W : Nat} (hp : sx_prog cl RT CJ AO TB MT CDs) : sx_prog cl (sx_fz W RT) CJ AO TB MT CDs := by
  obtain ⟨hg, hcl, hRT, hr⟩ := hp
  refine ⟨hg, hcl, fun r g hr hg0 => ?_, hr⟩
  obtain ⟨g0, k1, rfl⟩ := sx_fz_ok hr
  obtain ⟨e1, e2, -, -⟩ := sx_fz1_eq W r g0
  obtain ⟨q, q1, q2⟩ := hRT r g0 k1 (by rw [← e1]; exact hg0)
  exact ⟨q, by rw [e2]; exact q1, by rw [sx_fz1_wd]; exact q2⟩
/-- what a contract says -/
def sx_CTok (D : va_G) (cl : List vw_C) (RT : Nat → Option sx_Rg) (AO : sx_Ao) (TB : List Cond) (B0 : Nat → Prop) (J : (Nat → Option Nat) → Heap → Prop) (l : Launch) (MT : List (List sx_Me)) (Sg : Nat → Option Nat) (ct : sx_Ct) : Prop :=
  ∀ (H : Heap) (vs : List Value) (M : sx_Me), sx_at2 MT ct.1 = some M → sx_cvs Sg vs ct.2.1 → J Sg H → pv_CG3 D cl (sx_fz ct.2.2.2.2.2 RT) AO TB (sx_bW RT ct.2.2.2.2.2 B0 Sg, J) l M (ct.2.2.2.1, ct.2.2.2.2.1, M.2.2.1.2.2.1, M.2.2.1.2.2.2.1) Sg H vs (fun vo H2 => sx_cres Sg ct.2.2.1 vo ∧ J Sg H2)
theorem sx_crun_ok {mac : sx_Mac} {nR fuel : Nat} {ct : sx_Ct} {B0 : Nat → Prop} {J : (Nat → Option Nat) → Heap → Prop} (hw : sx_Wd nR RT B0 Sg) (hj : sx_jkp (sx_fz ct.2.2.2.2.2 RT) J Sg) (hp : sx_prog cl RT CJ AO TB MT CDs) (hm : sx_macok FT D cl (sx_fz ct.2.2.2.2.2 RT) AO TB (sx_bW RT ct.2.2.2.2.2 B0 Sg, J) l MT mac) (h : sx_crun cl RT CJ MT CDs mac nR fuel ct = true) : sx_CTok D cl RT AO TB B0 J l MT Sg ct := by
  intro H vs M hM hvs hJ p e R s m args below meth c Q ls hF hh hH hl K
  unfold sx_crun at h
  rw [hM] at h
  simp only [Bool.and_eq_true] at h
  obtain ⟨h1, h2⟩ := h
  have ht : ∀ t ∈ ct.2.1, t.1 ≤ 2 := fun t ht => Nat.le_of_ble_eq_true (List.all_eq_true.mp h1 t ht)
  have hK : sx_KOK FT D cl (sx_fz ct.2.2.2.2.2 RT) (sx_bW RT ct.2.2.2.2.2 B0 Sg, J) p l e R s m args below meth c Q M.1.2.1 M.1.2.2.2 Sg vs (sx_ck nR ct) := by
    intro r K' nc ns hk Sg2 H2 ρ locs vo i pc ls2 hle hpre hH2 hG2 hV2 hvo hrv hd
    unfold sx_ck at hk
    simp only [Bool.and_eq_true, decide_eq_true_eq] at hk
    obtain ⟨⟨⟨k1, k2⟩, k4⟩, k3⟩ := hk
    subst k1; subst k2
    obtain rfl : Sg2 = Sg := sx_wd_eq hw.2.1 hle (fun a r ha => by rw [← k4]; exact hG2.2.2.2.2.2.2 a r ha) hH2
    refine K vo H2 locs i pc ls2 hH2 hV2.1 ⟨?_, hV2.2.1⟩ hrv hd
    unfold sx_cres
    cases hr : ct.2.2.1 with
    | none =>
      rw [hr] at k3
      cases r with
      | none => exact hvo
      | some a => cases k3
    | some t =>
      rw [hr] at k3
      cases r with
      | none => cases k3
      | some a =>
        obtain ⟨v, v1, v2⟩ := hvo
        exact ⟨v, v1, sx_conf_ok hG2.1 hG2.2.1 v2 k3⟩
  have hW := sx_ex_ok (sx_prog_fz hp) hm fuel M _ [] _ 0 _ _ (sx_at2_mem hM) h2 p e R s m args below meth c Q Sg vs hF (fun a ha => by simp at ha) (fun _ _ hf => by cases hf) hK
  have hst := sx_cent_ok (pre := []) hvs ht
  refine hW Sg H vs ls [] [] (fun _ _ h => h) (List.prefix_refl _) ⟨hH, ⟨sx_cenv hvs, fun f hf => absurd hf List.not_mem_nil, fun f hf => absurd hf List.not_mem_nil, fun q hq => absurd hq List.not_mem_nil, fun q hq => absurd hq List.not_mem_nil, fun q hq => absurd hq List.not_mem_nil, hw.1⟩, ⟨hl.1, hl.2.1, fun x hx => ?_, trivial⟩, ⟨by rw [← hh]; exact va_S.rf, hJ, hj⟩⟩
  obtain ⟨v, x1, x2⟩ := sx_ent_ok 0 hst x hx
  exact ⟨v, x1, hl.2.2 (x.1, v) x2⟩
/-- the contract of a call's place: of those that the hook names, the first that stands ahead of 'lim' and fits -/
noncomputable def sx_cpick (RT : Nat → Option sx_Rg) (CT : List (List sx_Ct)) (lim mi : Nat) (E : List sx_Ty) (C : List sx_LF) (avs : List sx_AV) : List Int → Option sx_Ct
  | [] => none
  | j :: js => if Nat.blt j.toNat lim = true then (match sx_at2 CT j.toNat with
      | some ct => if (Nat.beq ct.1 mi && sx_cargs RT E C avs ct.2.1) = true then some ct else sx_cpick RT CT lim mi E C avs js
      | none => sx_cpick RT CT lim mi E C avs js) else sx_cpick RT CT lim mi E C avs js
theorem sx_cpick_ok {CT : List (List sx_Ct)} {lim mi : Nat} {avs : List sx_AV} {ct : sx_Ct} : ∀ {js : List Int}, sx_cpick RT CT lim mi E C avs js = some ct → (∃ j, j < lim ∧ sx_at2 CT j = some ct) ∧ ct.1 = mi ∧ sx_cargs RT E C avs ct.2.1 = true
  | [], h => by simp [sx_cpick] at h
  | j :: js, h => by
    simp only [sx_cpick] at h
    split at h
    · rename_i hlt
      split at h
      · rename_i c hc
        split at h
        · rename_i hk
          cases h
          simp only [Bool.and_eq_true] at hk
          exact ⟨⟨_, Nat.blt_eq.mp hlt, hc⟩, Nat.eq_of_beq_eq_true hk.1, hk.2⟩
        · exact sx_cpick_ok h
      · exact sx_cpick_ok h
    · exact sx_cpick_ok h
/-- of a region that a callee may not write all stays known -/
noncomputable def sx_kp (W : Nat) (RT : Nat → Option sx_Rg) (r : Nat) : Bool := sx_ab (sx_nb (sx_bit W r)) (match RT r with
  | some g => sx_nb (Nat.ble 3 g.1)
  | none => false)
theorem sx_kp_ok {W : Nat} {r : Nat} (h : sx_kp W RT r = true) : ∃ g, sx_fz W RT r = some g ∧ sx_mut g = false := by
  unfold sx_kp at h
  simp only [sx_ab_eq, sx_nb_eq, Bool.and_eq_true, Bool.not_eq_true'] at h
  obtain ⟨h1, h2⟩ := h
  cases hr : RT r with
  | none => rw [hr] at h2; cases h2
  | some g =>
    rw [hr] at h2
    have h2 : Nat.ble 3 g.1 = false := by simpa [sx_nb_eq] using h2
    refine ⟨_, sx_fz_some hr, ?_⟩
    unfold sx_fz1
    rw [h1, h2]
    have h3 : ¬ g.1 = 3 := fun h => by rw [h] at h2; cases h2
    unfold sx_mut
    simp [h3]
noncomputable def sx_ctm (RT : Nat → Option sx_Rg) (V : Nat) (MT : List (List sx_Me)) (CDs : List sx_Da) (CT : List (List sx_Ct)) (nR lim : Nat) : sx_Mac := fun h M bud pc st => match sx_row M.2.1 pc, CDs[M.2.2.1.1]? with
  | some (_, i, len), some d => match sx_isinv i with
    | some (kind, idx) => match sx_fnd (fun q => sx_ab (Nat.beq q.1 idx) (Nat.beq q.2.1 kind)) d.2.2.1 with
      | some q => match sx_at2 MT q.2.2.1 with
        | some M' => match st with
          | (((E, C, N, U), FA), (L, S), nc, ns) =>
            match sx_cpick RT CT lim q.2.2.1 E C (S.take (q.2.2.2 + (if q.2.1 = 1 then 0 else 1))).reverse h.2.2 with
            | some ct => if len = 3 ∧ (S.take (q.2.2.2 + (if q.2.1 = 1 then 0 else 1))).length = q.2.2.2 + (if q.2.1 = 1 then 0 else 1) ∧ sx_cs8 (S.take (q.2.2.2 + (if q.2.1 = 1 then 0 else 1))).reverse ≤ M'.1.2.2.1 ∧ sx_cs8 (S.drop (q.2.2.2 + (if q.2.1 = 1 then 0 else 1))) ≤ 8 ∧ ct.2.2.2.1 + 1 ≤ bud.1 ∧ 19 + M'.1.2.2.1 + ct.2.2.2.2.1 ≤ bud.2.1 ∧ q.2.1 ≠ 2 ∧ sx_rcv RT E q.2.1 M'.2.2.1.2.2.2.2 (S.take (q.2.2.2 + (if q.2.1 = 1 then 0 else 1))).reverse = true ∧ M'.2.2.1.2.2.1 = 0 ∧ M'.2.2.1.2.2.2.1 = 0 ∧ nc ≤ bud.2.2.1 ∧ ns ≤ bud.2.2.2 ∧ FA.2.2 = nR ∧ sx_subm ct.2.2.2.2.2 V = true then
                (match ct.2.2.1 with
                | none => some [(pc + 3, (((E, C, N, U), (sx_flt (fun x => sx_kp ct.2.2.2.2.2 RT x.1) FA.1, sx_flt (fun x => sx_kp ct.2.2.2.2.2 RT x.1) FA.2.1, nR)), (L, S.drop (q.2.2.2 + (if q.2.1 = 1 then 0 else 1))), nc, ns))]
                | some t => if t.1 ≤ 2 then some [(pc + 3, (((E ++ [t], C, N, U), (sx_flt (fun x => sx_kp ct.2.2.2.2.2 RT x.1) FA.1, sx_flt (fun x => sx_kp ct.2.2.2.2.2 RT x.1) FA.2.1, nR)), (L, sx_nav t E.length :: S.drop (q.2.2.2 + (if q.2.1 = 1 then 0 else 1))), nc, ns))] else none) else none
            | none => none
        | none => none
      | none => none
    | none => none
  | _, _ => none
end SXC
