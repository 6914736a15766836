/-! the claim's own hooks: loops that are walked by hand, their answers as functions -/
/-- how many waltzes of so many steps -/
def zWL : List Int := [1, 1, 1, 3, 3, 4, 8, 9, 12, 21, 27, 37, 58, 78, 109, 164, 227, 319, 467, 656, 928, 1341, 1896, 2689, 3859, 5477, 7782, 11126, 15817, 22496, 32103]
def zwz (n : Int) : Int := zWL.getD n.toNat 0
def zFT : Nat → List Int → Int := fun k xs => match k, xs with
  | 0, [n] => zdue (zsum 10 true n)
  | 1, [j, m] => ((zdv j.toNat m.toNat % 2 : Nat) : Int)
  | 2, [n, m] => ((zds m.toNat n.toNat : Nat) : Int)
  | 3, [n, k, i] => (zrg k.toNat i.toNat Int32.ofNat 0 n.toNat).toInt
  | 4, [y, w] => zya y.toNat w
  | 5, [y, w] => (zyc (w - 100) y.toNat : Int)
  | 6, [n] => zwz n
  | _, _ => 0
def zsym (U : List (Nat × List sx_LF × Nat)) (k : Nat) (xs : List sx_LF) : Option Nat := match U.find? (fun q => q.1 == k && decide (q.2.1 = xs)) with
  | some q => some q.2.2
  | none => none
/-- the symbol of an answer: the one that stands there, or a new one -/
def zfs (E : List sx_Ty) (U : List (Nat × List sx_LF × Nat)) (k : Nat) (xs : List sx_LF) (lo hi : Int) : List sx_Ty × List (Nat × List sx_LF × Nat) × sx_LF := match zsym U k xs with
  | some z => (E, U, (0, [(z, 1)]))
  | none => (E ++ [(0, lo, hi)], (k, xs, E.length) :: U, (0, [(E.length, 1)]))
theorem zsym_ok {U : List (Nat × List sx_LF × Nat)} {k : Nat} {xs : List sx_LF} {z : Nat} (h : zsym U k xs = some z) : (k, xs, z) ∈ U := by
  unfold zsym at h
  split at h
  · rename_i q hq
    cases h
    have h1 := List.mem_of_find?_eq_some hq
    have h2 := List.find?_some hq
    simp at h2
    obtain ⟨rfl, rfl⟩ := h2
    exact h1
  · cases h
theorem zmap_det {ρ : List Value} : ∀ {fs : List sx_LF} {xs ys : List Int}, fs.map (sx_lf ρ) = xs.map some → fs.map (sx_lf ρ) = ys.map some → xs = ys
  | [], [], [], _, _ => rfl
  | f :: fs, x :: xs, y :: ys, h, k => by
    simp only [List.map_cons, List.cons.injEq] at h k
    have := zmap_det h.2 k.2
    have e := Option.some.inj (h.1.symm.trans k.1)
    rw [e, this]
  | [], _ :: _, _, h, _ => by simp at h
  | [], [], _ :: _, _, k => by simp at k
  | _ :: _, [], _, h, _ => by simp at h
  | _ :: _, _ :: _, [], _, k => by simp at k
theorem zfs_ok {FT : Nat → List Int → Int} {D : va_G} {RT : Nat → Option sx_Rg} {Sg : Nat → Option Nat} {H : Heap} {ρ : List Value} {E : List sx_Ty} {C N : List sx_LF} {U : List (Nat × List sx_LF × Nat)} {FA : sx_FA} (hG : sx_G FT D RT Sg H ρ ((E, C, N, U), FA)) {k : Nat} {fs : List sx_LF} {xs : List Int} {lo hi : Int} {a : Int32}
    (hxs : fs.map (sx_lf ρ) = xs.map some) (ha : a.toInt = FT k xs) (h1 : lo ≤ a.toInt) (h2 : a.toInt ≤ hi) : ∃ ρ2, sx_G FT D RT Sg H (ρ ++ ρ2) (((zfs E U k fs lo hi).1, C, N, (zfs E U k fs lo hi).2.1), FA) ∧ sx_av (ρ ++ ρ2) (0, (zfs E U k fs lo hi).2.2) (.int a) := by
  unfold zfs
  split
  · rename_i z hz
    obtain ⟨ys, y, q1, q2, q3⟩ := hG.2.2.2.1 _ (zsym_ok hz)
    have hy : ys = xs := zmap_det q1 hxs
    have hya : y = a := Int32.toInt_inj.mp (by rw [q3, hy, ha])
    refine ⟨[], by rw [List.append_nil]; exact hG, sx_int_av (sx_sym_ok ?_)⟩
    rw [List.append_nil]
    unfold sx_iv
    have q2 : ρ[z]? = some (.int y) := q2
    rw [q2, hya]
  · have hG2 := sx_G_ext (t := (0, lo, hi)) (v := .int a) hG (Or.inl ⟨rfl, a, rfl, h1, h2⟩)
    have hs : (ρ ++ [Value.int a])[E.length]? = some (.int a) := sx_iv_new hG.1.1
    obtain ⟨g1, g2, g3, g4, g5, g6⟩ := hG2
    refine ⟨[.int a], ⟨g1, g2, g3, fun q hq => ?_, g5, g6⟩, sx_int_av (sx_sym_ok (by unfold sx_iv; rw [hs]))⟩
    rcases List.mem_cons.mp hq with rfl | hq
    · exact ⟨xs, a, sx_mapM_ext hxs, hs, ha⟩
    · exact g4 q hq
theorem zlk_int {ρ : List Value} {ls : Array Slot} {L : List (Nat × sx_AV)} (hL : ∀ q ∈ L, ∃ v, sx_av ρ q.2 v ∧ ls[q.1]? = some (.val v)) {j : Nat} {f : sx_LF} (h : sx_lk L j = some (0, f)) : ∃ x : Int32, sx_lf ρ f = some x.toInt ∧ ls[j]? = some (.val (.int x)) := by
  obtain ⟨v, v1, v2⟩ := hL _ (sx_lk_mem h)
  obtain ⟨x, rfl, hx⟩ := sx_av_int v1
  exact ⟨x, hx, v2⟩
theorem zlk_c {ρ : List Value} {ls : Array Slot} {L : List (Nat × sx_AV)} (hL : ∀ q ∈ L, ∃ v, sx_av ρ q.2 v ∧ ls[q.1]? = some (.val v)) {j : Nat} {n : Int} (h : sx_lk L j = some (0, (n, []))) : ∃ x : Int32, x.toInt = n ∧ ls[j]? = some (.val (.int x)) := by
  obtain ⟨x, h1, h2⟩ := zlk_int hL h
  exact ⟨x, sx_lf_const h1 rfl, h2⟩
theorem zlk_eq {ρ : List Value} {ls : Array Slot} {L : List (Nat × sx_AV)} (hL : ∀ q ∈ L, ∃ v, sx_av ρ q.2 v ∧ ls[q.1]? = some (.val v)) {j : Nat} {f : sx_LF} {x : Int32} (hx : sx_lf ρ f = some x.toInt) (h : sx_lk L j = some (0, f)) : ls[j]? = some (.val (.int x)) := by
  obtain ⟨y, h1, h2⟩ := zlk_int hL h
  have : y = x := Int32.toInt_inj.mp (Option.some.inj (h1.symm.trans hx))
  rw [← this]; exact h2
theorem zlk_ref {ρ : List Value} {ls : Array Slot} {L : List (Nat × sx_AV)} (hL : ∀ q ∈ L, ∃ v, sx_av ρ q.2 v ∧ ls[q.1]? = some (.val v)) {j : Nat} {f : sx_LF} (h : sx_lk L j = some (2, f)) : ∃ a : Nat, ls[j]? = some (.val (.ref a)) := by
  obtain ⟨v, v1, v2⟩ := hL _ (sx_lk_mem h)
  obtain ⟨-, q, rfl⟩ := sx_av_ref v1
  exact ⟨q, v2⟩
theorem zstk0 {ρ : List Value} {stk : List Value} (h : sx_stk ρ [] stk) : stk = [] := by
  cases stk with
  | nil => rfl
  | cons v t => exact h.elim
theorem zreg6 {L : Nat} {E : List sx_Ty} {a : sx_AV} {z r : Nat} {g : sx_Rg} (h : sx_reg E (sxRT 6) a = some (z, r, g)) (h0 : r ≠ 0) : sx_reg E (sxRT L) a = some (z, r, g) := by
  unfold sx_reg at h ⊢
  by_cases ha : a.1 = 2
  · rw [if_pos ha] at h ⊢
    cases ht : E[a.2.1.toNat]? with
    | none => rw [ht] at h; cases h
    | some t =>
      rw [ht] at h
      simp only at h ⊢
      by_cases h2 : t.1 = 2
      · rw [if_pos h2] at h ⊢
        cases hg : sxRT 6 t.2.1.toNat with
        | none => rw [hg] at h; cases h
        | some g' =>
          rw [hg] at h
          cases h
          rw [zRT6 h0, hg]
      · rw [if_neg h2] at h; cases h
  · rw [if_neg ha] at h; cases h
/-- a state that has come to an end: the answer alone on the stack -/
def zout (E : List sx_Ty) (C N : List sx_LF) (U : List (Nat × List sx_LF × Nat)) (FA : sx_FA) (nc ns k : Nat) (fs : List sx_LF) (lo hi : Int) : sx_St := ((((zfs E U k fs lo hi).1, C, N, (zfs E U k fs lo hi).2.1), FA), ([], [(0, (zfs E U k fs lo hi).2.2)]), nc, ns)
def zint (g : sx_Rg) (n : Nat) : Bool := decide (g = (1, g.2.1, 0, [(0, -2147483648, 2147483647)])) && decide (n ≤ g.2.1) && decide (g.2.1 < 2 ^ 31)
theorem zint_ok {g : sx_Rg} {n : Nat} (h : zint g n = true) : g = (1, g.2.1, 0, [(0, -2147483648, 2147483647)]) ∧ n ≤ g.2.1 ∧ g.2.1 < 2 ^ 31 := by
  unfold zint at h
  simp only [Bool.and_eq_true, decide_eq_true_eq] at h
  exact ⟨h.1.1, h.1.2, h.2⟩
/-- room for one call of a method with so many locals -/
def zroom (bud : sx_Bu) (n nc ns : Nat) : Bool := decide (1 ≤ bud.1) && decide (n ≤ bud.2.1) && decide (nc ≤ bud.2.2.1) && decide (ns ≤ bud.2.2.2)
theorem zroom_ok {bud : sx_Bu} {n nc ns : Nat} (h : zroom bud n nc ns = true) : 1 ≤ bud.1 ∧ n ≤ bud.2.1 ∧ nc ≤ bud.2.2.1 ∧ ns ≤ bud.2.2.2 := by
  unfold zroom at h
  simp only [Bool.and_eq_true, decide_eq_true_eq] at h
  exact ⟨h.1.1.1, h.1.1.2, h.1.2, h.2⟩
/-- a form between two numbers -/
def zbet (E : List sx_Ty) (C : List sx_LF) (f : sx_LF) (lo hi : Int) : Bool := sx_ge E C (sx_addC f (-lo)) && sx_ge E C (sx_sub (hi, []) f)
theorem zbet_ok {Sg : Nat → Option Nat} {E : List sx_Ty} {C : List sx_LF} {ρ : List Value} (hE : sx_env Sg E ρ) (hC : sx_cs C ρ) {f : sx_LF} {lo hi x : Int} (hf : sx_lf ρ f = some x) (h : zbet E C f lo hi = true) : lo ≤ x ∧ x ≤ hi := by
  unfold zbet at h
  simp only [Bool.and_eq_true] at h
  have h1 := sx_ge_ok hE hC (sx_addC_ok (c := -lo) hf) h.1
  have h2 := sx_ge_ok hE hC (sx_sub_ok (sx_const_ok hi) hf) h.2
  omega
section ZM
variable {L : Nat} {D : va_G} {b0 nL : Nat} {l : Launch} {Sg0 : Nat → Option Nat} {ρ0 : List Value} {Sg : Nat → Option Nat} {bud : sx_Bu} {nc ns : Nat} {p : Program} {e : Env} {R : Room} {s : State} {m : MethodId} {args : Array Value} {below : List Frame} {meth : Method} {c : Code} {Q : State → Prop} {H : Heap} {locs : List Loc} {ls : Array Slot} {ρ : List Value} {E : List sx_Ty} {C N : List sx_LF} {U : List (Nat × List sx_LF × Nat)} {FA : sx_FA}
theorem zout_ok {pc k : Nat} {fs : List sx_LF} {xs : List Int} {lo hi : Int} {y : Int32} (hH : sx_H D zCl (sxRT L) b0 Sg s H) (hG : sx_G zFT D (sxRT L) Sg H ρ ((E, C, N, U), FA)) (hV : va_S (fun q => b0 ≤ q) s.heap H locs) (hle : sx_le Sg0 Sg) (hpre : ρ0 <+: ρ) (hl : lv_has ls nL []) (hxs : fs.map (sx_lf ρ) = xs.map some) (hy : y.toInt = zFT k xs) (h1 : lo ≤ y.toInt) (h2 : y.toInt ≤ hi)
    (hW : sx_W zFT D zCl (sxRT L) b0 nL p l e R s m args below meth c Q Sg0 ρ0 pc (zout E C N U FA nc ns k fs lo hi)) : W p l e R s m args below meth c H locs nc ns Q (F0 m pc ls [.int y]) := by
  obtain ⟨ρ2, g, av⟩ := zfs_ok hG hxs hy h1 h2
  exact hW Sg H (ρ ++ ρ2) ls [.int y] locs hle (hpre.trans (List.prefix_append ρ ρ2)) ⟨hH, g, ⟨hl.1, hl.2.1, fun q hq => absurd hq List.not_mem_nil, av, trivial⟩, hV⟩
end ZM
noncomputable def zm3 (bud : sx_Bu) (st : sx_St) : Option (List (Nat × sx_St)) := match st with
  | (((E, C, N, U), FA), (L, S), nc, ns) => match sx_lk L 0, S with
    | some (0, f), [] => if sx_lk L 1 = some (0, (0, [])) ∧ sx_lk L 2 = some (0, f) ∧ sx_lk L 3 = some (0, (0, [])) ∧ sx_ge E C f = true ∧ zroom bud 22 nc ns = true then some [(73, zout E C N U FA nc ns 0 [f] 0 9)] else none
    | _, _ => none
set_option maxRecDepth 100000 in
theorem zm3_ok {L : Nat} {D : va_G} {b0 : Nat} {l : Launch} {Sg0 : Nat → Option Nat} {ρ0 : List Value} {bud : sx_Bu} {p : Program} {e : Env} {R : Room} {s : State} {m : MethodId} {args : Array Value} {below : List Frame} {meth : Method} {c : Code} {Q : State → Prop} {st : sx_St} {X : List (Nat × sx_St)} (h : zm3 bud st = some X) (hF : sx_Frm D zCl zAO zTB b0 zM98 bud p R s m args meth c)
    (hW : ∀ q ∈ X, sx_W zFT D zCl (sxRT L) b0 6 p l e R s m args below meth c Q Sg0 ρ0 q.1 q.2) : sx_W zFT D zCl (sxRT L) b0 6 p l e R s m args below meth c Q Sg0 ρ0 6 st := by
  obtain ⟨⟨⟨E, C, N, U⟩, FA⟩, ⟨L0, S⟩, nc, ns⟩ := st
  intro Sg H ρ ls stk locs hle hpre hP
  obtain ⟨hH, hG, ⟨hf1, hf2, hf3, hf4⟩, hV⟩ := hP
  have hE : sx_env Sg E ρ := hG.1
  have hCs : sx_cs C ρ := hG.2.1
  have hf3 : ∀ q ∈ L0, ∃ v, sx_av ρ q.2 v ∧ ls[q.1]? = some (.val v) := hf3
  unfold zm3 at h
  simp only at h
  split at h
  · rename_i f hl0
    split at h
    · rename_i hc
      obtain ⟨c1, c2, c3, c4, c5⟩ := hc
      cases h
      obtain ⟨r1, r2, r3, r4⟩ := zroom_ok c5
      obtain ⟨x, hx, e0⟩ := zlk_int hf3 hl0
      obtain ⟨a0, ha0, e1⟩ := zlk_c hf3 c1
      have e2 := zlk_eq hf3 hx c2
      obtain ⟨i0, hi0, e3⟩ := zlk_c hf3 c3
      have hx0 := sx_ge_ok hE hCs hx c4
      have hst := zstk0 hf4
      subst hst
      have hl : lv_has ls 6 [(0, .int x), (1, .int a0), (2, .int x), (3, .int i0)] := ⟨hf1, hf2, fun q hq => by
        simp only [List.mem_cons, List.not_mem_nil, or_false] at hq
        rcases hq with rfl | rfl | rfl | rfl
        · exact e0
        · exact e1
        · exact e2
        · exact e3⟩
      refine zw_right hF r1 r2 r3 r4 hH hV hl ha0 hi0 hx0 (fun y ls' locs' hV' hy hl' => ?_)
      refine zout_ok hH hG hV' hle hpre (lv_sub hl' [] rfl) (k := 0) (xs := [x.toInt]) (by simp [hx]) hy ?_ ?_ (hW _ List.mem_cons_self)
      · rw [hy]; unfold zdue; omega
      · rw [hy]; unfold zdue; omega
    · cases h
  · cases h
noncomputable def zm4 (bud : sx_Bu) (st : sx_St) : Option (List (Nat × sx_St)) := match st with
  | (((E, C, N, U), FA), (L, S), nc, ns) => match sx_lk L 0, sx_lk L 1, sx_lk L 2, sx_lk L 3, S with
    | some a0, some (0, f), some (0, f2), some (0, f3), [] => match sx_reg E (sxRT 6) a0 with
      | some (_, r, g) => if Nat.beq r 0 = false ∧ g.1 = 0 ∧ g.2.1 = 12 ∧ sx_ge E C f = true ∧ zroom bud 25 nc ns = true then
          some [(56, ((((zfs E U 0 [f] 0 9).1, C, N, (zfs E U 0 [f] 0 9).2.1), FA), ([(4, (0, (zfs E U 0 [f] 0 9).2.2)), (0, a0), (1, (0, f)), (2, (0, f2)), (3, (0, f3))], []), nc, ns))] else none
      | none => none
    | _, _, _, _, _ => none
set_option maxRecDepth 100000 in
theorem zm4_ok {L : Nat} {D : va_G} {b0 : Nat} {l : Launch} {Sg0 : Nat → Option Nat} {ρ0 : List Value} {bud : sx_Bu} {p : Program} {e : Env} {R : Room} {s : State} {m : MethodId} {args : Array Value} {below : List Frame} {meth : Method} {c : Code} {Q : State → Prop} {st : sx_St} {X : List (Nat × sx_St)} (h : zm4 bud st = some X) (hF : sx_Frm D zCl zAO zTB b0 zM190 bud p R s m args meth c)
    (hW : ∀ q ∈ X, sx_W zFT D zCl (sxRT L) b0 5 p l e R s m args below meth c Q Sg0 ρ0 q.1 q.2) : sx_W zFT D zCl (sxRT L) b0 5 p l e R s m args below meth c Q Sg0 ρ0 40 st := by
  obtain ⟨⟨⟨E, C, N, U⟩, FA⟩, ⟨L0, S⟩, nc, ns⟩ := st
  intro Sg H ρ ls stk locs hle hpre hP
  obtain ⟨hH, hG, ⟨hf1, hf2, hf3, hf4⟩, hV⟩ := hP
  have hE : sx_env Sg E ρ := hG.1
  have hCs : sx_cs C ρ := hG.2.1
  have hf3 : ∀ q ∈ L0, ∃ v, sx_av ρ q.2 v ∧ ls[q.1]? = some (.val v) := hf3
  unfold zm4 at h
  simp only at h
  split at h
  · rename_i a0 f f2 f3 hl0 hl1 hl2 hl3
    split at h
    · rename_i z r g hreg
      split at h
      · rename_i hc
        obtain ⟨c0, c1, c2, c3, c4⟩ := hc
        cases h
        obtain ⟨r1, r2, r3, r4⟩ := zroom_ok c4
        have hr0 : r ≠ 0 := fun h => by rw [h] at c0; cases c0
        obtain ⟨v, v1, e0⟩ := hf3 _ (sx_lk_mem hl0)
        obtain ⟨th, cell, rfl, k1, k2, k3, -⟩ := sx_reg_ok (zreg6 (L := L) hreg hr0) hE hH v1
        obtain ⟨x, hx, e1⟩ := zlk_int hf3 hl1
        obtain ⟨x2, hx2, e2⟩ := zlk_int hf3 hl2
        obtain ⟨x3, hx3, e3⟩ := zlk_int hf3 hl3
        have hx0 := sx_ge_ok hE hCs hx c3
        have hst := zstk0 hf4
        subst hst
        have hl : lv_has ls 5 [(0, .ref th), (1, .int x), (2, .int x2), (3, .int x3)] := ⟨hf1, hf2, fun q hq => by
          simp only [List.mem_cons, List.not_mem_nil, or_false] at hq
          rcases hq with rfl | rfl | rfl | rfl
          · exact e0
          · exact e1
          · exact e2
          · exact e3⟩
        refine zw_written hF r1 r2 r3 r4 hH hV k2 k3 c1 c2 hl hx0 (fun y ls' locs' hV' hy hl' => ?_)
        obtain ⟨ρ2, gg, av⟩ := zfs_ok hG (k := 0) (fs := [f]) (xs := [x.toInt]) (lo := 0) (hi := 9) (a := y) (by simp [hx]) hy (by rw [hy]; unfold zdue; omega) (by rw [hy]; unfold zdue; omega)
        refine hW _ List.mem_cons_self Sg H (ρ ++ ρ2) ls' [] locs' hle (hpre.trans (List.prefix_append ρ ρ2)) ⟨hH, gg, ⟨hl'.1, hl'.2.1, ?_, trivial⟩, hV'⟩
        intro q hq
        simp only [List.mem_cons, List.not_mem_nil, or_false] at hq
        rcases hq with rfl | rfl | rfl | rfl | rfl
        · exact ⟨_, av, hl'.2.2 (4, .int y) (by simp)⟩
        · exact ⟨_, sx_av_ext v1, hl'.2.2 (0, .ref th) (by simp)⟩
        · exact ⟨_, sx_int_av (sx_lf_ext hx), hl'.2.2 (1, .int x) (by simp)⟩
        · exact ⟨_, sx_int_av (sx_lf_ext hx2), hl'.2.2 (2, .int x2) (by simp)⟩
        · exact ⟨_, sx_int_av (sx_lf_ext hx3), hl'.2.2 (3, .int x3) (by simp)⟩
      · cases h
    · cases h
  · cases h
noncomputable def zm5 (bud : sx_Bu) (st : sx_St) : Option (List (Nat × sx_St)) := match st with
  | (((E, C, N, U), FA), (L, S), nc, ns) => match sx_lk L 0, sx_lk L 1, sx_lk L 2, sx_lk L 3, S with
    | some a0, some (0, fn), some (0, fm), some (0, fj), [] => match sx_reg E (sxRT 6) a0 with
      | some (_, r, g) => if Nat.beq r 0 = false ∧ g.1 = 0 ∧ g.2.1 = 12 ∧ sx_ge E C fj = true ∧ zbet E C fm 0 500 = true ∧ zroom bud 24 nc ns = true then some [(58, zout E C N U FA nc ns 1 [fj, fm] 0 1)] else none
      | none => none
    | _, _, _, _, _ => none
set_option maxRecDepth 100000 in
theorem zm5_ok {L : Nat} {D : va_G} {b0 : Nat} {l : Launch} {Sg0 : Nat → Option Nat} {ρ0 : List Value} {bud : sx_Bu} {p : Program} {e : Env} {R : Room} {s : State} {m : MethodId} {args : Array Value} {below : List Frame} {meth : Method} {c : Code} {Q : State → Prop} {st : sx_St} {X : List (Nat × sx_St)} (h : zm5 bud st = some X) (hF : sx_Frm D zCl zAO zTB b0 zM184 bud p R s m args meth c)
    (hW : ∀ q ∈ X, sx_W zFT D zCl (sxRT L) b0 6 p l e R s m args below meth c Q Sg0 ρ0 q.1 q.2) : sx_W zFT D zCl (sxRT L) b0 6 p l e R s m args below meth c Q Sg0 ρ0 46 st := by
  obtain ⟨⟨⟨E, C, N, U⟩, FA⟩, ⟨L0, S⟩, nc, ns⟩ := st
  intro Sg H ρ ls stk locs hle hpre hP
  obtain ⟨hH, hG, ⟨hf1, hf2, hf3, hf4⟩, hV⟩ := hP
  have hE : sx_env Sg E ρ := hG.1
  have hCs : sx_cs C ρ := hG.2.1
  have hf3 : ∀ q ∈ L0, ∃ v, sx_av ρ q.2 v ∧ ls[q.1]? = some (.val v) := hf3
  unfold zm5 at h
  simp only at h
  split at h
  · rename_i a0 fn fm fj hl0 hl1 hl2 hl3
    split at h
    · rename_i z r g hreg
      split at h
      · rename_i hc
        obtain ⟨c0, c1, c2, c3, c4, c5⟩ := hc
        cases h
        obtain ⟨r1, r2, r3, r4⟩ := zroom_ok c5
        have hr0 : r ≠ 0 := fun h => by rw [h] at c0; cases c0
        obtain ⟨v, v1, e0⟩ := hf3 _ (sx_lk_mem hl0)
        obtain ⟨th, cell, rfl, k1, k2, k3, -⟩ := sx_reg_ok (zreg6 (L := L) hreg hr0) hE hH v1
        obtain ⟨n, hn, e1⟩ := zlk_int hf3 hl1
        obtain ⟨mm, hm, e2⟩ := zlk_int hf3 hl2
        obtain ⟨j, hj, e3⟩ := zlk_int hf3 hl3
        have hj0 := sx_ge_ok hE hCs hj c3
        obtain ⟨m0, m1⟩ := zbet_ok hE hCs hm c4
        have hst := zstk0 hf4
        subst hst
        have hl : lv_has ls 6 [(0, .ref th), (1, .int n), (2, .int mm), (3, .int j)] := ⟨hf1, hf2, fun q hq => by
          simp only [List.mem_cons, List.not_mem_nil, or_false] at hq
          rcases hq with rfl | rfl | rfl | rfl
          · exact e0
          · exact e1
          · exact e2
          · exact e3⟩
        refine zw_lampj (J := j.toInt.toNat) (Mm := mm.toInt.toNat) hF r1 r2 r3 r4 hH hV k2 k3 c1 c2 hl (by omega) (by omega) (by omega) (fun y ls' locs' hV' hy hl' => ?_)
        refine zout_ok hH hG hV' hle hpre hl' (k := 1) (xs := [j.toInt, mm.toInt]) (by simp [hj, hm]) hy ?_ ?_ (hW _ List.mem_cons_self)
        · rw [hy]; omega
        · rw [hy]; omega
      · cases h
    · cases h
  · cases h
noncomputable def zm6 (bud : sx_Bu) (st : sx_St) : Option (List (Nat × sx_St)) := match st with
  | (((E, C, N, U), FA), (L, S), nc, ns) => match sx_lk L 0, sx_lk L 1, sx_lk L 2, S with
    | some a0, some (0, fn), some (0, fm), [] => match sx_reg E (sxRT 6) a0 with
      | some (_, r, g) => if Nat.beq r 0 = false ∧ g.1 = 0 ∧ g.2.1 = 12 ∧ sx_lk L 4 = some (0, (0, [])) ∧ sx_lk L 5 = some (0, (1, [])) ∧ zbet E C fn 0 500 = true ∧ zbet E C fm 0 500 = true ∧ zroom bud 24 nc ns = true then some [(93, zout E C N U FA nc ns 2 [fn, fm] 0 500)] else none
      | none => none
    | _, _, _, _ => none
set_option maxRecDepth 100000 in
theorem zm6_ok {L : Nat} {D : va_G} {b0 : Nat} {l : Launch} {Sg0 : Nat → Option Nat} {ρ0 : List Value} {bud : sx_Bu} {p : Program} {e : Env} {R : Room} {s : State} {m : MethodId} {args : Array Value} {below : List Frame} {meth : Method} {c : Code} {Q : State → Prop} {st : sx_St} {X : List (Nat × sx_St)} (h : zm6 bud st = some X) (hF : sx_Frm D zCl zAO zTB b0 zM184 bud p R s m args meth c)
    (hW : ∀ q ∈ X, sx_W zFT D zCl (sxRT L) b0 6 p l e R s m args below meth c Q Sg0 ρ0 q.1 q.2) : sx_W zFT D zCl (sxRT L) b0 6 p l e R s m args below meth c Q Sg0 ρ0 65 st := by
  obtain ⟨⟨⟨E, C, N, U⟩, FA⟩, ⟨L0, S⟩, nc, ns⟩ := st
  intro Sg H ρ ls stk locs hle hpre hP
  obtain ⟨hH, hG, ⟨hf1, hf2, hf3, hf4⟩, hV⟩ := hP
  have hE : sx_env Sg E ρ := hG.1
  have hCs : sx_cs C ρ := hG.2.1
  have hf3 : ∀ q ∈ L0, ∃ v, sx_av ρ q.2 v ∧ ls[q.1]? = some (.val v) := hf3
  unfold zm6 at h
  simp only at h
  split at h
  · rename_i a0 fn fm hl0 hl1 hl2
    split at h
    · rename_i z r g hreg
      split at h
      · rename_i hc
        obtain ⟨c0, c1, c2, c3, c4, c5, c6, c7⟩ := hc
        cases h
        obtain ⟨r1, r2, r3, r4⟩ := zroom_ok c7
        have hr0 : r ≠ 0 := fun h => by rw [h] at c0; cases c0
        obtain ⟨v, v1, e0⟩ := hf3 _ (sx_lk_mem hl0)
        obtain ⟨th, cell, rfl, k1, k2, k3, -⟩ := sx_reg_ok (zreg6 (L := L) hreg hr0) hE hH v1
        obtain ⟨n, hn, e1⟩ := zlk_int hf3 hl1
        obtain ⟨mm, hm, e2⟩ := zlk_int hf3 hl2
        obtain ⟨a, ha, e4⟩ := zlk_c hf3 c3
        obtain ⟨i, hi, e5⟩ := zlk_c hf3 c4
        obtain ⟨n0, n1⟩ := zbet_ok hE hCs hn c5
        obtain ⟨m0, m1⟩ := zbet_ok hE hCs hm c6
        have hst := zstk0 hf4
        subst hst
        have hl : lv_has ls 6 [(0, .ref th), (1, .int n), (2, .int mm), (4, .int a), (5, .int i)] := ⟨hf1, hf2, fun q hq => by
          simp only [List.mem_cons, List.not_mem_nil, or_false] at hq
          rcases hq with rfl | rfl | rfl | rfl | rfl
          · exact e0
          · exact e1
          · exact e2
          · exact e4
          · exact e5⟩
        refine zw_lamps (Nn := n.toInt.toNat) (Mm := mm.toInt.toNat) hF r1 r2 r3 r4 hH k2 k3 c1 c2 (by omega) (by omega) (by omega) (by omega) (fun y ls' locs' hV' hy hl' => ?_) n.toInt.toNat 0 hV (by omega) hl (by rw [hi]; rfl) (by rw [ha]; rfl)
        have hb := zds_le mm.toInt.toNat n.toInt.toNat
        refine zout_ok hH hG hV' hle hpre hl' (k := 2) (xs := [n.toInt, mm.toInt]) (by simp [hn, hm]) hy ?_ ?_ (hW _ List.mem_cons_self)
        · rw [hy]; omega
        · rw [hy]; omega
      · cases h
    · cases h
  · cases h
noncomputable def zm7 (bud : sx_Bu) (st : sx_St) : Option (List (Nat × sx_St)) := match st with
  | (((E, C, N, U), FA), (L, S), nc, ns) => match sx_lk L 0, sx_lk L 1, sx_lk L 2, sx_lk L 3, sx_lk L 4, S with
    | some (2, _), some (0, fn), some (0, fm), some (0, fj), some a4, [] => match sx_reg E (sxRT 6) a4 with
      | some (_, r, g) => if Nat.beq r 0 = false ∧ zint g 501 = true ∧ sx_lk L 5 = some (0, (1, [])) ∧ zbet E C fn 0 500 = true ∧ zbet E C fm 0 500 = true ∧ zroom bud 22 nc ns = true ∧ sx_fnd (fun q => Nat.beq q.1 r) FA.2.1 = some (r, (0, 0, 0), []) then
          if sx_ge E C (sx_addC fj (-1)) = true ∧ sx_ge E C (sx_sub fn fj) = true then some [(91, zout E C N U (sx_acpF r FA) nc ns 1 [fj, fm] 0 1)]
          else if zbet E C fj (-1) (-1) = true then some [(130, zout E C N U (sx_acpF r FA) nc ns 2 [fn, fm] 0 500)] else none
        else none
      | none => none
    | _, _, _, _, _, _ => none
set_option maxRecDepth 100000 in
theorem zm7_ok {L : Nat} {D : va_G} {b0 : Nat} {l : Launch} {Sg0 : Nat → Option Nat} {ρ0 : List Value} {bud : sx_Bu} {p : Program} {e : Env} {R : Room} {s : State} {m : MethodId} {args : Array Value} {below : List Frame} {meth : Method} {c : Code} {Q : State → Prop} {st : sx_St} {X : List (Nat × sx_St)} (h : zm7 bud st = some X) (hF : sx_Frm D zCl zAO zTB b0 zM90 bud p R s m args meth c)
    (hW : ∀ q ∈ X, sx_W zFT D zCl (sxRT L) b0 7 p l e R s m args below meth c Q Sg0 ρ0 q.1 q.2) : sx_W zFT D zCl (sxRT L) b0 7 p l e R s m args below meth c Q Sg0 ρ0 15 st := by
  obtain ⟨⟨⟨E, C, N, U⟩, FA⟩, ⟨L0, S⟩, nc, ns⟩ := st
  intro Sg H ρ ls stk locs hle hpre hP
  obtain ⟨hH, hG, ⟨hf1, hf2, hf3, hf4⟩, hV⟩ := hP
  have hE : sx_env Sg E ρ := hG.1
  have hCs : sx_cs C ρ := hG.2.1
  have hf3 : ∀ q ∈ L0, ∃ v, sx_av ρ q.2 v ∧ ls[q.1]? = some (.val v) := hf3
  unfold zm7 at h
  simp only at h
  split at h
  · rename_i z0 fn fm fj a4 hl0 hl1 hl2 hl3 hl4
    split at h
    · rename_i z r g hreg
      split at h
      · rename_i hc
        obtain ⟨c0, c1, c2, c3, c4, c5, c6⟩ := hc
        obtain ⟨r1, r2, r3, r4⟩ := zroom_ok c5
        obtain ⟨g1, g2, g3⟩ := zint_ok c1
        have hr0 : r ≠ 0 := fun h => by rw [h] at c0; cases c0
        obtain ⟨th, e0⟩ := zlk_ref hf3 hl0
        obtain ⟨v, v1, e4⟩ := hf3 _ (sx_lk_mem hl4)
        obtain ⟨ad, cell, rfl, k1, k2, k3, -⟩ := sx_reg_ok (zreg6 (L := L) hreg hr0) hE hH v1
        rw [g1] at k3
        obtain ⟨n, hn, e1⟩ := zlk_int hf3 hl1
        obtain ⟨mm, hm, e2⟩ := zlk_int hf3 hl2
        obtain ⟨j, hj, e3⟩ := zlk_int hf3 hl3
        obtain ⟨i, hi, e5⟩ := zlk_c hf3 c2
        obtain ⟨n0, n1⟩ := zbet_ok hE hCs hn c3
        obtain ⟨m0, m1⟩ := zbet_ok hE hCs hm c4
        have hst := zstk0 hf4
        subst hst
        have hl : lv_has ls 7 [(0, .ref th), (1, .int n), (2, .int mm), (3, .int j), (4, .ref ad), (5, .int i)] := ⟨hf1, hf2, fun q hq => by
          simp only [List.mem_cons, List.not_mem_nil, or_false] at hq
          rcases hq with rfl | rfl | rfl | rfl | rfl | rfl
          · exact e0
          · exact e1
          · exact e2
          · exact e3
          · exact e4
          · exact e5⟩
        obtain ⟨f, hf⟩ := pa_some hH k2 k3
        have hz := pa_zero hH hG (sx_fnd_mem c6) hf
        have hpa : pa_I zFT D zCl (sxRT L) b0 s Sg ρ ((E, C, N, U), sx_acpF r FA) ad r g.2.1 H locs f := ⟨hH, pa_acpG hG, hV, hf⟩
        split at h
        · rename_i hd
          cases h
          have j1 := sx_ge_ok hE hCs (sx_addC_ok (c := -1) hj) hd.1
          have j2 := sx_ge_ok hE hCs (sx_sub_ok hn hj) hd.2
          refine zw_burnj (Nn := n.toInt.toNat) (Mm := mm.toInt.toNat) (J := j.toInt.toNat) hF r1 r2 r3 r4 pa_acpF (by omega) (by omega) ⟨by omega, g3⟩ (by omega) (by omega) (by omega) ⟨by omega, by omega⟩ hi hpa hz hl (fun y H' locs' ls' f' hpa' hy hl' => ?_)
          refine zout_ok hpa'.1 hpa'.2.1 hpa'.2.2.1 hle hpre hl' (k := 1) (xs := [j.toInt, mm.toInt]) (by simp [hj, hm]) hy ?_ ?_ (hW _ List.mem_cons_self)
          · rw [hy]; omega
          · rw [hy]; omega
        · split at h
          · rename_i hd
            cases h
            have j1 := zbet_ok hE hCs hj hd
            have hb := zds_le mm.toInt.toNat n.toInt.toNat
            refine zw_burna (Nn := n.toInt.toNat) (Mm := mm.toInt.toNat) hF pa_acpF (by omega) (by omega) ⟨by omega, g3⟩ (by omega) (by omega) (by omega) hi hpa hz hl (fun y H' locs' ls' f' hpa' hy hl' => ?_)
            refine zout_ok hpa'.1 hpa'.2.1 hpa'.2.2.1 hle hpre hl' (k := 2) (xs := [n.toInt, mm.toInt]) (by simp [hn, hm]) hy ?_ ?_ (hW _ List.mem_cons_self)
            · rw [hy]; omega
            · rw [hy]; omega
          · cases h
      · cases h
    · cases h
  · cases h
noncomputable def zm8 (bud : sx_Bu) (st : sx_St) : Option (List (Nat × sx_St)) := match st with
  | (((E, C, N, U), FA), (L, S), nc, ns) => match sx_lk L 0, sx_lk L 1, sx_lk L 2, sx_lk L 3, sx_lk L 4, S with
    | some (2, _), some (0, fn), some (0, fk), some (0, fi), some a4, [] => match sx_reg E (sxRT 6) a4 with
      | some (_, r, g) => if Nat.beq r 0 = false ∧ zint g 101 = true ∧ sx_lk L 5 = some (0, (0, [])) ∧ zbet E C fn 1 100 = true ∧ zbet E C fk 1 100 = true ∧ sx_ge E C fi = true ∧ sx_ge E C (sx_addC (sx_sub fn fi) (-1)) = true ∧ zroom bud 21 nc ns = true ∧ nativeFrameWords "java/lang/System" "arraycopy" 5 + 11 ≤ bud.2.1 then
          some [(77, zout E C N U (sx_acpF r FA) nc ns 3 [fn, fk, fi] (-2147483648) 2147483647)] else none
      | none => none
    | _, _, _, _, _, _ => none
set_option maxRecDepth 100000 in
theorem zm8_ok {L : Nat} {D : va_G} {b0 : Nat} {l : Launch} {Sg0 : Nat → Option Nat} {ρ0 : List Value} {bud : sx_Bu} {p : Program} {e : Env} {R : Room} {s : State} {m : MethodId} {args : Array Value} {below : List Frame} {meth : Method} {c : Code} {Q : State → Prop} {st : sx_St} {X : List (Nat × sx_St)} (h : zm8 bud st = some X) (hF : sx_Frm D zCl zAO zTB b0 zM83 bud p R s m args meth c)
    (hW : ∀ q ∈ X, sx_W zFT D zCl (sxRT L) b0 7 p l e R s m args below meth c Q Sg0 ρ0 q.1 q.2) : sx_W zFT D zCl (sxRT L) b0 7 p l e R s m args below meth c Q Sg0 ρ0 9 st := by
  obtain ⟨⟨⟨E, C, N, U⟩, FA⟩, ⟨L0, S⟩, nc, ns⟩ := st
  intro Sg H ρ ls stk locs hle hpre hP
  obtain ⟨hH, hG, ⟨hf1, hf2, hf3, hf4⟩, hV⟩ := hP
  have hE : sx_env Sg E ρ := hG.1
  have hCs : sx_cs C ρ := hG.2.1
  have hf3 : ∀ q ∈ L0, ∃ v, sx_av ρ q.2 v ∧ ls[q.1]? = some (.val v) := hf3
  unfold zm8 at h
  simp only at h
  split at h
  · rename_i z0 fn fk fi a4 hl0 hl1 hl2 hl3 hl4
    split at h
    · rename_i z r g hreg
      split at h
      · rename_i hc
        obtain ⟨c0, c1, c2, c3, c4, c5, c6, c7, c8⟩ := hc
        cases h
        obtain ⟨r1, r2, r3, r4⟩ := zroom_ok c7
        obtain ⟨g1, g2, g3⟩ := zint_ok c1
        have hr0 : r ≠ 0 := fun h => by rw [h] at c0; cases c0
        obtain ⟨th, e0⟩ := zlk_ref hf3 hl0
        obtain ⟨v, v1, e4⟩ := hf3 _ (sx_lk_mem hl4)
        obtain ⟨ad, cell, rfl, k1, k2, k3, -⟩ := sx_reg_ok (zreg6 (L := L) hreg hr0) hE hH v1
        rw [g1] at k3
        obtain ⟨n, hn, e1⟩ := zlk_int hf3 hl1
        obtain ⟨k, hk, e2⟩ := zlk_int hf3 hl2
        obtain ⟨i, hi, e3⟩ := zlk_int hf3 hl3
        obtain ⟨j0, hj0, e5⟩ := zlk_c hf3 c2
        obtain ⟨n0, n1⟩ := zbet_ok hE hCs hn c3
        obtain ⟨m0, m1⟩ := zbet_ok hE hCs hk c4
        have i0 := sx_ge_ok hE hCs hi c5
        have i1 := sx_ge_ok hE hCs (sx_addC_ok (c := -1) (sx_sub_ok hn hi)) c6
        have hst := zstk0 hf4
        subst hst
        have hl : lv_has ls 7 [(0, .ref th), (1, .int n), (2, .int k), (3, .int i), (4, .ref ad), (5, .int j0)] := ⟨hf1, hf2, fun q hq => by
          simp only [List.mem_cons, List.not_mem_nil, or_false] at hq
          rcases hq with rfl | rfl | rfl | rfl | rfl | rfl
          · exact e0
          · exact e1
          · exact e2
          · exact e3
          · exact e4
          · exact e5⟩
        obtain ⟨f, hf⟩ := pa_some hH k2 k3
        have hpa : pa_I zFT D zCl (sxRT L) b0 s Sg ρ ((E, C, N, U), sx_acpF r FA) ad r g.2.1 H locs f := ⟨hH, pa_acpG hG, hV, hf⟩
        refine zw_ring (Nn := n.toInt.toNat) (Kk := k.toInt.toNat) (Ii := i.toInt.toNat) hF r1 r2 c8 r3 r4 pa_acpF (by omega) (by omega) ⟨by omega, g3⟩ (by omega) ⟨by omega, by omega⟩ (by omega) (by omega) hj0 hpa hl (fun H' locs' f' ls' hpa' hl' => ?_)
        exact zout_ok hpa'.1 hpa'.2.1 hpa'.2.2.1 hle hpre hl' (k := 3) (xs := [n.toInt, k.toInt, i.toInt]) (by simp [hn, hk, hi]) rfl (by simpa using Int32.le_toInt _) (Int.le_of_lt_add_one (by simpa using Int32.toInt_lt _)) (hW _ List.mem_cons_self)
      · cases h
    · cases h
  · cases h
noncomputable def zm9 (bud : sx_Bu) (st : sx_St) : Option (List (Nat × sx_St)) := match st with
  | (((E, C, N, U), FA), (L, S), nc, ns) => match sx_lk L 0, sx_lk L 1, sx_lk L 2, sx_lk L 3, S with
    | some a0, some (0, fn), some (0, fk), some (0, fi), [] => match sx_reg E (sxRT 6) a0 with
      | some (_, rm, gm) => match sx_fget FA.1 rm 51 with
        | some a => match sx_reg E (sxRT 6) a with
          | some (z, r, g) => if (Nat.beq rm 0 = false ∧ gm.1 = 0 ∧ gm.2.1 = 12 ∧ a = (2, ((z : Int), []))) ∧ (Nat.beq r 0 = false ∧ Nat.beq rm r = false ∧ zint g 100 = true) ∧ sx_lk L 4 = some (0, (0, [])) ∧ zbet E C fn 1 100 = true ∧ zbet E C fk 1 100 = true ∧ sx_ge E C fi = true ∧ sx_ge E C (sx_addC (sx_sub fn fi) (-1)) = true then
              some [(148, zout E C N U (sx_acpF r FA) nc ns 3 [fn, fk, fi] (-2147483648) 2147483647)] else none
          | none => none
        | none => none
      | none => none
    | _, _, _, _, _ => none
set_option maxRecDepth 100000 in
theorem zm9_ok {L : Nat} {D : va_G} {b0 : Nat} {l : Launch} {Sg0 : Nat → Option Nat} {ρ0 : List Value} {bud : sx_Bu} {p : Program} {e : Env} {R : Room} {s : State} {m : MethodId} {args : Array Value} {below : List Frame} {meth : Method} {c : Code} {Q : State → Prop} {st : sx_St} {X : List (Nat × sx_St)} (h : zm9 bud st = some X) (hF : sx_Frm D zCl zAO zTB b0 zM179 bud p R s m args meth c)
    (hW : ∀ q ∈ X, sx_W zFT D zCl (sxRT L) b0 7 p l e R s m args below meth c Q Sg0 ρ0 q.1 q.2) : sx_W zFT D zCl (sxRT L) b0 7 p l e R s m args below meth c Q Sg0 ρ0 44 st := by
  obtain ⟨⟨⟨E, C, N, U⟩, FA⟩, ⟨L0, S⟩, nc, ns⟩ := st
  intro Sg H ρ ls stk locs hle hpre hP
  obtain ⟨hH, hG, ⟨hf1, hf2, hf3, hf4⟩, hV⟩ := hP
  have hE : sx_env Sg E ρ := hG.1
  have hCs : sx_cs C ρ := hG.2.1
  have hf3 : ∀ q ∈ L0, ∃ v, sx_av ρ q.2 v ∧ ls[q.1]? = some (.val v) := hf3
  unfold zm9 at h
  simp only at h
  split at h
  · rename_i a0 fn fk fi hl0 hl1 hl2 hl3
    split at h
    · rename_i z00 rm gm hregm
      split at h
      · rename_i a hfa
        split at h
        · rename_i z r g hreg
          split at h
          · rename_i hc
            obtain ⟨⟨c0, c1, c2, c3⟩, ⟨c4, c5, c6⟩, c7, c8, c9, c10, c11⟩ := hc
            cases h
            obtain ⟨g1, g2, g3⟩ := zint_ok c6
            have hrm0 : rm ≠ 0 := fun h => by rw [h] at c0; cases c0
            have hr0 : r ≠ 0 := fun h => by rw [h] at c4; cases c4
            have hrr : rm ≠ r := fun h => by rw [h, Nat.beq_refl] at c5; cases c5
            obtain ⟨v, v1, e0⟩ := hf3 _ (sx_lk_mem hl0)
            obtain ⟨th, cellm, rfl, -, k2, k3, -⟩ := sx_reg_ok (zreg6 (L := L) hregm hrm0) hE hH v1
            have hfm := sx_fget_mem hfa
            obtain ⟨-, -, -, -, w, -, -, -, -, -, -, hw⟩ := hG.2.2.2.2.1 _ hfm
            have hw : sx_av ρ a w := hw
            obtain ⟨ad, cell, rfl, j1, j2, j3, -⟩ := sx_reg_ok (zreg6 (L := L) hreg hr0) hE hH hw
            rw [g1] at j3
            obtain ⟨n, hn, e1⟩ := zlk_int hf3 hl1
            obtain ⟨k, hk, e2⟩ := zlk_int hf3 hl2
            obtain ⟨i, hi, e3⟩ := zlk_int hf3 hl3
            obtain ⟨j0, hj0, e4⟩ := zlk_c hf3 c7
            obtain ⟨n0, n1⟩ := zbet_ok hE hCs hn c8
            obtain ⟨m0, m1⟩ := zbet_ok hE hCs hk c9
            have i0 := sx_ge_ok hE hCs hi c10
            have i1 := sx_ge_ok hE hCs (sx_addC_ok (c := -1) (sx_sub_ok hn hi)) c11
            have hst := zstk0 hf4
            subst hst
            have hl : lv_has ls 7 [(0, .ref th), (1, .int n), (2, .int k), (3, .int i), (4, .int j0)] := ⟨hf1, hf2, fun q hq => by
              simp only [List.mem_cons, List.not_mem_nil, or_false] at hq
              rcases hq with rfl | rfl | rfl | rfl | rfl
              · exact e0
              · exact e1
              · exact e2
              · exact e3
              · exact e4⟩
            obtain ⟨f, hf⟩ := pa_some hH j2 j3
            have hpa : pa_I zFT D zCl (sxRT L) b0 s Sg ρ ((E, C, N, U), sx_acpF r FA) ad r g.2.1 H locs f := ⟨hH, pa_acpG hG, hV, hf⟩
            have hT : zthere (sxRT L) Sg ρ (sx_acpF r FA) ad th rm z 51 gm := ⟨k2, k3, c1, c2, sx_mem_flt.mpr ⟨by rw [← c3]; exact hfm, by simp [sx_nb_eq, sx_beq_eq, hrr]⟩, j1⟩
            refine zw_mring (Nn := n.toInt.toNat) (Kk := k.toInt.toNat) (Ii := i.toInt.toNat) hF hT pa_acpF (by omega) (by omega) (by omega) (by omega) ⟨by omega, by omega⟩ (by omega) (by omega) hj0 hpa hl (fun H' locs' f' ls' hpa' hl' => ?_)
            exact zout_ok hpa'.1 hpa'.2.1 hpa'.2.2.1 hle hpre hl' (k := 3) (xs := [n.toInt, k.toInt, i.toInt]) (by simp [hn, hk, hi]) rfl (by simpa using Int32.le_toInt _) (Int.le_of_lt_add_one (by simpa using Int32.toInt_lt _)) (hW _ List.mem_cons_self)
          · cases h
        · cases h
      · cases h
    · cases h
  · cases h
