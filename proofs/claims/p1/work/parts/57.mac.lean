/-! the claim's own hooks: loops that are walked by hand, their answers as functions -/
def zFT : Nat → List Int → Int := fun k xs => match k, xs with
  | 0, [n] => zsum 10 true n
  | _, _ => 0
def zsym (U : List (Nat × List sx_LF × Nat)) (k : Nat) (xs : List sx_LF) : Option Nat := match U.find? (fun q => q.1 == k && decide (q.2.1 = xs)) with
  | some q => some q.2.2
  | none => none
/-- the symbol of an answer: the one that stands there, or a new one -/
def zfs (E : List sx_Ty) (U : List (Nat × List sx_LF × Nat)) (k : Nat) (xs : List sx_LF) (lo hi : Int) : List sx_Ty × List (Nat × List sx_LF × Nat) × sx_LF := match zsym U k xs with
  | some z => (E, U, (0, [(z, 1)]))
  | none => (E ++ [(0, lo, hi)], (k, xs, E.length) :: U, (0, [(E.length, 1)]))
theorem zsym_ok {U : List (Nat × List sx_LF × Nat)} {k : Nat} {xs : List sx_LF} {z : Nat} (h : zsym U k xs = some z) : (k, xs, z) ∈ U := by
  unfold zsym at h
  split at h
  · rename_i q hq
    cases h
    have h1 := List.mem_of_find?_eq_some hq
    have h2 := List.find?_some hq
    simp at h2
    obtain ⟨rfl, rfl⟩ := h2
    exact h1
  · cases h
theorem zmap_det {ρ : List Value} : ∀ {fs : List sx_LF} {xs ys : List Int}, fs.map (sx_lf ρ) = xs.map some → fs.map (sx_lf ρ) = ys.map some → xs = ys
  | [], [], [], _, _ => rfl
  | f :: fs, x :: xs, y :: ys, h, k => by
    simp only [List.map_cons, List.cons.injEq] at h k
    have := zmap_det h.2 k.2
    have e := Option.some.inj (h.1.symm.trans k.1)
    rw [e, this]
  | [], _ :: _, _, h, _ => by simp at h
  | [], [], _ :: _, _, k => by simp at k
  | _ :: _, [], _, h, _ => by simp at h
  | _ :: _, _ :: _, [], _, k => by simp at k
theorem zfs_ok {FT : Nat → List Int → Int} {D : va_G} {RT : Nat → Option sx_Rg} {Sg : Nat → Option Nat} {H : Heap} {ρ : List Value} {E : List sx_Ty} {C N : List sx_LF} {U : List (Nat × List sx_LF × Nat)} {FA : sx_FA} (hG : sx_G FT D RT Sg H ρ ((E, C, N, U), FA)) {k : Nat} {fs : List sx_LF} {xs : List Int} {lo hi : Int} {a : Int32}
    (hxs : fs.map (sx_lf ρ) = xs.map some) (ha : a.toInt = FT k xs) (h1 : lo ≤ a.toInt) (h2 : a.toInt ≤ hi) : ∃ ρ2, sx_G FT D RT Sg H (ρ ++ ρ2) (((zfs E U k fs lo hi).1, C, N, (zfs E U k fs lo hi).2.1), FA) ∧ sx_av (ρ ++ ρ2) (0, (zfs E U k fs lo hi).2.2) (.int a) := by
  unfold zfs
  split
  · rename_i z hz
    obtain ⟨ys, y, q1, q2, q3⟩ := hG.2.2.2.1 _ (zsym_ok hz)
    have hy : ys = xs := zmap_det q1 hxs
    have hya : y = a := Int32.toInt_inj.mp (by rw [q3, hy, ha])
    refine ⟨[], by rw [List.append_nil]; exact hG, sx_int_av (sx_sym_ok ?_)⟩
    rw [List.append_nil]
    unfold sx_iv
    have q2 : ρ[z]? = some (.int y) := q2
    rw [q2, hya]
  · have hG2 := sx_G_ext (t := (0, lo, hi)) (v := .int a) hG (Or.inl ⟨rfl, a, rfl, h1, h2⟩)
    have hs : (ρ ++ [Value.int a])[E.length]? = some (.int a) := sx_iv_new hG.1.1
    obtain ⟨g1, g2, g3, g4, g5, g6⟩ := hG2
    refine ⟨[.int a], ⟨g1, g2, g3, fun q hq => ?_, g5, g6⟩, sx_int_av (sx_sym_ok (by unfold sx_iv; rw [hs]))⟩
    rcases List.mem_cons.mp hq with rfl | hq
    · exact ⟨xs, a, sx_mapM_ext hxs, hs, ha⟩
    · exact g4 q hq
noncomputable def zmac : sx_Mac := fun h _ _ _ st => match st with
  | (((E, C, N, U), FA), (L, S), nc, ns) => match h.2.1 with
    | 3 => match sx_lk L 0, S with
      | some (0, f), [] => if sx_lk L 1 = some (0, (0, [])) ∧ sx_lk L 2 = some (0, f) ∧ sx_lk L 3 = some (0, (0, [])) ∧ sx_ge E C f = true then
          some [(66, ((((zfs E U 0 [f] 0 90).1, C, N, (zfs E U 0 [f] 0 90).2.1), FA), ([(0, (0, f)), (1, (0, (zfs E U 0 [f] 0 90).2.2))], []), nc, ns))] else none
      | _, _ => none
    | 4 => match sx_lk L 0, sx_lk L 1, S with
      | some (2, _), some (0, f), [] => if sx_lk L 2 = some (0, (0, [])) ∧ sx_lk L 3 = some (0, (1, [])) ∧ sx_lk L 4 = some (0, f) ∧ sx_ge E C f = true then
          some [(69, ((((zfs E U 0 [f] 0 90).1, C, N, (zfs E U 0 [f] 0 90).2.1), FA), ([(1, (0, f)), (2, (0, (zfs E U 0 [f] 0 90).2.2))], []), nc, ns))] else none
      | _, _, _ => none
    | _ => none
theorem zlk_int {ρ : List Value} {ls : Array Slot} {L : List (Nat × sx_AV)} (hL : ∀ q ∈ L, ∃ v, sx_av ρ q.2 v ∧ ls[q.1]? = some (.val v)) {j : Nat} {f : sx_LF} (h : sx_lk L j = some (0, f)) : ∃ x : Int32, sx_lf ρ f = some x.toInt ∧ ls[j]? = some (.val (.int x)) := by
  obtain ⟨v, v1, v2⟩ := hL _ (sx_lk_mem h)
  obtain ⟨x, rfl, hx⟩ := sx_av_int v1
  exact ⟨x, hx, v2⟩
theorem zlk_c {ρ : List Value} {ls : Array Slot} {L : List (Nat × sx_AV)} (hL : ∀ q ∈ L, ∃ v, sx_av ρ q.2 v ∧ ls[q.1]? = some (.val v)) {j : Nat} {n : Int} (h : sx_lk L j = some (0, (n, []))) : ∃ x : Int32, x.toInt = n ∧ ls[j]? = some (.val (.int x)) := by
  obtain ⟨x, h1, h2⟩ := zlk_int hL h
  exact ⟨x, sx_lf_const h1 rfl, h2⟩
theorem zlk_eq {ρ : List Value} {ls : Array Slot} {L : List (Nat × sx_AV)} (hL : ∀ q ∈ L, ∃ v, sx_av ρ q.2 v ∧ ls[q.1]? = some (.val v)) {j : Nat} {f : sx_LF} {x : Int32} (hx : sx_lf ρ f = some x.toInt) (h : sx_lk L j = some (0, f)) : ls[j]? = some (.val (.int x)) := by
  obtain ⟨y, h1, h2⟩ := zlk_int hL h
  have : y = x := Int32.toInt_inj.mp (Option.some.inj (h1.symm.trans hx))
  rw [← this]; exact h2
theorem zlk_ref {ρ : List Value} {ls : Array Slot} {L : List (Nat × sx_AV)} (hL : ∀ q ∈ L, ∃ v, sx_av ρ q.2 v ∧ ls[q.1]? = some (.val v)) {j : Nat} {f : sx_LF} (h : sx_lk L j = some (2, f)) : ∃ a : Nat, ls[j]? = some (.val (.ref a)) := by
  obtain ⟨v, v1, v2⟩ := hL _ (sx_lk_mem h)
  obtain ⟨-, q, rfl⟩ := sx_av_ref v1
  exact ⟨q, v2⟩
theorem zstk0 {ρ : List Value} {stk : List Value} (h : sx_stk ρ [] stk) : stk = [] := by
  cases stk with
  | nil => rfl
  | cons v t => exact h.elim
set_option maxHeartbeats 1000000 in
theorem zmacok (D : va_G) (b0 L : Nat) (l : Launch) : sx_macok zFT D zCl (sxRT L) zAO zTB b0 l zMT zmac := by
  intro h M bud pc st X hM hh hpc hmac p e R s m args below meth c Q Sg0 ρ0 hF hW
  have hk := zHhk M hM h hh
  obtain ⟨⟨⟨E, C, N, U⟩, FA⟩, ⟨L0, S⟩, nc, ns⟩ := st
  intro Sg H ρ ls stk locs hle hpre hP
  obtain ⟨hH, hG, ⟨hf1, hf2, hf3, hf4⟩, hV⟩ := hP
  have hE : sx_env Sg E ρ := hG.1
  have hCs : sx_cs C ρ := hG.2.1
  have hf3 : ∀ q ∈ L0, ∃ v, sx_av ρ q.2 v ∧ ls[q.1]? = some (.val v) := hf3
  unfold zmac at hmac
  simp only at hmac
  split at hmac
  · rename_i h3
    obtain ⟨rfl, h6⟩ := hk.1 h3
    obtain rfl : pc = 6 := by rw [← hpc, h6]
    split at hmac
    · rename_i f hl0
      split at hmac
      · rename_i hc
        obtain ⟨c1, c2, c3, c4⟩ := hc
        cases hmac
        obtain ⟨x, hx, e0⟩ := zlk_int hf3 hl0
        obtain ⟨a0, ha0, e1⟩ := zlk_c hf3 c1
        have e2 := zlk_eq hf3 hx c2
        obtain ⟨i0, hi0, e3⟩ := zlk_c hf3 c3
        have hx0 := sx_ge_ok hE hCs hx c4
        have hst := zstk0 hf4
        subst hst
        have hl : lv_has ls 6 [(0, .int x), (1, .int a0), (2, .int x), (3, .int i0)] := ⟨hf1, hf2, fun q hq => by
          simp only [List.mem_cons, List.not_mem_nil, or_false] at hq
          rcases hq with rfl | rfl | rfl | rfl
          · exact e0
          · exact e1
          · exact e2
          · exact e3⟩
        refine zwc hF.1 10 hl (by omega) (by rw [hi0]; rfl) hx0 (by omega) (by omega) (fun a ls' ha hl' => ?_)
        have hsl := zsum_le 10 true x.toInt hx0
        have ha2 : a.toInt = zFT 0 [x.toInt] := by rw [ha, ha0]; show 0 + zsum 10 true x.toInt = zsum 10 true x.toInt; omega
        have hz2 : zFT 0 [x.toInt] = zsum 10 true x.toInt := rfl
        obtain ⟨ρ2, g, av⟩ := zfs_ok hG (k := 0) (fs := [f]) (xs := [x.toInt]) (lo := 0) (hi := 90) (a := a) (by simp [hx]) ha2 (by omega) (by omega)
        refine hW _ List.mem_cons_self Sg H (ρ ++ ρ2) ls' [] locs hle (hpre.trans (List.prefix_append ρ ρ2)) ⟨hH, g, ⟨hl'.1, hl'.2.1, fun q hq => ?_, trivial⟩, hV⟩
        rcases List.mem_cons.mp hq with rfl | hq
        · exact ⟨.int x, sx_int_av (sx_lf_ext hx), hl'.2.2 (0, .int x) List.mem_cons_self⟩
        · rcases List.mem_cons.mp hq with rfl | hq
          · exact ⟨.int a, av, hl'.2.2 (1, .int a) (List.mem_cons_of_mem _ List.mem_cons_self)⟩
          · exact absurd hq List.not_mem_nil
      · cases hmac
    · cases hmac
  · rename_i h3
    obtain ⟨rfl, h6⟩ := hk.2 h3
    obtain rfl : pc = 7 := by rw [← hpc, h6]
    split at hmac
    · rename_i z f hl0 hl1
      split at hmac
      · rename_i hc
        obtain ⟨c1, c2, c3, c4⟩ := hc
        cases hmac
        obtain ⟨th, e0⟩ := zlk_ref hf3 hl0
        obtain ⟨x, hx, e1⟩ := zlk_int hf3 hl1
        obtain ⟨a0, ha0, e2⟩ := zlk_c hf3 c1
        obtain ⟨i0, hi0, e3⟩ := zlk_c hf3 c2
        have e4 := zlk_eq hf3 hx c3
        have hx0 := sx_ge_ok hE hCs hx c4
        have hst := zstk0 hf4
        subst hst
        have hl : lv_has ls 6 [(0, .ref th), (1, .int x), (2, .int a0), (3, .int i0), (4, .int x)] := ⟨hf1, hf2, fun q hq => by
          simp only [List.mem_cons, List.not_mem_nil, or_false] at hq
          rcases hq with rfl | rfl | rfl | rfl | rfl
          · exact e0
          · exact e1
          · exact e2
          · exact e3
          · exact e4⟩
        have hxb := Int32.toInt_lt x
        refine zwm hF.1 10 true hl (by omega) (by rw [hi0]; rfl) hx0 (by omega) (by omega) (by omega) (fun a ls' ha hl' => ?_)
        have hsl := zsum_le 10 true x.toInt hx0
        have ha2 : a.toInt = zFT 0 [x.toInt] := by rw [ha, ha0]; show 0 + zsum 10 true x.toInt = zsum 10 true x.toInt; omega
        have hz2 : zFT 0 [x.toInt] = zsum 10 true x.toInt := rfl
        obtain ⟨ρ2, g, av⟩ := zfs_ok hG (k := 0) (fs := [f]) (xs := [x.toInt]) (lo := 0) (hi := 90) (a := a) (by simp [hx]) ha2 (by omega) (by omega)
        refine hW _ List.mem_cons_self Sg H (ρ ++ ρ2) ls' [] locs hle (hpre.trans (List.prefix_append ρ ρ2)) ⟨hH, g, ⟨hl'.1, hl'.2.1, fun q hq => ?_, trivial⟩, hV⟩
        rcases List.mem_cons.mp hq with rfl | hq
        · exact ⟨.int x, sx_int_av (sx_lf_ext hx), hl'.2.2 (1, .int x) List.mem_cons_self⟩
        · rcases List.mem_cons.mp hq with rfl | hq
          · exact ⟨.int a, av, hl'.2.2 (2, .int a) (List.mem_cons_of_mem _ List.mem_cons_self)⟩
          · exact absurd hq List.not_mem_nil
      · cases hmac
    · cases hmac
  · cases hmac
