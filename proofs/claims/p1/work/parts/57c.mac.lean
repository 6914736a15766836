/-! the claim's own hooks: WALTZ: an answer that is known is told as a function of the number asked, and back -/
/-- the number asked, where it is known: the script's second int -/
noncomputable def zfix (E : List sx_Ty) (FA : sx_FA) : Option (sx_LF × Int) := match sx_fget FA.1 0 1 with
  | some (0, fn) => match sx_rng E fn with
    | some (lo, hi) => if lo = hi then some (fn, lo) else none
    | none => none
  | _ => none
noncomputable def zm10 (st : sx_St) : Option (List (Nat × sx_St)) := match st with
  | (((E, C, N, U), FA), (L, S), nc, ns) => match sx_lk L 2, S with
    | some (2, z2), [(0, fa)] => match zfix E FA with
      | some (fn, v) => if 0 ≤ v ∧ fa = (zwz v, []) then some [(1224, ((((zfs E U 6 [fn] (-2147483648) 2147483647).1, C, N, (zfs E U 6 [fn] (-2147483648) 2147483647).2.1), FA), (L, [(2, z2), (0, (zfs E U 6 [fn] (-2147483648) 2147483647).2.2)]), nc, ns))]
        else some [(1224, (((E, C, N, U), FA), (L, [(2, z2), (0, fa)]), nc, ns))]
      | none => some [(1224, (((E, C, N, U), FA), (L, [(2, z2), (0, fa)]), nc, ns))]
    | _, _ => none
noncomputable def zwq (E : List sx_Ty) (U : List (Nat × List sx_LF × Nat)) (f : sx_LF) : Option Int := match U.find? (fun q => Nat.beq q.1 6 && decide (f = (0, [(q.2.2, 1)]))) with
  | some (_, [fn], _) => match sx_rng E fn with
    | some (lo, hi) => if lo = hi then some lo else none
    | none => none
  | _ => none
noncomputable def zm16 (st : sx_St) : Option (List (Nat × sx_St)) := match st with
  | (((E, C, N, U), FA), (L, S), nc, ns) => match S with
    | [(0, f2), (0, f1)] => if f1 = f2 then some [(1404, (((E, C, N, U), FA), (L, []), nc, ns))] else match zwq E U f1, sx_rng E f2 with
      | some v, some (a, b) => if a = b ∧ a = zwz v then some [(1404, (((E, C, N, U), FA), (L, []), nc, ns))] else none
      | _, _ => none
    | _ => none
section ZM2
variable {L : Nat} {D : va_G} {b0 : Nat} {l : Launch} {Sg0 : Nat → Option Nat} {ρ0 : List Value} {bud : sx_Bu} {p : Program} {e : Env} {R : Room} {s : State} {m : MethodId} {args : Array Value} {below : List Frame} {meth : Method} {c : Code} {Q : State → Prop} {st : sx_St} {X : List (Nat × sx_St)}
set_option maxRecDepth 100000 in
theorem zm10_ok (h : zm10 st = some X) (hF : sx_Frm D zCl zAO zTB b0 zM0 bud p R s m args meth c) (hW : ∀ q ∈ X, sx_W zFT D zCl (sxRT L) b0 4 p l e R s m args below meth c Q Sg0 ρ0 q.1 q.2) : sx_W zFT D zCl (sxRT L) b0 4 p l e R s m args below meth c Q Sg0 ρ0 1223 st := by
  obtain ⟨⟨⟨E, C, N, U⟩, FA⟩, ⟨L0, S⟩, nc, ns⟩ := st
  intro Sg H ρ ls stk locs hle hpre hP
  have hR := zkDe_rows zDe0
  obtain ⟨hx, hb, -, -, -⟩ := id hF.1
  obtain ⟨hH, hG, ⟨hf1, hf2, hf3, hf4⟩, hV⟩ := hP
  have hE : sx_env Sg E ρ := hG.1
  have hf3 : ∀ q ∈ L0, ∃ v, sx_av ρ q.2 v ∧ ls[q.1]? = some (.val v) := hf3
  unfold zm10 at h
  simp only at h
  split at h
  · rename_i z2 fa hl2
    obtain ⟨w2, v2, e2⟩ := hf3 _ (sx_lk_mem hl2)
    have v2' := v2
    obtain ⟨-, a2, rfl⟩ := sx_av_ref v2'
    obtain ⟨w, t1, rfl, va, h1⟩ := sx_stk_cons hf4
    obtain rfl := sx_stk_nil h1
    have va' := va
    obtain ⟨y, rfl, hy⟩ := sx_av_int va'
    have plain : sx_W zFT D zCl (sxRT L) b0 4 p l e R s m args below meth c Q Sg0 ρ0 1224 (((E, C, N, U), FA), (L0, [(2, z2), (0, fa)]), nc, ns) → W p l e R s m args below meth c H locs nc ns Q (F0 m 1223 ls [.int y]) := fun hw =>
      lv_aload_n hx hb (pv_row hR rfl) rfl e2 (hw Sg H ρ ls _ locs hle hpre ⟨hH, hG, ⟨hf1, hf2, hf3, v2, va, trivial⟩, hV⟩)
    split at h
    · rename_i fn v hfix
      split at h
      · rename_i hc
        cases h
        obtain ⟨c1, c2⟩ := hc
        unfold zfix at hfix
        split at hfix
        · rename_i fn' hfg
          split at hfix
          · rename_i lo hi hrng
            split at hfix
            · rename_i hlh
              cases hfix
              obtain ⟨n, n1, n2, n3⟩ := sx_rng_ok hE hrng
              have hnv : n = v := by omega
              have hyv : y.toInt = zwz v := by rw [c2] at hy; exact sx_lf_const hy rfl
              obtain ⟨ρ2, gg, av⟩ := zfs_ok hG (k := 6) (fs := [fn]) (xs := [n]) (lo := -2147483648) (hi := 2147483647) (a := y) (by simp [n1]) (by rw [hyv, hnv]; rfl) (by simpa using Int32.le_toInt y) (Int.le_of_lt_add_one (by simpa using Int32.toInt_lt y))
              have hF2 := sx_Fr_ext (ρ2 := ρ2) ⟨hf1, hf2, hf3, hf4⟩
              exact lv_aload_n hx hb (pv_row hR rfl) rfl e2 (hW _ List.mem_cons_self Sg H (ρ ++ ρ2) ls _ locs hle (hpre.trans (List.prefix_append ρ ρ2)) ⟨hH, gg, ⟨hF2.1, hF2.2.1, hF2.2.2.1, sx_av_ext v2, av, trivial⟩, hV⟩)
            · cases hfix
          · cases hfix
        · cases hfix
      · cases h
        exact plain (hW _ List.mem_cons_self)
    · cases h
      exact plain (hW _ List.mem_cons_self)
  · cases h
set_option maxRecDepth 100000 in
theorem zm16_ok (h : zm16 st = some X) (hF : sx_Frm D zCl zAO zTB b0 zM0 bud p R s m args meth c) (hW : ∀ q ∈ X, sx_W zFT D zCl (sxRT L) b0 4 p l e R s m args below meth c Q Sg0 ρ0 q.1 q.2) : sx_W zFT D zCl (sxRT L) b0 4 p l e R s m args below meth c Q Sg0 ρ0 1232 st := by
  obtain ⟨⟨⟨E, C, N, U⟩, FA⟩, ⟨L0, S⟩, nc, ns⟩ := st
  intro Sg H ρ ls stk locs hle hpre hP
  have hR := zkDe_rows zDe0
  obtain ⟨hH, hG, ⟨hf1, hf2, hf3, hf4⟩, hV⟩ := hP
  have hE : sx_env Sg E ρ := hG.1
  unfold zm16 at h
  simp only at h
  split at h
  · rename_i f2 f1
    obtain ⟨w2, t1, rfl, va2, h1⟩ := sx_stk_cons hf4
    obtain ⟨w1, t2, rfl, va1, h2⟩ := sx_stk_cons h1
    obtain rfl := sx_stk_nil h2
    obtain ⟨y2, rfl, hy2⟩ := sx_av_int va2
    obtain ⟨y1, rfl, hy1⟩ := sx_av_int va1
    have go : y1.toInt = y2.toInt → sx_W zFT D zCl (sxRT L) b0 4 p l e R s m args below meth c Q Sg0 ρ0 1404 (((E, C, N, U), FA), (L0, []), nc, ns) → W p l e R s m args below meth c H locs nc ns Q (F0 m 1232 ls [.int y2, .int y1]) := fun he hw =>
      pv_icmp hF.1 hR .eq 172 1404 rfl rfl (fun _ => hw Sg H ρ ls [] locs hle hpre ⟨hH, hG, ⟨hf1, hf2, hf3, trivial⟩, hV⟩) (fun h => absurd he h)
    split at h
    · rename_i hff
      cases h
      rw [hff] at hy1
      exact go (Option.some.inj (hy1.symm.trans hy2)) (hW _ List.mem_cons_self)
    · split at h
      · rename_i v a b hq hr2
        split at h
        · rename_i hc
          cases h
          obtain ⟨n2, m1, m2, m3⟩ := sx_rng_ok hE hr2
          rw [hy2] at m1
          cases m1
          refine go ?_ (hW _ List.mem_cons_self)
          unfold zwq at hq
          split at hq
          · rename_i k fn z hfd
            split at hq
            · rename_i lo hi hrng
              split at hq
              · rename_i hlh
                cases hq
                have p1 := List.mem_of_find?_eq_some hfd
                have p2 := List.find?_some hfd
                simp only [Bool.and_eq_true, decide_eq_true_eq] at p2
                obtain ⟨p3, p4⟩ := p2
                have p3 : k = 6 := Nat.eq_of_beq_eq_true p3
                subst p3
                obtain ⟨xs, x, q1, q2, q3⟩ := hG.2.2.2.1 _ p1
                obtain ⟨n, n1, n2', n3⟩ := sx_rng_ok hE hrng
                have hxs : xs = [n] := by
                  have q1 : [sx_lf ρ fn] = xs.map some := q1
                  rw [n1] at q1
                  cases xs with
                  | nil => cases q1
                  | cons x0 xs =>
                    simp only [List.map_cons, List.cons.injEq, Option.some.injEq] at q1
                    cases xs with
                    | nil => rw [q1.1]
                    | cons _ _ => simp at q1
                have q2 : ρ[z]? = some (.int x) := q2
                have q3 : x.toInt = zFT 6 xs := q3
                have e1 : sx_lf ρ f1 = some x.toInt := by
                  rw [p4]
                  exact sx_sym_ok (by unfold sx_iv; rw [q2])
                rw [hy1] at e1
                have e2 : y1.toInt = x.toInt := Option.some.inj e1
                have hnv : n = v := by omega
                rw [e2, q3, hxs, hnv]
                show zwz v = _
                omega
              · cases hq
            · cases hq
          · cases hq
        · cases h
      · cases h
  · cases h
end ZM2
noncomputable def zmac : sx_Mac := fun h _ bud _ st => match h.2.1 with
  | 3 => zm3 bud st
  | 4 => zm4 bud st
  | 5 => zm5 bud st
  | 6 => zm6 bud st
  | 7 => zm7 bud st
  | 8 => zm8 bud st
  | 9 => zm9 bud st
  | 10 => zm10 st
  | 11 => zm11 bud st
  | 12 => zm12 bud st
  | 13 => zm13 bud st
  | 14 => zm14 bud st
  | 15 => zm15 bud st
  | 16 => zm16 st
  | _ => none
