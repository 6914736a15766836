/-! states that tell less, with functions of ints among what they tell -/
def sx_rnFs (sg : List Nat) : List sx_LF → Option (List sx_LF)
  | [] => some []
  | f :: fs => match sx_rnT sg f.2, sx_rnFs sg fs with
    | some t, some r => some ((f.1, t) :: r)
    | _, _ => none
def sx_rnU (sg : List Nat) (U : List (Nat × List sx_LF × Nat)) (q : Nat × List sx_LF × Nat) : Bool := match sx_rnFs sg q.2.1, sg[q.2.2]? with
  | some fs, some z => U.any (fun r => Nat.beq r.1 q.1 && decide (r.2.1 = fs) && Nat.beq r.2.2 z)
  | _, _ => false
noncomputable def sx_instU (sg : List Nat) (st' st : sx_St) : Bool := match st', st with
  | (((E', C', N', U'), FA'), R'), (((_, _, _, U), _), _) => U'.all (sx_rnU sg U) && sx_inst sg (((E', C', N', []), FA'), R') st
theorem sx_rnFs_ok {sg : List Nat} {ρ : List Value} : ∀ {fs' fs : List sx_LF} {xs : List Int}, sx_rnFs sg fs' = some fs → fs.map (sx_lf ρ) = xs.map some → fs'.map (sx_lf (sx_rho sg ρ)) = xs.map some
  | [], fs, xs, h, k => by
    simp only [sx_rnFs] at h
    cases h
    exact k
  | f :: fs', fs, xs, h, k => by
    simp only [sx_rnFs] at h
    split at h
    · rename_i t r ht hr
      cases h
      cases xs with
      | nil => simp at k
      | cons x xs =>
        simp only [List.map_cons, List.cons.injEq] at k ⊢
        refine ⟨?_, sx_rnFs_ok hr k.2⟩
        have k1 := k.1
        unfold sx_lf at k1 ⊢
        split at k1
        · rename_i s hs
          rw [sx_rnT_ok ht hs]
          exact k1
        · cases k1
    · cases h
section SX18U
variable {FT : Nat → List Int → Int} {D : va_G} {cl : List vw_C} {RT : Nat → Option sx_Rg} {b0 nL : Nat} {p : Program} {l : Launch} {e : Env} {R : Room} {s : State} {m : MethodId} {args : Array Value} {below : List Frame} {meth : Method} {c : Code} {Q : State → Prop} {pc : Nat}
theorem sx_instU_ok {sg : List Nat} {st' st : sx_St} (h : sx_instU sg st' st = true) (hW : sx_W FT D cl RT b0 nL p l e R s m args below meth c Q (fun _ => none) [] pc st') {Sg0 : Nat → Option Nat} {ρ0 : List Value} : sx_W FT D cl RT b0 nL p l e R s m args below meth c Q Sg0 ρ0 pc st := by
  obtain ⟨⟨⟨E', C', N', U'⟩, F', A', n'⟩, ⟨L', S'⟩, nc', ns'⟩ := st'
  obtain ⟨⟨⟨E, C, N, U⟩, F, A, n⟩, ⟨L, S⟩, nc, ns⟩ := st
  intro Sg H ρ ls stk locs hle hpre hP
  unfold sx_instU at h
  simp only [Bool.and_eq_true] at h
  obtain ⟨hU, h⟩ := h
  unfold sx_inst at h
  simp only [Bool.and_eq_true, List.isEmpty_iff] at h
  obtain ⟨⟨⟨⟨⟨⟨⟨⟨⟨⟨h1, h2⟩, h3⟩, h4⟩, h5⟩, h6⟩, h7⟩, h8⟩, h9⟩, h10⟩, h11⟩ := h
  subst h2; subst h3
  have h7 := Nat.eq_of_beq_eq_true h7
  have h10 := Nat.eq_of_beq_eq_true h10
  have h11 := Nat.eq_of_beq_eq_true h11
  subst h7; subst h10; subst h11
  obtain ⟨hH, ⟨g1, g2, g3, g4, g5, g6, g7⟩, ⟨f1, f2, f3, f4⟩, hV⟩ := hP
  refine hW Sg H (sx_rho sg ρ) ls stk locs (fun a r ha => by cases ha) (List.nil_prefix) ⟨hH, ⟨sx_rnEs_ok g1 h1, fun f hf => by simp at hf, fun f hf => by simp at hf, fun q hq => ?_, fun q hq => ?_, fun q hq => ?_, g7⟩, ⟨f1, f2, fun q hq => ?_, sx_rnS_ok h9 f4⟩, hV⟩
  · have hq2 := List.all_eq_true.mp hU q hq
    unfold sx_rnU at hq2
    split at hq2
    · rename_i fs z hfs hz
      obtain ⟨r, hr1, hr2⟩ := List.any_eq_true.mp hq2
      simp only [Bool.and_eq_true, decide_eq_true_eq] at hr2
      obtain ⟨⟨r1, r2⟩, r3⟩ := hr2
      have r1 := Nat.eq_of_beq_eq_true r1
      have r3 := Nat.eq_of_beq_eq_true r3
      obtain ⟨xs, x, q1, q2, q3⟩ := g4 r hr1
      rw [r2] at q1
      rw [r3] at q2
      rw [r1] at q3
      exact ⟨xs, x, sx_rnFs_ok hfs q1, sx_rho_get hz q2, q3⟩
    · cases hq2
  · have hq := List.all_eq_true.mp h5 q hq
    simp only [Bool.and_eq_true, decide_eq_true_eq] at hq
    obtain ⟨q1, q2⟩ := hq
    obtain ⟨a, ha⟩ := Option.isSome_iff_exists.mp q2
    rw [ha] at q1
    obtain ⟨ad, r, g, cell, v, k1, k2, k3, k4, k5, k6, k7⟩ := g5 _ (sx_fget_mem q1.symm)
    exact ⟨ad, r, g, cell, v, k1, k2, k3, k4, k5, k6, sx_rnA_ok ha k7⟩
  · have hq := List.all_eq_true.mp h6 q hq
    simp only [decide_eq_true_eq] at hq
    exact g6 q (sx_fnd_mem hq)
  · have hq := List.all_eq_true.mp h8 q hq
    simp only [Bool.and_eq_true, decide_eq_true_eq] at hq
    obtain ⟨q1, q2⟩ := hq
    obtain ⟨a, ha⟩ := Option.isSome_iff_exists.mp q2
    rw [ha] at q1
    obtain ⟨v, k1, k2⟩ := f3 _ (sx_lk_mem q1.symm)
    exact ⟨v, sx_rnA_ok ha k1, k2⟩
end SX18U
/-- a run that ends, wherever it isn't whole, at a state of which 'mid' tells less -/
noncomputable def zmid (pc' : Nat) (sg : List Nat) (mid : sx_St) (pc : Nat) (st : sx_St) : Bool := Nat.beq pc pc' && (match st.2.1.2 with
  | [_, (0, (0, [(z, 1)]))] => sx_instU (sg ++ [z]) mid st
  | _ => false)
noncomputable def zrunm (cks : Nat → sx_St → Bool) (pc : Nat) (st : sx_St) : Bool := sx_ex zCl (sxRT 6) sxCJ zMT zCDs zmac 100000 zM0 zbud [] cks pc st zk0
