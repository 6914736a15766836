/-! sx, branches -/
def sx_neg (f : sx_LF) : sx_LF := sx_mul (-1) f
def sx_asEq (d : sx_LF) (E : List sx_Ty) (C : List sx_LF) : Option (List sx_Ty × List sx_LF) := match sx_assume d E C with
  | some (E', C') => sx_assume (sx_neg d) E' C'
  | none => none
theorem sx_asEq_ok {Sg : Nat → Option Nat} {E : List sx_Ty} {C : List sx_LF} {ρ : List Value} (h : sx_env Sg E ρ) (hC : sx_cs C ρ) {d : sx_LF} (hd : sx_lf ρ d = some 0) : ∃ E' C', sx_asEq d E C = some (E', C') ∧ sx_env Sg E' ρ ∧ sx_cs C' ρ := by
  obtain ⟨E1, C1, e1, h1, h2⟩ := sx_assume_ok h hC hd (Int.le_refl 0)
  obtain ⟨E2, C2, e2, h3, h4⟩ := sx_assume_ok h1 h2 (f := sx_neg d) (sx_mul_ok (k := -1) hd) (by omega)
  exact ⟨E2, C2, by unfold sx_asEq; rw [e1]; exact e2, h3, h4⟩
def sx_asNe (d : sx_LF) (E : List sx_Ty) (C N : List sx_LF) : Option (List sx_Ty × List sx_LF × List sx_LF) :=
  if sx_ge E C d then (if sx_ge E C (sx_neg d) then none else match sx_assume (sx_addC d (-1)) E C with
    | some (E', C') => some (E', C', N)
    | none => none)
  else if sx_ge E C (sx_neg d) then (match sx_assume (sx_addC (sx_neg d) (-1)) E C with
    | some (E', C') => some (E', C', N)
    | none => none)
  else some (E, C, d :: N)
theorem sx_asNe_ok {Sg : Nat → Option Nat} {E : List sx_Ty} {C N : List sx_LF} {ρ : List Value} (h : sx_env Sg E ρ) (hC : sx_cs C ρ) (hN : ∀ f ∈ N, ∃ n, sx_lf ρ f = some n ∧ n ≠ 0) {d : sx_LF} {n : Int} (hd : sx_lf ρ d = some n) (hn : n ≠ 0) :
    ∃ E' C' N', sx_asNe d E C N = some (E', C', N') ∧ sx_env Sg E' ρ ∧ sx_cs C' ρ ∧ ∀ f ∈ N', ∃ n, sx_lf ρ f = some n ∧ n ≠ 0 := by
  have hm : sx_lf ρ (sx_neg d) = some (-1 * n) := sx_mul_ok (k := -1) hd
  unfold sx_asNe
  split
  · rename_i h1
    have k1 := sx_ge_ok h hC hd h1
    split
    · rename_i h2
      have k2 := sx_ge_ok h hC hm h2
      omega
    · obtain ⟨E1, C1, e1, h3, h4⟩ := sx_assume_ok h hC (sx_addC_ok (c := -1) hd) (by omega)
      rw [e1]
      exact ⟨E1, C1, N, rfl, h3, h4, hN⟩
  · split
    · rename_i h2
      have k2 := sx_ge_ok h hC hm h2
      obtain ⟨E1, C1, e1, h3, h4⟩ := sx_assume_ok h hC (sx_addC_ok (c := -1) hm) (by omega)
      rw [e1]
      exact ⟨E1, C1, N, rfl, h3, h4, hN⟩
    · refine ⟨E, C, d :: N, rfl, h, hC, fun f hf => ?_⟩
      rcases List.mem_cons.mp hf with rfl | hf
      · exact ⟨n, hd, hn⟩
      · exact hN f hf
/-- 'x cond y', as ints -/
def sx_holds (cd : ClassFile.Cond) (x y : Int) : Prop := match cd with
  | .eq => x = y
  | .ne => x ≠ y
  | .lt => x < y
  | .ge => y ≤ x
  | .gt => y < x
  | .le => x ≤ y
def sx_opp (cd : ClassFile.Cond) : ClassFile.Cond := match cd with
  | .eq => .ne
  | .ne => .eq
  | .lt => .ge
  | .ge => .lt
  | .gt => .le
  | .le => .gt
/-- what is not 0 and not below it is above it -/
def sx_sharp : List sx_LF → List sx_Ty → List sx_LF → Option (List sx_Ty × List sx_LF)
  | [], E, C => some (E, C)
  | f :: r, E, C => if sx_lo0 E f then (if sx_ge E C (sx_addC f (-1)) then sx_sharp r E C else match sx_assume (sx_addC f (-1)) E C with
      | some (E', C') => sx_sharp r E' C'
      | none => none)
    else if sx_lo0 E (sx_neg f) then (if sx_ge E C (sx_addC (sx_neg f) (-1)) then sx_sharp r E C else match sx_assume (sx_addC (sx_neg f) (-1)) E C with
      | some (E', C') => sx_sharp r E' C'
      | none => none)
    else sx_sharp r E C
theorem sx_sharp_ok {Sg : Nat → Option Nat} {ρ : List Value} : ∀ (N : List sx_LF) (E : List sx_Ty) (C : List sx_LF), sx_env Sg E ρ → sx_cs C ρ → (∀ f ∈ N, ∃ n, sx_lf ρ f = some n ∧ n ≠ 0) → ∃ E' C', sx_sharp N E C = some (E', C') ∧ sx_env Sg E' ρ ∧ sx_cs C' ρ
  | [], E, C, h, hC, _ => ⟨E, C, rfl, h, hC⟩
  | f :: r, E, C, h, hC, hN => by
    obtain ⟨n, hf, hn⟩ := hN f List.mem_cons_self
    have hr : ∀ g ∈ r, ∃ n, sx_lf ρ g = some n ∧ n ≠ 0 := fun g hg => hN g (List.mem_cons_of_mem _ hg)
    have hm : sx_lf ρ (sx_neg f) = some (-1 * n) := sx_mul_ok (k := -1) hf
    unfold sx_sharp
    split
    · rename_i h1
      obtain ⟨n1, e1, k1⟩ := sx_lo0_ok h h1
      rw [hf] at e1
      have a1 := Option.some.inj e1
      split
      · exact sx_sharp_ok r E C h hC hr
      · obtain ⟨E1, C1, e2, h3, h4⟩ := sx_assume_ok h hC (sx_addC_ok (c := -1) hf) (by omega)
        rw [e2]
        exact sx_sharp_ok r E1 C1 h3 h4 hr
    · split
      · rename_i h1
        obtain ⟨n1, e1, k1⟩ := sx_lo0_ok h h1
        rw [hm] at e1
        have a1 := Option.some.inj e1
        split
        · exact sx_sharp_ok r E C h hC hr
        · obtain ⟨E1, C1, e2, h3, h4⟩ := sx_assume_ok h hC (sx_addC_ok (c := -1) hm) (by omega)
          rw [e2]
          exact sx_sharp_ok r E1 C1 h3 h4 hr
      · exact sx_sharp_ok r E C h hC hr
def sx_ke (N : List sx_LF) (r : Option (List sx_Ty × List sx_LF)) : Option (List sx_Ty × List sx_LF × List sx_LF) := match r with
  | some (E, C) => match sx_sharp N E C with
    | some (E', C') => some (E', C', N)
    | none => none
  | none => none
theorem sx_ke_ok {Sg : Nat → Option Nat} {E : List sx_Ty} {C N : List sx_LF} {ρ : List Value} (h : sx_env Sg E ρ) (hC : sx_cs C ρ) (hN : ∀ f ∈ N, ∃ n, sx_lf ρ f = some n ∧ n ≠ 0) : ∃ E' C', sx_ke N (some (E, C)) = some (E', C', N) ∧ sx_env Sg E' ρ ∧ sx_cs C' ρ := by
  obtain ⟨E1, C1, e1, h1, h2⟩ := sx_sharp_ok N E C h hC hN
  exact ⟨E1, C1, by simp only [sx_ke]; rw [e1], h1, h2⟩
def sx_cond (cd : ClassFile.Cond) (f g : sx_LF) (E : List sx_Ty) (C N : List sx_LF) : Option (List sx_Ty × List sx_LF × List sx_LF) := match cd with
  | .eq => sx_ke N (sx_asEq (sx_sub f g) E C)
  | .ne => sx_asNe (sx_sub f g) E C N
  | .lt => sx_ke N (sx_assume (sx_addC (sx_sub g f) (-1)) E C)
  | .ge => sx_ke N (sx_assume (sx_sub f g) E C)
  | .gt => sx_ke N (sx_assume (sx_addC (sx_sub f g) (-1)) E C)
  | .le => sx_ke N (sx_assume (sx_sub g f) E C)
theorem sx_cond_ok {Sg : Nat → Option Nat} {E : List sx_Ty} {C N : List sx_LF} {ρ : List Value} (h : sx_env Sg E ρ) (hC : sx_cs C ρ) (hN : ∀ f ∈ N, ∃ n, sx_lf ρ f = some n ∧ n ≠ 0) (cd : ClassFile.Cond) {f g : sx_LF} {x y : Int} (hf : sx_lf ρ f = some x) (hg : sx_lf ρ g = some y) (hh : sx_holds cd x y) :
    ∃ E' C' N', sx_cond cd f g E C N = some (E', C', N') ∧ sx_env Sg E' ρ ∧ sx_cs C' ρ ∧ ∀ f ∈ N', ∃ n, sx_lf ρ f = some n ∧ n ≠ 0 := by
  have one : ∀ {d : sx_LF} {n : Int}, sx_lf ρ d = some n → 0 ≤ n → ∃ E' C' N', sx_ke N (sx_assume d E C) = some (E', C', N') ∧ sx_env Sg E' ρ ∧ sx_cs C' ρ ∧ ∀ f ∈ N', ∃ n, sx_lf ρ f = some n ∧ n ≠ 0 := by
    intro d n hd hn
    obtain ⟨E1, C1, e1, h3, h4⟩ := sx_assume_ok h hC hd hn
    rw [e1]
    obtain ⟨E2, C2, e2, h5, h6⟩ := sx_ke_ok h3 h4 hN
    exact ⟨E2, C2, N, e2, h5, h6, hN⟩
  cases cd with
  | eq =>
    have hh : x = y := hh
    obtain ⟨E1, C1, e1, h3, h4⟩ := sx_asEq_ok h hC (d := sx_sub f g) (by rw [sx_sub_ok hf hg, hh]; congr 1; omega)
    obtain ⟨E2, C2, e2, h5, h6⟩ := sx_ke_ok h3 h4 hN
    exact ⟨E2, C2, N, by simp only [sx_cond]; rw [e1]; exact e2, h5, h6, hN⟩
  | ne =>
    have hh : x ≠ y := hh
    exact sx_asNe_ok h hC hN (sx_sub_ok hf hg) (by omega)
  | lt =>
    have hh : x < y := hh
    exact one (sx_addC_ok (c := -1) (sx_sub_ok hg hf)) (by omega)
  | ge =>
    have hh : y ≤ x := hh
    exact one (sx_sub_ok hf hg) (by omega)
  | gt =>
    have hh : y < x := hh
    exact one (sx_addC_ok (c := -1) (sx_sub_ok hf hg)) (by omega)
  | le =>
    have hh : x ≤ y := hh
    exact one (sx_sub_ok hg hf) (by omega)
/-- where a branch goes -/
def sx_tgt (pc : Nat) (off : Int) : Option Nat := if 0 ≤ (pc : Int) + off then some ((pc : Int) + off).toNat else none
theorem sx_tgt_ok {pc t : Nat} {off : Int} (h : sx_tgt pc off = some t) : (pc : Int) + off = (t : Int) := by
  unfold sx_tgt at h
  split at h
  · cases h; omega
  · cases h
def sx_one (pc : Nat) (U : List (Nat × List sx_LF × Nat)) (FA : sx_FA) (L : List (Nat × sx_AV)) (S : List sx_AV) (nc ns : Nat) (r : Option (List sx_Ty × List sx_LF × List sx_LF)) : List (Nat × sx_St) := match r with
  | some (E, C, N) => [(pc, (((E, C, N, U), FA), (L, S), nc, ns))]
  | none => []
/-- from one int: what each number of a row of offsets asks for -/
def sx_sw (pc : Nat) (N : List sx_LF) (U : List (Nat × List sx_LF × Nat)) (FA : sx_FA) (L : List (Nat × sx_AV)) (S : List sx_AV) (nc ns : Nat) (f : sx_LF) (E : List sx_Ty) (C : List sx_LF) : Int → List Int → Option (List (Nat × sx_St))
  | _, [] => some []
  | v, o :: os => match sx_sw pc N U FA L S nc ns f E C (v + 1) os, sx_tgt pc o with
    | some r, some t => some (sx_one t U FA L S nc ns (sx_ke N (sx_asEq (sx_addC f (-v)) E C)) ++ r)
    | _, _ => none
/-- what each number of a row of pairs asks for, and what no number of it -/
def sx_lsw (pc t : Nat) (U : List (Nat × List sx_LF × Nat)) (FA : sx_FA) (L : List (Nat × sx_AV)) (S : List sx_AV) (nc ns : Nat) (f : sx_LF) : List (Int × Int) → List sx_Ty → List sx_LF → List sx_LF → Option (List (Nat × sx_St))
  | [], E, C, N => some (sx_one t U FA L S nc ns (some (E, C, N)))
  | z :: zs, E, C, N => match sx_asNe (sx_addC f (-z.1)) E C N, sx_tgt pc z.2 with
    | some (E', C', N'), some t' => match sx_lsw pc t U FA L S nc ns f zs E' C' N' with
      | some r => some (sx_one t' U FA L S nc ns (sx_ke N (sx_asEq (sx_addC f (-z.1)) E C)) ++ r)
      | none => none
    | none, some t' => some (sx_one t' U FA L S nc ns (sx_ke N (sx_asEq (sx_addC f (-z.1)) E C)))
    | _, none => none
def sx_br (pc : Nat) (i : Instr) (st : sx_St) : Option (List (Nat × sx_St)) := match st with
  | (((E, C, N, U), FA), (L, S), nc, ns) => match i with
    | .goto off => match sx_tgt pc off with
      | some t => some [(t, st)]
      | none => none
    | .ifCond cd off => match sx_pop1 S, sx_tgt pc off with
      | some (f, S'), some t => some (sx_one t U FA L S' nc ns (sx_cond cd f (0, []) E C N) ++ sx_one (pc + 3) U FA L S' nc ns (sx_cond (sx_opp cd) f (0, []) E C N))
      | _, _ => none
    | .if_icmp cd off => match sx_pop2 S, sx_tgt pc off with
      | some (f, g, S'), some t => some (sx_one t U FA L S' nc ns (sx_cond cd f g E C N) ++ sx_one (pc + 3) U FA L S' nc ns (sx_cond (sx_opp cd) f g E C N))
      | _, _ => none
    | .ifnull off => match S, sx_tgt pc off with
      | a :: S', some t => if a.1 = 2 then some [(pc + 3, (((E, C, N, U), FA), (L, S'), nc, ns))] else if a.1 = 3 then some [(t, (((E, C, N, U), FA), (L, S'), nc, ns))] else none
      | _, _ => none
    | .ifnonnull off => match S, sx_tgt pc off with
      | a :: S', some t => if a.1 = 2 then some [(t, (((E, C, N, U), FA), (L, S'), nc, ns))] else if a.1 = 3 then some [(pc + 3, (((E, C, N, U), FA), (L, S'), nc, ns))] else none
      | _, _ => none
    | .tableswitch dflt lo hi offs => match sx_pop1 S, sx_tgt pc dflt with
      | some (f, S'), some t => match sx_sw pc N U FA L S' nc ns f E C lo offs.toList with
        | some r => if (offs.toList.length : Int) = hi - lo + 1 then some (r ++ (sx_one t U FA L S' nc ns (sx_ke N (sx_assume (sx_sub (lo - 1, []) f) E C)) ++ sx_one t U FA L S' nc ns (sx_ke N (sx_assume (sx_sub f (hi + 1, [])) E C)))) else none
        | none => none
      | _, _ => none
    | .lookupswitch dflt ps => match sx_pop1 S, sx_tgt pc dflt with
      | some (f, S'), some t => if (ps.toList.zip (ps.toList.drop 1)).all (fun q => decide (q.1.1 < q.2.1)) = true then sx_lsw pc t U FA L S' nc ns f ps.toList E C N else none
      | _, _ => none
    | _ => none
section SX5
variable {FT : Nat → List Int → Int} {D : va_G} {cl : List vw_C} {RT : Nat → Option sx_Rg} {b0 : sx_B} {nL : Nat} {p : Program} {l : Launch} {e : Env} {R : Room} {s : State} {m : MethodId} {args : Array Value} {below : List Frame} {meth : Method} {c : Code} {Q : State → Prop}
  {Sg0 : Nat → Option Nat} {ρ0 : List Value} {pc nc ns : Nat} {cc : ByteArray} {own : String} {Ts : List Cond} {Sg : Nat → Option Nat} {H : Heap} {ρ : List Value} {ls : Array Slot} {stk : List Value} {locs : List Loc} {E : List sx_Ty} {C N : List sx_LF} {U : List (Nat × List sx_LF × Nat)}
  {FA : sx_FA} {L : List (Nat × sx_AV)} {S : List sx_AV} {i : Instr} {n : Nat}
/-- one way out of a branch is taken -/
theorem sx_way {t : Nat} {S' : List sx_AV} {rest : List Value} {r : Option (List sx_Ty × List sx_LF × List sx_LF)} {X : List (Nat × sx_St)} (hP : sx_Pt FT D cl RT b0 nL s Sg H ρ ((E, C, N, U), FA) L S ls stk locs) (hle : sx_le Sg0 Sg) (hpre : ρ0 <+: ρ) (hS : sx_stk ρ S' rest)
    (hr : ∃ E' C' N', r = some (E', C', N') ∧ sx_env Sg E' ρ ∧ sx_cs C' ρ ∧ ∀ f ∈ N', ∃ n, sx_lf ρ f = some n ∧ n ≠ 0)
    (hX : ∀ q ∈ sx_one t U FA L S' nc ns r, q ∈ X) (hW : ∀ q ∈ X, sx_W FT D cl RT b0 nL p l e R s m args below meth c Q Sg0 ρ0 q.1 q.2) : W p l e R s m args below meth c H locs nc ns Q (F0 m t ls rest) := by
  obtain ⟨E', C', N', rfl, h1, h2, h3⟩ := hr
  obtain ⟨hH, hG, hF, hV⟩ := hP
  have := hW _ (hX (t, (((E', C', N', U), FA), (L, S'), nc, ns)) (by simp [sx_one]))
  exact this Sg H ρ ls rest locs hle hpre ⟨hH, ⟨h1, h2, h3, hG.2.2.2⟩, ⟨hF.1, hF.2.1, hF.2.2.1, hS⟩, hV⟩
theorem sx_if_W {cd : ClassFile.Cond} {x : Int32} {off : Int} {t : Nat} {rest : List Value} (hC : sx_Cx p s m args c cc nL own Ts) (hd : decode cc pc = .ok (.ifCond cd off, 3)) (ht : (pc : Int) + off = (t : Int))
    (kt : sx_holds cd x.toInt 0 → W p l e R s m args below meth c H locs nc ns Q (F0 m t ls rest)) (kf : sx_holds (sx_opp cd) x.toInt 0 → W p l e R s m args below meth c H locs nc ns Q (F0 m (pc + 3) ls rest)) : W p l e R s m args below meth c H locs nc ns Q (F0 m pc ls (.int x :: rest)) := by
  obtain ⟨hx, hb, -, hown, -⟩ := hC
  have e0 : (0 : Int32).toInt = 0 := by decide
  have q1 : x = 0 ↔ x.toInt = 0 := by rw [← Int32.toInt_inj, e0]
  have q2 : x < 0 ↔ x.toInt < 0 := by rw [Int32.lt_iff_toInt_lt, e0]
  have q3 : x ≤ 0 ↔ x.toInt ≤ 0 := by rw [Int32.le_iff_toInt_le, e0]
  have q4 : 0 < x ↔ 0 < x.toInt := by rw [Int32.lt_iff_toInt_lt, e0]
  have q5 : 0 ≤ x ↔ 0 ≤ x.toInt := by rw [Int32.le_iff_toInt_le, e0]
  cases cd with
  | eq => exact lv_if_eq hx hb hd ht (fun h => kt (q1.mp h)) (fun h => kf (fun h' => h (q1.mpr h')))
  | ne => exact lv_if_ne hx hb hd ht (fun h => kt (fun h' => h (q1.mpr h'))) (fun h => kf (q1.mp h))
  | lt => exact lv_if_lt hx hb hd ht (fun h => kt (q2.mp h)) (fun h => kf (show 0 ≤ x.toInt from by rw [q2] at h; omega))
  | ge => exact lv_if_ge hx hb hd ht (fun h => kt (q5.mp h)) (fun h => kf (show x.toInt < 0 from by rw [q5] at h; omega))
  | gt => exact lv_if_gt hx hb hd ht (fun h => kt (q4.mp h)) (fun h => kf (show x.toInt ≤ 0 from by rw [q4] at h; omega))
  | le => exact lv_if_le hx hb hd ht (fun h => kt (q3.mp h)) (fun h => kf (show 0 < x.toInt from by rw [q3] at h; omega))
theorem sx_icmp_W {cd : ClassFile.Cond} {x y : Int32} {off : Int} {t : Nat} {rest : List Value} (hC : sx_Cx p s m args c cc nL own Ts) (hd : decode cc pc = .ok (.if_icmp cd off, 3)) (ht : (pc : Int) + off = (t : Int))
    (kt : sx_holds cd x.toInt y.toInt → W p l e R s m args below meth c H locs nc ns Q (F0 m t ls rest)) (kf : sx_holds (sx_opp cd) x.toInt y.toInt → W p l e R s m args below meth c H locs nc ns Q (F0 m (pc + 3) ls rest)) : W p l e R s m args below meth c H locs nc ns Q (F0 m pc ls (.int y :: .int x :: rest)) := by
  obtain ⟨hx, hb, -, hown, -⟩ := hC
  have q1 : x = y ↔ x.toInt = y.toInt := Int32.toInt_inj.symm
  have q2 : x < y ↔ x.toInt < y.toInt := Int32.lt_iff_toInt_lt
  have q3 : x ≤ y ↔ x.toInt ≤ y.toInt := Int32.le_iff_toInt_le
  have q4 : y < x ↔ y.toInt < x.toInt := Int32.lt_iff_toInt_lt
  have q5 : y ≤ x ↔ y.toInt ≤ x.toInt := Int32.le_iff_toInt_le
  cases cd with
  | eq => exact lv_icmp_eq hx hb hd ht (fun h => kt (q1.mp h)) (fun h => kf (fun h' => h (q1.mpr h')))
  | ne => exact lv_icmp_ne hx hb hd ht (fun h => kt (fun h' => h (q1.mpr h'))) (fun h => kf (q1.mp h))
  | lt => exact lv_icmp_lt hx hb hd ht (fun h => kt (q2.mp h)) (fun h => kf (show y.toInt ≤ x.toInt from by rw [q2] at h; omega))
  | ge => exact lv_icmp_ge hx hb hd ht (fun h => kt (q5.mp h)) (fun h => kf (show x.toInt < y.toInt from by rw [q5] at h; omega))
  | gt => exact lv_icmp_gt hx hb hd ht (fun h => kt (q4.mp h)) (fun h => kf (show x.toInt ≤ y.toInt from by rw [q4] at h; omega))
  | le => exact lv_icmp_le hx hb hd ht (fun h => kt (q3.mp h)) (fun h => kf (show y.toInt < x.toInt from by rw [q3] at h; omega))
/-- the way of a number that the row of offsets has -/
theorem sx_sw_ok {S' : List sx_AV} {f : sx_LF} (hE : sx_env Sg E ρ) (hCs : sx_cs C ρ) (hN : ∀ f ∈ N, ∃ n, sx_lf ρ f = some n ∧ n ≠ 0) {x : Int} (hf : sx_lf ρ f = some x) : ∀ (os : List Int) (v : Int) (j : Nat) (o : Int) (r : List (Nat × sx_St)), sx_sw pc N U FA L S' nc ns f E C v os = some r → x = v + (j : Int) → os[j]? = some o →
    ∃ (t : Nat) (w : Option (List sx_Ty × List sx_LF × List sx_LF)), sx_tgt pc o = some t ∧ (∃ E' C' N', w = some (E', C', N') ∧ sx_env Sg E' ρ ∧ sx_cs C' ρ ∧ ∀ f ∈ N', ∃ n, sx_lf ρ f = some n ∧ n ≠ 0) ∧ ∀ q ∈ sx_one t U FA L S' nc ns w, q ∈ r
  | [], v, j, o, r, _, _, ho => by simp at ho
  | o' :: os, v, j, o, r, h, hj, ho => by
    simp only [sx_sw] at h
    split at h
    · rename_i r' t' hr' ht'
      cases h
      cases j with
      | zero =>
        simp at ho
        subst ho
        obtain ⟨E1, C1, e1, h3, h4⟩ := sx_asEq_ok hE hCs (d := sx_addC f (-v)) (by rw [sx_addC_ok (c := -v) hf]; congr 1; omega)
        obtain ⟨E2, C2, e2, h5, h6⟩ := sx_ke_ok h3 h4 hN
        exact ⟨t', sx_ke N (sx_asEq (sx_addC f (-v)) E C), ht', ⟨E2, C2, N, by rw [e1]; exact e2, h5, h6, hN⟩, fun q hq => List.mem_append_left _ hq⟩
      | succ j =>
        simp at ho
        obtain ⟨t, w, k1, k2, k3⟩ := sx_sw_ok hE hCs hN hf os (v + 1) j o r' hr' (by omega) ho
        exact ⟨t, w, k1, k2, fun q hq => List.mem_append_right _ (k3 q hq)⟩
    · cases h
/-- the way of a number through a row of pairs -/
theorem sx_lsw_ok {S' : List sx_AV} {f : sx_LF} {t : Nat} {dflt : Int} {x : Int} (ht : sx_tgt pc dflt = some t) (hf : sx_lf ρ f = some x) : ∀ (zs : List (Int × Int)) (E : List sx_Ty) (C N : List sx_LF) (r : List (Nat × sx_St)), sx_env Sg E ρ → sx_cs C ρ → (∀ f ∈ N, ∃ n, sx_lf ρ f = some n ∧ n ≠ 0) → sx_lsw pc t U FA L S' nc ns f zs E C N = some r →
    ∃ (t' : Nat) (w : Option (List sx_Ty × List sx_LF × List sx_LF)), sx_tgt pc (Op.lookupswitch.offset zs dflt x) = some t' ∧ (∃ E' C' N', w = some (E', C', N') ∧ sx_env Sg E' ρ ∧ sx_cs C' ρ ∧ ∀ f ∈ N', ∃ n, sx_lf ρ f = some n ∧ n ≠ 0) ∧ ∀ q ∈ sx_one t' U FA L S' nc ns w, q ∈ r
  | [], E, C, N, r, hE, hCs, hN, h => by
    simp only [sx_lsw] at h
    cases h
    exact ⟨t, some (E, C, N), by rw [Op.lookupswitch.offset_nil]; exact ht, ⟨E, C, N, rfl, hE, hCs, hN⟩, fun q hq => hq⟩
  | z :: zs, E, C, N, r, hE, hCs, hN, h => by
    simp only [sx_lsw] at h
    by_cases hz : z.1 = x
    · obtain ⟨E1, C1, e1, h3, h4⟩ := sx_asEq_ok hE hCs (d := sx_addC f (-z.1)) (by rw [sx_addC_ok (c := -z.1) hf]; congr 1; omega)
      obtain ⟨E2, C2, e2, h5, h6⟩ := sx_ke_ok h3 h4 hN
      have ho : Op.lookupswitch.offset (z :: zs) dflt x = z.2 := by
        rw [show z :: zs = (z.1, z.2) :: zs from rfl, Op.lookupswitch.offset_cons, if_pos hz]
      rw [ho]
      split at h
      · rename_i t' _ ht'
        split at h
        · cases h
          exact ⟨t', sx_ke N (sx_asEq (sx_addC f (-z.1)) E C), ht', ⟨E2, C2, N, by rw [e1]; exact e2, h5, h6, hN⟩, fun q hq => List.mem_append_left _ hq⟩
        · cases h
      · rename_i t' _ ht'
        cases h
        exact ⟨t', sx_ke N (sx_asEq (sx_addC f (-z.1)) E C), ht', ⟨E2, C2, N, by rw [e1]; exact e2, h5, h6, hN⟩, fun q hq => hq⟩
      · cases h
    · have ho : Op.lookupswitch.offset (z :: zs) dflt x = Op.lookupswitch.offset zs dflt x := by
        rw [show z :: zs = (z.1, z.2) :: zs from rfl, Op.lookupswitch.offset_cons, if_neg hz]
      rw [ho]
      obtain ⟨E1, C1, N1, e1, h3, h4, h5⟩ := sx_asNe_ok (d := sx_addC f (-z.1)) hE hCs hN (sx_addC_ok (c := -z.1) hf) (by omega)
      rw [e1] at h
      split at h
      · rename_i E' C' N' t' he ht'
        cases he
        split at h
        · rename_i r' hr'
          cases h
          obtain ⟨t2, w, k1, k2, k3⟩ := sx_lsw_ok ht hf zs _ _ _ r' h3 h4 h5 hr'
          exact ⟨t2, w, k1, k2, fun q hq => List.mem_append_right _ (k3 q hq)⟩
        · cases h
      · rename_i he _
        cases he
      · cases h
theorem sx_br_ok {len : Nat} {st : sx_St} {X : List (Nat × sx_St)} (hC : sx_Cx p s m args c cc nL own Ts) (h : sx_br pc i st = some X) (hd : decode cc pc = .ok (i, len)) (hl : len = 3 ∨ (∃ a b c d, i = .tableswitch a b c d) ∨ ∃ a b, i = .lookupswitch a b)
    (hW : ∀ q ∈ X, sx_W FT D cl RT b0 nL p l e R s m args below meth c Q Sg0 ρ0 q.1 q.2) : sx_W FT D cl RT b0 nL p l e R s m args below meth c Q Sg0 ρ0 pc st := by
  obtain ⟨⟨⟨E, C, N, U⟩, FA⟩, ⟨L, S⟩, nc, ns⟩ := st
  intro Sg H ρ ls stk locs hle hpre hP
  have hC' := hC
  obtain ⟨hx, hb, -, hown, -⟩ := hC'
  have hG := hP.2.1
  unfold sx_br at h
  simp only at h
  split at h
  · have hl : len = 3 := by rcases hl with hl | ⟨_, _, _, _, hl⟩ | ⟨_, _, hl⟩ <;> first | exact hl | cases hl
    subst hl
    split at h
    · rename_i t ht
      cases h
      exact lv_goto hx hb hd (sx_tgt_ok ht) (hW (t, _) List.mem_cons_self Sg H ρ ls stk locs hle hpre hP)
    · cases h
  · rename_i cd off
    have hl : len = 3 := by rcases hl with hl | ⟨_, _, _, _, hl⟩ | ⟨_, _, hl⟩ <;> first | exact hl | cases hl
    subst hl
    split at h
    · rename_i f S' t hk ht
      cases h
      obtain rfl := sx_pop1_eq hk
      obtain ⟨v, t1, rfl, h1, hs1⟩ := sx_stk_cons hP.2.2.1.2.2.2
      obtain ⟨x, rfl, hf⟩ := sx_av_int h1
      refine sx_if_W hC hd (sx_tgt_ok ht) (fun hh => ?_) (fun hh => ?_)
      · exact sx_way hP hle hpre hs1 (sx_cond_ok hG.1 hG.2.1 hG.2.2.1 cd hf (sx_const_ok 0) hh) (fun q hq => List.mem_append_left _ hq) hW
      · exact sx_way hP hle hpre hs1 (sx_cond_ok hG.1 hG.2.1 hG.2.2.1 (sx_opp cd) hf (sx_const_ok 0) hh) (fun q hq => List.mem_append_right _ hq) hW
    · cases h
  · rename_i cd off
    have hl : len = 3 := by rcases hl with hl | ⟨_, _, _, _, hl⟩ | ⟨_, _, hl⟩ <;> first | exact hl | cases hl
    subst hl
    split at h
    · rename_i f g S' t hk ht
      cases h
      obtain rfl := sx_pop2_eq hk
      obtain ⟨v, t1, rfl, h1, hs1⟩ := sx_stk_cons hP.2.2.1.2.2.2
      obtain ⟨w, t2, rfl, h2, hs2⟩ := sx_stk_cons hs1
      obtain ⟨y, rfl, hg⟩ := sx_av_int h1
      obtain ⟨x, rfl, hf⟩ := sx_av_int h2
      refine sx_icmp_W hC hd (sx_tgt_ok ht) (fun hh => ?_) (fun hh => ?_)
      · exact sx_way hP hle hpre hs2 (sx_cond_ok hG.1 hG.2.1 hG.2.2.1 cd hf hg hh) (fun q hq => List.mem_append_left _ hq) hW
      · exact sx_way hP hle hpre hs2 (sx_cond_ok hG.1 hG.2.1 hG.2.2.1 (sx_opp cd) hf hg hh) (fun q hq => List.mem_append_right _ hq) hW
    · cases h
  · have hl : len = 3 := by rcases hl with hl | ⟨_, _, _, _, hl⟩ | ⟨_, _, hl⟩ <;> first | exact hl | cases hl
    subst hl
    split at h
    · rename_i off a S' t ht
      obtain ⟨v, t1, rfl, h1, hs1⟩ := sx_stk_cons hP.2.2.1.2.2.2
      obtain ⟨tg, f⟩ := a
      split at h
      · rename_i ha
        cases h
        have ha : tg = 2 := ha
        subst ha
        obtain ⟨-, q, rfl⟩ := sx_av_ref h1
        exact lv_ifnull hx hb hd (sx_go0 hP hle hpre (hW _ List.mem_cons_self) hs1)
      · split at h
        · rename_i ha
          cases h
          have ha : tg = 3 := ha
          subst ha
          obtain rfl := sx_av_null h1
          exact lv_ifnullN hx hb hd (sx_tgt_ok ht) (sx_go0 hP hle hpre (hW _ List.mem_cons_self) hs1)
        · cases h
    · cases h
  · have hl : len = 3 := by rcases hl with hl | ⟨_, _, _, _, hl⟩ | ⟨_, _, hl⟩ <;> first | exact hl | cases hl
    subst hl
    split at h
    · rename_i off a S' t ht
      obtain ⟨v, t1, rfl, h1, hs1⟩ := sx_stk_cons hP.2.2.1.2.2.2
      obtain ⟨tg, f⟩ := a
      split at h
      · rename_i ha
        cases h
        have ha : tg = 2 := ha
        subst ha
        obtain ⟨-, q, rfl⟩ := sx_av_ref h1
        exact lv_ifnonnull hx hb hd (sx_tgt_ok ht) (sx_go0 hP hle hpre (hW _ List.mem_cons_self) hs1)
      · split at h
        · rename_i ha
          cases h
          have ha : tg = 3 := ha
          subst ha
          obtain rfl := sx_av_null h1
          exact lv_ifnonnullN hx hb hd (sx_go0 hP hle hpre (hW _ List.mem_cons_self) hs1)
        · cases h
    · cases h
  · rename_i dflt lo hi offs
    split at h
    · rename_i f S' t hk ht
      obtain rfl := sx_pop1_eq hk
      obtain ⟨v, t1, rfl, h1, hs1⟩ := sx_stk_cons hP.2.2.1.2.2.2
      obtain ⟨x, rfl, hf⟩ := sx_av_int h1
      split at h
      · rename_i r hr
        split at h
        · rename_i hn
          cases h
          by_cases c1 : x.toInt < lo
          · refine lv_tableOut hx hb hd (Or.inl c1) (sx_tgt_ok ht) ?_
            obtain ⟨E1, C1, e1, h3, h4⟩ := sx_assume_ok hG.1 hG.2.1 (sx_sub_ok (sx_const_ok (lo - 1)) hf) (by omega)
            obtain ⟨E2, C2, e2, h5, h6⟩ := sx_ke_ok h3 h4 hG.2.2.1
            exact sx_way hP hle hpre hs1 ⟨E2, C2, N, by rw [e1]; exact e2, h5, h6, hG.2.2.1⟩ (fun q hq => List.mem_append_right _ (List.mem_append_left _ hq)) hW
          · by_cases c2 : hi < x.toInt
            · refine lv_tableOut hx hb hd (Or.inr c2) (sx_tgt_ok ht) ?_
              obtain ⟨E1, C1, e1, h3, h4⟩ := sx_assume_ok hG.1 hG.2.1 (sx_sub_ok hf (sx_const_ok (hi + 1))) (by omega)
              obtain ⟨E2, C2, e2, h5, h6⟩ := sx_ke_ok h3 h4 hG.2.2.1
              exact sx_way hP hle hpre hs1 ⟨E2, C2, N, by rw [e1]; exact e2, h5, h6, hG.2.2.1⟩ (fun q hq => List.mem_append_right _ (List.mem_append_right _ hq)) hW
            · have hlt : (x.toInt - lo).toNat < offs.toList.length := by omega
              have ho : offs.toList[(x.toInt - lo).toNat]? = some offs.toList[(x.toInt - lo).toNat] := List.getElem?_eq_getElem hlt
              obtain ⟨t', w, k1, k2, k3⟩ := sx_sw_ok hG.1 hG.2.1 hG.2.2.1 hf offs.toList lo (x.toInt - lo).toNat _ r hr (by omega) ho
              refine lv_tableIn hx hb hd c1 c2 (by rw [← Array.getElem?_toList]; exact ho) (sx_tgt_ok k1) ?_
              exact sx_way hP hle hpre hs1 k2 (fun q hq => List.mem_append_left _ (k3 q hq)) hW
        · cases h
      · cases h
    · cases h
  · rename_i dflt ps
    split at h
    · rename_i f S' t hk ht
      obtain rfl := sx_pop1_eq hk
      obtain ⟨v, t1, rfl, h1, hs1⟩ := sx_stk_cons hP.2.2.1.2.2.2
      obtain ⟨x, rfl, hf⟩ := sx_av_int h1
      split at h
      · rename_i hn
        obtain ⟨t', w, k1, k2, k3⟩ := sx_lsw_ok ht hf ps.toList E C N X hG.1 hG.2.1 hG.2.2.1 h
        exact lv_lookup hx hb hd hn rfl (sx_tgt_ok k1) (sx_way hP hle hpre hs1 k2 k3 hW)
      · cases h
    · cases h
  · cases h
end SX5
