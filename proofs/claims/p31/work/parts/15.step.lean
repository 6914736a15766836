/-! sx, one step that touches no heap -/
def sx_nz (E : List sx_Ty) (C N : List sx_LF) (g : sx_LF) : Bool := sx_ge E C (sx_addC g (-1)) || sx_ge E C (sx_addC (sx_mul (-1) g) (-1)) || N.any (fun h => decide (h = g))
theorem sx_nz_ok {Sg : Nat → Option Nat} {E : List sx_Ty} {C N : List sx_LF} {ρ : List Value} (hE : sx_env Sg E ρ) (hC : sx_cs C ρ) (hN : ∀ f ∈ N, ∃ n, sx_lf ρ f = some n ∧ n ≠ 0) {g : sx_LF} {n : Int} (hg : sx_lf ρ g = some n) (h : sx_nz E C N g = true) : n ≠ 0 := by
  unfold sx_nz at h
  rcases Bool.or_eq_true_iff.mp h with h | h
  · rcases Bool.or_eq_true_iff.mp h with h | h
    · have := sx_ge_ok hE hC (sx_addC_ok (c := -1) hg) h
      omega
    · have := sx_ge_ok hE hC (sx_addC_ok (c := -1) (sx_mul_ok (k := -1) hg)) h
      omega
  · obtain ⟨f, hf, e⟩ := List.any_eq_true.mp h
    have e := of_decide_eq_true e
    subst e
    obtain ⟨m, h1, h2⟩ := hN f hf
    rw [hg] at h1
    cases h1
    exact h2
def sx_pop1 (S : List sx_AV) : Option (sx_LF × List sx_AV) := match S with
  | (t, f) :: S => if t = 0 then some (f, S) else none
  | _ => none
def sx_pop2 (S : List sx_AV) : Option (sx_LF × sx_LF × List sx_AV) := match S with
  | (t, g) :: (u, f) :: S => if t = 0 ∧ u = 0 then some (f, g, S) else none
  | _ => none
theorem sx_pop1_eq {S S' : List sx_AV} {f : sx_LF} (h : sx_pop1 S = some (f, S')) : S = (0, f) :: S' := by
  unfold sx_pop1 at h
  split at h
  · split at h
    · rename_i ht; subst ht; cases h; rfl
    · cases h
  · cases h
theorem sx_pop2_eq {S S' : List sx_AV} {f g : sx_LF} (h : sx_pop2 S = some (f, g, S')) : S = (0, g) :: (0, f) :: S' := by
  unfold sx_pop2 at h
  split at h
  · split at h
    · rename_i ht; obtain ⟨ht, hu⟩ := ht; subst ht; subst hu; cases h; rfl
    · cases h
  · cases h
section SX1
variable {FT : Nat → List Int → Int} {D : va_G} {cl : List vw_C} {RT : Nat → Option sx_Rg} {b0 : sx_B} {nL : Nat} {p : Program} {l : Launch} {e : Env} {R : Room} {s : State} {m : MethodId} {args : Array Value} {below : List Frame} {meth : Method} {c : Code} {Q : State → Prop}
  {Sg0 : Nat → Option Nat} {ρ0 : List Value} {pc nc ns : Nat} {cc : ByteArray} {own : String} {Ts : List Cond} {Sg : Nat → Option Nat} {H : Heap} {ρ : List Value} {ls : Array Slot} {stk : List Value} {locs : List Loc} {E : List sx_Ty} {C N : List sx_LF} {U : List (Nat × List sx_LF × Nat)}
  {FA : sx_FA} {L : List (Nat × sx_AV)} {S : List sx_AV}
/-- on the same heap and with the same locals: another stack, perhaps new symbols -/
theorem sx_go {pc' : Nat} {E' : List sx_Ty} {C' N' : List sx_LF} {S' : List sx_AV} {stk' ρ3 : List Value} (hP : sx_Pt FT D cl RT b0 nL s Sg H ρ ((E, C, N, U), FA) L S ls stk locs) (hle : sx_le Sg0 Sg) (hpre : ρ0 <+: ρ)
    (hW : sx_W FT D cl RT b0 nL p l e R s m args below meth c Q Sg0 ρ0 pc' (((E', C', N', U), FA), (L, S'), nc, ns))
    (hG : sx_G FT D RT Sg H (ρ ++ ρ3) ((E', C', N', U), FA)) (hS : sx_stk (ρ ++ ρ3) S' stk') : W p l e R s m args below meth c H locs nc ns Q (F0 m pc' ls stk') := by
  obtain ⟨hH, -, hF, hV⟩ := hP
  have hF2 := sx_Fr_ext (ρ2 := ρ3) hF
  exact hW Sg H (ρ ++ ρ3) ls stk' locs hle (hpre.trans (List.prefix_append ρ ρ3)) ⟨hH, hG, ⟨hF2.1, hF2.2.1, hF2.2.2.1, hS⟩, hV⟩
theorem sx_go0 {pc' : Nat} {S' : List sx_AV} {stk' : List Value} (hP : sx_Pt FT D cl RT b0 nL s Sg H ρ ((E, C, N, U), FA) L S ls stk locs) (hle : sx_le Sg0 Sg) (hpre : ρ0 <+: ρ)
    (hW : sx_W FT D cl RT b0 nL p l e R s m args below meth c Q Sg0 ρ0 pc' (((E, C, N, U), FA), (L, S'), nc, ns)) (hS : sx_stk ρ S' stk') : W p l e R s m args below meth c H locs nc ns Q (F0 m pc' ls stk') := by
  obtain ⟨hH, hG, hF, hV⟩ := hP
  exact hW Sg H ρ ls stk' locs hle hpre ⟨hH, hG, ⟨hF.1, hF.2.1, hF.2.2.1, hS⟩, hV⟩
/-- a new int on the stack -/
theorem sx_goI {pc' : Nat} {S' : List sx_AV} {rest : List Value} {r : sx_Rs} {x : Int32} (hP : sx_Pt FT D cl RT b0 nL s Sg H ρ ((E, C, N, U), FA) L S ls stk locs) (hle : sx_le Sg0 Sg) (hpre : ρ0 <+: ρ) (hr : sx_rs32 ρ r x) (hS : sx_stk ρ S' rest)
    (hW : sx_W FT D cl RT b0 nL p l e R s m args below meth c Q Sg0 ρ0 pc' ((((sx_new 0 E r).1, C, N, U), FA), (L, (sx_new 0 E r).2 :: S'), nc, ns)) : W p l e R s m args below meth c H locs nc ns Q (F0 m pc' ls (.int x :: rest)) := by
  obtain ⟨ρ3, h1, h2⟩ := sx_new32 hP.2.1 hr
  exact sx_go hP hle hpre hW h1 ⟨h2, sx_stk_ext hS⟩
theorem sx_goL {pc' : Nat} {S' : List sx_AV} {rest : List Value} {r : sx_Rs} {x : Int64} (hP : sx_Pt FT D cl RT b0 nL s Sg H ρ ((E, C, N, U), FA) L S ls stk locs) (hle : sx_le Sg0 Sg) (hpre : ρ0 <+: ρ) (hr : sx_rs64 ρ r x) (hS : sx_stk ρ S' rest)
    (hW : sx_W FT D cl RT b0 nL p l e R s m args below meth c Q Sg0 ρ0 pc' ((((sx_new 1 E r).1, C, N, U), FA), (L, (sx_new 1 E r).2 :: S'), nc, ns)) : W p l e R s m args below meth c H locs nc ns Q (F0 m pc' ls (.long x :: rest)) := by
  obtain ⟨ρ3, h1, h2⟩ := sx_new64 hP.2.1 hr
  exact sx_go hP hle hpre hW h1 ⟨h2, sx_stk_ext hS⟩
/-- two ints are taken, one comes -/
theorem sx_arm2 {op : Int32 → Int32 → Int32} {r : sx_Rs} {f g : sx_LF} {S' : List sx_AV} {pc' : Nat} (hP : sx_Pt FT D cl RT b0 nL s Sg H ρ ((E, C, N, U), FA) L ((0, g) :: (0, f) :: S') ls stk locs) (hle : sx_le Sg0 Sg) (hpre : ρ0 <+: ρ)
    (hr : ∀ x y : Int32, sx_lf ρ f = some x.toInt → sx_lf ρ g = some y.toInt → sx_rs32 ρ r (op x y))
    (rule : ∀ (x y : Int32) (rest : List Value), sx_lf ρ f = some x.toInt → sx_lf ρ g = some y.toInt → W p l e R s m args below meth c H locs nc ns Q (F0 m pc' ls (.int (op x y) :: rest)) → W p l e R s m args below meth c H locs nc ns Q (F0 m pc ls (.int y :: .int x :: rest)))
    (hW : sx_W FT D cl RT b0 nL p l e R s m args below meth c Q Sg0 ρ0 pc' ((((sx_new 0 E r).1, C, N, U), FA), (L, (sx_new 0 E r).2 :: S'), nc, ns)) : W p l e R s m args below meth c H locs nc ns Q (F0 m pc ls stk) := by
  obtain ⟨v, t1, rfl, h1, hs1⟩ := sx_stk_cons hP.2.2.1.2.2.2
  obtain ⟨w, t2, rfl, h2, hs2⟩ := sx_stk_cons hs1
  obtain ⟨y, rfl, hy⟩ := sx_av_int h1
  obtain ⟨x, rfl, hx⟩ := sx_av_int h2
  exact rule x y t2 hx hy (sx_goI hP hle hpre (hr x y hx hy) hs2 hW)
theorem sx_arm1 {op : Int32 → Int32} {r : sx_Rs} {f : sx_LF} {S' : List sx_AV} {pc' : Nat} (hP : sx_Pt FT D cl RT b0 nL s Sg H ρ ((E, C, N, U), FA) L ((0, f) :: S') ls stk locs) (hle : sx_le Sg0 Sg) (hpre : ρ0 <+: ρ)
    (hr : ∀ x : Int32, sx_lf ρ f = some x.toInt → sx_rs32 ρ r (op x))
    (rule : ∀ (x : Int32) (rest : List Value), W p l e R s m args below meth c H locs nc ns Q (F0 m pc' ls (.int (op x) :: rest)) → W p l e R s m args below meth c H locs nc ns Q (F0 m pc ls (.int x :: rest)))
    (hW : sx_W FT D cl RT b0 nL p l e R s m args below meth c Q Sg0 ρ0 pc' ((((sx_new 0 E r).1, C, N, U), FA), (L, (sx_new 0 E r).2 :: S'), nc, ns)) : W p l e R s m args below meth c H locs nc ns Q (F0 m pc ls stk) := by
  obtain ⟨v, t1, rfl, h1, hs1⟩ := sx_stk_cons hP.2.2.1.2.2.2
  obtain ⟨x, rfl, hx⟩ := sx_av_int h1
  exact rule x t1 (sx_goI hP hle hpre (hr x hx) hs1 hW)
end SX1
