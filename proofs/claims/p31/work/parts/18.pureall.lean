/-! sx, longs; the step function of what touches no heap, whole -/
def sx_binCL (op : Int64 → Int64 → Int64) (f g : sx_LF) (r : sx_Rs) : sx_Rs := if f.2 = [] ∧ g.2 = [] then .inl ((op (Int64.ofInt f.1) (Int64.ofInt g.1)).toInt, []) else r
theorem sx_ofIntL {x : Int64} {n : Int} (h : x.toInt = n) : Int64.ofInt n = x := by
  rw [← h]; exact Int64.ofInt_toInt x
theorem sx_binCL_ok {op : Int64 → Int64 → Int64} {ρ : List Value} {f g : sx_LF} {x y : Int64} {r : sx_Rs} (hf : sx_lf ρ f = some x.toInt) (hg : sx_lf ρ g = some y.toInt) (hr : sx_rs64 ρ r (op x y)) : sx_rs64 ρ (sx_binCL op f g r) (op x y) := by
  unfold sx_binCL
  split
  · rename_i hc
    have h1 := sx_lf_const hf hc.1
    have h2 := sx_lf_const hg hc.2
    show sx_lf ρ _ = _
    rw [sx_ofIntL h1, sx_ofIntL h2]
    exact sx_const_ok _
  · exact hr
def sx_mulL (E : List sx_Ty) (f g : sx_LF) : sx_Rs := if f.2 = [] then sx_fitL E (sx_mul f.1 g) else if g.2 = [] then sx_fitL E (sx_mul g.1 f) else .inr sx_fullL
theorem sx_mulL_ok {Sg : Nat → Option Nat} {E : List sx_Ty} {ρ : List Value} (hE : sx_env Sg E ρ) {f g : sx_LF} {x y : Int64} (hf : sx_lf ρ f = some x.toInt) (hg : sx_lf ρ g = some y.toInt) : sx_rs64 ρ (sx_mulL E f g) (x * y) := by
  unfold sx_mulL
  by_cases h1 : f.2 = []
  · rw [if_pos h1]
    refine sx_fitL_ok hE (sx_mul_ok (k := f.1) hg) ?_
    rw [Int64.toInt_mul, sx_lf_const hf h1]
  · rw [if_neg h1]
    by_cases h2 : g.2 = []
    · rw [if_pos h2]
      refine sx_fitL_ok hE (sx_mul_ok (k := g.1) hf) ?_
      rw [Int64.toInt_mul, sx_lf_const hg h2, Int.mul_comm]
    · rw [if_neg h2]; exact sx_fullL_ok _
def sx_binL (i : Instr) (E : List sx_Ty) (C N : List sx_LF) (f g : sx_LF) : Option sx_Rs := match i with
  | .ladd => some (sx_fitL E (sx_add f g))
  | .lsub => some (sx_fitL E (sx_sub f g))
  | .lmul => some (sx_mulL E f g)
  | .ldiv => if sx_nz E C N g then some (sx_binCL (fun x y => x / y) f g (.inr sx_fullL)) else none
  | .lrem => if sx_nz E C N g then some (sx_binCL (fun x y => x - x / y * y) f g (.inr sx_fullL)) else none
  | _ => none
def sx_cmpR (E : List sx_Ty) (C : List sx_LF) (f g : sx_LF) : sx_Rs := if sx_ge E C (sx_addC (sx_sub f g) (-1)) then .inl (1, []) else if sx_ge E C (sx_addC (sx_sub g f) (-1)) then .inl (-1, []) else if sx_ge E C (sx_sub f g) && sx_ge E C (sx_sub g f) then .inl (0, []) else .inr (-1, 1)
theorem sx_cmpR_ok {Sg : Nat → Option Nat} {E : List sx_Ty} {C : List sx_LF} {ρ : List Value} (hE : sx_env Sg E ρ) (hC : sx_cs C ρ) {f g : sx_LF} {x y : Int64} (hf : sx_lf ρ f = some x.toInt) (hg : sx_lf ρ g = some y.toInt) : sx_rs32 ρ (sx_cmpR E C f g) (lg_cmp x y) := by
  have e1 : (1 : Int32).toInt = 1 := by decide
  have e2 : (-1 : Int32).toInt = -1 := by decide
  have e3 : (0 : Int32).toInt = 0 := by decide
  unfold sx_cmpR
  split
  · rename_i h
    have := sx_ge_ok hE hC (sx_addC_ok (c := -1) (sx_sub_ok hf hg)) h
    have hlt : y < x := Int64.lt_iff_toInt_lt.mpr (by omega)
    show sx_lf ρ _ = _
    rw [show lg_cmp x y = 1 from by simp [lg_cmp, hlt], e1]
    exact sx_const_ok _
  · split
    · rename_i h
      have := sx_ge_ok hE hC (sx_addC_ok (c := -1) (sx_sub_ok hg hf)) h
      have hn : ¬ y < x := fun q => by have := Int64.lt_iff_toInt_lt.mp q; omega
      have hne : ¬ x = y := fun q => by rw [q] at this; omega
      show sx_lf ρ _ = _
      rw [show lg_cmp x y = -1 from by simp [lg_cmp, hn, hne], e2]
      exact sx_const_ok _
    · split
      · rename_i h
        simp only [Bool.and_eq_true] at h
        have h1 := sx_ge_ok hE hC (sx_sub_ok hf hg) h.1
        have h2 := sx_ge_ok hE hC (sx_sub_ok hg hf) h.2
        have he : x = y := Int64.toInt_inj.mp (by omega)
        subst he
        have hn : ¬ x < x := fun q => by have := Int64.lt_iff_toInt_lt.mp q; omega
        show sx_lf ρ _ = _
        rw [show lg_cmp x x = 0 from by simp [lg_cmp, hn], e3]
        exact sx_const_ok _
      · show -1 ≤ (lg_cmp x y).toInt ∧ (lg_cmp x y).toInt ≤ 1
        unfold lg_cmp
        split
        · rw [e1]; omega
        · split
          · rw [e3]; omega
          · rw [e2]; omega
def sx_pop2L (S : List sx_AV) : Option (sx_LF × sx_LF × List sx_AV) := match S with
  | (t, g) :: (u, f) :: S => if t = 1 ∧ u = 1 then some (f, g, S) else none
  | _ => none
def sx_pop1L (S : List sx_AV) : Option (sx_LF × List sx_AV) := match S with
  | (t, f) :: S => if t = 1 then some (f, S) else none
  | _ => none
theorem sx_pop2L_eq {S S' : List sx_AV} {f g : sx_LF} (h : sx_pop2L S = some (f, g, S')) : S = (1, g) :: (1, f) :: S' := by
  unfold sx_pop2L at h
  split at h
  · split at h
    · rename_i ht; obtain ⟨ht, hu⟩ := ht; subst ht; subst hu; cases h; rfl
    · cases h
  · cases h
theorem sx_pop1L_eq {S S' : List sx_AV} {f : sx_LF} (h : sx_pop1L S = some (f, S')) : S = (1, f) :: S' := by
  unfold sx_pop1L at h
  split at h
  · split at h
    · rename_i ht; subst ht; cases h; rfl
    · cases h
  · cases h
def sx_l2iR (E : List sx_Ty) (f : sx_LF) : sx_Rs := match sx_rng E f with
  | some (a, b) => if -2147483648 ≤ a ∧ b ≤ 2147483647 then .inl f else .inr sx_full
  | none => .inr sx_full
theorem sx_l2iR_ok {Sg : Nat → Option Nat} {E : List sx_Ty} {ρ : List Value} (hE : sx_env Sg E ρ) {f : sx_LF} {x : Int64} (hf : sx_lf ρ f = some x.toInt) : sx_rs32 ρ (sx_l2iR E f) x.toInt32 := by
  unfold sx_l2iR
  cases h : sx_rng E f with
  | none => exact sx_full_ok _
  | some ab =>
    obtain ⟨a, b⟩ := ab
    show sx_rs32 ρ (if -2147483648 ≤ a ∧ b ≤ 2147483647 then .inl f else .inr sx_full) _
    split
    · rename_i hc
      obtain ⟨n, e1, e2, e3⟩ := sx_rng_ok hE h
      rw [hf] at e1; cases e1
      show sx_lf ρ f = _
      rw [hf, Int64.toInt_toInt32, sx_bmod32 (by omega) (by omega)]
    · exact sx_full_ok _
noncomputable def sx_rest (nL : Nat) (i : Instr) (E : List sx_Ty) (C N : List sx_LF) (U : List (Nat × List sx_LF × Nat)) (FA : sx_FA) (L : List (Nat × sx_AV)) (S : List sx_AV) (nc ns : Nat) : Option (Nat × sx_St) := match i with
  | .iinc j k => match sx_lk L j with
    | some (t, f) => if t = 0 ∧ j < nL then some (3, ((((sx_new 0 E (sx_fit E (sx_addC f (Int32.ofInt k).toInt))).1, C, N, U), FA), (sx_put L j (sx_new 0 E (sx_fit E (sx_addC f (Int32.ofInt k).toInt))).2, S), nc, ns)) else none
    | none => none
  | .dup => match S with
    | a :: S' => if a.1 = 1 then none else some (1, (((E, C, N, U), FA), (L, a :: a :: S'), nc, ns))
    | _ => none
  | .dup2 => match S with
    | a :: b :: S' => if a.1 = 1 ∨ b.1 = 1 then none else some (1, (((E, C, N, U), FA), (L, a :: b :: a :: b :: S'), nc, ns))
    | _ => none
  | .pop => match S with
    | a :: S' => if a.1 = 1 then none else some (1, (((E, C, N, U), FA), (L, S'), nc, ns))
    | _ => none
  | .i2l => match sx_pop1 S with
    | some (f, S') => some (1, (((E, C, N, U), FA), (L, (1, f) :: S'), nc, ns))
    | none => none
  | .l2i => match sx_pop1L S with
    | some (f, S') => some (1, ((((sx_new 0 E (sx_l2iR E f)).1, C, N, U), FA), (L, (sx_new 0 E (sx_l2iR E f)).2 :: S'), nc, ns))
    | none => none
  | .lcmp => match sx_pop2L S with
    | some (f, g, S') => some (1, ((((sx_new 0 E (sx_cmpR E C f g)).1, C, N, U), FA), (L, (sx_new 0 E (sx_cmpR E C f g)).2 :: S'), nc, ns))
    | none => none
  | _ => none
def sx_ari (i : Instr) (E : List sx_Ty) (C N : List sx_LF) (U : List (Nat × List sx_LF × Nat)) (FA : sx_FA) (L : List (Nat × sx_AV)) (S : List sx_AV) (nc ns : Nat) : Option (Nat × sx_St) :=
  match sx_pop1 S with
  | some (f, S') => match sx_un i E f with
    | some r => some (1, ((((sx_new 0 E r).1, C, N, U), FA), (L, (sx_new 0 E r).2 :: S'), nc, ns))
    | none => match sx_pop2 S with
      | some (f, g, S') => match sx_bin i E C N f g with
        | some r => some (1, ((((sx_new 0 E r).1, sx_binK i E C f g (sx_new 0 E r).2, N, U), FA), (L, (sx_new 0 E r).2 :: S'), nc, ns))
        | none => none
      | none => none
  | none => match sx_pop2L S with
    | some (f, g, S') => match sx_binL i E C N f g with
      | some r => some (1, ((((sx_new 1 E r).1, C, N, U), FA), (L, (sx_new 1 E r).2 :: S'), nc, ns))
      | none => none
    | none => none
/-- classes of instructions: 0 constants, 1 loads, 2 stores, 3 stack and the like, 4 arithmetic, 5 branches, 6 heap, 7 calls, 8 returns -/
def sx_cls (i : Instr) : Nat := match i with
  | .iconst _ => 0
  | .bipush _ => 0
  | .sipush _ => 0
  | .ldc _ => 0
  | .ldc_w _ => 0
  | .ldc2_w _ => 0
  | .lconst _ => 0
  | .aconst_null => 0
  | .iload_n _ => 1
  | .iload _ => 1
  | .lload_n _ => 1
  | .lload _ => 1
  | .aload_n _ => 1
  | .aload _ => 1
  | .istore_n _ => 2
  | .istore _ => 2
  | .lstore_n _ => 2
  | .lstore _ => 2
  | .astore_n _ => 2
  | .astore _ => 2
  | .iinc _ _ => 3
  | .dup => 3
  | .dup2 => 3
  | .pop => 3
  | .i2l => 3
  | .l2i => 3
  | .lcmp => 3
  | .goto _ => 5
  | .ifCond _ _ => 5
  | .if_icmp _ _ => 5
  | .ifnull _ => 5
  | .ifnonnull _ => 5
  | .tableswitch _ _ _ _ => 5
  | .lookupswitch _ _ => 5
  | .getfield _ => 6
  | .putfield _ => 6
  | .iaload => 6
  | .laload => 6
  | .aaload => 6
  | .arraylength => 6
  | .iastore => 6
  | .lastore => 6
  | .aastore => 6
  | .newarray _ => 6
  | .new _ => 6
  | .anewarray _ => 6
  | .invokevirtual _ => 7
  | .invokestatic _ => 7
  | .invokespecial _ => 7
  | .ireturn => 8
  | .lreturn => 8
  | .areturn => 8
  | .return_ => 8
  | _ => 4
noncomputable def sx_pure (cls : Nat) (ct ctL : List (Nat × Int)) (nL : Nat) (i : Instr) (st : sx_St) : Option (Nat × sx_St) := match st with
  | (((E, C, N, U), FA), (L, S), nc, ns) => match cls with
    | 0 => match sx_con ct ctL i with
      | some (n, a) => some (n, (((E, C, N, U), FA), (L, a :: S), nc, ns))
      | none => none
    | 1 => match sx_ld i with
      | some (n, j, k) => match sx_lk L j with
        | some a => if sx_tag a.1 k then some (n, (((E, C, N, U), FA), (L, a :: S), nc, ns)) else none
        | none => none
      | none => none
    | 2 => match sx_sto i with
      | some (n, j, k) => match S with
        | a :: S' => if sx_tag a.1 k = true ∧ (j + 1 < nL ∨ (j < nL ∧ k ≠ 1)) then some (n, (((E, C, N, U), FA), (sx_put L j a, S'), nc, ns)) else none
        | [] => none
      | none => none
    | 3 => sx_rest nL i E C N U FA L S nc ns
    | _ => sx_ari i E C N U FA L S nc ns
section SX4
variable {FT : Nat → List Int → Int} {D : va_G} {cl : List vw_C} {RT : Nat → Option sx_Rg} {b0 : sx_B} {nL : Nat} {p : Program} {l : Launch} {e : Env} {R : Room} {s : State} {m : MethodId} {args : Array Value} {below : List Frame} {meth : Method} {c : Code} {Q : State → Prop}
  {Sg0 : Nat → Option Nat} {ρ0 : List Value} {pc nc ns : Nat} {cc : ByteArray} {own : String} {Ts : List Cond} {Sg : Nat → Option Nat} {H : Heap} {ρ : List Value} {ls : Array Slot} {stk : List Value} {locs : List Loc} {E : List sx_Ty} {C N : List sx_LF} {U : List (Nat × List sx_LF × Nat)}
  {FA : sx_FA} {L : List (Nat × sx_AV)} {S : List sx_AV} {i : Instr} {n : Nat}
theorem sx_binL_arm {f g : sx_LF} {r : sx_Rs} {S' : List sx_AV} (hC : sx_Cx p s m args c cc nL own Ts) (h : sx_binL i E C N f g = some r) (hd : decode cc pc = .ok (i, 1)) (hP : sx_Pt FT D cl RT b0 nL s Sg H ρ ((E, C, N, U), FA) L ((1, g) :: (1, f) :: S') ls stk locs) (hle : sx_le Sg0 Sg) (hpre : ρ0 <+: ρ)
    (hW : sx_W FT D cl RT b0 nL p l e R s m args below meth c Q Sg0 ρ0 (pc + 1) ((((sx_new 1 E r).1, C, N, U), FA), (L, (sx_new 1 E r).2 :: S'), nc, ns)) : W p l e R s m args below meth c H locs nc ns Q (F0 m pc ls stk) := by
  obtain ⟨hx, hb, -, hown, -⟩ := hC
  obtain ⟨v, t1, rfl, h1, hs1⟩ := sx_stk_cons hP.2.2.1.2.2.2
  obtain ⟨w, t2, rfl, h2, hs2⟩ := sx_stk_cons hs1
  obtain ⟨y, rfl, hg⟩ := sx_av_long h1
  obtain ⟨x, rfl, hf⟩ := sx_av_long h2
  have hG := hP.2.1
  unfold sx_binL at h
  split at h
  · cases h
    exact lv_ladd hx hb hd (sx_goL hP hle hpre (sx_fitL_ok hG.1 (sx_add_ok hf hg) (Int64.toInt_add x y)) hs2 hW)
  · cases h
    exact lv_lsub hx hb hd (sx_goL hP hle hpre (sx_fitL_ok hG.1 (sx_sub_ok hf hg) (Int64.toInt_sub x y)) hs2 hW)
  · cases h
    exact lv_lmul hx hb hd (sx_goL hP hle hpre (sx_mulL_ok hG.1 hf hg) hs2 hW)
  · split at h
    · rename_i hz
      cases h
      exact lv_ldiv hx hb hd (sx_ne0L (sx_nz_ok hG.1 hG.2.1 hG.2.2.1 hg hz)) (sx_goL hP hle hpre (sx_binCL_ok (op := fun x y => x / y) hf hg (sx_fullL_ok _)) hs2 hW)
    · cases h
  · split at h
    · rename_i hz
      cases h
      exact lv_lrem hx hb hd (sx_ne0L (sx_nz_ok hG.1 hG.2.1 hG.2.2.1 hg hz)) (sx_goL hP hle hpre (sx_binCL_ok (op := fun x y => x - x / y * y) hf hg (sx_fullL_ok _)) hs2 hW)
    · cases h
  · cases h
theorem sx_rest_ok {n : Nat} {st' : sx_St} (hC : sx_Cx p s m args c cc nL own Ts) (h : sx_rest nL i E C N U FA L S nc ns = some (n, st')) (hd : decode cc pc = .ok (i, n)) (hP : sx_Pt FT D cl RT b0 nL s Sg H ρ ((E, C, N, U), FA) L S ls stk locs) (hle : sx_le Sg0 Sg) (hpre : ρ0 <+: ρ)
    (hW : sx_W FT D cl RT b0 nL p l e R s m args below meth c Q Sg0 ρ0 (pc + n) st') : W p l e R s m args below meth c H locs nc ns Q (F0 m pc ls stk) := by
  have hC' := hC
  obtain ⟨hx, hb, -, hown, -⟩ := hC'
  unfold sx_rest at h
  split at h
  · split at h
    · rename_i t f hk
      split at h
      · rename_i hc
        obtain ⟨ht, hj⟩ := hc
        subst ht
        cases h
        exact sx_iinc_arm hC hd hk hj hP hle hpre hW
      · cases h
    · cases h
  · split at h
    · split at h
      · cases h
      · rename_i ha
        cases h
        exact sx_dup_arm hC hd ha hP hle hpre hW
    · cases h
  · split at h
    · split at h
      · cases h
      · rename_i ha
        cases h
        exact sx_dup2_arm hC hd (fun q => ha (Or.inl q)) (fun q => ha (Or.inr q)) hP hle hpre hW
    · cases h
  · split at h
    · split at h
      · cases h
      · rename_i ha
        cases h
        exact sx_pop_arm hC hd ha hP hle hpre hW
    · cases h
  · split at h
    · rename_i f S' hk
      cases h
      obtain rfl := sx_pop1_eq hk
      obtain ⟨v, t1, rfl, h1, hs1⟩ := sx_stk_cons hP.2.2.1.2.2.2
      obtain ⟨x, rfl, hf⟩ := sx_av_int h1
      exact lv_i2l hx hb hd rfl (sx_go0 hP hle hpre hW ⟨sx_long_av (by rw [Int32.toInt_toInt64]; exact hf), hs1⟩)
    · cases h
  · split at h
    · rename_i f S' hk
      cases h
      obtain rfl := sx_pop1L_eq hk
      obtain ⟨v, t1, rfl, h1, hs1⟩ := sx_stk_cons hP.2.2.1.2.2.2
      obtain ⟨x, rfl, hf⟩ := sx_av_long h1
      exact lv_l2i hx hb hd rfl (sx_goI hP hle hpre (sx_l2iR_ok hP.2.1.1 hf) hs1 hW)
    · cases h
  · split at h
    · rename_i f g S' hk
      cases h
      obtain rfl := sx_pop2L_eq hk
      obtain ⟨v, t1, rfl, h1, hs1⟩ := sx_stk_cons hP.2.2.1.2.2.2
      obtain ⟨w, t2, rfl, h2, hs2⟩ := sx_stk_cons hs1
      obtain ⟨y, rfl, hg⟩ := sx_av_long h1
      obtain ⟨x, rfl, hf⟩ := sx_av_long h2
      exact W.lcmp hx hb hd (sx_goI hP hle hpre (sx_cmpR_ok hP.2.1.1 hP.2.1.2.1 hf hg) hs2 hW)
    · cases h
  · cases h
theorem sx_ari_ok {n : Nat} {st' : sx_St} (hC : sx_Cx p s m args c cc nL own Ts) (h : sx_ari i E C N U FA L S nc ns = some (n, st')) (hd : decode cc pc = .ok (i, n)) (hP : sx_Pt FT D cl RT b0 nL s Sg H ρ ((E, C, N, U), FA) L S ls stk locs) (hle : sx_le Sg0 Sg) (hpre : ρ0 <+: ρ)
    (hW : sx_W FT D cl RT b0 nL p l e R s m args below meth c Q Sg0 ρ0 (pc + n) st') : W p l e R s m args below meth c H locs nc ns Q (F0 m pc ls stk) := by
  unfold sx_ari at h
  split at h
  · rename_i f S' hk
    split at h
    · rename_i r hr
      cases h
      obtain rfl := sx_pop1_eq hk
      exact sx_un_arm hC hr hd hP hle hpre hW
    · split at h
      · rename_i f2 g2 S2 hk2
        split at h
        · rename_i r hr
          cases h
          obtain rfl := sx_pop2_eq hk2
          exact sx_bin_arm hC hr hd hP hle hpre hW
        · cases h
      · cases h
  · split at h
    · rename_i f g S' hk
      split at h
      · rename_i r hr
        cases h
        obtain rfl := sx_pop2L_eq hk
        exact sx_binL_arm hC hr hd hP hle hpre hW
      · cases h
    · cases h
theorem sx_pure_ok {cls : Nat} {ct ctL : List (Nat × Int)} {n : Nat} {st st' : sx_St} (hC : sx_Cx p s m args c cc nL own Ts) (hct : ∀ q ∈ ct, (Cond.constant own q.1 (Int32.ofInt q.2)).before args s = true) (hctL : ∀ q ∈ ctL, (Cond.constantLong own q.1 (Int64.ofInt q.2)).before args s = true)
    (h : sx_pure cls ct ctL nL i st = some (n, st')) (hd : decode cc pc = .ok (i, n)) (hW : sx_W FT D cl RT b0 nL p l e R s m args below meth c Q Sg0 ρ0 (pc + n) st') : sx_W FT D cl RT b0 nL p l e R s m args below meth c Q Sg0 ρ0 pc st := by
  obtain ⟨⟨⟨E, C, N, U⟩, FA⟩, ⟨L, S⟩, nc, ns⟩ := st
  intro Sg H ρ ls stk locs hle hpre hP
  unfold sx_pure at h
  simp only at h
  split at h
  · split at h
    · rename_i n' a hk
      cases h
      exact sx_con_ok hC hct hctL hk hd hP hle hpre hW
    · cases h
  · split at h
    · rename_i n' j k hk
      split at h
      · rename_i a ha
        split at h
        · rename_i ht
          cases h
          exact sx_ld_ok hC hk ha ht hd hP hle hpre hW
        · cases h
      · cases h
    · cases h
  · split at h
    · rename_i n' j k hk
      split at h
      · split at h
        · rename_i ht
          cases h
          exact sx_sto_ok hC hk ht.1 ht.2 hd hP hle hpre hW
        · cases h
      · cases h
    · cases h
  · exact sx_rest_ok hC h hd hP hle hpre hW
  · exact sx_ari_ok hC h hd hP hle hpre hW
end SX4
