/-! sx, the step function of what touches no heap -/
noncomputable def sx_cget (ct : List (Nat × Int)) (k : Nat) : Option Int := match sx_fnd (fun q => Nat.beq q.1 k) ct with
  | some q => some q.2
  | none => none
theorem sx_cget_mem {ct : List (Nat × Int)} {k : Nat} {v : Int} (h : sx_cget ct k = some v) : (k, v) ∈ ct := by
  unfold sx_cget at h
  cases h1 : sx_fnd (fun q => Nat.beq q.1 k) ct with
  | none => rw [h1] at h; cases h
  | some q =>
    rw [h1] at h
    cases h
    have h2 := sx_fnd_some h1
    have h3 := sx_fnd_mem h1
    simp at h2
    subst h2
    exact h3
def sx_bin0 (i : Instr) (E : List sx_Ty) (C N : List sx_LF) (f g : sx_LF) : Option sx_Rs := match i with
  | .iadd => some (sx_fit E (sx_add f g))
  | .isub => some (sx_fit E (sx_sub f g))
  | .imul => some (sx_mulR E f g)
  | .idiv => if sx_nz E C N g then some (sx_binC (fun x y => x / y) f g (sx_divR E f g)) else none
  | .irem => if sx_nz E C N g then some (sx_binC (fun x y => x - x / y * y) f g (sx_remR E f g)) else none
  | .iand => some (sx_binC (fun x y => x &&& y) f g (sx_andR E f g))
  | .ior => some (sx_binC (fun x y => x ||| y) f g (sx_oxR E f g))
  | .ixor => some (sx_binC (fun x y => x ^^^ y) f g (sx_oxR E f g))
  | .ishl => some (sx_binC (fun x y => x <<< (y &&& 31)) f g (sx_shlR E f g))
  | .ishr => some (sx_binC (fun x y => x >>> (y &&& 31)) f g (sx_shrR E f g))
  | .iushr => some (sx_binC (fun x y => (x.toUInt32 >>> (y.toUInt32 &&& Int32.toUInt32 31)).toInt32) f g (sx_ushrR E f g))
  | _ => none
/-- a form whose bounds meet is that number -/
def sx_nm (E : List sx_Ty) (f : sx_LF) : sx_LF := match f.2 with
  | [] => f
  | _ => match sx_rng E f with
    | some (a, b) => if a = b then (a, []) else f
    | none => f
theorem sx_nm_ok {Sg : Nat → Option Nat} {E : List sx_Ty} {ρ : List Value} (h : sx_env Sg E ρ) {f : sx_LF} {n : Int} (hf : sx_lf ρ f = some n) : sx_lf ρ (sx_nm E f) = some n := by
  unfold sx_nm
  split
  · exact hf
  · split
    · rename_i a b hr
      split
      · rename_i hab
        obtain ⟨m, h1, h2, h3⟩ := sx_rng_ok h hr
        rw [hf] at h1
        have := Option.some.inj h1
        have hn : n = a := by omega
        rw [hn]
        simp [sx_lf, sx_ts]
      · exact hf
    · exact hf
def sx_bin (i : Instr) (E : List sx_Ty) (C N : List sx_LF) (f g : sx_LF) : Option sx_Rs := sx_bin0 i E C N (sx_nm E f) (sx_nm E g)
def sx_kle (E : List sx_Ty) (C0 : List sx_LF) (h a : sx_LF) (C : List sx_LF) : List sx_LF := if h.2.isEmpty then C else if sx_ge E C0 h then sx_sub h a :: C else C
def sx_klt (E : List sx_Ty) (C : List sx_LF) (c1 : Bool) (f a : sx_LF) : List sx_LF := if c1 = true then (if f.2.isEmpty then C else if sx_ge E C (sx_addC f (-1)) then sx_addC (sx_sub f a) (-1) :: C else C) else C
theorem sx_kle_ok {Sg : Nat → Option Nat} {E : List sx_Ty} {C0 C : List sx_LF} {ρ ρ3 : List Value} {h a : sx_LF} {n m : Int} (hE : sx_env Sg E ρ) (hCs : sx_cs C0 ρ) (hh : sx_lf ρ h = some n) (ha : sx_lf (ρ ++ ρ3) a = some m) (hle : 0 ≤ n → m ≤ n) (hC : sx_cs C (ρ ++ ρ3)) : sx_cs (sx_kle E C0 h a C) (ρ ++ ρ3) := by
  unfold sx_kle
  split
  · exact hC
  · split
    · rename_i hge
      have := hle (sx_ge_ok hE hCs hh hge)
      intro q hq
      rcases List.mem_cons.mp hq with rfl | hq
      · exact ⟨_, sx_sub_ok (sx_lf_ext hh) ha, by omega⟩
      · exact hC q hq
    · exact hC
theorem sx_klt_ok {Sg : Nat → Option Nat} {E : List sx_Ty} {C : List sx_LF} {ρ ρ3 : List Value} {c1 : Bool} {f a : sx_LF} {n m : Int} (hE : sx_env Sg E ρ) (hCs : sx_cs C ρ) (hh : sx_lf ρ f = some n) (ha : sx_lf (ρ ++ ρ3) a = some m) (hlt : c1 = true → 1 ≤ n → m < n) (hC : sx_cs C (ρ ++ ρ3)) : sx_cs (sx_klt E C c1 f a) (ρ ++ ρ3) := by
  unfold sx_klt
  split
  · rename_i hc
    split
    · exact hC
    · split
      · rename_i hge
        have h0 := sx_ge_ok hE hCs (sx_addC_ok (c := -1) hh) hge
        have := hlt hc (by omega)
        intro q hq
        rcases List.mem_cons.mp hq with rfl | hq
        · exact ⟨_, sx_addC_ok (c := -1) (sx_sub_ok (sx_lf_ext hh) ha), by omega⟩
        · exact hC q hq
      · exact hC
  · exact hC
theorem sx_cst_ok {ρ : List Value} {g : sx_LF} {n : Int} (h : g.2.isEmpty = true) (hg : sx_lf ρ g = some n) : n = g.1 := by
  obtain ⟨r, h1, h2⟩ := sx_lf_iff.mp hg
  rw [List.isEmpty_iff.mp h] at h1
  simp only [sx_ts] at h1
  cases h1
  omega
/-- behind a remainder by what is above 0: it is below that; behind 'and': not above either; behind a shift or a division of what is above 0: below it -/
def sx_binK (i : Instr) (E : List sx_Ty) (C : List sx_LF) (f g : sx_LF) (a : sx_AV) : List sx_LF := match i with
  | .iand => sx_kle E C f a.2 (sx_kle E C g a.2 C)
  | .ishr => sx_klt E C (g.2.isEmpty && decide (1 ≤ g.1) && decide (g.1 ≤ 31)) f a.2
  | .idiv => sx_klt E C (g.2.isEmpty && decide (2 ≤ g.1)) f a.2
  | .irem => if sx_ge E C (sx_addC g (-1)) then sx_addC (sx_sub g a.2) (-1) :: C else C
  | _ => C
/-- one int taken, one comes -/
def sx_un (i : Instr) (E : List sx_Ty) (f : sx_LF) : Option sx_Rs := match i with
  | .ineg => some (sx_fit E (sx_mul (-1) f))
  | .i2c => match sx_rng E f with
    | some (a, b) => if 0 ≤ a ∧ b ≤ 65535 then some (.inl f) else some (.inr (0, 65535))
    | none => some (.inr (0, 65535))
  | _ => none
/-- what a constant is, and how long its instruction -/
noncomputable def sx_con (ct ctL : List (Nat × Int)) (i : Instr) : Option (Nat × sx_AV) := match i with
  | .iconst n => some (1, 0, ((Int32.ofInt n).toInt, []))
  | .bipush n => some (2, 0, ((Int8.ofInt n).toInt32.toInt, []))
  | .sipush n => some (3, 0, ((Int16.ofInt n).toInt32.toInt, []))
  | .ldc k => match sx_cget ct k with
    | some v => some (2, 0, ((Int32.ofInt v).toInt, []))
    | none => none
  | .ldc_w k => match sx_cget ct k with
    | some v => some (3, 0, ((Int32.ofInt v).toInt, []))
    | none => none
  | .ldc2_w k => match sx_cget ctL k with
    | some v => some (3, 1, ((Int64.ofInt v).toInt, []))
    | none => none
  | .lconst n => some (1, 1, ((Int64.ofNat (n : Nat)).toInt, []))
  | .aconst_null => some (1, 3, (0, []))
  | _ => none
/-- a load: its length, the local, the kinds that it takes -/
def sx_ld (i : Instr) : Option (Nat × Nat × Nat) := match i with
  | .iload_n k => some (1, k, 0)
  | .iload k => some (2, k, 0)
  | .lload_n k => some (1, k, 1)
  | .lload k => some (2, k, 1)
  | .aload_n k => some (1, k, 2)
  | .aload k => some (2, k, 2)
  | _ => none
def sx_sto (i : Instr) : Option (Nat × Nat × Nat) := match i with
  | .istore_n k => some (1, k, 0)
  | .istore k => some (2, k, 0)
  | .lstore_n k => some (1, k, 1)
  | .lstore k => some (2, k, 1)
  | .astore_n k => some (1, k, 2)
  | .astore k => some (2, k, 2)
  | _ => none
def sx_tag (t k : Nat) : Bool := t == k || (t == 3 && k == 2)
section SX2
variable {FT : Nat → List Int → Int} {D : va_G} {cl : List vw_C} {RT : Nat → Option sx_Rg} {b0 : sx_B} {nL : Nat} {p : Program} {l : Launch} {e : Env} {R : Room} {s : State} {m : MethodId} {args : Array Value} {below : List Frame} {meth : Method} {c : Code} {Q : State → Prop}
  {Sg0 : Nat → Option Nat} {ρ0 : List Value} {pc nc ns : Nat} {cc : ByteArray} {own : String} {Ts : List Cond} {Sg : Nat → Option Nat} {H : Heap} {ρ : List Value} {ls : Array Slot} {stk : List Value} {locs : List Loc} {E : List sx_Ty} {C N : List sx_LF} {U : List (Nat × List sx_LF × Nat)}
  {FA : sx_FA} {L : List (Nat × sx_AV)} {S : List sx_AV} {i : Instr} {n : Nat}
theorem sx_con_ok {ct ctL : List (Nat × Int)} {a : sx_AV} (hC : sx_Cx p s m args c cc nL own Ts) (hct : ∀ q ∈ ct, (Cond.constant own q.1 (Int32.ofInt q.2)).before args s = true) (hctL : ∀ q ∈ ctL, (Cond.constantLong own q.1 (Int64.ofInt q.2)).before args s = true)
    (h : sx_con ct ctL i = some (n, a)) (hd : decode cc pc = .ok (i, n)) (hP : sx_Pt FT D cl RT b0 nL s Sg H ρ ((E, C, N, U), FA) L S ls stk locs) (hle : sx_le Sg0 Sg) (hpre : ρ0 <+: ρ)
    (hW : sx_W FT D cl RT b0 nL p l e R s m args below meth c Q Sg0 ρ0 (pc + n) (((E, C, N, U), FA), (L, a :: S), nc, ns)) : W p l e R s m args below meth c H locs nc ns Q (F0 m pc ls stk) := by
  obtain ⟨hx, hb, -, hown, -⟩ := hC
  have hS := hP.2.2.1.2.2.2
  unfold sx_con at h
  split at h
  · cases h
    exact lv_iconst hx hb hd rfl (sx_go0 hP hle hpre hW ⟨sx_int_av (sx_const_ok _), hS⟩)
  · cases h
    exact lv_bipush hx hb hd rfl (sx_go0 hP hle hpre hW ⟨sx_int_av (sx_const_ok _), hS⟩)
  · cases h
    exact lv_sipush hx hb hd rfl (sx_go0 hP hle hpre hW ⟨sx_int_av (sx_const_ok _), hS⟩)
  · split at h
    · rename_i k v hk
      cases h
      exact lv_ldc hx hb hown (hct _ (sx_cget_mem hk)) hd (sx_go0 hP hle hpre hW ⟨sx_int_av (sx_const_ok _), hS⟩)
    · cases h
  · split at h
    · rename_i k v hk
      cases h
      exact lv_ldcw hx hb hown (hct _ (sx_cget_mem hk)) hd (sx_go0 hP hle hpre hW ⟨sx_int_av (sx_const_ok _), hS⟩)
    · cases h
  · split at h
    · rename_i k v hk
      cases h
      exact lv_ldc2 hx hb hown (hctL _ (sx_cget_mem hk)) hd (sx_go0 hP hle hpre hW ⟨sx_long_av (sx_const_ok _), hS⟩)
    · cases h
  · cases h
    exact lv_lconst hx hb hd rfl (sx_go0 hP hle hpre hW ⟨sx_long_av (sx_const_ok _), hS⟩)
  · cases h
    exact lv_null hx hb hd (sx_go0 hP hle hpre hW ⟨Or.inr (Or.inr (Or.inr ⟨rfl, rfl⟩)), hS⟩)
  · cases h
theorem sx_ld_ok {j k : Nat} {a : sx_AV} (hC : sx_Cx p s m args c cc nL own Ts) (h : sx_ld i = some (n, j, k)) (ha : sx_lk L j = some a) (ht : sx_tag a.1 k = true) (hd : decode cc pc = .ok (i, n)) (hP : sx_Pt FT D cl RT b0 nL s Sg H ρ ((E, C, N, U), FA) L S ls stk locs) (hle : sx_le Sg0 Sg) (hpre : ρ0 <+: ρ)
    (hW : sx_W FT D cl RT b0 nL p l e R s m args below meth c Q Sg0 ρ0 (pc + n) (((E, C, N, U), FA), (L, a :: S), nc, ns)) : W p l e R s m args below meth c H locs nc ns Q (F0 m pc ls stk) := by
  obtain ⟨hx, hb, -, hown, -⟩ := hC
  have hS := hP.2.2.1.2.2.2
  obtain ⟨v, hv, hl⟩ := hP.2.2.1.2.2.1 _ (sx_lk_mem ha)
  have hl : ls[j]? = some (.val v) := hl
  have K := sx_go0 (nc := nc) (ns := ns) (stk' := v :: stk) hP hle hpre hW ⟨hv, hS⟩
  obtain ⟨t, f⟩ := a
  unfold sx_ld at h
  split at h
  · cases h
    have ht : t = 0 := by simpa [sx_tag] using ht
    subst ht
    obtain ⟨x, rfl, -⟩ := sx_av_int hv
    exact lv_iload_n hx hb hd rfl hl K
  · cases h
    have ht : t = 0 := by simpa [sx_tag] using ht
    subst ht
    obtain ⟨x, rfl, -⟩ := sx_av_int hv
    exact lv_iload hx hb hd hl K
  · cases h
    have ht : t = 1 := by simpa [sx_tag] using ht
    subst ht
    obtain ⟨x, rfl, -⟩ := sx_av_long hv
    exact lv_lload_n hx hb hd rfl hl K
  · cases h
    have ht : t = 1 := by simpa [sx_tag] using ht
    subst ht
    obtain ⟨x, rfl, -⟩ := sx_av_long hv
    exact lv_lload hx hb hd hl K
  · cases h
    have ht : t = 2 ∨ t = 3 := by simpa [sx_tag] using ht
    rcases ht with rfl | rfl
    · obtain ⟨-, x, rfl⟩ := sx_av_ref hv
      exact lv_aload_n hx hb hd rfl hl K
    · obtain rfl := sx_av_null hv
      exact lv_aload_nN hx hb hd rfl hl K
  · cases h
    have ht : t = 2 ∨ t = 3 := by simpa [sx_tag] using ht
    rcases ht with rfl | rfl
    · obtain ⟨-, x, rfl⟩ := sx_av_ref hv
      exact lv_aload hx hb hd hl K
    · obtain rfl := sx_av_null hv
      exact lv_aloadN hx hb hd hl K
  · cases h
theorem sx_goS {pc' : Nat} {ls' : Array Slot} {L' : List (Nat × sx_AV)} {S' : List sx_AV} {stk' : List Value} (hP : sx_Pt FT D cl RT b0 nL s Sg H ρ ((E, C, N, U), FA) L S ls stk locs) (hle : sx_le Sg0 Sg) (hpre : ρ0 <+: ρ)
    (hW : sx_W FT D cl RT b0 nL p l e R s m args below meth c Q Sg0 ρ0 pc' (((E, C, N, U), FA), (L', S'), nc, ns)) (hF : sx_Fr ρ nL ls' stk' L' S') : W p l e R s m args below meth c H locs nc ns Q (F0 m pc' ls' stk') := by
  obtain ⟨hH, hG, -, hV⟩ := hP
  exact hW Sg H ρ ls' stk' locs hle hpre ⟨hH, hG, hF, hV⟩
theorem sx_sto_ok {j k : Nat} {a : sx_AV} {S' : List sx_AV} (hC : sx_Cx p s m args c cc nL own Ts) (h : sx_sto i = some (n, j, k)) (ht : sx_tag a.1 k = true) (hj : j + 1 < nL ∨ (j < nL ∧ k ≠ 1)) (hd : decode cc pc = .ok (i, n)) (hP : sx_Pt FT D cl RT b0 nL s Sg H ρ ((E, C, N, U), FA) L (a :: S') ls stk locs) (hle : sx_le Sg0 Sg) (hpre : ρ0 <+: ρ)
    (hW : sx_W FT D cl RT b0 nL p l e R s m args below meth c Q Sg0 ρ0 (pc + n) (((E, C, N, U), FA), (sx_put L j a, S'), nc, ns)) : W p l e R s m args below meth c H locs nc ns Q (F0 m pc ls stk) := by
  obtain ⟨hx, hb, -, hown, -⟩ := hC
  obtain ⟨v, t1, rfl, h1, hs1⟩ := sx_stk_cons hP.2.2.1.2.2.2
  have hl := sx_lvs_has hP.2.2.1
  have hjn : j < nL := by omega
  obtain ⟨t, f⟩ := a
  unfold sx_sto at h
  split at h
  · cases h
    have ht : t = 0 := by simpa [sx_tag] using ht
    subst ht
    obtain ⟨x, rfl, -⟩ := sx_av_int h1
    exact lv_istore_n hx hb hd rfl hl hjn rfl (fun ls' h' => sx_goS hP hle hpre hW (sx_store1 hP.2.2.1 (by simp) h'))
  · cases h
    have ht : t = 0 := by simpa [sx_tag] using ht
    subst ht
    obtain ⟨x, rfl, -⟩ := sx_av_int h1
    exact lv_istore hx hb hd hl hjn rfl (fun ls' h' => sx_goS hP hle hpre hW (sx_store1 hP.2.2.1 (by simp) h'))
  · cases h
    have ht : t = 1 := by simpa [sx_tag] using ht
    subst ht
    obtain ⟨x, rfl, -⟩ := sx_av_long h1
    exact lv_lstore_n hx hb hd rfl hl (by omega) rfl (fun ls' h' => sx_goS hP hle hpre hW (sx_store2 hP.2.2.1 rfl h'))
  · cases h
    have ht : t = 1 := by simpa [sx_tag] using ht
    subst ht
    obtain ⟨x, rfl, -⟩ := sx_av_long h1
    exact lv_lstore hx hb hd hl (by omega) rfl (fun ls' h' => sx_goS hP hle hpre hW (sx_store2 hP.2.2.1 rfl h'))
  · cases h
    have ht : t = 2 ∨ t = 3 := by simpa [sx_tag] using ht
    rcases ht with rfl | rfl
    · obtain ⟨-, x, rfl⟩ := sx_av_ref h1
      exact lv_astore_n hx hb hd rfl hl hjn rfl (fun ls' h' => sx_goS hP hle hpre hW (sx_store1 hP.2.2.1 (by simp) h'))
    · obtain rfl := sx_av_null h1
      exact lv_astore_nN hx hb hd rfl hl hjn rfl (fun ls' h' => sx_goS hP hle hpre hW (sx_store1 hP.2.2.1 (by simp) h'))
  · cases h
    have ht : t = 2 ∨ t = 3 := by simpa [sx_tag] using ht
    rcases ht with rfl | rfl
    · obtain ⟨-, x, rfl⟩ := sx_av_ref h1
      exact lv_astore hx hb hd hl hjn rfl (fun ls' h' => sx_goS hP hle hpre hW (sx_store1 hP.2.2.1 (by simp) h'))
    · obtain rfl := sx_av_null h1
      exact lv_astoreN hx hb hd hl hjn rfl (fun ls' h' => sx_goS hP hle hpre hW (sx_store1 hP.2.2.1 (by simp) h'))
  · cases h
end SX2
