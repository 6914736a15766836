/-! sx, arithmetic steps -/
section SX3
variable {FT : Nat → List Int → Int} {D : va_G} {cl : List vw_C} {RT : Nat → Option sx_Rg} {b0 : sx_B} {nL : Nat} {p : Program} {l : Launch} {e : Env} {R : Room} {s : State} {m : MethodId} {args : Array Value} {below : List Frame} {meth : Method} {c : Code} {Q : State → Prop}
  {Sg0 : Nat → Option Nat} {ρ0 : List Value} {pc nc ns : Nat} {cc : ByteArray} {own : String} {Ts : List Cond} {Sg : Nat → Option Nat} {H : Heap} {ρ : List Value} {ls : Array Slot} {stk : List Value} {locs : List Loc} {E : List sx_Ty} {C N : List sx_LF} {U : List (Nat × List sx_LF × Nat)}
  {FA : sx_FA} {L : List (Nat × sx_AV)} {S : List sx_AV} {i : Instr} {n : Nat}
theorem sx_ne0 {y : Int32} (h : y.toInt ≠ 0) : ¬ y = 0 := fun e => h (by rw [e]; decide)
theorem sx_ne0L {y : Int64} (h : y.toInt ≠ 0) : ¬ y = 0 := fun e => h (by rw [e]; decide)
theorem sx_lt_mul {a n : Int} (h1 : 1 ≤ a) (h2 : 2 ≤ n) : a / n < a := by
  refine Int.ediv_lt_of_lt_mul (by omega) ?_
  have := Int.mul_le_mul_of_nonneg_left h2 (show 0 ≤ a by omega)
  omega
theorem sx_shr_lt {x y : Int32} (h1 : 1 ≤ x.toInt) (h2 : 1 ≤ y.toInt) (h3 : y.toInt ≤ 31) : (x >>> (y &&& 31)).toInt < x.toInt := by
  obtain ⟨k, hk, ek, ek2⟩ := sx_cnt (Int.le_refl y.toInt) (Int.le_refl y.toInt) (by omega) h3
  have hs := pk_shr x (y &&& 31) k (by rw [ek]; exact sx_sc k hk)
  rw [Int.shiftRight_eq_div_pow] at hs
  rw [hs]
  have p2 : 2 ^ 1 ≤ 2 ^ k := Nat.pow_le_pow_right (by decide) (by omega)
  exact sx_lt_mul h1 (by omega)
theorem sx_div_lt {x y : Int32} (h1 : 1 ≤ x.toInt) (h2 : 2 ≤ y.toInt) : (x / y).toInt < x.toInt := by
  rw [sx_div32 (by omega), Int.tdiv_eq_ediv_of_nonneg (by omega)]
  exact sx_lt_mul h1 h2
def sx_brel (i : Instr) (x y z : Int32) : Prop := (i = .irem → 1 ≤ y.toInt → z.toInt < y.toInt) ∧ (i = .iand → (0 ≤ x.toInt → z.toInt ≤ x.toInt) ∧ (0 ≤ y.toInt → z.toInt ≤ y.toInt)) ∧ (i = .ishr → 1 ≤ x.toInt → 1 ≤ y.toInt → y.toInt ≤ 31 → z.toInt < x.toInt) ∧ (i = .idiv → 1 ≤ x.toInt → 2 ≤ y.toInt → z.toInt < x.toInt)
/-- what the machine does at a binary instruction, whatever it is: the answer, and how W goes on -/
theorem sx_bin0_ok {f g : sx_LF} {r : sx_Rs} (hC : sx_Cx p s m args c cc nL own Ts) (h : sx_bin0 i E C N f g = some r) (hd : decode cc pc = .ok (i, 1)) (hE : sx_env Sg E ρ) (hCs : sx_cs C ρ) (hN : ∀ f ∈ N, ∃ n, sx_lf ρ f = some n ∧ n ≠ 0)
    {x y : Int32} (hf : sx_lf ρ f = some x.toInt) (hg : sx_lf ρ g = some y.toInt) : ∃ z : Int32, sx_rs32 ρ r z ∧ sx_brel i x y z ∧
      ∀ rest : List Value, W p l e R s m args below meth c H locs nc ns Q (F0 m (pc + 1) ls (.int z :: rest)) → W p l e R s m args below meth c H locs nc ns Q (F0 m pc ls (.int y :: .int x :: rest)) := by
  obtain ⟨hx, hb, -, hown, -⟩ := hC
  unfold sx_bin0 at h
  split at h
  · cases h
    exact ⟨x + y, sx_fit_ok hE (sx_add_ok hf hg) (Int32.toInt_add x y), ⟨fun q => (by cases q), fun q => (by cases q), fun q => (by cases q), fun q => (by cases q)⟩, fun rest k => lv_iadd hx hb hd k⟩
  · cases h
    exact ⟨x - y, sx_fit_ok hE (sx_sub_ok hf hg) (Int32.toInt_sub x y), ⟨fun q => (by cases q), fun q => (by cases q), fun q => (by cases q), fun q => (by cases q)⟩, fun rest k => lv_isub hx hb hd k⟩
  · cases h
    exact ⟨x * y, sx_mulR_ok hE hf hg, ⟨fun q => (by cases q), fun q => (by cases q), fun q => (by cases q), fun q => (by cases q)⟩, fun rest k => lv_imul hx hb hd k⟩
  · split at h
    · rename_i hz
      cases h
      exact ⟨x / y, sx_binC_ok (op := fun x y => x / y) hf hg (sx_divR_ok hE hf hg), ⟨fun q => (by cases q), fun q => (by cases q), fun q => (by cases q), fun _ => sx_div_lt⟩, fun rest k => lv_idiv hx hb hd (sx_ne0 (sx_nz_ok hE hCs hN hg hz)) k⟩
    · cases h
  · split at h
    · rename_i hz
      cases h
      refine ⟨x - x / y * y, sx_binC_ok (op := fun x y => x - x / y * y) hf hg (sx_remR_ok hE hf hg), ⟨fun _ hy => ?_, fun q => (by cases q), fun q => (by cases q), fun q => (by cases q)⟩, fun rest k => lv_irem hx hb hd (sx_ne0 (sx_nz_ok hE hCs hN hg hz)) k⟩
      rw [sx_rem32 hy]
      exact Int.tmod_lt_of_pos x.toInt (by omega)
    · cases h
  · cases h
    exact ⟨x &&& y, sx_binC_ok (op := fun x y => x &&& y) hf hg (sx_andR_ok hE hf hg), ⟨fun q => (by cases q), fun _ => ⟨fun h => (sx_and_l h).2, fun h => (sx_and_r h).2⟩, fun q => (by cases q), fun q => (by cases q)⟩, fun rest k => lv_iand hx hb hd k⟩
  · cases h
    exact ⟨x ||| y, sx_binC_ok (op := fun x y => x ||| y) hf hg (sx_orR_ok hE hf hg).1, ⟨fun q => (by cases q), fun q => (by cases q), fun q => (by cases q), fun q => (by cases q)⟩, fun rest k => lv_ior hx hb hd k⟩
  · cases h
    exact ⟨x ^^^ y, sx_binC_ok (op := fun x y => x ^^^ y) hf hg (sx_orR_ok hE hf hg).2, ⟨fun q => (by cases q), fun q => (by cases q), fun q => (by cases q), fun q => (by cases q)⟩, fun rest k => lv_ixor hx hb hd k⟩
  · cases h
    exact ⟨x <<< (y &&& 31), sx_binC_ok (op := fun x y => x <<< (y &&& 31)) hf hg (sx_shlR_ok hE hf hg), ⟨fun q => (by cases q), fun q => (by cases q), fun q => (by cases q), fun q => (by cases q)⟩, fun rest k => lv_ishl hx hb hd k⟩
  · cases h
    exact ⟨x >>> (y &&& 31), sx_binC_ok (op := fun x y => x >>> (y &&& 31)) hf hg (sx_shrR_ok hE hf hg), ⟨fun q => (by cases q), fun q => (by cases q), fun _ => sx_shr_lt, fun q => (by cases q)⟩, fun rest k => lv_ishr hx hb hd k⟩
  · cases h
    exact ⟨(x.toUInt32 >>> (y.toUInt32 &&& Int32.toUInt32 31)).toInt32, sx_binC_ok (op := fun x y => (x.toUInt32 >>> (y.toUInt32 &&& Int32.toUInt32 31)).toInt32) hf hg (sx_ushrR_ok hE hf hg), ⟨fun q => (by cases q), fun q => (by cases q), fun q => (by cases q), fun q => (by cases q)⟩, fun rest k => lv_iushr hx hb hd rfl k⟩
  · cases h
theorem sx_bin_ok {f g : sx_LF} {r : sx_Rs} (hC : sx_Cx p s m args c cc nL own Ts) (h : sx_bin i E C N f g = some r) (hd : decode cc pc = .ok (i, 1)) (hE : sx_env Sg E ρ) (hCs : sx_cs C ρ) (hN : ∀ f ∈ N, ∃ n, sx_lf ρ f = some n ∧ n ≠ 0)
    {x y : Int32} (hf : sx_lf ρ f = some x.toInt) (hg : sx_lf ρ g = some y.toInt) : ∃ z : Int32, sx_rs32 ρ r z ∧ sx_brel i x y z ∧
      ∀ rest : List Value, W p l e R s m args below meth c H locs nc ns Q (F0 m (pc + 1) ls (.int z :: rest)) → W p l e R s m args below meth c H locs nc ns Q (F0 m pc ls (.int y :: .int x :: rest)) :=
  sx_bin0_ok hC h hd hE hCs hN (sx_nm_ok hE hf) (sx_nm_ok hE hg)
theorem sx_bin_arm {f g : sx_LF} {r : sx_Rs} {S' : List sx_AV} (hC : sx_Cx p s m args c cc nL own Ts) (h : sx_bin i E C N f g = some r) (hd : decode cc pc = .ok (i, 1)) (hP : sx_Pt FT D cl RT b0 nL s Sg H ρ ((E, C, N, U), FA) L ((0, g) :: (0, f) :: S') ls stk locs) (hle : sx_le Sg0 Sg) (hpre : ρ0 <+: ρ)
    (hW : sx_W FT D cl RT b0 nL p l e R s m args below meth c Q Sg0 ρ0 (pc + 1) ((((sx_new 0 E r).1, sx_binK i E C f g (sx_new 0 E r).2, N, U), FA), (L, (sx_new 0 E r).2 :: S'), nc, ns)) : W p l e R s m args below meth c H locs nc ns Q (F0 m pc ls stk) := by
  obtain ⟨v, t1, rfl, h1, hs1⟩ := sx_stk_cons hP.2.2.1.2.2.2
  obtain ⟨w, t2, rfl, h2, hs2⟩ := sx_stk_cons hs1
  obtain ⟨y, rfl, hy⟩ := sx_av_int h1
  obtain ⟨x, rfl, hx⟩ := sx_av_int h2
  have hG := hP.2.1
  obtain ⟨z, hz, hlt, rule⟩ := sx_bin_ok (l := l) (e := e) (R := R) (below := below) (meth := meth) (H := H) (locs := locs) (nc := nc) (ns := ns) (Q := Q) (ls := ls) hC h hd hG.1 hG.2.1 hG.2.2.1 hx hy
  refine rule t2 ?_
  obtain ⟨ρ3, k1, k2⟩ := sx_new32 hG hz
  refine sx_go hP hle hpre hW ?_ ⟨k2, sx_stk_ext hs2⟩
  obtain ⟨g1, g2, g3⟩ := k1
  refine ⟨g1, ?_, g3⟩
  show sx_cs (sx_binK i E C f g (sx_new 0 E r).2) (ρ ++ ρ3)
  have ha : sx_lf (ρ ++ ρ3) (sx_new 0 E r).2.2 = some z.toInt := by
    have hk2 := k2
    have e0 : (sx_new 0 E r).2 = (0, (sx_new 0 E r).2.2) := by cases r <;> rfl
    rw [e0] at hk2
    obtain ⟨z', e1, e2⟩ := sx_av_int hk2
    cases e1
    exact e2
  obtain ⟨l1, l2, l3, l4⟩ := hlt
  unfold sx_binK
  split
  · exact sx_kle_ok hG.1 hG.2.1 hx ha (l2 rfl).1 (sx_kle_ok hG.1 hG.2.1 hy ha (l2 rfl).2 g2)
  · refine sx_klt_ok hG.1 hG.2.1 hx ha (fun hc h1 => ?_) g2
    simp only [Bool.and_eq_true, decide_eq_true_eq] at hc
    have hy1 := sx_cst_ok hc.1.1 hy
    exact l3 rfl h1 (by omega) (by omega)
  · refine sx_klt_ok hG.1 hG.2.1 hx ha (fun hc h1 => ?_) g2
    simp only [Bool.and_eq_true, decide_eq_true_eq] at hc
    have hy1 := sx_cst_ok hc.1 hy
    exact l4 rfl h1 (by omega)
  · split
    · rename_i hge
      have hy1 : 1 ≤ y.toInt := by
        have := sx_ge_ok hG.1 hG.2.1 (sx_addC_ok (c := -1) hy) hge
        omega
      have hzl := l1 rfl hy1
      intro q hq
      rcases List.mem_cons.mp hq with rfl | hq
      · exact ⟨_, sx_addC_ok (c := -1) (sx_sub_ok (sx_lf_ext hy) ha), by omega⟩
      · exact g2 q hq
    · exact g2
  · exact g2
theorem sx_un_arm {f : sx_LF} {r : sx_Rs} {S' : List sx_AV} (hC : sx_Cx p s m args c cc nL own Ts) (h : sx_un i E f = some r) (hd : decode cc pc = .ok (i, 1)) (hP : sx_Pt FT D cl RT b0 nL s Sg H ρ ((E, C, N, U), FA) L ((0, f) :: S') ls stk locs) (hle : sx_le Sg0 Sg) (hpre : ρ0 <+: ρ)
    (hW : sx_W FT D cl RT b0 nL p l e R s m args below meth c Q Sg0 ρ0 (pc + 1) ((((sx_new 0 E r).1, C, N, U), FA), (L, (sx_new 0 E r).2 :: S'), nc, ns)) : W p l e R s m args below meth c H locs nc ns Q (F0 m pc ls stk) := by
  obtain ⟨hx, hb, -, hown, -⟩ := hC
  have hE := hP.2.1.1
  unfold sx_un at h
  split at h
  · cases h
    exact sx_arm1 (op := fun x => -x) hP hle hpre (fun x hf => sx_fit_ok hE (sx_mul_ok (k := -1) hf) (by rw [Int32.toInt_neg]; congr 1; omega)) (fun x rest k => lv_ineg hx hb hd k) hW
  · have key : ∀ x : Int32, 0 ≤ ((x.toUInt32 % 65536).toInt32).toInt ∧ ((x.toUInt32 % 65536).toInt32).toInt ≤ 65535 := fun x => by
      have h1 := pk_char x
      rw [h1, nI_toInt (by omega)]
      omega
    split at h
    · rename_i a b hr
      split at h
      · rename_i hc
        cases h
        refine sx_arm1 (op := fun x => (x.toUInt32 % 65536).toInt32) hP hle hpre (fun x hf => ?_) (fun x rest k => lv_i2c hx hb hd rfl k) hW
        obtain ⟨n, e1, e2, e3⟩ := sx_rng_ok hE hr
        rw [hf] at e1
        cases e1
        show sx_lf ρ f = some _
        rw [hf, pk_char, nI_toInt (by omega)]
        have := (sx_nn (x := x) (by omega)).2
        congr 1
        rw [this]
        omega
      · cases h
        exact sx_arm1 (op := fun x => (x.toUInt32 % 65536).toInt32) (r := .inr (0, 65535)) hP hle hpre (fun x hf => key x) (fun x rest k => lv_i2c hx hb hd rfl k) hW
    · cases h
      exact sx_arm1 (op := fun x => (x.toUInt32 % 65536).toInt32) (r := .inr (0, 65535)) hP hle hpre (fun x hf => key x) (fun x rest k => lv_i2c hx hb hd rfl k) hW
  · cases h
/-- a local grows by a number -/
theorem sx_iinc_arm {j : Nat} {k : Int} {f : sx_LF} (hC : sx_Cx p s m args c cc nL own Ts) (hd : decode cc pc = .ok (.iinc j k, 3)) (ha : sx_lk L j = some (0, f)) (hj : j < nL) (hP : sx_Pt FT D cl RT b0 nL s Sg H ρ ((E, C, N, U), FA) L S ls stk locs) (hle : sx_le Sg0 Sg) (hpre : ρ0 <+: ρ)
    (hW : sx_W FT D cl RT b0 nL p l e R s m args below meth c Q Sg0 ρ0 (pc + 3) ((((sx_new 0 E (sx_fit E (sx_addC f (Int32.ofInt k).toInt))).1, C, N, U), FA), (sx_put L j (sx_new 0 E (sx_fit E (sx_addC f (Int32.ofInt k).toInt))).2, S), nc, ns)) : W p l e R s m args below meth c H locs nc ns Q (F0 m pc ls stk) := by
  obtain ⟨hx, hb, -, hown, -⟩ := hC
  obtain ⟨v, hv, hl⟩ := hP.2.2.1.2.2.1 _ (sx_lk_mem ha)
  obtain ⟨x, rfl, hf⟩ := sx_av_int hv
  have hl : ls[j]? = some (.val (.int x)) := hl
  have hlv := sx_lvs_has hP.2.2.1
  obtain ⟨q, hq⟩ := List.getElem?_of_mem (sx_lvs_mem (ρ := ρ) (sx_lk_mem ha) hl)
  have hr : sx_rs32 ρ (sx_fit E (sx_addC f (Int32.ofInt k).toInt)) (x + Int32.ofInt k) := sx_fit_ok hP.2.1.1 (sx_addC_ok hf) (Int32.toInt_add _ _)
  obtain ⟨ρ3, h1, h2⟩ := sx_new32 hP.2.1 hr
  refine lv_iinc hx hb hd hlv hq rfl hj rfl (fun ls' h' => ?_)
  obtain ⟨hH, hG, hF, hV⟩ := hP
  have hF2 := sx_Fr_ext (ρ2 := ρ3) hF
  refine hW Sg H (ρ ++ ρ3) ls' stk locs hle (hpre.trans (List.prefix_append ρ ρ3)) ⟨hH, h1, ?_, hV⟩
  refine sx_store1 (a := (sx_new 0 E (sx_fit E (sx_addC f (Int32.ofInt k).toInt))).2) (v := .int (x + Int32.ofInt k)) (ls := ls) (L := L) (S := S) ⟨hF2.1, hF2.2.1, hF2.2.2.1, h2, hF2.2.2.2⟩ ?_ h'
  intro h0
  cases hz : sx_fit E (sx_addC f (Int32.ofInt k).toInt) with
  | inl y => rw [hz] at h0; simp [sx_new] at h0
  | inr y => rw [hz] at h0; simp [sx_new] at h0
/-! the stack -/
theorem sx_dup_arm {a : sx_AV} {S' : List sx_AV} (hC : sx_Cx p s m args c cc nL own Ts) (hd : decode cc pc = .ok (.dup, 1)) (ha : a.1 ≠ 1) (hP : sx_Pt FT D cl RT b0 nL s Sg H ρ ((E, C, N, U), FA) L (a :: S') ls stk locs) (hle : sx_le Sg0 Sg) (hpre : ρ0 <+: ρ)
    (hW : sx_W FT D cl RT b0 nL p l e R s m args below meth c Q Sg0 ρ0 (pc + 1) (((E, C, N, U), FA), (L, a :: a :: S'), nc, ns)) : W p l e R s m args below meth c H locs nc ns Q (F0 m pc ls stk) := by
  obtain ⟨hx, hb, -, hown, -⟩ := hC
  obtain ⟨v, t1, rfl, h1, hs1⟩ := sx_stk_cons hP.2.2.1.2.2.2
  exact lv_dup hx hb hd (sx_cat1 h1 ha) (sx_go0 hP hle hpre hW ⟨h1, h1, hs1⟩)
theorem sx_dup2_arm {a b : sx_AV} {S' : List sx_AV} (hC : sx_Cx p s m args c cc nL own Ts) (hd : decode cc pc = .ok (.dup2, 1)) (ha : a.1 ≠ 1) (hb' : b.1 ≠ 1) (hP : sx_Pt FT D cl RT b0 nL s Sg H ρ ((E, C, N, U), FA) L (a :: b :: S') ls stk locs) (hle : sx_le Sg0 Sg) (hpre : ρ0 <+: ρ)
    (hW : sx_W FT D cl RT b0 nL p l e R s m args below meth c Q Sg0 ρ0 (pc + 1) (((E, C, N, U), FA), (L, a :: b :: a :: b :: S'), nc, ns)) : W p l e R s m args below meth c H locs nc ns Q (F0 m pc ls stk) := by
  obtain ⟨hx, hb, -, hown, -⟩ := hC
  obtain ⟨v, t1, rfl, h1, hs1⟩ := sx_stk_cons hP.2.2.1.2.2.2
  obtain ⟨w, t2, rfl, h2, hs2⟩ := sx_stk_cons hs1
  exact lv_dup2_11 hx hb hd (sx_cat1 h1 ha) (sx_cat1 h2 hb') (sx_go0 hP hle hpre hW ⟨h1, h2, h1, h2, hs2⟩)
theorem sx_pop_arm {a : sx_AV} {S' : List sx_AV} (hC : sx_Cx p s m args c cc nL own Ts) (hd : decode cc pc = .ok (.pop, 1)) (ha : a.1 ≠ 1) (hP : sx_Pt FT D cl RT b0 nL s Sg H ρ ((E, C, N, U), FA) L (a :: S') ls stk locs) (hle : sx_le Sg0 Sg) (hpre : ρ0 <+: ρ)
    (hW : sx_W FT D cl RT b0 nL p l e R s m args below meth c Q Sg0 ρ0 (pc + 1) (((E, C, N, U), FA), (L, S'), nc, ns)) : W p l e R s m args below meth c H locs nc ns Q (F0 m pc ls stk) := by
  obtain ⟨hx, hb, -, hown, -⟩ := hC
  obtain ⟨v, t1, rfl, h1, hs1⟩ := sx_stk_cons hP.2.2.1.2.2.2
  exact lv_pop hx hb hd (sx_cat1 h1 ha) (sx_go0 hP hle hpre hW hs1)
end SX3
