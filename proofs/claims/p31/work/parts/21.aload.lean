/-! sx, reads of arrays -/
def sx_inb (E : List sx_Ty) (C : List sx_LF) (f : sx_LF) (n : Nat) : Bool := sx_ge2 E C f && sx_ge2 E C (sx_sub ((n : Int) - 1, []) f)
theorem sx_inb_ok {Sg : Nat → Option Nat} {E : List sx_Ty} {C : List sx_LF} {ρ : List Value} (hE : sx_env Sg E ρ) (hC : sx_cs C ρ) {f : sx_LF} {n : Nat} {x : Int} (hf : sx_lf ρ f = some x) (h : sx_inb E C f n = true) : 0 ≤ x ∧ x < n := by
  unfold sx_inb at h
  simp only [Bool.and_eq_true] at h
  have h1 := sx_ge2_ok hE hC hf h.1
  have h2 := sx_ge2_ok hE hC (sx_sub_ok (sx_const_ok _) hf) h.2
  omega
/-- an index that is none of these -/
def sx_notin (E : List sx_Ty) (C : List sx_LF) (f : sx_LF) (ex : List Nat) : Bool := ex.all (fun x => sx_ge E C (sx_addC f (-(x : Int) - 1)) || sx_ge E C (sx_sub ((x : Int) - 1, []) f))
theorem sx_notin_ok {Sg : Nat → Option Nat} {E : List sx_Ty} {C : List sx_LF} {ρ : List Value} (hE : sx_env Sg E ρ) (hC : sx_cs C ρ) {f : sx_LF} {ex : List Nat} {x : Int} (hf : sx_lf ρ f = some x) (h : sx_notin E C f ex = true) : ∀ y ∈ ex, x ≠ (y : Int) := by
  intro y hy
  have h1 := List.all_eq_true.mp h y hy
  rcases Bool.or_eq_true_iff.mp h1 with h1 | h1
  · have := sx_ge_ok hE hC (sx_addC_ok (c := -(y : Int) - 1) hf) h1
    omega
  · have := sx_ge_ok hE hC (sx_sub_ok (sx_const_ok _) hf) h1
    omega
/-- residues of an index by p, of a form's: all that may be -/
noncomputable def sx_ixs (E : List sx_Ty) (p : Nat) (f : sx_LF) : List Nat := if p ≤ 1 then [0] else if f.2.all (fun q => decide (q.2 % (p : Int) = 0)) = true then [(f.1 % (p : Int)).toNat] else match sx_rng E f with
  | some (lo, hi) => if 0 ≤ lo ∧ hi - lo < (p : Int) then (List.range (hi - lo + 1).toNat).map (fun i => (lo.toNat + i) % p) else List.range p
  | none => List.range p
theorem sx_ts_dvd {ρ : List Value} {p : Int} : ∀ {t : List (Nat × Int)} {n : Int}, t.all (fun q => decide (q.2 % p = 0)) = true → sx_ts ρ t = some n → n % p = 0
  | [], n, _, h => by
    simp only [sx_ts] at h
    cases h
    exact Int.zero_emod p
  | q :: t, n, ha, h => by
    simp only [List.all_cons, Bool.and_eq_true, decide_eq_true_eq] at ha
    simp only [sx_ts] at h
    split at h
    · rename_i v r hv hr
      cases h
      have h1 := sx_ts_dvd ha.2 hr
      rw [Int.add_emod, h1, Int.mul_emod, ha.1, Int.zero_mul, Int.zero_emod]
      simp
    · cases h
theorem sx_ixs_ok {Sg : Nat → Option Nat} {E : List sx_Ty} {ρ : List Value} (hE : sx_env Sg E ρ) {p : Nat} {f : sx_LF} {x : Int} (hp : 0 < p) (hf : sx_lf ρ f = some x) (h0 : 0 ≤ x) : x.toNat % p ∈ sx_ixs E p f := by
  unfold sx_ixs
  split
  · rename_i h1
    have : p = 1 := by omega
    subst this
    rw [Nat.mod_one]; exact List.mem_cons_self
  · split
    · rename_i ha
      unfold sx_lf at hf
      split at hf
      · rename_i r hr
        have hx : f.1 + r = x := Option.some.inj hf
        have h1 := sx_ts_dvd ha hr
        have h2 : x % (p : Int) = f.1 % (p : Int) := by rw [← hx, Int.add_emod, h1]; simp
        have h3 : ((x.toNat % p : Nat) : Int) = x % (p : Int) := by
          have : ((x.toNat : Nat) : Int) = x := by omega
          rw [← this]; simp
        have h4 : x.toNat % p = (f.1 % (p : Int)).toNat := by omega
        rw [h4]; exact List.mem_cons_self
      · cases hf
    · have hr : x.toNat % p ∈ List.range p := List.mem_range.mpr (Nat.mod_lt _ hp)
      split
      · rename_i lo hi hrng
        split
        · rename_i hc
          obtain ⟨n, n1, n2, n3⟩ := sx_rng_ok hE hrng
          rw [hf] at n1
          cases n1
          refine List.mem_map.mpr ⟨(x - lo).toNat, List.mem_range.mpr (by omega), ?_⟩
          congr 1; omega
        · exact hr
      · exact hr
/-- a type that holds all of these -/
def sx_hull : List sx_Ty → Option sx_Ty
  | [] => none
  | t :: r => match r with
    | [] => some t
    | _ => match sx_hull r with
      | some u => if t.1 = u.1 ∧ t.1 ≤ 1 then some (t.1, min t.2.1 u.2.1, max t.2.2 u.2.2) else none
      | none => none
theorem sx_hull_ok {Sg : Nat → Option Nat} {v : Value} : ∀ {l : List sx_Ty} {t u : sx_Ty}, t ∈ l → sx_hull l = some u → sx_ok Sg v t → sx_ok Sg v u
  | [], t, u, h, _, _ => absurd h List.not_mem_nil
  | a :: r, t, u, h, hu, hv => by
    simp only [sx_hull] at hu
    split at hu
    · cases hu
      rcases List.mem_cons.mp h with rfl | h
      · exact hv
      · exact absurd h List.not_mem_nil
    · split at hu
      · rename_i w hw
        split at hu
        · rename_i hc
          cases hu
          have step : ∀ b : sx_Ty, b.1 = a.1 → sx_ok Sg v b → (min a.2.1 w.2.1 ≤ b.2.1) → (b.2.2 ≤ max a.2.2 w.2.2) → sx_ok Sg v (a.1, min a.2.1 w.2.1, max a.2.2 w.2.2) := fun b hb hvb h1 h2 => by
            rcases hvb with ⟨k1, x, k2, k3, k4⟩ | ⟨k1, x, k2, k3, k4⟩ | ⟨k1, -⟩ | ⟨k1, -⟩
            · exact Or.inl ⟨by show a.1 = 0; omega, x, k2, by show min a.2.1 w.2.1 ≤ x.toInt; omega, by show x.toInt ≤ max a.2.2 w.2.2; omega⟩
            · exact Or.inr (Or.inl ⟨by show a.1 = 1; omega, x, k2, by show min a.2.1 w.2.1 ≤ x.toInt; omega, by show x.toInt ≤ max a.2.2 w.2.2; omega⟩)
            · omega
            · omega
          rcases List.mem_cons.mp h with rfl | h
          · exact step t rfl hv (Int.min_le_left _ _) (Int.le_max_left _ _)
          · exact step w hc.1.symm (sx_hull_ok h hw hv) (Int.min_le_right _ _) (Int.le_max_right _ _)
        · cases hu
      · cases hu
/-- the types that an element at these places may have -/
def sx_tys (l : List sx_Ty) : List Nat → Option (List sx_Ty)
  | [] => some []
  | k :: ks => match l[k]?, sx_tys l ks with
    | some t, some r => some (t :: r)
    | _, _ => none
theorem sx_tys_mem {l : List sx_Ty} : ∀ {ks : List Nat} {r : List sx_Ty} {k : Nat} {t : sx_Ty}, sx_tys l ks = some r → k ∈ ks → l[k]? = some t → t ∈ r
  | [], r, k, t, _, h, _ => absurd h List.not_mem_nil
  | j :: ks, r, k, t, hr, h, ht => by
    simp only [sx_tys] at hr
    split at hr
    · rename_i u r' hu hr'
      cases hr
      rcases List.mem_cons.mp h with rfl | h
      · rw [ht] at hu
        cases hu
        exact List.mem_cons_self
      · exact List.mem_cons_of_mem _ (sx_tys_mem hr' h ht)
    · cases hr
noncomputable def sx_ety0 (E : List sx_Ty) (g : sx_Rg) (f : sx_LF) : Option sx_Ty := match sx_tys g.2.2.2 (sx_ixs E g.2.2.2.length f) with
  | some ts => sx_hull ts
  | none => none
theorem sx_ety0_ok {Sg : Nat → Option Nat} {E : List sx_Ty} {ρ : List Value} (hE : sx_env Sg E ρ) {g : sx_Rg} {f : sx_LF} {x : Int} {t t' : sx_Ty} {v : Value} (g0 : g.1 ≠ 0) (hf : sx_lf ρ f = some x) (h0 : 0 ≤ x) (h : sx_ety0 E g f = some t) (ht' : sx_ft g x.toNat = some t') (hv : sx_ok Sg v t') : sx_ok Sg v t := by
  unfold sx_ft at ht'
  rw [if_neg g0] at ht'
  have hp : 0 < g.2.2.2.length := by
    cases hl : g.2.2.2 with
    | nil => rw [hl] at ht'; simp at ht'
    | cons a b => simp
  unfold sx_ety0 at h
  split at h
  · rename_i ts hts
    exact sx_hull_ok (sx_tys_mem hts (sx_ixs_ok hE hp hf h0) ht') h hv
  · cases h
theorem sx_tys_ft {Sg : Nat → Option Nat} {E : List sx_Ty} {ρ : List Value} (hE : sx_env Sg E ρ) {g : sx_Rg} {f : sx_LF} {x : Int} {t' : sx_Ty} {ts : List sx_Ty} (g0 : g.1 ≠ 0) (hf : sx_lf ρ f = some x) (h0 : 0 ≤ x) (hts : sx_tys g.2.2.2 (sx_ixs E g.2.2.2.length f) = some ts) (ht' : sx_ft g x.toNat = some t') : t' ∈ ts := by
  unfold sx_ft at ht'
  rw [if_neg g0] at ht'
  have hp : 0 < g.2.2.2.length := by
    cases hl : g.2.2.2 with
    | nil => rw [hl] at ht'; simp at ht'
    | cons a b => simp
  exact sx_tys_mem hts (sx_ixs_ok hE hp hf h0) ht'
noncomputable def sx_ety (E : List sx_Ty) (C : List sx_LF) (A : List (Nat × sx_Ty × List Nat)) (g : sx_Rg) (z : Nat) (f : sx_LF) : Option sx_Ty := match sx_fnd (fun q => Nat.beq q.1 z) A with
  | some q => if sx_notin E C f q.2.2 then some q.2.1 else sx_ety0 E g f
  | none => sx_ety0 E g f
/-- n slots from the k-th on are known to hold one and the same -/
noncomputable def sx_same (F : List (Nat × Nat × sx_AV)) (z : Nat) (a : sx_AV) : Nat → Nat → Bool
  | 0, _ => true
  | n + 1, k => decide (sx_fget F z k = some a) && sx_same F z a n (k + 1)
noncomputable def sx_cfr (E : List sx_Ty) (F : List (Nat × Nat × sx_AV)) (z : Nat) (f : sx_LF) : Option sx_AV := match sx_rng E f with
  | some (lo, hi) => if 0 ≤ lo ∧ hi < 1048576 then (match sx_fget F z lo.toNat with
      | some a => if sx_same F z a (hi - lo).toNat (lo.toNat + 1) = true then some a else none
      | none => none) else none
  | none => none
noncomputable def sx_cfact (E : List sx_Ty) (F : List (Nat × Nat × sx_AV)) (z : Nat) (f : sx_LF) : Option sx_AV := match sx_enc f with
  | some k => match sx_fget F z k with
    | some a => some a
    | none => sx_cfr E F z f
  | none => sx_cfr E F z f
def sx_ecs (r : Nat) (v : sx_AV) (f : sx_LF) (F : List (Nat × Nat × sx_AV)) : List (Nat × Nat × sx_AV) := match sx_enc f with
  | some k => (r, k, v) :: F
  | none => F
noncomputable def sx_all1 (kd : Nat) (RT : Nat → Option sx_Rg) (E : List sx_Ty) (C N : List sx_LF) (U : List (Nat × List sx_LF × Nat)) (FA : sx_FA) (L : List (Nat × sx_AV)) (S : List sx_AV) (nc ns : Nat) : Option sx_St := match S with
  | b :: a :: S' => match sx_reg E RT a with
    | some (_, r, g) => if b.1 = 0 ∧ g.1 = kd ∧ sx_inb E C b.2 g.2.1 = true then match sx_cfact E FA.1 r b.2 with
        | some av => some (((E, C, N, U), FA), (L, av :: S'), nc, ns)
        | none => match sx_ety E C FA.2.1 g r b.2 with
          | some t => if t.1 ≤ 1 then some (((E ++ [t], C, N, U), (sx_ecs r (sx_nav t E.length) b.2 FA.1, FA.2)), (L, sx_nav t E.length :: S'), nc, ns) else none
          | none => none
      else none
    | none => none
  | _ => none
section SX7
variable {FT : Nat → List Int → Int} {D : va_G} {cl : List vw_C} {RT : Nat → Option sx_Rg} {b0 : sx_B} {nL : Nat} {p : Program} {l : Launch} {e : Env} {R : Room} {s : State} {m : MethodId} {args : Array Value} {below : List Frame} {meth : Method} {c : Code} {Q : State → Prop}
  {Sg0 : Nat → Option Nat} {ρ0 : List Value} {pc nc ns : Nat} {cc : ByteArray} {own : String} {Ts : List Cond} {Sg : Nat → Option Nat} {H : Heap} {ρ : List Value} {ls : Array Slot} {stk : List Value} {locs : List Loc} {E : List sx_Ty} {C N : List sx_LF} {U : List (Nat × List sx_LF × Nat)}
  {FA : sx_FA} {L : List (Nat × sx_AV)} {S : List sx_AV} {i : Instr} {n : Nat}
theorem sx_same_ok {F : List (Nat × Nat × sx_AV)} {z : Nat} {a : sx_AV} : ∀ {n k : Nat}, sx_same F z a n k = true → ∀ j, k ≤ j → j < k + n → sx_fget F z j = some a
  | 0, k, _, j, h1, h2 => by omega
  | n + 1, k, h, j, h1, h2 => by
    simp only [sx_same, Bool.and_eq_true, decide_eq_true_eq] at h
    by_cases hj : j = k
    · rw [hj]; exact h.1
    · exact sx_same_ok h.2 j (by omega) (by omega)
theorem sx_cfr_mem {F : List (Nat × Nat × sx_AV)} {z : Nat} {f : sx_LF} {a : sx_AV} {x : Int} (hE : sx_env Sg E ρ) (hf : sx_lf ρ f = some x) (h : sx_cfr E F z f = some a) : ∃ k, (z, k, a) ∈ F ∧ sx_ix ρ k = some x.toNat := by
  unfold sx_cfr at h
  split at h
  · rename_i lo hi hr
    obtain ⟨y, hy, hb1, hb2⟩ := sx_rng_ok hE hr
    rw [hf] at hy
    cases hy
    split at h
    · rename_i h0
      split at h
      · rename_i a' ha
        split at h
        · rename_i hs
          cases h
          refine ⟨x.toNat, sx_fget_mem ?_, sx_ix_con (Nat.blt_eq.mpr (by omega))⟩
          by_cases hx : x.toNat = lo.toNat
          · rw [hx]; exact ha
          · exact sx_same_ok hs _ (by omega) (by omega)
        · cases h
      · cases h
    · cases h
  · cases h
theorem sx_cfact_mem {F : List (Nat × Nat × sx_AV)} {z : Nat} {f : sx_LF} {a : sx_AV} {x : Int} (hE : sx_env Sg E ρ) (hf : sx_lf ρ f = some x) (h0 : 0 ≤ x) (h : sx_cfact E F z f = some a) : ∃ k, (z, k, a) ∈ F ∧ sx_ix ρ k = some x.toNat := by
  unfold sx_cfact at h
  split at h
  · rename_i k hk
    split at h
    · rename_i a' ha
      cases h
      exact ⟨k, sx_fget_mem ha, sx_enc_ok hk (by rw [hf]; congr 1; omega)⟩
    · exact sx_cfr_mem hE hf h
  · exact sx_cfr_mem hE hf h
/-- an index as a place -/
theorem sx_idx {x : Int32} {n sz : Nat} (h0 : 0 ≤ x.toInt) (h1 : x.toInt < n) (hs : n ≤ sz) : ¬ (x < 0 ∨ sz ≤ x.toNatClampNeg) ∧ (x.toNatClampNeg : Int) = x.toInt ∧ x.toNatClampNeg < n := by
  have e0 : (0 : Int32).toInt = 0 := by decide
  have hc : x.toNatClampNeg = x.toInt.toNat := rfl
  refine ⟨fun q => ?_, by omega, by omega⟩
  rcases q with q | q
  · rw [Int32.lt_iff_toInt_lt] at q; omega
  · omega
/-- the machine at an array load -/
theorem sx_Wald {q : Nat} {cell : Cell} {g : sx_Rg} {x : Int32} {v : Value} {rest : List Value} (hC : sx_Cx p s m args c cc nL own Ts) (hi : (i = .iaload ∧ g.1 = 1) ∨ (i = .laload ∧ g.1 = 2) ∨ (i = .aaload ∧ g.1 = 3)) (hcell : H[q]? = some cell) (hk : sx_kind D cl s g cell) (h0 : 0 ≤ x.toInt) (h1 : x.toInt < g.2.1) (hv : cell.slots[x.toNatClampNeg]? = some v)
    (hd : decode cc pc = .ok (i, 1)) (kk : W p l e R s m args below meth c H locs nc ns Q (F0 m (pc + 1) ls (v :: rest))) : W p l e R s m args below meth c H locs nc ns Q (F0 m pc ls (.int x :: .ref q :: rest)) := by
  obtain ⟨hx, hb, -, hown, hts⟩ := hC
  rcases hk with ⟨h2, -⟩ | ⟨h2, h3, h4, h5, h6⟩
  · rcases hi with ⟨-, h⟩ | ⟨-, h⟩ | ⟨-, h⟩ <;> omega
  · obtain ⟨e1, -, -⟩ := sx_idx h0 h1 h5
    rcases hi with ⟨rfl, h⟩ | ⟨rfl, h⟩ | ⟨rfl, h⟩
    · have ha : sx_aty cl g = .int := by unfold sx_aty; rw [if_pos h]
      rw [ha] at h3
      exact W.iald hx hb hcell h3 h4 e1 hv rfl rfl hd kk
    · have ha : sx_aty cl g = .long := by unfold sx_aty; rw [if_neg (by omega), if_pos h]
      rw [ha] at h3
      exact W.lald hx hb hcell h3 h4 e1 hv rfl rfl hd kk
    · have ha : sx_aty cl g = .object (sx_cn cl g.2.2.1) := by unfold sx_aty; rw [if_neg (by omega), if_neg (by omega)]
      rw [ha] at h3
      exact W.aald hx hb hcell h3 rfl h4 e1 hv rfl rfl hd kk
theorem sx_all1_ok {kd : Nat} {st' : sx_St} (hC : sx_Cx p s m args c cc nL own Ts) (hi : (i = .iaload ∧ kd = 1) ∨ (i = .laload ∧ kd = 2)) (h : sx_all1 kd RT E C N U FA L S nc ns = some st') (hd : decode cc pc = .ok (i, 1))
    (hP : sx_Pt FT D cl RT b0 nL s Sg H ρ ((E, C, N, U), FA) L S ls stk locs) (hle : sx_le Sg0 Sg) (hpre : ρ0 <+: ρ) (hW : sx_W FT D cl RT b0 nL p l e R s m args below meth c Q Sg0 ρ0 (pc + 1) st') : W p l e R s m args below meth c H locs nc ns Q (F0 m pc ls stk) := by
  unfold sx_all1 at h
  split at h
  · rename_i b a S'
    split at h
    · rename_i z r g hreg
      obtain ⟨w, t1, rfl, h1, hs1⟩ := sx_stk_cons hP.2.2.1.2.2.2
      obtain ⟨v, t2, rfl, h2, hs2⟩ := sx_stk_cons hs1
      have hG := hP.2.1
      obtain ⟨ad, cell, rfl, k1, k2, k3, -, k4, k5, -, k6⟩ := sx_reg_ok hreg hG.1 hP.1 h2
      split at h
      · rename_i hc
        obtain ⟨c1, c2, c3⟩ := hc
        obtain ⟨bt, bf⟩ := b
        have c1 : bt = 0 := c1
        subst c1
        obtain ⟨x, rfl, hf⟩ := sx_av_int h1
        obtain ⟨x0, x1⟩ := sx_inb_ok hG.1 hG.2.1 hf c3
        have g0 : g.1 ≠ 0 := by rcases hi with ⟨-, h⟩ | ⟨-, h⟩ <;> omega
        have hwd : sx_wd g = g.2.1 := by unfold sx_wd; rw [if_neg g0]
        have hi' : (i = .iaload ∧ g.1 = 1) ∨ (i = .laload ∧ g.1 = 2) ∨ (i = .aaload ∧ g.1 = 3) := by rw [c2]; exact hi.elim (fun h => Or.inl h) (fun h => Or.inr (Or.inl h))
        have hcl : (x.toNatClampNeg : Int) = x.toInt := by have : x.toNatClampNeg = x.toInt.toNat := rfl
                                                           omega
        have hlt : x.toNatClampNeg < sx_wd g := by rw [hwd]; omega
        split at h
        · rename_i av hav
          cases h
          obtain ⟨kc, e1, e11⟩ := sx_cfact_mem hG.1 hf x0 hav
          obtain ⟨w, e2, e3⟩ := sx_fact_at hP.1 (hG.2.2.2.2.1 _ e1) e11 k2 k3 k4
          rw [sx_sl1 g0] at e2
          exact sx_Wald hC hi' k4 k5 x0 x1 e2 hd (sx_go0 hP hle hpre hW ⟨e3, hs2⟩)
        · split at h
          · rename_i t ht
            split at h
            · rename_i ht1
              cases h
              obtain ⟨w, t', e1, e2, e3⟩ := k6 x.toNatClampNeg hlt
              have e1' := e1
              rw [sx_sl1 g0] at e1'
              have hok : sx_ok Sg w t := by
                unfold sx_ety at ht
                have hbase : sx_ety0 E g bf = some t → sx_ok Sg w t := fun hb => sx_ety0_ok hG.1 g0 hf x0 hb e2 e3
                split at ht
                · rename_i q hq
                  split at ht
                  · rename_i hni
                    cases ht
                    have hq1 := sx_fnd_mem hq
                    have hq2 := sx_fnd_some hq
                    simp at hq2
                    obtain ⟨a', r', g', cell', f1, f2, f3, f4, f5, f6⟩ := hG.2.2.2.2.2.1 q hq1
                    rw [hq2] at f1
                    subst f1
                    have f0 := sx_uniq hP.1 k2 f2
                    subst f0
                    rw [k3] at f3; cases f3
                    rw [k4] at f5; cases f5
                    refine f6 _ w hlt (fun hin => ?_) e1'
                    exact sx_notin_ok hG.1 hG.2.1 hf hni _ hin hcl.symm
                  · exact hbase ht
                · exact hbase ht
              have hav2 := sx_nav_new (E := E) hG.1.1 (show t.1 ≤ 2 by omega) hok
              have hix : sx_lf ρ bf = some ((x.toNatClampNeg : Nat) : Int) := by rw [hf, hcl]
              refine sx_Wald hC hi' k4 k5 x0 x1 e1' hd ?_
              obtain ⟨hH, -, hF, hV⟩ := hP
              have hF2 := sx_Fr_ext (ρ2 := [w]) hF
              refine hW Sg H (ρ ++ [w]) ls (w :: t2) locs hle (hpre.trans (List.prefix_append ρ _)) ⟨hH, ?_, ⟨hF2.1, hF2.2.1, hF2.2.2.1, hav2, sx_stk_ext hs2⟩, hV⟩
              obtain ⟨m1, m2, m3, m4, m5, m6⟩ := sx_G_ext hG hok
              refine ⟨m1, m2, m3, m4, fun q hq => ?_, m6⟩
              have hq : q ∈ sx_ecs r (sx_nav t E.length) bf FA.1 := hq
              unfold sx_ecs at hq
              split at hq
              · rename_i k hk
                rcases List.mem_cons.mp hq with rfl | hq
                · exact sx_fact_mk (sx_ix_ext (sx_enc_ok hk hix)) k2 k3 k4 hlt e1 hav2
                · exact m5 q hq
              · exact m5 q hq
            · cases h
          · cases h
      · cases h
    · cases h
  · cases h
def sx_len (RT : Nat → Option sx_Rg) (E : List sx_Ty) (C N : List sx_LF) (U : List (Nat × List sx_LF × Nat)) (FA : sx_FA) (L : List (Nat × sx_AV)) (S : List sx_AV) (nc ns : Nat) : Option sx_St := match S with
  | a :: S' => match sx_reg E RT a with
    | some (_, _, g) => if g.1 = 0 then none else some (((E, C, N, U), FA), (L, (0, ((Int32.ofNat g.2.1).toInt, [])) :: S'), nc, ns)
    | none => none
  | _ => none
theorem sx_len_ok {st' : sx_St} (hC : sx_Cx p s m args c cc nL own Ts) (h : sx_len RT E C N U FA L S nc ns = some st') (hd : decode cc pc = .ok (.arraylength, 1))
    (hP : sx_Pt FT D cl RT b0 nL s Sg H ρ ((E, C, N, U), FA) L S ls stk locs) (hle : sx_le Sg0 Sg) (hpre : ρ0 <+: ρ) (hW : sx_W FT D cl RT b0 nL p l e R s m args below meth c Q Sg0 ρ0 (pc + 1) st') : W p l e R s m args below meth c H locs nc ns Q (F0 m pc ls stk) := by
  unfold sx_len at h
  split at h
  · split at h
    · rename_i a S' z r g hreg
      obtain ⟨w, t1, rfl, h1, hs1⟩ := sx_stk_cons hP.2.2.1.2.2.2
      have hG := hP.2.1
      obtain ⟨ad, cell, rfl, k1, k2, k3, -, k4, k5, -, k6⟩ := sx_reg_ok hreg hG.1 hP.1 h1
      split at h
      · cases h
      · rename_i g0
        cases h
        obtain ⟨hx, hb, -, hown, hts⟩ := hC
        rcases k5 with ⟨h2, -⟩ | ⟨h2, h3, h4, h5, h6⟩
        · exact absurd h2 g0
        · exact W.alen (n := Int32.ofNat g.2.1) hx hb k4 h3 h6.1 rfl rfl hd (sx_go0 hP hle hpre hW ⟨sx_int_av (sx_const_ok _), hs1⟩)
    · cases h
  · cases h
/-- a reference out of an array: a way for each place that the index may be -/
noncomputable def sx_aal (g : sx_Rg) (pc : Nat) (z : Nat) (f : sx_LF) (E : List sx_Ty) (C N : List sx_LF) (U : List (Nat × List sx_LF × Nat)) (FA : sx_FA) (L : List (Nat × sx_AV)) (S : List sx_AV) (nc ns : Nat) : Nat → Option (List (Nat × sx_St))
  | 0 => some []
  | k + 1 => match sx_aal g pc z f E C N U FA L S nc ns k with
    | some r => match sx_asEq (sx_addC f (-(k : Int))) E C with
      | some (E', C') => match sx_fget FA.1 z k with
        | some av => some ((pc + 1, (((E', C', N, U), FA), (L, av :: S), nc, ns)) :: r)
        | none => match sx_ft g k with
          | some t => if t.1 ≤ 2 then some ((pc + 1, (((E' ++ [t], C', N, U), ((z, k, sx_nav t E'.length) :: FA.1, FA.2)), (L, sx_nav t E'.length :: S), nc, ns)) :: r) else none
          | none => none
      | none => some r
    | none => none
theorem sx_aal_ok {g : sx_Rg} {z : Nat} {f : sx_LF} {x : Int} (hE : sx_env Sg E ρ) (hCs : sx_cs C ρ) (hf : sx_lf ρ f = some x) : ∀ (k : Nat) (r : List (Nat × sx_St)) (j : Nat), sx_aal g pc z f E C N U FA L S nc ns k = some r → x = (j : Int) → j < k →
    ∃ E' C', sx_env Sg E' ρ ∧ sx_cs C' ρ ∧ ((∃ av, sx_fget FA.1 z j = some av ∧ (pc + 1, (((E', C', N, U), FA), (L, av :: S), nc, ns)) ∈ r) ∨ ∃ t, sx_ft g j = some t ∧ t.1 ≤ 2 ∧ (pc + 1, (((E' ++ [t], C', N, U), ((z, j, sx_nav t E'.length) :: FA.1, FA.2)), (L, sx_nav t E'.length :: S), nc, ns)) ∈ r)
  | 0, r, j, _, _, hj => absurd hj (Nat.not_lt_zero j)
  | k + 1, r, j, h, hx, hj => by
    simp only [sx_aal] at h
    split at h
    · rename_i r' hr'
      by_cases hjk : j = k
      · subst hjk
        obtain ⟨E1, C1, e1, h3, h4⟩ := sx_asEq_ok hE hCs (d := sx_addC f (-(j : Int))) (by rw [sx_addC_ok (c := -(j : Int)) hf]; congr 1; omega)
        rw [e1] at h
        simp only at h
        split at h
        · rename_i av hav
          cases h
          exact ⟨E1, C1, h3, h4, Or.inl ⟨av, hav, List.mem_cons_self⟩⟩
        · split at h
          · rename_i t ht
            split at h
            · rename_i ht1
              cases h
              exact ⟨E1, C1, h3, h4, Or.inr ⟨t, ht, ht1, List.mem_cons_self⟩⟩
            · cases h
          · cases h
      · obtain ⟨E1, C1, h3, h4, h5⟩ := sx_aal_ok hE hCs hf k r' j hr' hx (by omega)
        have hmem : ∀ r2 : List (Nat × sx_St), (∀ q ∈ r', q ∈ r2) → ∃ E' C', sx_env Sg E' ρ ∧ sx_cs C' ρ ∧ ((∃ av, sx_fget FA.1 z j = some av ∧ (pc + 1, (((E', C', N, U), FA), (L, av :: S), nc, ns)) ∈ r2) ∨ ∃ t, sx_ft g j = some t ∧ t.1 ≤ 2 ∧ (pc + 1, (((E' ++ [t], C', N, U), ((z, j, sx_nav t E'.length) :: FA.1, FA.2)), (L, sx_nav t E'.length :: S), nc, ns)) ∈ r2) := fun r2 hr2 => by
          rcases h5 with ⟨av, a1, a2⟩ | ⟨t, a1, a2, a3⟩
          · exact ⟨E1, C1, h3, h4, Or.inl ⟨av, a1, hr2 _ a2⟩⟩
          · exact ⟨E1, C1, h3, h4, Or.inr ⟨t, a1, a2, hr2 _ a3⟩⟩
        split at h
        · split at h
          · cases h
            exact hmem _ fun q hq => List.mem_cons_of_mem _ hq
          · split at h
            · split at h
              · cases h
                exact hmem _ fun q hq => List.mem_cons_of_mem _ hq
              · cases h
            · cases h
        · cases h
          exact hmem _ fun q hq => hq
    · cases h
noncomputable def sx_aald (RT : Nat → Option sx_Rg) (pc : Nat) (E : List sx_Ty) (C N : List sx_LF) (U : List (Nat × List sx_LF × Nat)) (FA : sx_FA) (L : List (Nat × sx_AV)) (S : List sx_AV) (nc ns : Nat) : Option (List (Nat × sx_St)) := match S with
  | b :: a :: S' => match sx_reg E RT a with
    | some (_, r, g) => if b.1 = 0 ∧ g.1 = 3 ∧ sx_inb E C b.2 g.2.1 = true ∧ Nat.ble g.2.1 1048576 = true then sx_aal g pc r b.2 E C N U FA L S' nc ns g.2.1 else none
    | none => none
  | _ => none
theorem sx_aald_ok {X : List (Nat × sx_St)} (hC : sx_Cx p s m args c cc nL own Ts) (h : sx_aald RT pc E C N U FA L S nc ns = some X) (hd : decode cc pc = .ok (.aaload, 1))
    (hP : sx_Pt FT D cl RT b0 nL s Sg H ρ ((E, C, N, U), FA) L S ls stk locs) (hle : sx_le Sg0 Sg) (hpre : ρ0 <+: ρ) (hW : ∀ q ∈ X, sx_W FT D cl RT b0 nL p l e R s m args below meth c Q Sg0 ρ0 q.1 q.2) : W p l e R s m args below meth c H locs nc ns Q (F0 m pc ls stk) := by
  unfold sx_aald at h
  split at h
  · rename_i b a S'
    split at h
    · rename_i z r g hreg
      obtain ⟨w, t1, rfl, h1, hs1⟩ := sx_stk_cons hP.2.2.1.2.2.2
      obtain ⟨v, t2, rfl, h2, hs2⟩ := sx_stk_cons hs1
      have hG := hP.2.1
      obtain ⟨ad, cell, rfl, k1, k2, k3, -, k4, k5, -, k6⟩ := sx_reg_ok hreg hG.1 hP.1 h2
      split at h
      · rename_i hc
        obtain ⟨c1, c2, c3, c4⟩ := hc
        obtain ⟨bt, bf⟩ := b
        have c1 : bt = 0 := c1
        subst c1
        obtain ⟨x, rfl, hf⟩ := sx_av_int h1
        obtain ⟨x0, x1⟩ := sx_inb_ok hG.1 hG.2.1 hf c3
        have hcl : (x.toNatClampNeg : Int) = x.toInt := by have : x.toNatClampNeg = x.toInt.toNat := rfl
                                                           omega
        have hix0 : sx_ix ρ x.toNatClampNeg = some x.toNatClampNeg := sx_ix_con (Nat.blt_eq.mpr (by have := Nat.le_of_ble_eq_true c4; omega))
        obtain ⟨E1, C1, h3, h4, ⟨av, h5, h6⟩ | ⟨t, h5, h51, h6⟩⟩ := sx_aal_ok hG.1 hG.2.1 hf g.2.1 X x.toNatClampNeg h hcl.symm (by omega)
        · obtain ⟨u, e2, e3⟩ := sx_fact_at hP.1 (hG.2.2.2.2.1 _ (sx_fget_mem h5)) hix0 k2 k3 k4
          rw [sx_sl1 (by omega)] at e2
          refine sx_Wald hC (Or.inr (Or.inr ⟨rfl, c2⟩)) k4 k5 x0 x1 e2 hd ?_
          obtain ⟨hH, -, hF, hV⟩ := hP
          exact hW _ h6 Sg H ρ ls (u :: t2) locs hle hpre ⟨hH, ⟨h3, h4, hG.2.2⟩, ⟨hF.1, hF.2.1, hF.2.2.1, e3, hs2⟩, hV⟩
        · have g0 : g.1 ≠ 0 := by omega
          have hwd : sx_wd g = g.2.1 := by unfold sx_wd; rw [if_neg g0]
          have hlt : x.toNatClampNeg < sx_wd g := by rw [hwd]; omega
          obtain ⟨u, t', e1, e2, e3⟩ := k6 x.toNatClampNeg hlt
          rw [h5] at e2
          cases e2
          have e1' := e1
          rw [sx_sl1 g0] at e1'
          have hG2 : sx_G FT D RT Sg H ρ ((E1, C1, N, U), FA) := ⟨h3, h4, hG.2.2⟩
          obtain ⟨r1, r2⟩ := sx_read hG2 h51 e3 k1 k2 k3 k4 hlt e1 hix0
          refine sx_Wald hC (Or.inr (Or.inr ⟨rfl, c2⟩)) k4 k5 x0 x1 e1' hd ?_
          obtain ⟨hH, -, hF, hV⟩ := hP
          have hF2 := sx_Fr_ext (ρ2 := [u]) hF
          exact hW _ h6 Sg H (ρ ++ [u]) ls (u :: t2) locs hle (hpre.trans (List.prefix_append ρ _)) ⟨hH, r1, ⟨hF2.1, hF2.2.1, hF2.2.2.1, r2, sx_stk_ext hs2⟩, hV⟩
      · cases h
    · cases h
  · cases h
end SX7
