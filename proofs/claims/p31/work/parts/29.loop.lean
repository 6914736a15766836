/-! sx, loops: at a head the changed locals get new symbols; what is changed in the heap is dropped; a number falls -/
/-- an annotation: (pc, changed locals with types, (measured local, 0 up 1 down), dropped (region, 1 all or 0 one, slot; _, 2: whatever there is), (local, bound: below it no cut), slots that go with a changed local (region, slot, local, how often)) -/
abbrev sx_Lp : Type := Nat × List (Nat × sx_Ty) × (Nat × Nat) × List (Nat × Nat × Nat) × (Nat × Int) × List (Nat × Nat × Nat × Int) × List (Int × List (Nat × Int))
/-- a loop that is gone through: (pc, changed locals, (measured, way), what is known ahead of it, kept locals, stack, cells, slots, slots that go with a changed local (region, slot, place of the local, form without it)) -/
abbrev sx_Al : Type := Nat × List (Nat × sx_Ty) × (Nat × Nat) × sx_Kn × List (Nat × sx_AV) × List sx_AV × Nat × Nat × List (Nat × Nat × Nat × Int × sx_LF) × List (Int × List (Nat × Int))
def sx_lkF (n0 : Nat) (q : Nat × Nat × Nat × Int × sx_LF) : Nat × Nat × sx_AV := (q.1, q.2.1, (0, sx_add q.2.2.2.2 (sx_mul q.2.2.2.1 (0, [(n0 + q.2.2.1, 1)]))))
def sx_mL (n0 : Nat) : List (Nat × sx_Ty) → List (Nat × sx_AV)
  | [] => []
  | q :: ms => (q.1, (0, (0, [(n0, 1)]))) :: sx_mL (n0 + 1) ms
/-- a form over locals -/
noncomputable def sx_cf (L : List (Nat × sx_AV)) : List (Nat × Int) → Option sx_LF
  | [] => some (0, [])
  | q :: r => match sx_lk L q.1, sx_cf L r with
    | some a, some f => if a.1 = 0 then some (sx_add (sx_mul q.2 a.2) f) else none
    | _, _ => none
noncomputable def sx_cfc (L : List (Nat × sx_AV)) (c : Int × List (Nat × Int)) : Option sx_LF := match sx_cf L c.2 with
  | some f => some (sx_addC f c.1)
  | none => none
/-- forms over locals that are not below 0 -/
noncomputable def sx_cok (E : List sx_Ty) (C : List sx_LF) (L : List (Nat × sx_AV)) (cs : List (Int × List (Nat × Int))) : Bool := cs.all (fun c => match sx_cfc L c with
  | some f => sx_ge2 E C f
  | none => false)
noncomputable def sx_hcs (L : List (Nat × sx_AV)) (cs : List (Int × List (Nat × Int))) : List sx_LF := cs.filterMap (sx_cfc L)
theorem sx_cf_two {ρ ρ' : List Value} {ls : Array Slot} {L L' : List (Nat × sx_AV)} (hL : ∀ q ∈ L, ∃ v, sx_av ρ q.2 v ∧ ls[q.1]? = some (.val v)) (hL' : ∀ q ∈ L', ∃ v, sx_av ρ' q.2 v ∧ ls[q.1]? = some (.val v)) : ∀ {t : List (Nat × Int)} {f f' : sx_LF}, sx_cf L t = some f → sx_cf L' t = some f' → ∃ n, sx_lf ρ f = some n ∧ sx_lf ρ' f' = some n
  | [], f, f', h, h' => by
    simp only [sx_cf] at h h'
    cases h; cases h'
    exact ⟨0, sx_const_ok 0, sx_const_ok 0⟩
  | q :: r, f, f', h, h' => by
    simp only [sx_cf] at h h'
    split at h
    · rename_i a g ha hg
      split at h
      · rename_i h0
        cases h
        split at h'
        · rename_i a' g' ha' hg'
          split at h'
          · rename_i h0'
            cases h'
            obtain ⟨n, n1, n2⟩ := sx_cf_two hL hL' hg hg'
            obtain ⟨v, v1, v2⟩ := hL _ (sx_lk_mem ha)
            obtain ⟨w, w1, w2⟩ := hL' _ (sx_lk_mem ha')
            obtain ⟨at_, af⟩ := a
            obtain ⟨at', af'⟩ := a'
            have h0 : at_ = 0 := h0
            have h0' : at' = 0 := h0'
            subst h0; subst h0'
            have v2 : ls[q.1]? = some (.val v) := v2
            have w2 : ls[q.1]? = some (.val w) := w2
            rw [v2] at w2
            cases w2
            obtain ⟨x, rfl, hx⟩ := sx_av_int v1
            obtain ⟨y, hy, hy2⟩ := sx_av_int w1
            cases hy
            exact ⟨q.2 * x.toInt + n, sx_add_ok (sx_mul_ok hx) n1, sx_add_ok (sx_mul_ok hy2) n2⟩
          · cases h'
        · cases h'
      · cases h
    · cases h
theorem sx_hcs_ok {Sg : Nat → Option Nat} {E : List sx_Ty} {C : List sx_LF} {ρ ρ' : List Value} {ls : Array Slot} {L L' : List (Nat × sx_AV)} {cs : List (Int × List (Nat × Int))} (hE : sx_env Sg E ρ) (hC : sx_cs C ρ) (hL : ∀ q ∈ L, ∃ v, sx_av ρ q.2 v ∧ ls[q.1]? = some (.val v)) (hL' : ∀ q ∈ L', ∃ v, sx_av ρ' q.2 v ∧ ls[q.1]? = some (.val v)) (h : sx_cok E C L cs = true) : ∀ f ∈ sx_hcs L' cs, ∃ n, sx_lf ρ' f = some n ∧ 0 ≤ n := by
  intro f hf
  obtain ⟨c, hc, hcf⟩ := List.mem_filterMap.mp hf
  have h1 := List.all_eq_true.mp h c hc
  split at h1
  · rename_i g hg
    unfold sx_cfc at hg hcf
    split at hg
    · rename_i g0 hg0
      cases hg
      split at hcf
      · rename_i f0 hf0
        cases hcf
        obtain ⟨n, n1, n2⟩ := sx_cf_two hL hL' hg0 hf0
        exact ⟨n + c.1, sx_addC_ok n2, sx_ge2_ok hE hC (sx_addC_ok n1) h1⟩
      · cases hcf
    · cases hg
  · cases h1
noncomputable def sx_hdL (a : sx_Al) : List (Nat × sx_AV) := sx_mL a.2.2.2.1.1.1.length a.2.1 ++ a.2.2.2.2.1
noncomputable def sx_head (a : sx_Al) : sx_St := (((a.2.2.2.1.1.1 ++ a.2.1.map (fun q => q.2), (sx_hcs (sx_hdL a) a.2.2.2.2.2.2.2.2.2 ++ a.2.2.2.1.1.2.1, a.2.2.2.1.1.2.2)), (a.2.2.2.2.2.2.2.2.1.map (sx_lkF a.2.2.2.1.1.1.length) ++ a.2.2.2.1.2.1, a.2.2.2.1.2.2)), (sx_hdL a, a.2.2.2.2.2.1), a.2.2.2.2.2.2.1, a.2.2.2.2.2.2.2.1)
/-- the changed locals are ints of their types -/
noncomputable def sx_mok (E : List sx_Ty) (C : List sx_LF) (L : List (Nat × sx_AV)) (ms : List (Nat × sx_Ty)) : Bool := ms.all (fun q => match sx_lk L q.1 with
  | some a => q.2.1 == 0 && sx_conf E C a q.2
  | none => false)
def sx_dr (ds : List (Nat × Nat × Nat)) (r k : Nat) : Bool := ds.any (fun d => d.2.1 == 2 || d.1 == r && (d.2.1 == 1 || d.2.2 == k))
def sx_drA (ds : List (Nat × Nat × Nat)) (r : Nat) : Bool := ds.any (fun d => d.2.1 == 2 || d.1 == r)
/-- the place of the measured local among the changed ones -/
def sx_pos (j : Nat) : List (Nat × sx_Ty) → Option Nat
  | [] => none
  | q :: ms => if q.1 = j then some 0 else match sx_pos j ms with
    | some k => some (k + 1)
    | none => none
/-- how slots go with changed locals -/
noncomputable def sx_mkL (F : List (Nat × Nat × sx_AV)) (L : List (Nat × sx_AV)) (ms : List (Nat × sx_Ty)) : List (Nat × Nat × Nat × Int) → Option (List (Nat × Nat × Nat × Int × sx_LF))
  | [] => some []
  | q :: r => match sx_fget F q.1 q.2.1, sx_pos q.2.2.1 ms, sx_lk L q.2.2.1, sx_mkL F L ms r with
    | some h, some k, some v, some rs => if h.1 = 0 ∧ v.1 = 0 ∧ Nat.blt q.2.1 1048576 = true then some ((q.1, q.2.1, k, q.2.2.2, sx_sub h.2 (sx_mul q.2.2.2 v.2)) :: rs) else none
    | _, _, _, _ => none
noncomputable def sx_enter (q : sx_Lp) (st : sx_St) : Option sx_Al := match st with
  | (((E, C, N, U), FA), (L, S), nc, ns) => if (sx_mok E C L q.2.1 && sx_cok E C L q.2.2.2.2.2.2) = true then
      (match sx_mkL FA.1 L q.2.1 q.2.2.2.2.2.1 with
      | some lks => some (q.1, q.2.1, q.2.2.1, ((E, C, N, U), (FA.1.filter (fun x => !(sx_dr q.2.2.2.1 x.1 x.2.1) && Nat.blt x.2.1 1048576), FA.2.1.filter (fun x => !(sx_drA q.2.2.2.1 x.1)), FA.2.2)), L.filter (fun x => !(q.2.1.any (fun y => y.1 == x.1))), S, nc, ns, lks, q.2.2.2.2.2.2)
      | none => none) else none
noncomputable def sx_back (a : sx_Al) (st : sx_St) : Bool := match st with
  | (((E, C, _, _), FA), (L, S), nc, ns) => (sx_mok E C L a.2.1 && sx_cok E C L a.2.2.2.2.2.2.2.2.2) && a.2.2.2.2.1.all (fun q => decide (q ∈ L)) && decide (S = a.2.2.2.2.2.1) && a.2.2.2.1.2.1.isSublist FA.1 && a.2.2.2.1.2.2.1.isSublist FA.2.1 && FA.2.2 == a.2.2.2.1.2.2.2 && nc == a.2.2.2.2.2.2.1 && ns == a.2.2.2.2.2.2.2.1 && a.2.2.2.2.2.2.2.2.1.all (fun q => match a.2.1[q.2.2.1]? with
      | some y => match sx_lk L y.1, sx_fget FA.1 q.1 q.2.1 with
        | some v, some h => Nat.blt q.2.1 1048576 && (h.1 == 0 && decide (h.2 = sx_add q.2.2.2.2 (sx_mul q.2.2.2.1 v.2)))
        | _, _ => false
      | none => false) &&
    match sx_pos a.2.2.1.1 a.2.1, sx_lk L a.2.2.1.1 with
    | some k, some v => if a.2.2.1.2 = 0 then sx_ge E C (sx_addC (sx_sub v.2 (0, [(a.2.2.2.1.1.1.length + k, 1)])) (-1)) else sx_ge E C (sx_addC (sx_sub (0, [(a.2.2.2.1.1.1.length + k, 1)]) v.2) (-1))
    | _, _ => false
theorem sx_iv_det {ρ ρ' : List Value} (h : ρ <+: ρ') {z : Nat} {v : Int} (hv : sx_iv ρ z = some v) : sx_iv ρ' z = some v := by
  obtain ⟨t, rfl⟩ := h
  exact sx_iv_ext hv
theorem sx_av_pre {ρ ρ' : List Value} (h : ρ <+: ρ') {a : sx_AV} {v : Value} (hv : sx_av ρ a v) : sx_av ρ' a v := by
  obtain ⟨t, rfl⟩ := h
  exact sx_av_ext hv
theorem sx_get_pre {ρ ρ' : List Value} (h : ρ <+: ρ') {z : Nat} {v : Value} (hv : ρ[z]? = some v) : ρ'[z]? = some v := by
  obtain ⟨t, rfl⟩ := h
  exact sx_get_ext hv
theorem sx_stk_pre {ρ ρ' : List Value} (h : ρ <+: ρ') {S : List sx_AV} {t : List Value} (hv : sx_stk ρ S t) : sx_stk ρ' S t := by
  obtain ⟨u, rfl⟩ := h
  exact sx_stk_ext hv
theorem sx_av_det {ρ : List Value} {a : sx_AV} {v w : Value} (hv : sx_av ρ a v) (hw : sx_av ρ a w) : v = w := by
  rcases hv with ⟨h1, x, rfl, h2⟩ | ⟨h1, x, rfl, h2⟩ | ⟨h1, h2, -⟩ | ⟨h1, rfl⟩ <;> rcases hw with ⟨k1, y, rfl, k2⟩ | ⟨k1, y, rfl, k2⟩ | ⟨k1, k2, -⟩ | ⟨k1, rfl⟩ <;> first | omega | rfl | skip
  · rw [h2] at k2
    have := Int32.toInt_inj.mp (Option.some.inj k2)
    rw [this]
  · rw [h2] at k2
    have := Int64.toInt_inj.mp (Option.some.inj k2)
    rw [this]
  · rw [h2] at k2
    exact Option.some.inj k2
theorem sx_stk_det {ρ : List Value} : ∀ {S : List sx_AV} {t u : List Value}, sx_stk ρ S t → sx_stk ρ S u → t = u
  | [], [], [], _, _ => rfl
  | a :: S, v :: t, w :: u, h, k => by rw [sx_av_det h.1 k.1, sx_stk_det h.2 k.2]
  | [], _ :: _, _, h, _ => h.elim
  | [], [], _ :: _, _, k => k.elim
  | _ :: _, [], _, h, _ => h.elim
  | _ :: _, _ :: _, [], _, k => k.elim
/-- values for the changed locals -/
theorem sx_vals {Sg : Nat → Option Nat} {E : List sx_Ty} {C : List sx_LF} {ρ : List Value} (hE : sx_env Sg E ρ) (hC : sx_cs C ρ) {ls : Array Slot} {L : List (Nat × sx_AV)} (hL : ∀ q ∈ L, ∃ v, sx_av ρ q.2 v ∧ ls[q.1]? = some (.val v)) : ∀ (ms : List (Nat × sx_Ty)), sx_mok E C L ms = true →
    ∃ vals : List Value, vals.length = ms.length ∧ ∀ (k : Nat) (q : Nat × sx_Ty), ms[k]? = some q → ∃ (x : Int32) (a : sx_AV), vals[k]? = some (.int x) ∧ sx_ok Sg (.int x) q.2 ∧ q.2.1 = 0 ∧ ls[q.1]? = some (.val (.int x)) ∧ sx_lk L q.1 = some a ∧ a.1 = 0 ∧ sx_lf ρ a.2 = some x.toInt
  | [], _ => ⟨[], rfl, fun k q h => by simp at h⟩
  | q :: ms, h => by
    unfold sx_mok at h
    rw [List.all_cons, Bool.and_eq_true] at h
    obtain ⟨h1, h2⟩ := h
    obtain ⟨vals, e1, e2⟩ := sx_vals hE hC hL ms h2
    cases hk : sx_lk L q.1 with
    | none => rw [hk] at h1; cases h1
    | some a =>
      rw [hk] at h1
      simp only [Bool.and_eq_true, beq_iff_eq] at h1
      obtain ⟨v, m1, m2⟩ := hL _ (sx_lk_mem hk)
      have hok := sx_conf_ok hE hC m1 h1.2
      have h0 := h1.1
      rcases hok with ⟨-, x, rfl, l1, l2⟩ | ⟨h3, -⟩ | ⟨h3, -⟩ | ⟨h3, -⟩
      · have ha0 : a.1 = 0 := by
          rcases m1 with ⟨m1, -⟩ | ⟨-, y, m1, -⟩ | ⟨-, -, y, m1⟩ | ⟨-, m1⟩
          · exact m1
          · cases m1
          · cases m1
          · cases m1
        have hlf : sx_lf ρ a.2 = some x.toInt := by
          have m1' := m1
          obtain ⟨tg, f⟩ := a
          have ha0 : tg = 0 := ha0
          subst ha0
          obtain ⟨y, hy, hf⟩ := sx_av_int m1'
          cases hy
          exact hf
        refine ⟨.int x :: vals, by simp [e1], fun k q' hq' => ?_⟩
        cases k with
        | zero =>
          simp at hq'
          subst hq'
          exact ⟨x, a, rfl, Or.inl ⟨h0, x, rfl, l1, l2⟩, h0, m2, hk, ha0, hlf⟩
        | succ k =>
          simp at hq'
          obtain ⟨y, b, z1, z2⟩ := e2 k q' hq'
          exact ⟨y, b, by simpa using z1, z2⟩
      · omega
      · omega
      · omega
theorem sx_mL_mem : ∀ (ms : List (Nat × sx_Ty)) (n0 : Nat) (q : Nat × sx_AV), q ∈ sx_mL n0 ms → ∃ (k : Nat) (y : Nat × sx_Ty), ms[k]? = some y ∧ q = (y.1, (0, (0, [(n0 + k, 1)])))
  | [], n0, q, h => by simp [sx_mL] at h
  | y :: ms, n0, q, h => by
    simp only [sx_mL] at h
    rcases List.mem_cons.mp h with rfl | h
    · exact ⟨0, y, rfl, rfl⟩
    · obtain ⟨k, z, h1, h2⟩ := sx_mL_mem ms (n0 + 1) q h
      exact ⟨k + 1, z, by simpa using h1, by rw [h2, Nat.add_assoc, Nat.add_comm 1 k]⟩
theorem sx_env_app {Sg : Nat → Option Nat} {E : List sx_Ty} {ρ vals : List Value} {ms : List (Nat × sx_Ty)} (hE : sx_env Sg E ρ) (hl : vals.length = ms.length) (h : ∀ (k : Nat) (q : Nat × sx_Ty), ms[k]? = some q → ∃ v, vals[k]? = some v ∧ sx_ok Sg v q.2) : sx_env Sg (E ++ ms.map (fun q => q.2)) (ρ ++ vals) := by
  refine ⟨by simp [hE.1, hl], fun z t v hz hv => ?_⟩
  by_cases hlt : z < E.length
  · rw [List.getElem?_append_left hlt] at hz
    rw [List.getElem?_append_left (by rw [hE.1]; exact hlt)] at hv
    exact hE.2 z t v hz hv
  · rw [List.getElem?_append_right (by omega)] at hz
    rw [List.getElem?_append_right (by rw [hE.1]; omega), hE.1] at hv
    rw [List.getElem?_map] at hz
    cases hm : ms[z - E.length]? with
    | none => rw [hm] at hz; cases hz
    | some q =>
      rw [hm] at hz
      cases hz
      obtain ⟨w, k1, k2⟩ := h _ q hm
      rw [hv] at k1
      cases k1
      exact k2
