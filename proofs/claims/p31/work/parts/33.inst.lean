/-! sx, states that tell less: fewer facts, other numbers for the symbols ('sg': the old number of each new symbol) -/
def sx_rnT (sg : List Nat) : List (Nat × Int) → Option (List (Nat × Int))
  | [] => some []
  | q :: t => match sg[q.1]?, sx_rnT sg t with
    | some z, some r => some ((z, q.2) :: r)
    | _, _ => none
def sx_rnA (sg : List Nat) (a : sx_AV) : Option sx_AV :=
  if a.1 = 2 then (if 0 ≤ a.2.1 then match sg[a.2.1.toNat]? with
    | some z => some (2, ((z : Int), []))
    | none => none
    else none) else match sx_rnT sg a.2.2 with
    | some t => some (a.1, (a.2.1, t))
    | none => none
def sx_rho (sg : List Nat) (ρ : List Value) : List Value := sg.map (fun z => ρ.getD z .null)
def sx_rnE (E : List sx_Ty) (z : Nat) (t : sx_Ty) : Bool := match E[z]? with
  | some u => u.1 == t.1 && (if t.1 ≤ 1 then decide (t.2.1 ≤ u.2.1) && decide (u.2.2 ≤ t.2.2) else if t.1 = 2 then decide (u.2.1 = t.2.1) else true)
  | none => false
def sx_rnEs (E : List sx_Ty) : List Nat → List sx_Ty → Bool
  | [], [] => true
  | z :: sg, t :: E' => sx_rnE E z t && sx_rnEs E sg E'
  | _, _ => false
def sx_rnS (sg : List Nat) : List sx_AV → List sx_AV → Bool
  | [], [] => true
  | a :: S, b :: S' => decide (sx_rnA sg b = some a) && sx_rnS sg S S'
  | _, _ => false
noncomputable def sx_inst (sg : List Nat) (st' st : sx_St) : Bool := match st', st with
  | (((E', C', N', U'), (F', A', n')), (L', S'), nc', ns'), (((E, _, _, _), (F, A, n)), (L, S), nc, ns) =>
    sx_rnEs E sg E' && C'.isEmpty && N'.isEmpty && U'.isEmpty &&
    F'.all (fun q => Nat.blt q.2.1 1048576 && (decide (sx_rnA sg q.2.2 = sx_fget F q.1 q.2.1) && (sx_rnA sg q.2.2).isSome)) &&
    A'.all (fun q => decide (sx_fnd (fun x => Nat.beq x.1 q.1) A = some q)) && Nat.beq n' n &&
    L'.all (fun q => decide (sx_rnA sg q.2 = sx_lk L q.1) && (sx_rnA sg q.2).isSome) && sx_rnS sg S S' && Nat.beq nc' nc && Nat.beq ns' ns
theorem sx_rho_get {sg : List Nat} {ρ : List Value} {i z : Nat} {v : Value} (h : sg[i]? = some z) (hv : ρ[z]? = some v) : (sx_rho sg ρ)[i]? = some v := by
  unfold sx_rho
  rw [List.getElem?_map, h]
  simp [List.getD, hv]
theorem sx_rnT_ok {sg : List Nat} {ρ : List Value} : ∀ {t' t : List (Nat × Int)} {n : Int}, sx_rnT sg t' = some t → sx_ts ρ t = some n → sx_ts (sx_rho sg ρ) t' = some n
  | [], t, n, h, hn => by
    simp only [sx_rnT] at h
    cases h
    exact hn
  | q :: t', t, n, h, hn => by
    simp only [sx_rnT] at h
    split at h
    · rename_i z r hz hr
      cases h
      simp only [sx_ts] at hn ⊢
      split at hn
      · rename_i v s hv hs
        cases hn
        rw [sx_rnT_ok hr hs]
        have : sx_iv (sx_rho sg ρ) q.1 = some v := by
          have hv : sx_iv ρ z = some v := hv
          unfold sx_iv at hv ⊢
          cases hw : ρ[z]? with
          | none => rw [hw] at hv; cases hv
          | some w => rw [sx_rho_get hz hw]; rw [hw] at hv; exact hv
        rw [this]
      · cases hn
    · cases h
theorem sx_rnA_ok {sg : List Nat} {ρ : List Value} {a' a : sx_AV} {v : Value} (h : sx_rnA sg a' = some a) (hv : sx_av ρ a v) : sx_av (sx_rho sg ρ) a' v := by
  obtain ⟨tg, f⟩ := a'
  unfold sx_rnA at h
  simp only at h
  split at h
  · rename_i h2
    split at h
    · rename_i h0
      split at h
      · rename_i z hz
        cases h
        obtain ⟨h1, hq⟩ := sx_av_ref hv
        refine Or.inr (Or.inr (Or.inl ⟨h2, ?_, hq⟩))
        exact sx_rho_get hz (by simpa using h1)
      · cases h
    · cases h
  · rename_i h2
    split at h
    · rename_i t ht
      cases h
      have lf : ∀ n, sx_lf ρ (f.1, t) = some n → sx_lf (sx_rho sg ρ) f = some n := fun n hn => by
        unfold sx_lf at hn ⊢
        split at hn
        · rename_i r hr
          cases hn
          rw [sx_rnT_ok ht hr]
        · cases hn
      rcases hv with ⟨k, x, rfl, hx⟩ | ⟨k, x, rfl, hx⟩ | ⟨k, -⟩ | ⟨k, rfl⟩
      · exact Or.inl ⟨k, x, rfl, lf _ hx⟩
      · exact Or.inr (Or.inl ⟨k, x, rfl, lf _ hx⟩)
      · exact absurd k h2
      · exact Or.inr (Or.inr (Or.inr ⟨k, rfl⟩))
    · cases h
theorem sx_rnS_ok {sg : List Nat} {ρ : List Value} : ∀ {S S' : List sx_AV} {t : List Value}, sx_rnS sg S S' = true → sx_stk ρ S t → sx_stk (sx_rho sg ρ) S' t
  | [], [], [], _, _ => trivial
  | a :: S, b :: S', v :: t, h, k => by
    simp only [sx_rnS, Bool.and_eq_true, decide_eq_true_eq] at h
    exact ⟨sx_rnA_ok h.1 k.1, sx_rnS_ok h.2 k.2⟩
  | [], [], _ :: _, _, k => k.elim
  | _ :: _, _, [], _, k => k.elim
  | [], _ :: _, _, h, _ => by simp [sx_rnS] at h
  | _ :: _, [], _ :: _, h, _ => by simp [sx_rnS] at h
theorem sx_rnEs_ok {Sg : Nat → Option Nat} {E : List sx_Ty} {ρ : List Value} (hE : sx_env Sg E ρ) : ∀ {sg : List Nat} {E' : List sx_Ty}, sx_rnEs E sg E' = true → sx_env Sg E' (sx_rho sg ρ)
  | [], [], _ => ⟨rfl, fun z t v h => by simp at h⟩
  | y :: sg, t :: E', h => by
    simp only [sx_rnEs, Bool.and_eq_true] at h
    obtain ⟨h1, h2⟩ := h
    have ih := sx_rnEs_ok hE h2
    have il : (sx_rho sg ρ).length = E'.length := ih.1
    refine ⟨by simp only [sx_rho, List.length_map, List.length_cons] at il ⊢; omega, fun z u v hz hv => ?_⟩
    cases z with
    | zero =>
      simp at hz
      subst hz
      unfold sx_rnE at h1
      split at h1
      · rename_i w hw
        have hlt : y < ρ.length := by rw [hE.1]; exact (List.getElem?_eq_some_iff.mp hw).1
        have hρ : ρ[y]? = some ρ[y] := List.getElem?_eq_getElem hlt
        have hv' : v = ρ[y] := by
          have := sx_rho_get (sg := y :: sg) (i := 0) (z := y) (by simp) hρ
          rw [this] at hv
          exact (Option.some.inj hv).symm
        have hok := hE.2 y w _ hw hρ
        rw [← hv'] at hok
        simp only [Bool.and_eq_true, beq_iff_eq] at h1
        obtain ⟨k1, k2⟩ := h1
        rcases hok with ⟨j1, x, j2, j3, j4⟩ | ⟨j1, x, j2, j3, j4⟩ | ⟨j1, x, j2, j3⟩ | ⟨j1, j2⟩
        · rw [if_pos (by omega)] at k2
          simp only [Bool.and_eq_true, decide_eq_true_eq] at k2
          exact Or.inl ⟨by omega, x, j2, by omega, by omega⟩
        · rw [if_pos (by omega)] at k2
          simp only [Bool.and_eq_true, decide_eq_true_eq] at k2
          exact Or.inr (Or.inl ⟨by omega, x, j2, by omega, by omega⟩)
        · rw [if_neg (by omega), if_pos (by omega)] at k2
          simp only [decide_eq_true_eq] at k2
          exact Or.inr (Or.inr (Or.inl ⟨by omega, x, j2, by rw [← k2]; exact j3⟩))
        · exact Or.inr (Or.inr (Or.inr ⟨by omega, j2⟩))
      · cases h1
    | succ z =>
      have hz : E'[z]? = some u := by simpa using hz
      have hv : (sx_rho sg ρ)[z]? = some v := by simpa [sx_rho] using hv
      exact ih.2 z u v hz hv
  | [], _ :: _, h => by simp [sx_rnEs] at h
  | _ :: _, [], h => by simp [sx_rnEs] at h
section SX18
variable {FT : Nat → List Int → Int} {D : va_G} {cl : List vw_C} {RT : Nat → Option sx_Rg} {b0 : sx_B} {nL : Nat} {p : Program} {l : Launch} {e : Env} {R : Room} {s : State} {m : MethodId} {args : Array Value} {below : List Frame} {meth : Method} {c : Code} {Q : State → Prop} {pc : Nat}
/-- what holds from the state that tells less holds from the other -/
theorem sx_inst_ok {sg : List Nat} {st' st : sx_St} (h : sx_inst sg st' st = true) (hW : sx_W FT D cl RT b0 nL p l e R s m args below meth c Q (fun _ => none) [] pc st') {Sg0 : Nat → Option Nat} {ρ0 : List Value} : sx_W FT D cl RT b0 nL p l e R s m args below meth c Q Sg0 ρ0 pc st := by
  obtain ⟨⟨⟨E', C', N', U'⟩, F', A', n'⟩, ⟨L', S'⟩, nc', ns'⟩ := st'
  obtain ⟨⟨⟨E, C, N, U⟩, F, A, n⟩, ⟨L, S⟩, nc, ns⟩ := st
  intro Sg H ρ ls stk locs hle hpre hP
  unfold sx_inst at h
  simp only [Bool.and_eq_true, List.isEmpty_iff] at h
  obtain ⟨⟨⟨⟨⟨⟨⟨⟨⟨⟨h1, h2⟩, h3⟩, h4⟩, h5⟩, h6⟩, h7⟩, h8⟩, h9⟩, h10⟩, h11⟩ := h
  subst h2; subst h3; subst h4
  have h7 := Nat.eq_of_beq_eq_true h7
  have h10 := Nat.eq_of_beq_eq_true h10
  have h11 := Nat.eq_of_beq_eq_true h11
  subst h7; subst h10; subst h11
  obtain ⟨hH, ⟨g1, g2, g3, g4, g5, g6, g7⟩, ⟨f1, f2, f3, f4⟩, hV⟩ := hP
  refine hW Sg H (sx_rho sg ρ) ls stk locs (fun a r ha => by cases ha) (List.nil_prefix) ⟨hH, ⟨sx_rnEs_ok g1 h1, fun f hf => by simp at hf, fun f hf => by simp at hf, fun q hq => by simp at hq, fun q hq => ?_, fun q hq => ?_, g7⟩, ⟨f1, f2, fun q hq => ?_, sx_rnS_ok h9 f4⟩, hV⟩
  · have hq := List.all_eq_true.mp h5 q hq
    simp only [Bool.and_eq_true, decide_eq_true_eq] at hq
    obtain ⟨q20, q1, q2⟩ := hq
    obtain ⟨a, ha⟩ := Option.isSome_iff_exists.mp q2
    rw [ha] at q1
    obtain ⟨ad, r, g, cell, v, k1, k2, k3, k4, ⟨jj, k5, k5'⟩, k6, k7⟩ := g5 _ (sx_fget_mem q1.symm)
    have k5 : sx_ix ρ q.2.1 = some jj := k5
    have hjk := sx_ix_con' q20 k5
    have k6 : cell.slots[sx_sl D g (sx_ixn ρ q.2.1)]? = some v := k6
    rw [sx_ixn_eq k5] at k6
    have k1 : q.1 = r := k1
    subst k1
    exact sx_fact_mk (sx_ix_con q20 |>.trans (by rw [hjk])) k2 k3 k4 k5' k6 (sx_rnA_ok ha k7)
  · have hq := List.all_eq_true.mp h6 q hq
    simp only [decide_eq_true_eq] at hq
    exact g6 q (sx_fnd_mem hq)
  · have hq := List.all_eq_true.mp h8 q hq
    simp only [Bool.and_eq_true, decide_eq_true_eq] at hq
    obtain ⟨q1, q2⟩ := hq
    obtain ⟨a, ha⟩ := Option.isSome_iff_exists.mp q2
    rw [ha] at q1
    obtain ⟨v, k1, k2⟩ := f3 _ (sx_lk_mem q1.symm)
    exact ⟨v, sx_rnA_ok ha k1, k2⟩
end SX18
