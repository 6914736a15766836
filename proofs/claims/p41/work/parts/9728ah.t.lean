/-! F: THE LAW's lines in the reference's memory; which line tells (behind f3, f5) -/
theorem fv_lt_c {d : Nat} {x : zIw} {L : List zIw} {ts ts' : List Bool} (h : zLt d (x :: L) ts ts') : (x.1 = 1 → 0 ≤ x.2 ∧ x.2 ≤ 10) ∧ ∃ ts1, zLt d L ts1 ts' := by
  rw [zLt_c] at h
  rcases h with ⟨a, b, e⟩ | ⟨a, b, c, e⟩ | ⟨a, b, c, r, q, e⟩ | ⟨a, r, q, e⟩ | ⟨a, r, q, e⟩ | ⟨a, r, q, e⟩ | ⟨a, r, q, e⟩
  · exact ⟨fun h => by omega, _, e⟩
  · exact ⟨fun _ => b, _, e⟩
  · exact ⟨fun h => by omega, _, e⟩
  · exact ⟨fun h => by omega, _, e⟩
  · unfold zI2 at a
    exact ⟨fun h => by omega, _, e⟩
  · unfold zI6 at a
    exact ⟨fun h => by omega, _, e⟩
  · unfold zI10 at a
    exact ⟨fun h => by omega, _, e⟩
theorem fc_st_cg {W W' : Int → Int} {x : zIw} {s : List Int} (hW : ∀ i : Int, 0 ≤ i → i ≤ 10 → W i = W' i) (h : x.1 = 1 → 0 ≤ x.2 ∧ x.2 ≤ 10) : fc_st W x s = fc_st W' x s := by
  unfold fc_st
  by_cases h0 : x.1 = 0
  · rw [if_pos h0, if_pos h0]
  · rw [if_neg h0, if_neg h0]
    by_cases h1 : x.1 = 1
    · rw [if_pos h1, if_pos h1, hW x.2 (h h1).1 (h h1).2]
    · rw [if_neg h1, if_neg h1]
theorem fc_cg {W W' : Int → Int} {d : Nat} (hW : ∀ i : Int, 0 ≤ i → i ≤ 10 → W i = W' i) : ∀ {L : List zIw} {ts ts' : List Bool} {s : List Int}, zLt d L ts ts' → fc_run W L s = fc_run W' L s
  | [], _, _, _, _ => rfl
  | x :: L, ts, ts', s, h => by
    obtain ⟨h1, ts1, h2⟩ := fv_lt_c h
    rw [fc_run_c, fc_run_c, fc_st_cg hW h1]
    exact fc_cg hW h2
theorem fv_tell_cg {W W' : Int → Int} {w o : Int} (hW : ∀ i : Int, 0 ≤ i → i ≤ 10 → W i = W' i) : ∀ {ls : List (Int × List zIw × List zIw)}, (∀ x ∈ ls, fv_ln x) → fv_tell W w ls o = fv_tell W' w ls o
  | [], _ => rfl
  | x :: R, h => by
    obtain ⟨h1, h2⟩ := h x (List.mem_cons_self ..)
    have e1 : fv_val W x.2.1 = fv_val W' x.2.1 := by
      unfold fv_val
      rw [fc_cg hW h1]
    have e2 : fv_val W x.2.2 = fv_val W' x.2.2 := by
      unfold fv_val
      rcases h2 with h2 | h2
      · rw [h2]
        rfl
      · rw [fc_cg hW h2]
    unfold fv_tell
    rw [e1, e2, fv_tell_cg hW (fun y hy => h y (List.mem_cons_of_mem _ hy))]
/-- the lines from the k-th on, as they lie in the reference's memory -/
def fr_L (μ : pm_Mem) : Int → List (Int × List zIw × List zIw) → Prop
  | k, [] => k = μ 213 0
  | k, x :: R => k < μ 213 0 ∧ μ 214 k = x.1 ∧ (zSr (μ 218) (μ 219) (μ 215 k) (zXp x.2.1) ∧ μ 215 k + ((zXp x.2.1).length : Int) = μ 216 k) ∧ (zSr (μ 218) (μ 219) (μ 216 k) (zXp x.2.2) ∧ μ 216 k + ((zXp x.2.2).length : Int) = μ 217 k) ∧ fv_ln x ∧ fr_L μ (k + 1) R
theorem fr_L_c (μ : pm_Mem) (k : Int) (x : Int × List zIw × List zIw) (R : List (Int × List zIw × List zIw)) : fr_L μ k (x :: R) = (k < μ 213 0 ∧ μ 214 k = x.1 ∧ (zSr (μ 218) (μ 219) (μ 215 k) (zXp x.2.1) ∧ μ 215 k + ((zXp x.2.1).length : Int) = μ 216 k) ∧ (zSr (μ 218) (μ 219) (μ 216 k) (zXp x.2.2) ∧ μ 216 k + ((zXp x.2.2).length : Int) = μ 217 k) ∧ fv_ln x ∧ fr_L μ (k + 1) R) := rfl
/-- k - 1 lines don't tell: what is left does -/
def fr_rest (μ : pm_Mem) (w k : Int) (ls : List (Int × List zIw × List zIw)) : Prop := ∃ R, fr_L μ k R ∧ ∀ o : Int, fv_tell (μ 224) w ls o = fv_tell (μ 224) w R o
/-- the x-th line tells -/
def fr_hit (μ : pm_Mem) (w x : Int) (ls : List (Int × List zIw × List zIw)) : Prop := ∃ v : Int, (∀ o : Int, fv_tell (μ 224) w ls o = v) ∧ fr_ok μ μ 0 (μ 215 x) (μ 216 x) v
section FR6
variable {μ : pm_Mem} {w k : Int} {ls : List (Int × List zIw × List zIw)}
theorem fr_rest_0 (h : fr_L μ 0 ls) : fr_rest μ w 0 ls := ⟨ls, h, fun _ => rfl⟩
theorem fr_rest_e (h : fr_rest μ w k ls) (hk : ¬ k < μ 213 0) : ∀ o : Int, fv_tell (μ 224) w ls o = o := by
  obtain ⟨R, h1, h2⟩ := h
  cases R with
  | nil => exact h2
  | cons x R =>
    rw [fr_L_c] at h1
    exact absurd h1.1 hk
theorem fr_rest_c (h : fr_rest μ w k ls) (hk : k < μ 213 0) : ∃ x R, fr_L μ k (x :: R) ∧ ∀ o : Int, fv_tell (μ 224) w ls o = fv_tell (μ 224) w (x :: R) o := by
  obtain ⟨R, h1, h2⟩ := h
  cases R with
  | nil =>
    have e : k = μ 213 0 := h1
    exact absurd hk (by omega)
  | cons x R => exact ⟨x, R, h1, h2⟩
theorem fv_tell_y {W : Int → Int} {w o : Int} {x : Int × List zIw × List zIw} {R : List (Int × List zIw × List zIw)} (h : x.1 = w ∧ (x.2.2 = [] ∨ fv_val W x.2.2 ≠ 0)) : fv_tell W w (x :: R) o = fv_val W x.2.1 := if_pos h
theorem fv_tell_n {W : Int → Int} {w o : Int} {x : Int × List zIw × List zIw} {R : List (Int × List zIw × List zIw)} (h : ¬ (x.1 = w ∧ (x.2.2 = [] ∨ fv_val W x.2.2 ≠ 0))) : fv_tell W w (x :: R) o = fv_tell W w R o := if_neg h
theorem fr_rest_w (h : fr_rest μ w k ls) (hk : k < μ 213 0) (hw : μ 214 k ≠ w) : fr_rest μ w (k + 1) ls := by
  obtain ⟨x, R, h1, h2⟩ := fr_rest_c h hk
  rw [fr_L_c] at h1
  obtain ⟨-, a2, -, -, -, a6⟩ := h1
  exact ⟨R, a6, fun o => (h2 o).trans (fv_tell_n (fun c => hw (a2.trans c.1)))⟩
/-- the steps told, run from an empty stack -/
theorem fr_ok_v {a b : Int} {L : List zIw} {bb : Bool} (h : zLt 24 L [] [bb]) (hs : zSr (μ 218) (μ 219) a (zXp L)) (hl : a + ((zXp L).length : Int) = b) : fr_ok μ μ 0 a b (fv_val (μ 224) L) := by
  obtain ⟨v, -, e2, e3⟩ := fv_valR (W := μ 224) h
  exact ⟨zXp L, hs, hl, by rw [e3]; exact e2⟩
theorem fr_rest_f (h : fr_rest μ w k ls) (hk : k < μ 213 0) (hw : μ 214 k = w) (he : μ 216 k = μ 217 k) : fr_hit μ w k ls := by
  obtain ⟨x, R, h1, h2⟩ := fr_rest_c h hk
  rw [fr_L_c] at h1
  obtain ⟨-, a2, ⟨b1, b2⟩, ⟨c1, c2⟩, ⟨d1, d2⟩, -⟩ := h1
  have e0 : x.2.2 = [] := by
    rcases d2 with d2 | d2
    · exact d2
    · obtain ⟨v, -, e2, -⟩ := fv_valR (W := μ 224) d2
      have hz : (zXp x.2.2).length = 0 := by omega
      rw [List.length_eq_zero_iff.mp hz] at e2
      cases e2
  exact ⟨_, fun o => (h2 o).trans (fv_tell_y ⟨a2.symm.trans hw, Or.inl e0⟩), fr_ok_v d1 b1 b2⟩
theorem fr_rest_q (h : fr_rest μ w k ls) (hk : k < μ 213 0) (hw : μ 214 k = w) (he : μ 216 k ≠ μ 217 k) : ∃ v : Int, fr_ok μ μ 0 (μ 216 k) (μ 217 k) v ∧ (v = 0 → fr_rest μ w (k + 1) ls) ∧ (v ≠ 0 → fr_hit μ w k ls) := by
  obtain ⟨x, R, h1, h2⟩ := fr_rest_c h hk
  rw [fr_L_c] at h1
  obtain ⟨-, a2, ⟨b1, b2⟩, ⟨c1, c2⟩, ⟨d1, d2⟩, a6⟩ := h1
  have d3 : x.2.2 ≠ [] := fun c => by
    rw [c] at c2
    have hz : ((zXp ([] : List zIw)).length : Int) = 0 := rfl
    omega
  have d4 := d2.resolve_left d3
  exact ⟨_, fr_ok_v d4 c1 c2, fun hv => ⟨R, a6, fun o => (h2 o).trans (fv_tell_n (fun c => c.2.elim d3 (fun n => n hv)))⟩, fun hv => ⟨_, fun o => (h2 o).trans (fv_tell_y ⟨a2.symm.trans hw, Or.inr hv⟩), fr_ok_v d1 b1 b2⟩⟩
end FR6
/-- a stack told in another memory: nothing of it is used yet -/
theorem fr_ok_fr {μ μ0 μ1 : pm_Mem} {a b v : Int} (h : fr_ok μ0 μ 0 a b v) (hf : ∀ r, r ≠ 225 → μ1 r = μ0 r) : fr_ok μ1 μ1 0 a b v := by
  obtain ⟨M, h1, h2, h3⟩ := h
  exact ⟨M, by rw [hf 218 (by decide), hf 219 (by decide)]; exact h1, h2, by rw [hf 224 (by decide)]; exact h3⟩
theorem fr_L_fr {μ μ' : pm_Mem} (hf : ∀ r, 213 ≤ r → r ≤ 219 → μ' r = μ r) : ∀ {R : List (Int × List zIw × List zIw)} {k : Int}, fr_L μ k R → fr_L μ' k R
  | [], k, h => by
    have e : k = μ 213 0 := h
    have e2 : k = μ' 213 0 := by
      rw [hf 213 (by decide) (by decide)]
      exact e
    exact e2
  | x :: R, k, h => by
    rw [fr_L_c] at h
    rw [fr_L_c, hf 213 (by decide) (by decide), hf 214 (by decide) (by decide), hf 215 (by decide) (by decide), hf 216 (by decide) (by decide), hf 217 (by decide) (by decide), hf 218 (by decide) (by decide), hf 219 (by decide) (by decide)]
    exact ⟨h.1, h.2.1, h.2.2.1, h.2.2.2.1, h.2.2.2.2.1, fr_L_fr hf h.2.2.2.2.2⟩
theorem fr_L_ln {μ : pm_Mem} : ∀ {R : List (Int × List zIw × List zIw)} {k : Int}, fr_L μ k R → ∀ x ∈ R, fv_ln x
  | [], _, _, x, hx => by cases hx
  | y :: R, k, h, x, hx => by
    rw [fr_L_c] at h
    rcases List.mem_cons.mp hx with e | e
    · rw [e]
      exact h.2.2.2.2.1
    · exact fr_L_ln h.2.2.2.2.2 x e
section FR7
variable {μ μ' : pm_Mem} {w k : Int} {ls : List (Int × List zIw × List zIw)}
theorem fr_rest_fr (h : fr_rest μ w k ls) (hf : ∀ r, r ≠ 225 → μ' r = μ r) : fr_rest μ' w k ls := by
  obtain ⟨R, h1, h2⟩ := h
  exact ⟨R, fr_L_fr (fun r a b => hf r (by omega)) h1, fun o => by rw [hf 224 (by decide)]; exact h2 o⟩
theorem fr_hit_fr (h : fr_hit μ w k ls) (hf : ∀ r, r ≠ 225 → μ' r = μ r) : fr_hit μ' w k ls := by
  obtain ⟨v, h1, h2⟩ := h
  exact ⟨v, fun o => by rw [hf 224 (by decide)]; exact h1 o, by rw [hf 215 (by decide), hf 216 (by decide)]; exact fr_ok_fr h2 hf⟩
end FR7
/-- the reference's law -/
def fr_law (ls : List (Int × List zIw × List zIw)) : fa_Lw := fun w W o => fv_tell W w ls o
theorem fr_law_cg {ls : List (Int × List zIw × List zIw)} {W N pol : Int → Int} {m c s w o : Int} {μ : pm_Mem} (hL : fr_L μ 0 ls) (hW : ∀ i : Int, 0 ≤ i → i ≤ 10 → W i = fa_W N pol m c s i) : fv_tell W w ls o = fr_law ls w (fa_W N pol m c s) o := fv_tell_cg hW (fr_L_ln hL)
