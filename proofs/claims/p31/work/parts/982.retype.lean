/-! at the loop's head: the world of the contracts -/
/-- which region a cell is: the static tables, then what was made -/
def zSg2 (Sg : Nat → Option Nat) (t0 t1 t2 t3 t4 : Nat) : Nat → Option Nat := fun a => if a = t0 then some 0 else if a = t1 then some 246 else if a = t2 then some 247 else if a = t3 then some 248 else if a = t4 then some 249 else match Sg a with
  | some r => if 1 ≤ r ∧ r ≤ 245 then some r else none
  | none => none
theorem ztysub_ok {Sg : Nat → Option Nat} {v : Value} {t1 t2 : sx_Ty} (h : ztysub t1 t2 = true) (hv : sx_ok Sg v t1) {Sg2 : Nat → Option Nat} : sx_ok Sg2 v t2 := by
  unfold ztysub at h
  simp only [Bool.or_eq_true, Bool.and_eq_true, decide_eq_true_eq] at h
  rcases h with ⟨⟨⟨h1, h2⟩, h3⟩, h4⟩ | ⟨h1, h2⟩
  · have h1 := Nat.eq_of_beq_eq_true h1
    have h2 := Nat.le_of_ble_eq_true h2
    rcases hv with ⟨k, x, rfl, x1, x2⟩ | ⟨k, x, rfl, x1, x2⟩ | ⟨k, -⟩ | ⟨k, -⟩
    · exact Or.inl ⟨by omega, x, rfl, by omega, by omega⟩
    · exact Or.inr (Or.inl ⟨by omega, x, rfl, by omega, by omega⟩)
    · omega
    · omega
  · have h1 := Nat.eq_of_beq_eq_true h1
    have h2 := Nat.eq_of_beq_eq_true h2
    rcases hv with ⟨k, -⟩ | ⟨k, -⟩ | ⟨k, -⟩ | ⟨k, hv⟩
    · omega
    · omega
    · omega
    · exact Or.inr (Or.inr (Or.inr ⟨h1, hv⟩))
theorem zavty_ok {Sg Sg2 : Nat → Option Nat} {E : List sx_Ty} {ρ : List Value} {a : sx_AV} {t2 : sx_Ty} {v : Value} (h : zavty E a t2 = true) (hE : sx_env Sg E ρ) (hv : sx_av ρ a v) (hle : ∀ b r, Sg b = some r → 1 ≤ r → r ≤ 245 → Sg2 b = some r) : sx_ok Sg2 v t2 := by
  unfold zavty at h
  obtain ⟨a1, a2, a3⟩ := a
  split at h
  · rename_i h0
    have h0 : a1 = 0 := h0
    subst h0
    simp only [Bool.and_eq_true, decide_eq_true_eq, List.isEmpty_iff] at h
    obtain ⟨⟨⟨k1, k2⟩, k3⟩, k4⟩ := h
    obtain ⟨x, rfl, hx⟩ := sx_av_int hv
    have e := sx_lf_const hx k1
    have e : x.toInt = a2 := e
    exact Or.inl ⟨Nat.eq_of_beq_eq_true k2, x, rfl, by omega, by omega⟩
  · rename_i h0
    have h0 : a1 = 1 := h0
    subst h0
    simp only [Bool.and_eq_true, decide_eq_true_eq, List.isEmpty_iff] at h
    obtain ⟨⟨⟨k1, k2⟩, k3⟩, k4⟩ := h
    rcases hv with ⟨k, -⟩ | ⟨-, x, rfl, hx⟩ | ⟨k, -⟩ | ⟨k, -⟩
    · cases k
    · have e := sx_lf_const hx k1
      have e : x.toInt = a2 := e
      exact Or.inr (Or.inl ⟨Nat.eq_of_beq_eq_true k2, x, rfl, by omega, by omega⟩)
    · cases k
    · cases k
  · rename_i h0
    have h0 : a1 = 2 := h0
    subst h0
    split at h
    · rename_i t ht
      simp only [Bool.and_eq_true, decide_eq_true_eq] at h
      obtain ⟨⟨⟨⟨k1, k2⟩, k3⟩, k4⟩, k5⟩ := h
      have k1 := Nat.eq_of_beq_eq_true k1
      have k2 := Nat.eq_of_beq_eq_true k2
      rcases hv with ⟨k, -⟩ | ⟨k, -⟩ | ⟨-, hρ, -⟩ | ⟨k, -⟩
      · cases k
      · cases k
      · rcases hE.2 _ t v ht hρ with ⟨k, -⟩ | ⟨k, -⟩ | ⟨-, b, rfl, hb⟩ | ⟨k, -⟩
        · omega
        · omega
        · refine Or.inr (Or.inr (Or.inl ⟨k2, b, rfl, ?_⟩))
          rw [k3] at hb
          exact hle b _ hb (by omega) (by omega)
        · omega
      · cases k
    · cases h
  · cases h
theorem zkind_eq {D : va_G} {U : State} {g1 g2 : sx_Rg} {cell : Cell} (h1 : g1.1 = g2.1) (h2 : g1.2.1 = g2.2.1) (h3 : g2.1 ≤ 2 ∨ g1.2.2.1 = g2.2.2.1) (h : sx_kind D zCl U g1 cell) : sx_kind D zCl U g2 cell := by
  have ha : g2.1 ≠ 0 → sx_aty zCl g1 = sx_aty zCl g2 := fun e0 => by
    unfold sx_aty
    rw [h1]
    by_cases e1 : g2.1 = 1
    · rw [if_pos e1, if_pos e1]
    · rw [if_neg e1, if_neg e1]
      by_cases e2 : g2.1 = 2
      · rw [if_pos e2, if_pos e2]
      · rw [if_neg e2, if_neg e2]
        rcases h3 with h3 | h3
        · omega
        · rw [h3]
  rcases h with ⟨k1, k2, k3⟩ | ⟨k1, k2, k3, k4, k5, k6⟩
  · exact Or.inl ⟨by omega, by rw [← h2]; exact k2, k3⟩
  · have k0 : g2.1 ≠ 0 := by omega
    refine Or.inr ⟨k0, by rw [← ha k0]; exact k2, k3, by omega, by rw [← h2]; exact k5, fun e => ?_⟩
    rw [← ha k0]
    exact k6 (by omega)

section RTY
variable {FT : Nat → List Int → Int} {D : va_G} {Sg : Nat → Option Nat} {s : State} {H : Heap} {ρ : List Value} {E : List sx_Ty} {F : List (Nat × Nat × sx_AV)} {A : List (Nat × sx_Ty × List Nat)} {b0 : sx_B}
/-- a region's slots are of the contracts' types -/
theorem zreg_ok {Sg2 : Nat → Option Nat} {r a : Nat} {g1 g2 : sx_Rg} (hH : sx_H D zCl (sxRT 6) b0 Sg s H) (hE : sx_env Sg E ρ) (hF : ∀ q ∈ F, sx_fact D (sxRT 6) Sg H ρ q) (hA : ∀ q ∈ A, sx_all D (sxRT 6) Sg H ρ q) (h : zreg E F A r g1 g2 = true) (hg1 : sxRT 6 r = some g1) (ha : Sg a = some r) (hle : ∀ b r, Sg b = some r → 1 ≤ r → r ≤ 245 → Sg2 b = some r) : sx_cell D zCl Sg2 s H a g2 ∧ sx_mut g1 = true := by
  unfold zreg at h
  simp only [Bool.and_eq_true, Bool.or_eq_true] at h
  obtain ⟨⟨⟨⟨⟨c1, c2⟩, c3⟩, c4⟩, c5⟩, c6⟩ := h
  have c1 := Nat.eq_of_beq_eq_true c1
  have c2 := Nat.eq_of_beq_eq_true c2
  have c5 := Nat.eq_of_beq_eq_true c5
  have c3 : g2.1 ≤ 2 ∨ g1.2.2.1 = g2.2.2.1 := c3.imp Nat.le_of_ble_eq_true Nat.eq_of_beq_eq_true
  obtain ⟨g, k1, ⟨cell, k2, k3, k4⟩, k5, k6⟩ := hH a r ha
  rw [hg1] at k1
  cases k1
  have hsl : ∀ k, sx_sl D g2 k = sx_sl D g1 k := fun k => by unfold sx_sl; rw [c1, c2]
  refine ⟨⟨cell, k2, zkind_eq c1 c2 c3 k3, fun k hk => ?_⟩, ?_⟩
  · rw [hsl]
    split at c6
    · have h := List.all_eq_true.mp c6 k (List.mem_range.mpr hk)
      split at h
      · rename_i t2 ht2
        unfold zslot at h
        simp only [Bool.and_eq_true] at h
        obtain ⟨h1, h2⟩ := h
        split at h2
        · rename_i av hav
          obtain ⟨v, v1, v2⟩ := sx_fact_at hH (hF _ (sx_fget_mem hav)) (sx_ix_con h1) ha hg1 k2
          exact ⟨v, t2, v1, ht2, zavty_ok h2 hE v2 hle⟩
        · cases h2
      · cases h
    · unfold zregU at c6
      split at c6
      · rename_i q hq
        have q1 := sx_fnd_mem hq
        have q2 := Nat.eq_of_beq_eq_true (sx_fnd_some (α := Nat × sx_Ty × List Nat) (p := fun q => Nat.beq q.1 r) hq)
        simp only [Bool.and_eq_true, List.isEmpty_iff, Bool.not_eq_true'] at c6
        obtain ⟨⟨⟨d1, d2⟩, d3⟩, d4⟩ := c6
        obtain ⟨a', r', g', cell', e1, e2, e3, e4, e5, e6⟩ := hA q q1
        obtain rfl : r' = r := by rw [← e1]; exact q2
        obtain rfl : a' = a := sx_uniq hH ha e2
        rw [k2] at e5
        cases e5
        rw [hg1] at e3
        cases e3
        have d2 : g2.1 ≠ 0 := fun e => by rw [e] at d2; cases d2
        obtain ⟨v, t, v1, v2, v3⟩ := k4 k (by omega)
        have hlt : k % g2.2.2.2.length < g2.2.2.2.length := Nat.mod_lt _ (Nat.blt_eq.mp d4)
        have hv : cell.slots[k]? = some v := by
          have : sx_sl D g1 k = k := by unfold sx_sl; rw [if_neg (by omega)]
          rw [this] at v1
          exact v1
        refine ⟨v, g2.2.2.2[k % g2.2.2.2.length], v1, by unfold sx_ft; rw [if_neg d2]; exact List.getElem?_eq_getElem hlt, ?_⟩
        exact ztysub_ok (List.all_eq_true.mp d3 _ (List.getElem_mem hlt)) (e6 k v (by omega) (by rw [d1]; exact List.not_mem_nil) hv)
      · cases c6
  · unfold sx_mut
    rcases c4 with c4 | c4
    · have := Nat.eq_of_beq_eq_true c4
      rw [c1, this]; rfl
    · have := Nat.eq_of_beq_eq_true c4
      rw [this]; simp
end RTY
