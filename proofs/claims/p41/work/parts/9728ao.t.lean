/-! F: shops and customers told, the class -/
theorem fm_un {μ : pm_Mem} {r q : Nat} {j v i : Int} (h : q ≠ r ∨ i ≠ j) : pm_up μ r j v q i = μ q i := by
  by_cases hq : q = r
  · subst hq
    rcases h with h | h
    · exact absurd rfl h
    · exact pm_up_ne h
  · rw [pm_up_row hq]
theorem fa_w_polite {a : Nat} {n m : Int} {N pol : Int → Int} {μ : pm_Mem} {s v : Int} (h : fa_A a n m N pol μ) : fa_A a n m N (fa_up pol s v) (pm_up μ (a + 9) s v) := by
  obtain ⟨h1, h2, h3⟩ := h
  refine ⟨?_, fun q hq i i0 i1 => ?_, fun c c0 c1 => ?_⟩
  · rw [pm_up_row (show a ≠ a + 9 by omega)]
    exact h1
  · rw [pm_up_row (show a + q.1 ≠ a + 9 by have := (fa_T_b q hq).2.2.1; omega)]
    exact h2 q hq i i0 i1
  · by_cases hc : c = s
    · rw [hc, pm_up_eq, fa_up_eq]
    · rw [pm_up_ne hc, fa_up_ne hc]
      exact h3 c c0 c1
section
variable {μ μ' : pm_Mem} {n m g p v w : Int} {N pol : Int → Int}
theorem fm_addS_A (h : fa_A 3 n m N pol μ) (hn : 0 ≤ n ∧ n < 12) (hm : m ≤ 18) (e : μ' = pm_up (pm_up (pm_up (pm_up (pm_up (pm_up (pm_up (pm_up μ 4 n g) 5 n p) 6 n 0) 10 n 0) 7 n 1) 8 n (-1)) 9 n (-1)) 3 0 (n + 1)) : fa_A 3 (n + 1) m (fa_addS N n g p) pol μ' ∧ fa_fr [3, 4, 5, 6, 7, 8, 9, 10] μ μ' := by
  subst e
  refine ⟨fa_A_addS h hn hm ?_ (fun k hk => ?_) (fun r h1 h2 i i0 i1 i2 h3 => ?_) (fun r h1 h2 => ?_) ?_ ?_ ?_ ?_ ?_ ?_ ?_, ?_⟩
  · exact pm_up_eq _ _ _ _
  · rw [fm_un (Or.inr hk), fm_un (Or.inl (by decide)), fm_un (Or.inl (by decide)), fm_un (Or.inl (by decide)), fm_un (Or.inl (by decide)), fm_un (Or.inl (by decide)), fm_un (Or.inl (by decide)), fm_un (Or.inl (by decide))]
  · rw [fm_un (Or.inl (by omega)), fm_un (Or.inr i1), fm_un (Or.inr i1), fm_un (Or.inr i1), fm_un (Or.inr i1), fm_un (Or.inr i1), fm_un (Or.inr i1), fm_un (Or.inr i1)]
  · rw [pm_up_row (by omega), pm_up_row (by omega), pm_up_row (by omega), pm_up_row (by omega), pm_up_row (by omega), pm_up_row (by omega), pm_up_row (by omega), pm_up_row (by omega)]
  · show pm_up _ 3 0 _ 4 n = g
    rw [fm_un (Or.inl (by decide)), fm_un (Or.inl (by decide)), fm_un (Or.inl (by decide)), fm_un (Or.inl (by decide)), fm_un (Or.inl (by decide)), fm_un (Or.inl (by decide)), fm_un (Or.inl (by decide)), pm_up_eq]
  · show pm_up _ 3 0 _ 5 n = p
    rw [fm_un (Or.inl (by decide)), fm_un (Or.inl (by decide)), fm_un (Or.inl (by decide)), fm_un (Or.inl (by decide)), fm_un (Or.inl (by decide)), fm_un (Or.inl (by decide)), pm_up_eq]
  · show pm_up _ 3 0 _ 6 n = 0
    rw [fm_un (Or.inl (by decide)), fm_un (Or.inl (by decide)), fm_un (Or.inl (by decide)), fm_un (Or.inl (by decide)), fm_un (Or.inl (by decide)), pm_up_eq]
  · show pm_up _ 3 0 _ 7 n = 1
    rw [fm_un (Or.inl (by decide)), fm_un (Or.inl (by decide)), fm_un (Or.inl (by decide)), pm_up_eq]
  · show pm_up _ 3 0 _ 8 n = -1
    rw [fm_un (Or.inl (by decide)), fm_un (Or.inl (by decide)), pm_up_eq]
  · show pm_up _ 3 0 _ 9 n = -1
    rw [fm_un (Or.inl (by decide)), pm_up_eq]
  · show pm_up _ 3 0 _ 10 n = 0
    rw [fm_un (Or.inl (by decide)), fm_un (Or.inl (by decide)), fm_un (Or.inl (by decide)), fm_un (Or.inl (by decide)), pm_up_eq]
  · exact fa_fr_st (fa_fr_st (fa_fr_st (fa_fr_st (fa_fr_st (fa_fr_st (fa_fr_st (fa_fr_st fa_fr_0 rfl rfl) rfl rfl) rfl rfl) rfl rfl) rfl rfl) rfl rfl) rfl rfl) rfl rfl
theorem fm_addC_A (h : fa_A 3 n m N pol μ) (hm : 0 ≤ m ∧ m < 18) (hn : n ≤ 12) (e : μ' = pm_up (pm_up (pm_up (pm_up (pm_up (pm_up μ 11 m v) 12 m w) 13 m (-1)) 14 m 0) 15 m 0) 3 1 (m + 1)) : fa_A 3 n (m + 1) (fa_addC N m v) (fa_up pol m w) μ' ∧ fa_fr [3, 11, 12, 13, 14, 15] μ μ' := by
  subst e
  refine ⟨fa_A_addC h hm hn ?_ (fun k hk => ?_) (fun r h1 h2 i i0 i1 i2 => ?_) (fun r h1 h2 => ?_) ?_ ?_ ?_ ?_ ?_, ?_⟩
  · exact pm_up_eq _ _ _ _
  · rw [fm_un (Or.inr hk), fm_un (Or.inl (by decide)), fm_un (Or.inl (by decide)), fm_un (Or.inl (by decide)), fm_un (Or.inl (by decide)), fm_un (Or.inl (by decide))]
  · rw [fm_un (Or.inl (by omega)), fm_un (Or.inr i1), fm_un (Or.inr i1), fm_un (Or.inr i1), fm_un (Or.inr i1), fm_un (Or.inr i1)]
  · rw [pm_up_row (by omega), pm_up_row (by omega), pm_up_row (by omega), pm_up_row (by omega), pm_up_row (by omega), pm_up_row (by omega)]
  · show pm_up _ 3 1 _ 11 m = v
    rw [fm_un (Or.inl (by decide)), fm_un (Or.inl (by decide)), fm_un (Or.inl (by decide)), fm_un (Or.inl (by decide)), fm_un (Or.inl (by decide)), pm_up_eq]
  · show pm_up _ 3 1 _ 12 m = w
    rw [fm_un (Or.inl (by decide)), fm_un (Or.inl (by decide)), fm_un (Or.inl (by decide)), fm_un (Or.inl (by decide)), pm_up_eq]
  · show pm_up _ 3 1 _ 13 m = -1
    rw [fm_un (Or.inl (by decide)), fm_un (Or.inl (by decide)), fm_un (Or.inl (by decide)), pm_up_eq]
  · show pm_up _ 3 1 _ 14 m = 0
    rw [fm_un (Or.inl (by decide)), fm_un (Or.inl (by decide)), pm_up_eq]
  · show pm_up _ 3 1 _ 15 m = 0
    rw [fm_un (Or.inl (by decide)), pm_up_eq]
  · exact fa_fr_st (fa_fr_st (fa_fr_st (fa_fr_st (fa_fr_st (fa_fr_st fa_fr_0 rfl rfl) rfl rfl) rfl rfl) rfl rfl) rfl rfl) rfl rfl
end
/-- what ACT may touch in the class -/
def fm_LA : List Nat := fc_L3 ++ fc_LK
/-- the place of a deed by hand that is kept: as it was, and what is kept -/
theorem fm_A_cp {a : Nat} {n m : Int} {N B pol : Int → Int} {μ μ' : pm_Mem} {L : List Nat} (h : fa_C false a n m (N, B) pol μ) (hf : fa_fr L μ μ') (hl : L.all (fun r => Nat.blt r a || Nat.blt (a + 12) r) = true) (h2 : L.contains 2 = false) (h16 : L.contains 16 = false) : fa_C false a n m (N, B) pol μ' := ⟨fa_A_frL h.1 hf hl, fun e => fa_B_fr (h.2 e) (hf 2 h2) (hf 16 h16)⟩
