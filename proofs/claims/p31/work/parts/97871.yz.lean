/-! YEAR: the letters of a year, written one by one -/
def zxD (d o : Int) : List Int := if d = 9 then [o, o + 2] else if d = 4 then [o, o + 1] else (if 4 < d then [o + 1] else []) ++ List.replicate (d % 5).toNat o
def zxY (y : Int) : List Int := zxD (y / 1000) 6 ++ (zxD ((y / 100) % 10) 4 ++ (zxD ((y / 10) % 10) 2 ++ zxD (y % 10) 0))
theorem zxD_9 {d o : Int} (h : d = 9) : zxD d o = [o, o + 2] := if_pos h
theorem zxD_4 {d o : Int} (h : d = 4) : zxD d o = [o, o + 1] := by unfold zxD; rw [if_neg (by omega), if_pos h]
theorem zxD_hi {d o : Int} (h9 : d ≠ 9) (h : 4 < d) : zxD d o = [o + 1] ++ List.replicate (d % 5).toNat o := by unfold zxD; rw [if_neg h9, if_neg (by omega), if_pos h]
theorem zxD_lo {d o : Int} (h4 : d ≠ 4) (h : ¬ 4 < d) : zxD d o = List.replicate (d % 5).toNat o := by unfold zxD; rw [if_neg (by omega), if_neg h4, if_neg h]; rfl
/-- the letters that stand written -/
def zxA (μ : pm_Mem) (l : List Int) : Prop := μ 205 62 = (l.length : Int) ∧ ∀ j : Nat, j < l.length → μ 240 (j : Int) = l.getD j 0
theorem zxA_nil (μ : pm_Mem) : zxA (pm_up μ 205 62 0) [] := ⟨pm_up_eq _ _ _ _, fun j h => by simp at h⟩
theorem zxA_push {μ μ1 : pm_Mem} {l : List Int} {v : Int} (h : zxA μ l) (e : μ1 = pm_up μ 240 (μ 205 62) v) : zxA (pm_up μ1 205 62 ((μ1 205 62) + 1)) (l ++ [v]) := by
  subst e
  obtain ⟨h1, h2⟩ := h
  refine ⟨?_, fun j hj => ?_⟩
  · rw [pm_up_eq, pm_up_off (by decide), h1, List.length_append]
    rfl
  · rw [pm_up_off (by decide)]
    rw [List.length_append] at hj
    have hj : j < l.length + 1 := hj
    by_cases hj2 : j = l.length
    · subst hj2
      rw [h1, pm_up_eq]
      simp [List.getD]
    · rw [pm_up_ne (by rw [h1]; omega), h2 j (by omega)]
      simp [List.getD, List.getElem?_append_left (show j < l.length by omega)]
theorem zxA_rep {l L : List Int} {o : Int} {k : Int} (hk : 0 < k) (h : l ++ List.replicate k.toNat o = L) : (l ++ [o]) ++ List.replicate (k + -1).toNat o = L := by
  rw [← h, show k.toNat = (k + -1).toNat + 1 by omega, List.replicate_succ, List.append_assoc]
  rfl
