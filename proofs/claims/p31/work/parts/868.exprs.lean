/-! an expression from its parts -/
theorem zRd_E1 {μ μ' : pm_Mem} {o v : Int} (h : zE1 μ μ' o v) (hR : zRd μ) : zRd μ' := by
  have e := h.2.2.2.2.2.2
  unfold zRd at hR ⊢
  rw [e 12 (by decide), e 13 (by decide), e 14 (by decide), e 15 (by decide)]
  exact hR
theorem zOK_two {μ0 μ μr μu μe : pm_Mem} {w w' o v : Int} (h : zOK μ0 μ w) (hF : zFr μ μr) (ha : μ 205 13 ≤ μr 205 13) (hu : zOK μr μu w') (hw : w' = w + 1) (he : zE1 μu μe o v) (h0 : o ≠ 0) (h1 : o ≠ 1) (h9 : o ≠ 9) (hd : o = 5 → μu 218 (800 + μu 205 25 - 1) = 0 ∧ 1 ≤ μu 219 (800 + μu 205 25 - 1)) : zOK μ0 μe w := by
  obtain ⟨a1, a2, a3, a4, a5⟩ := h
  obtain ⟨u1, u2, u3, u4, u5⟩ := hu
  have e25 := he.1
  have e13 := he.2.2.2.2.2.2 13 (by decide)
  exact ⟨zRd_E1 he u1, by omega, by omega, zEm_trans a4 (zEm_trans (zEm_fr hF) (zEm_trans (zEm_lift u4 (d := 1) (by decide) rfl rfl) (zE1_two he h0 h1 h9 hd))), zFs_trans a5 (zFs_trans (zFr_s hF) (zFs_trans u5 (zE1_s he)))⟩
theorem zOK_0 {μ μ' : pm_Mem} {w : Int} (h : zOK μ μ' w) : zRd μ' ∧ μ 205 13 ≤ μ' 205 13 ∧ μ' 205 25 + w ≤ μ' 205 13 ∧ μ 205 25 ≤ μ' 205 25 := ⟨h.1, h.2.1, h.2.2.1, zEm_le h.2.2.2.1⟩
