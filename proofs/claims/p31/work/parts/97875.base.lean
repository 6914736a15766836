/-! the methods that are walked by hand, stretches of places of one type; printed by program -/
theorem zmm100 : pm_m zMT zCDs zM100 zD11 := ⟨sx_at2_mem (i := 100) rfl, rfl⟩
theorem zn100 : zM100.1.2.2.1 = 3 := rfl
theorem zmm101 : pm_m zMT zCDs zM101 zD5 := ⟨sx_at2_mem (i := 101) rfl, rfl⟩
theorem zn101 : zM101.1.2.2.1 = 4 := rfl
theorem zmm102 : pm_m zMT zCDs zM102 zD5 := ⟨sx_at2_mem (i := 102) rfl, rfl⟩
theorem zn102 : zM102.1.2.2.1 = 4 := rfl
theorem zmm103 : pm_m zMT zCDs zM103 zD5 := ⟨sx_at2_mem (i := 103) rfl, rfl⟩
theorem zn103 : zM103.1.2.2.1 = 6 := rfl
theorem zmm192 : pm_m zMT zCDs zM192 zD12 := ⟨sx_at2_mem (i := 192) rfl, rfl⟩
theorem zn192 : zM192.1.2.2.1 = 5 := rfl
