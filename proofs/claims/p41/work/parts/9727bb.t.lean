/-! bytes by the unsigned shift (behind rows that know pm_ushr) -/
theorem zbyt (v : Int) {z : Int} (hz : z = 24 ∨ z = 16 ∨ z = 8 ∨ z = 0) : pm_and (pm_ushr v z) 255 = zby v z := by
  rcases hz with rfl | rfl | rfl | rfl
  · exact zand_of (zsh_key (Int32.ofInt v).toBitVec 24 (by decide))
  · exact zand_of (zsh_key (Int32.ofInt v).toBitVec 16 (by decide))
  · exact zand_of (zsh_key (Int32.ofInt v).toBitVec 8 (by decide))
  · exact zand_of (zsh_key (Int32.ofInt v).toBitVec 0 (by decide))
