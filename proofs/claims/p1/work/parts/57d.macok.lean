/-! the claim's own hooks are good, printed by program (wip/p1/prog2.py) -/
set_option maxRecDepth 100000 in
theorem zmacok (D : va_G) (b0 L : Nat) (l : Launch) : sx_macok zFT D zCl (sxRT L) zAO zTB b0 l zMT zmac := by
  intro h M bud pc st X hM hh hpc hmac p e R s m args below meth c Q Sg0 ρ0 hF hW
  have hk := zHhk M hM h hh
  unfold zmac at hmac
  split at hmac
  · rename_i h3
    obtain ⟨rfl, h6⟩ := hk.1 h3
    obtain rfl : pc = 6 := by rw [← hpc, h6]
    exact zm3_ok hmac hF hW
  · rename_i h3
    obtain ⟨rfl, h6⟩ := hk.2.1 h3
    obtain rfl : pc = 40 := by rw [← hpc, h6]
    exact zm4_ok hmac hF hW
  · rename_i h3
    obtain ⟨rfl, h6⟩ := hk.2.2.1 h3
    obtain rfl : pc = 46 := by rw [← hpc, h6]
    exact zm5_ok hmac hF hW
  · rename_i h3
    obtain ⟨rfl, h6⟩ := hk.2.2.2.1 h3
    obtain rfl : pc = 65 := by rw [← hpc, h6]
    exact zm6_ok hmac hF hW
  · rename_i h3
    obtain ⟨rfl, h6⟩ := hk.2.2.2.2.1 h3
    obtain rfl : pc = 15 := by rw [← hpc, h6]
    exact zm7_ok hmac hF hW
  · rename_i h3
    obtain ⟨rfl, h6⟩ := hk.2.2.2.2.2.1 h3
    obtain rfl : pc = 9 := by rw [← hpc, h6]
    exact zm8_ok hmac hF hW
  · rename_i h3
    obtain ⟨rfl, h6⟩ := hk.2.2.2.2.2.2.1 h3
    obtain rfl : pc = 44 := by rw [← hpc, h6]
    exact zm9_ok hmac hF hW
  · rename_i h3
    obtain ⟨rfl, h6⟩ := hk.2.2.2.2.2.2.2.1 h3
    obtain rfl : pc = 1223 := by rw [← hpc, h6]
    exact zm10_ok hmac hF hW
  · rename_i h3
    obtain ⟨rfl, h6⟩ := hk.2.2.2.2.2.2.2.2.1 h3
    obtain rfl : pc = 17 := by rw [← hpc, h6]
    exact zm11_ok hmac hF hW
  · rename_i h3
    obtain ⟨rfl, h6⟩ := hk.2.2.2.2.2.2.2.2.2.1 h3
    obtain rfl : pc = 33 := by rw [← hpc, h6]
    exact zm12_ok hmac hF hW
  · rename_i h3
    obtain ⟨rfl, h6⟩ := hk.2.2.2.2.2.2.2.2.2.2.1 h3
    obtain rfl : pc = 42 := by rw [← hpc, h6]
    exact zm13_ok hmac hF hW
  · rename_i h3
    obtain ⟨rfl, h6⟩ := hk.2.2.2.2.2.2.2.2.2.2.2.1 h3
    obtain rfl : pc = 36 := by rw [← hpc, h6]
    exact zm14_ok hmac hF hW
  · rename_i h3
    obtain ⟨rfl, h6⟩ := hk.2.2.2.2.2.2.2.2.2.2.2.2.1 h3
    obtain rfl : pc = 71 := by rw [← hpc, h6]
    exact zm15_ok hmac hF hW
  · rename_i h3
    obtain ⟨rfl, h6⟩ := hk.2.2.2.2.2.2.2.2.2.2.2.2.2 h3
    obtain rfl : pc = 1232 := by rw [← hpc, h6]
    exact zm16_ok hmac hF hW
  · cases hmac
