/-! the law that was read becomes the law; walks printed by program (wip/p30/pmgen.py) and filled by hand -/
section ZHW
variable {D : va_G} {Wm : Nat} {ST : List (String × String × String × Nat)} {b0 : sx_B} {l : Launch} {Sg : Nat → Option Nat} {bud : sx_Bu} {μ : pm_Mem} {B0 : Nat → Prop} {J : (Nat → Option Nat) → Heap → Prop}
set_option maxRecDepth 100000 in
theorem zl_tk1 (hK : zKK ST) {X : Nat → List pm_V → List pm_V → pm_Mem → Prop} {μ0 : pm_Mem} {nn : Int} (hnn : 0 ≤ nn ∧ nn ≤ 16) (hb213 : sx_bit Wm 213 = true) (hb214 : sx_bit Wm 214 = true) (hb215 : sx_bit Wm 215 = true) (hb216 : sx_bit Wm 216 = true) (hb217 : sx_bit Wm 217 = true) (hb218 : sx_bit Wm 218 = true) (hb219 : sx_bit Wm 219 = true) (K : ∀ (z : Int) (μ : pm_Mem), zTk μ0 μ nn 0 → zW D Wm ST b0 l Sg zM147 bud X 105 [(2, 205), (0, nn), (0, z)] [] μ) (hbd : 0 ≤ bud.1 ∧ 0 ≤ bud.2.1) : ∀ (n : Nat) {z : Int} {μ : pm_Mem}, (nn - z).toNat = n → ∀ (hl : 0 ≤ z ∧ z ≤ nn) (hk : zTk μ0 μ z 0), zW D Wm ST b0 l Sg zM147 bud X 2 [(2, 205), (0, nn), (0, z)] [] μ := by
  intro n
  induction n using Nat.strongRecOn with
  | ind n ih =>
    intro z μ hn hl hk
    have h24 := zTk_24 hk
    refine pm_blk hK zmm147 [] 2 4 [(2, 205), (0, nn), (0, z)] [(0, nn), (0, z)] μ [] rfl trivial ?_
    refine pm_icmp hK zmm147 .ge 101 105 rfl rfl (fun h0 => ?_) (fun h0 => ?_)
    · have h0 : nn ≤ z := h0
      have el : z = nn := by omega
      rw [el] at hk
      exact K _ _ (el ▸ hk)
    · have h0 : z < nn := h0
      refine pm_blk hK zmm147 [] 15 30 [(2, 205), (0, nn), (0, z)] [] (pm_up μ 214 ((16 * (μ 205 24)) + z) (μ 214 (32 + z))) [pm_in (16 * (μ 205 24)), pm_in ((16 * (μ 205 24)) + z), pm_in (32 + z), 0 ≤ 32 + z ∧ 32 + z < 48, sx_bit Wm 214 = true, 0 ≤ (16 * (μ 205 24)) + z ∧ (16 * (μ 205 24)) + z < 48] rfl ⟨pm_in_mk (by omega) (by omega), pm_in_mk (by omega) (by omega), pm_in_mk (by omega) (by omega), ⟨by omega, by omega⟩, hb214, ⟨by omega, by omega⟩, trivial⟩ ?_
      obtain ⟨μ1, eμ1⟩ : ∃ μ', μ' = pm_up μ 214 ((16 * (μ 205 24)) + z) (μ 214 (32 + z)) := ⟨_, rfl⟩
      rw [← eμ1]
      have := (show μ1 205 24 = 0 by rw [eμ1, pm_up_off (by decide)]; assumption)
      have g1 : μ1 205 24 = μ 205 24 := by rw [eμ1, pm_up_off (by decide)]
      have g2 : μ1 215 (32 + z) = μ 215 (32 + z) := by rw [eμ1, pm_up_off (by decide)]
      refine pm_blk hK zmm147 [] 15 53 [(2, 205), (0, nn), (0, z)] [] (pm_up μ1 215 ((16 * (μ1 205 24)) + z) (μ1 215 (32 + z))) [pm_in (16 * (μ1 205 24)), pm_in ((16 * (μ1 205 24)) + z), pm_in (32 + z), 0 ≤ 32 + z ∧ 32 + z < 48, sx_bit Wm 215 = true, 0 ≤ (16 * (μ1 205 24)) + z ∧ (16 * (μ1 205 24)) + z < 48] rfl ⟨pm_in_mk (by omega) (by omega), pm_in_mk (by omega) (by omega), pm_in_mk (by omega) (by omega), ⟨by omega, by omega⟩, hb215, ⟨by omega, by omega⟩, trivial⟩ ?_
      obtain ⟨μ2, eμ2⟩ : ∃ μ', μ' = pm_up μ1 215 ((16 * (μ1 205 24)) + z) (μ1 215 (32 + z)) := ⟨_, rfl⟩
      rw [← eμ2]
      have := (show μ2 205 24 = 0 by rw [eμ2, pm_up_off (by decide)]; assumption)
      have g3 : μ2 205 24 = μ 205 24 := by rw [eμ2, pm_up_off (by decide), eμ1, pm_up_off (by decide)]
      have g4 : μ2 216 (32 + z) = μ 216 (32 + z) := by rw [eμ2, pm_up_off (by decide), eμ1, pm_up_off (by decide)]
      refine pm_blk hK zmm147 [] 15 76 [(2, 205), (0, nn), (0, z)] [] (pm_up μ2 216 ((16 * (μ2 205 24)) + z) (μ2 216 (32 + z))) [pm_in (16 * (μ2 205 24)), pm_in ((16 * (μ2 205 24)) + z), pm_in (32 + z), 0 ≤ 32 + z ∧ 32 + z < 48, sx_bit Wm 216 = true, 0 ≤ (16 * (μ2 205 24)) + z ∧ (16 * (μ2 205 24)) + z < 48] rfl ⟨pm_in_mk (by omega) (by omega), pm_in_mk (by omega) (by omega), pm_in_mk (by omega) (by omega), ⟨by omega, by omega⟩, hb216, ⟨by omega, by omega⟩, trivial⟩ ?_
      obtain ⟨μ3, eμ3⟩ : ∃ μ', μ' = pm_up μ2 216 ((16 * (μ2 205 24)) + z) (μ2 216 (32 + z)) := ⟨_, rfl⟩
      rw [← eμ3]
      have := (show μ3 205 24 = 0 by rw [eμ3, pm_up_off (by decide)]; assumption)
      have g5 : μ3 205 24 = μ 205 24 := by rw [eμ3, pm_up_off (by decide), eμ2, pm_up_off (by decide), eμ1, pm_up_off (by decide)]
      have g6 : μ3 217 (32 + z) = μ 217 (32 + z) := by rw [eμ3, pm_up_off (by decide), eμ2, pm_up_off (by decide), eμ1, pm_up_off (by decide)]
      refine pm_blk hK zmm147 [] 15 99 [(2, 205), (0, nn), (0, z)] [] (pm_up μ3 217 ((16 * (μ3 205 24)) + z) (μ3 217 (32 + z))) [pm_in (16 * (μ3 205 24)), pm_in ((16 * (μ3 205 24)) + z), pm_in (32 + z), 0 ≤ 32 + z ∧ 32 + z < 48, sx_bit Wm 217 = true, 0 ≤ (16 * (μ3 205 24)) + z ∧ (16 * (μ3 205 24)) + z < 48] rfl ⟨pm_in_mk (by omega) (by omega), pm_in_mk (by omega) (by omega), pm_in_mk (by omega) (by omega), ⟨by omega, by omega⟩, hb217, ⟨by omega, by omega⟩, trivial⟩ ?_
      obtain ⟨μ4, eμ4⟩ : ∃ μ', μ' = pm_up μ3 217 ((16 * (μ3 205 24)) + z) (μ3 217 (32 + z)) := ⟨_, rfl⟩
      rw [← eμ4]
      refine pm_blk hK zmm147 [] 2 2 [(2, 205), (0, nn), (0, z + 1)] [] μ4 [pm_in (z + 1)] rfl ⟨pm_in_mk (by omega) (by omega), trivial⟩ ?_
      exact ih _ (by omega) rfl ⟨by omega, by omega⟩ (zTk_line hk ⟨by omega, by omega⟩ eμ1 (by omega) rfl eμ2 (by omega) rfl eμ3 (by omega) rfl eμ4 (by omega) rfl)
set_option maxRecDepth 100000 in
theorem zl_tk2 (hK : zKK ST)  {μ0 : pm_Mem} {nn : Int} (hnn : 0 ≤ nn ∧ nn ≤ 16) (hT0 : zTJ μ0) (hL : zLn μ0 nn) (hb213 : sx_bit Wm 213 = true) (hb214 : sx_bit Wm 214 = true) (hb215 : sx_bit Wm 215 = true) (hb216 : sx_bit Wm 216 = true) (hb217 : sx_bit Wm 217 = true) (hb218 : sx_bit Wm 218 = true) (hb219 : sx_bit Wm 219 = true) (hbd : 0 ≤ bud.1 ∧ 0 ≤ bud.2.1) : ∀ (n : Nat) {k : Int} {μ : pm_Mem}, (μ0 205 25 - k).toNat = n → ∀ (hk0 : 0 ≤ k ∧ k ≤ μ0 205 25) (hk : zTk μ0 μ nn k), zW D Wm ST b0 l Sg zM147 bud (pm_X zM147 (fun st' μ' => st' = [] ∧ zTJ μ')) 107 [(2, 205), (0, nn), (0, k)] [] μ := by
  intro n
  induction n using Nat.strongRecOn with
  | ind n ih =>
    intro k μ hn hk0 hk
    have h24 := zTk_24 hk
    have f25 := zT_get hT0 zs205_25 (i := 25) (by omega) (by omega)
    have e25 : μ 205 25 = μ0 205 25 := by rw [hk.2.1 205 (by decide) (by decide) (by decide) (by decide) (by decide) (by decide)]
    refine pm_blk hK zmm147 [] 3 112 [(2, 205), (0, nn), (0, k)] [(0, μ 205 25), (0, k)] μ [] rfl trivial ?_
    refine pm_icmp hK zmm147 .ge 59 171 rfl rfl (fun h0 => ?_) (fun h0 => ?_)
    · have h0 : μ 205 25 ≤ k := h0
      refine pm_blk hK zmm147 [] 6 181 [(2, 205), (0, nn), (0, k)] [] (pm_up μ 213 (μ 205 24) nn) [sx_bit Wm 213 = true, 0 ≤ μ 205 24 ∧ μ 205 24 < 2] rfl ⟨hb213, ⟨by omega, by omega⟩, trivial⟩ ?_
      obtain ⟨μ1, eμ1⟩ : ∃ μ', μ' = pm_up μ 213 (μ 205 24) nn := ⟨_, rfl⟩
      rw [← eμ1]
      have ek : k = μ0 205 25 := by omega
      exact pm_vret rfl rfl ⟨rfl, zTk_end (ek ▸ hk) hnn hL hT0 (by omega) eμ1⟩
    · have h0 : k < μ 205 25 := h0
      refine pm_blk hK zmm147 [] 15 140 [(2, 205), (0, nn), (0, k)] [] (pm_up μ 218 ((400 * (μ 205 24)) + k) (μ 218 (800 + k))) [pm_in (400 * (μ 205 24)), pm_in ((400 * (μ 205 24)) + k), pm_in (800 + k), 0 ≤ 800 + k ∧ 800 + k < 1200, sx_bit Wm 218 = true, 0 ≤ (400 * (μ 205 24)) + k ∧ (400 * (μ 205 24)) + k < 1200] rfl ⟨pm_in_mk (by omega) (by omega), pm_in_mk (by omega) (by omega), pm_in_mk (by omega) (by omega), ⟨by omega, by omega⟩, hb218, ⟨by omega, by omega⟩, trivial⟩ ?_
      obtain ⟨μ2, eμ2⟩ : ∃ μ', μ' = pm_up μ 218 ((400 * (μ 205 24)) + k) (μ 218 (800 + k)) := ⟨_, rfl⟩
      rw [← eμ2]
      have := (show μ2 205 24 = 0 by rw [eμ2, pm_up_off (by decide)]; assumption)
      have g1 : μ2 205 24 = μ 205 24 := by rw [eμ2, pm_up_off (by decide)]
      have g2 : μ2 219 (800 + k) = μ 219 (800 + k) := by rw [eμ2, pm_up_off (by decide)]
      refine pm_blk hK zmm147 [] 15 165 [(2, 205), (0, nn), (0, k)] [] (pm_up μ2 219 ((400 * (μ2 205 24)) + k) (μ2 219 (800 + k))) [pm_in (400 * (μ2 205 24)), pm_in ((400 * (μ2 205 24)) + k), pm_in (800 + k), 0 ≤ 800 + k ∧ 800 + k < 1200, sx_bit Wm 219 = true, 0 ≤ (400 * (μ2 205 24)) + k ∧ (400 * (μ2 205 24)) + k < 1200] rfl ⟨pm_in_mk (by omega) (by omega), pm_in_mk (by omega) (by omega), pm_in_mk (by omega) (by omega), ⟨by omega, by omega⟩, hb219, ⟨by omega, by omega⟩, trivial⟩ ?_
      obtain ⟨μ3, eμ3⟩ : ∃ μ', μ' = pm_up μ2 219 ((400 * (μ2 205 24)) + k) (μ2 219 (800 + k)) := ⟨_, rfl⟩
      rw [← eμ3]
      refine pm_blk hK zmm147 [] 2 107 [(2, 205), (0, nn), (0, k + 1)] [] μ3 [pm_in (k + 1)] rfl ⟨pm_in_mk (by omega) (by omega), trivial⟩ ?_
      exact ih _ (by omega) rfl ⟨by omega, by omega⟩ (zTk_code hk ⟨by omega, by omega⟩ eμ2 (by omega) rfl eμ3 (by omega) rfl)
set_option maxRecDepth 100000 in
theorem zh_takesLaw (hK : zKK ST) {nn : Int} (hT : zTJ μ) (hnn : 0 ≤ nn ∧ nn ≤ 16) (hL : zLn μ nn) (hb213 : sx_bit Wm 213 = true) (hb214 : sx_bit Wm 214 = true) (hb215 : sx_bit Wm 215 = true) (hb216 : sx_bit Wm 216 = true) (hb217 : sx_bit Wm 217 = true) (hb218 : sx_bit Wm 218 = true) (hb219 : sx_bit Wm 219 = true) (hbd : 0 ≤ bud.1 ∧ 0 ≤ bud.2.1) : zC D Wm ST b0 l Sg zM147 bud [(2, 205), (0, nn)] μ (fun st' μ' => st' = [] ∧ zTJ μ') := by
  refine pm_blk hK zmm147 [] 2 2 [(2, 205), (0, nn), (0, 0)] [] μ [] rfl trivial ?_
  refine zl_tk1 hK (μ0 := μ) hnn hb213 hb214 hb215 hb216 hb217 hb218 hb219 (fun l2 μ2 hk2 => ?_) hbd _ (z := 0) rfl ⟨by omega, by omega⟩ (zTk_0 hT.1)
  refine pm_blk hK zmm147 [] 2 107 [(2, 205), (0, nn), (0, 0)] [] μ2 [] rfl trivial ?_
  have f25 := zT_get hT zs205_25 (i := 25) (by omega) (by omega)
  exact zl_tk2 hK (μ0 := μ) hnn hT hL hb213 hb214 hb215 hb216 hb217 hb218 hb219 hbd _ (k := 0) rfl ⟨by omega, by omega⟩ hk2
end ZHW
