/-! what was read becomes the rounds, the calendar, the arcade; walks printed by program (wip/p30/pmgen.py) and filled by hand -/
section ZHW
variable {D : va_G} {Wm : Nat} {ST : List (String × String × String × Nat)} {b0 : sx_B} {l : Launch} {Sg : Nat → Option Nat} {bud : sx_Bu} {μ : pm_Mem} {B0 : Nat → Prop} {J : (Nat → Option Nat) → Heap → Prop}
set_option maxRecDepth 100000 in
theorem zl_to3 (hK : zKK ST)  {kind nn : Int} (hnn : 0 ≤ nn ∧ nn ≤ 16) (hb205 : sx_bit Wm 205 = true) (hb221 : sx_bit Wm 221 = true) (hb222 : sx_bit Wm 222 = true) (hb223 : sx_bit Wm 223 = true) (hbd : 0 ≤ bud.1 ∧ 0 ≤ bud.2.1) : ∀ (n : Nat) {k : Int} {μ : pm_Mem}, (144 - k).toNat = n → ∀ (hk : 0 ≤ k ∧ k ≤ 144) (hT : zTJ μ), zW D Wm ST b0 l Sg zM148 bud (pm_X zM148 (fun st' μ' => st' = [] ∧ zTJ μ')) 7 [(2, 205), (0, kind), (0, nn), (0, k)] [] μ := by
  intro n
  induction n using Nat.strongRecOn with
  | ind n ih =>
    intro k μ hn hk hT
    refine pm_blk hK zmm148 [] 2 11 [(2, 205), (0, kind), (0, nn), (0, k)] [(0, 144), (0, k)] μ [] rfl trivial ?_
    refine pm_icmp hK zmm148 .ge 25 36 rfl rfl (fun h0 => ?_) (fun h0 => ?_)
    · have h0 : (144 : Int) ≤ k := h0
      refine pm_blk hK zmm148 [] 3 41 [(2, 205), (0, kind), (0, nn), (0, k)] [] (pm_up μ 205 37 nn) [sx_bit Wm 205 = true] rfl ⟨hb205, trivial⟩ ?_
      obtain ⟨μ1, eμ1⟩ : ∃ μ', μ' = pm_up μ 205 37 nn := ⟨_, rfl⟩
      rw [← eμ1]
      have hTμ1 : zTJ μ1 := by rw [eμ1]; exact zT_up hT zs205_37 rfl (i := 37) (by omega) (by omega) (by omega) (by omega)
      exact pm_vret rfl rfl ⟨rfl, hTμ1⟩
    · have h0 : k < (144 : Int) := h0
      have f1 := zT_get hT zs223_0 (i := 144 + k) (by omega) (by omega)
      refine pm_blk hK zmm148 [] 10 30 [(2, 205), (0, kind), (0, nn), (0, k)] [] (pm_up μ 223 k (μ 223 (144 + k))) [pm_in (144 + k), 0 ≤ 144 + k ∧ 144 + k < 288, sx_bit Wm 223 = true, 0 ≤ k ∧ k < 288] rfl ⟨pm_in_mk (by omega) (by omega), ⟨by omega, by omega⟩, hb223, ⟨by omega, by omega⟩, trivial⟩ ?_
      obtain ⟨μ2, eμ2⟩ : ∃ μ', μ' = pm_up μ 223 k (μ 223 (144 + k)) := ⟨_, rfl⟩
      rw [← eμ2]
      have hTμ2 : zTJ μ2 := by rw [eμ2]; exact zT_up hT zs223_0 rfl (i := k) (by omega) (by omega) (by omega) (by omega)
      refine pm_blk hK zmm148 [] 2 7 [(2, 205), (0, kind), (0, nn), (0, k + 1)] [] μ2 [pm_in (k + 1)] rfl ⟨pm_in_mk (by omega) (by omega), trivial⟩ ?_
      exact ih _ (by omega) rfl ⟨by omega, by omega⟩ hTμ2
set_option maxRecDepth 100000 in
theorem zl_to1 (hK : zKK ST)  {kind nn : Int} (hnn : 0 ≤ nn ∧ nn ≤ 16) (hb205 : sx_bit Wm 205 = true) (hb221 : sx_bit Wm 221 = true) (hb222 : sx_bit Wm 222 = true) (hb223 : sx_bit Wm 223 = true) (hbd : 0 ≤ bud.1 ∧ 0 ≤ bud.2.1) : ∀ (n : Nat) {k : Int} {μ : pm_Mem}, (48 - k).toNat = n → ∀ (hk : 0 ≤ k ∧ k ≤ 48) (hT : zTJ μ), zW D Wm ST b0 l Sg zM148 bud (pm_X zM148 (fun st' μ' => st' = [] ∧ zTJ μ')) 49 [(2, 205), (0, kind), (0, nn), (0, k)] [] μ := by
  intro n
  induction n using Nat.strongRecOn with
  | ind n ih =>
    intro k μ hn hk hT
    refine pm_blk hK zmm148 [] 4 53 [(2, 205), (0, kind), (0, nn), (0, k)] [(0, 3 * nn), (0, k)] μ [pm_in (3 * nn)] rfl ⟨pm_in_mk (by omega) (by omega), trivial⟩ ?_
    refine pm_icmp hK zmm148 .ge 24 77 rfl rfl (fun h0 => ?_) (fun h0 => ?_)
    · have h0 : 3 * nn ≤ k := h0
      refine pm_blk hK zmm148 [] 3 82 [(2, 205), (0, kind), (0, nn), (0, k)] [] (pm_up μ 205 33 nn) [sx_bit Wm 205 = true] rfl ⟨hb205, trivial⟩ ?_
      obtain ⟨μ1, eμ1⟩ : ∃ μ', μ' = pm_up μ 205 33 nn := ⟨_, rfl⟩
      rw [← eμ1]
      have hTμ1 : zTJ μ1 := by rw [eμ1]; exact zT_up hT zs205_33 rfl (i := 33) (by omega) (by omega) (by omega) (by omega)
      refine pm_blk hK zmm148 [] 4 125 [(2, 205), (0, kind), (0, nn), (0, k)] [] (pm_up μ1 205 3 0) [sx_bit Wm 205 = true] rfl ⟨hb205, trivial⟩ ?_
      obtain ⟨μ2, eμ2⟩ : ∃ μ', μ' = pm_up μ1 205 3 0 := ⟨_, rfl⟩
      rw [← eμ2]
      have hTμ2 : zTJ μ2 := by rw [eμ2]; exact zT_up hTμ1 zs205_3 rfl (i := 3) (by omega) (by omega) (by omega) (by omega)
      exact pm_vret rfl rfl ⟨rfl, hTμ2⟩
    · have h0 : k < 3 * nn := h0
      refine pm_blk hK zmm148 [] 10 71 [(2, 205), (0, kind), (0, nn), (0, k)] [] (pm_up μ 221 k (μ 221 (48 + k))) [pm_in (48 + k), 0 ≤ 48 + k ∧ 48 + k < 96, sx_bit Wm 221 = true, 0 ≤ k ∧ k < 96] rfl ⟨pm_in_mk (by omega) (by omega), ⟨by omega, by omega⟩, hb221, ⟨by omega, by omega⟩, trivial⟩ ?_
      obtain ⟨μ3, eμ3⟩ : ∃ μ', μ' = pm_up μ 221 k (μ 221 (48 + k)) := ⟨_, rfl⟩
      rw [← eμ3]
      have hTμ3 : zTJ μ3 := by rw [eμ3]; exact zT_rnd hT ⟨by omega, by omega⟩
      refine pm_blk hK zmm148 [] 2 49 [(2, 205), (0, kind), (0, nn), (0, k + 1)] [] μ3 [pm_in (k + 1)] rfl ⟨pm_in_mk (by omega) (by omega), trivial⟩ ?_
      exact ih _ (by omega) rfl ⟨by omega, by omega⟩ hTμ3
set_option maxRecDepth 100000 in
theorem zl_toE (hK : zKK ST)  {kind nn : Int} (hnn : 0 ≤ nn ∧ nn ≤ 16) (hb205 : sx_bit Wm 205 = true) (hb221 : sx_bit Wm 221 = true) (hb222 : sx_bit Wm 222 = true) (hb223 : sx_bit Wm 223 = true) (hbd : 0 ≤ bud.1 ∧ 0 ≤ bud.2.1) : ∀ (n : Nat) {k : Int} {μ : pm_Mem}, (0 : Nat) = n → ∀ (hT : zTJ μ), zW D Wm ST b0 l Sg zM148 bud (pm_X zM148 (fun st' μ' => st' = [] ∧ zTJ μ')) 115 [(2, 205), (0, kind), (0, nn), (0, k)] [] μ := by
  intro n
  induction n using Nat.strongRecOn with
  | ind n ih =>
    intro k μ hn hT
    refine pm_blk hK zmm148 [] 3 120 [(2, 205), (0, kind), (0, nn), (0, k)] [] (pm_up μ 205 35 nn) [sx_bit Wm 205 = true] rfl ⟨hb205, trivial⟩ ?_
    obtain ⟨μ1, eμ1⟩ : ∃ μ', μ' = pm_up μ 205 35 nn := ⟨_, rfl⟩
    rw [← eμ1]
    have hTμ1 : zTJ μ1 := by rw [eμ1]; exact zT_up hT zs205_35 rfl (i := 35) (by omega) (by omega) (by omega) (by omega)
    refine pm_blk hK zmm148 [] 3 125 [(2, 205), (0, kind), (0, nn), (0, k)] [] (pm_up μ1 205 3 0) [sx_bit Wm 205 = true] rfl ⟨hb205, trivial⟩ ?_
    obtain ⟨μ2, eμ2⟩ : ∃ μ', μ' = pm_up μ1 205 3 0 := ⟨_, rfl⟩
    rw [← eμ2]
    have hTμ2 : zTJ μ2 := by rw [eμ2]; exact zT_up hTμ1 zs205_3 rfl (i := 3) (by omega) (by omega) (by omega) (by omega)
    exact pm_vret rfl rfl ⟨rfl, hTμ2⟩
set_option maxRecDepth 100000 in
theorem zl_to2 (hK : zKK ST)  {μ0 : pm_Mem} (hT0 : zTJ μ0) {kind nn : Int} (hnn : 0 ≤ nn ∧ nn ≤ 16) (hb205 : sx_bit Wm 205 = true) (hb221 : sx_bit Wm 221 = true) (hb222 : sx_bit Wm 222 = true) (hb223 : sx_bit Wm 223 = true) (hD : zDr μ0 nn) (hbd : 0 ≤ bud.1 ∧ 0 ≤ bud.2.1) : ∀ (n : Nat) {k : Int} {μ : pm_Mem}, (4 * nn - k).toNat = n → ∀ (hk : 0 ≤ k ∧ k ≤ 4 * nn) (hc : zCp μ0 μ k), zW D Wm ST b0 l Sg zM148 bud (pm_X zM148 (fun st' μ' => st' = [] ∧ zTJ μ')) 87 [(2, 205), (0, kind), (0, nn), (0, k)] [] μ := by
  intro n
  induction n using Nat.strongRecOn with
  | ind n ih =>
    intro k μ hn hk hc
    refine pm_blk hK zmm148 [] 4 91 [(2, 205), (0, kind), (0, nn), (0, k)] [(0, 4 * nn), (0, k)] μ [pm_in (4 * nn)] rfl ⟨pm_in_mk (by omega) (by omega), trivial⟩ ?_
    refine pm_icmp hK zmm148 .ge 24 115 rfl rfl (fun h0 => ?_) (fun h0 => ?_)
    · have h0 : 4 * nn ≤ k := h0
      have ek : k = 4 * nn := by omega
      exact zl_toE hK hnn hb205 hb221 hb222 hb223 hbd _ rfl (zCp_end (ek ▸ hc) hnn hD hT0)
    · have h0 : k < 4 * nn := h0
      refine pm_blk hK zmm148 [] 10 109 [(2, 205), (0, kind), (0, nn), (0, k)] [] (pm_up μ 222 k (μ 222 (64 + k))) [pm_in (64 + k), 0 ≤ 64 + k ∧ 64 + k < 128, sx_bit Wm 222 = true, 0 ≤ k ∧ k < 128] rfl ⟨pm_in_mk (by omega) (by omega), ⟨by omega, by omega⟩, hb222, ⟨by omega, by omega⟩, trivial⟩ ?_
      obtain ⟨μ1, eμ1⟩ : ∃ μ', μ' = pm_up μ 222 k (μ 222 (64 + k)) := ⟨_, rfl⟩
      rw [← eμ1]
      refine pm_blk hK zmm148 [] 2 87 [(2, 205), (0, kind), (0, nn), (0, k + 1)] [] μ1 [pm_in (k + 1)] rfl ⟨pm_in_mk (by omega) (by omega), trivial⟩ ?_
      exact ih _ (by omega) rfl ⟨by omega, by omega⟩ (zCp_step hc ⟨by omega, by omega⟩ (by rw [eμ1]; exact zTy_cp hc.1 zcp222 ⟨by omega, by omega⟩) eμ1 rfl)
set_option maxRecDepth 100000 in
theorem zh_takesOther (hK : zKK ST) {kind nn : Int} (hT : zTJ μ) (hki : 1 ≤ kind ∧ kind ≤ 3) (hnn : 0 ≤ nn ∧ nn ≤ 16) (hD : kind = 2 → zDr μ nn) (hb205 : sx_bit Wm 205 = true) (hb221 : sx_bit Wm 221 = true) (hb222 : sx_bit Wm 222 = true) (hb223 : sx_bit Wm 223 = true) (hbd : 0 ≤ bud.1 ∧ 0 ≤ bud.2.1) : zC D Wm ST b0 l Sg zM148 bud [(2, 205), (0, kind), (0, nn)] μ (fun st' μ' => st' = [] ∧ zTJ μ') := by
  refine pm_blk hK zmm148 [] 2 2 [(2, 205), (0, kind), (0, nn), (9, 0)] [(0, 3), (0, kind)] μ [] rfl trivial ?_
  refine pm_icmp hK zmm148 .ne 40 42 rfl rfl (fun h0 => ?_) (fun h0 => ?_)
  · have h0 : kind ≠ (3 : Int) := h0
    refine pm_blk hK zmm148 [] 2 44 [(2, 205), (0, kind), (0, nn), (9, 0)] [(0, 1), (0, kind)] μ [] rfl trivial ?_
    refine pm_icmp hK zmm148 .ne 41 85 rfl rfl (fun h1 => ?_) (fun h1 => ?_)
    · have h1 : kind ≠ (1 : Int) := h1
      refine pm_blk hK zmm148 [] 2 87 [(2, 205), (0, kind), (0, nn), (0, 0)] [] μ [] rfl trivial ?_
      exact zl_to2 hK hT hnn hb205 hb221 hb222 hb223 (hD (by omega)) hbd _ rfl ⟨by omega, by omega⟩ (zCp_0 hT.1)
    · have h1 : kind = (1 : Int) := h1
      refine pm_blk hK zmm148 [] 2 49 [(2, 205), (0, kind), (0, nn), (0, 0)] [] μ [] rfl trivial ?_
      exact zl_to1 hK hnn hb205 hb221 hb222 hb223 hbd _ rfl ⟨by omega, by omega⟩ hT
  · have h0 : kind = (3 : Int) := h0
    refine pm_blk hK zmm148 [] 2 7 [(2, 205), (0, kind), (0, nn), (0, 0)] [] μ [] rfl trivial ?_
    exact zl_to3 hK hnn hb205 hb221 hb222 hb223 hbd _ rfl ⟨by omega, by omega⟩ hT
end ZHW
