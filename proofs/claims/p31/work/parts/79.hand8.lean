/-! coins; walks printed by program (wip/p30/pmgen.py) and filled by hand -/
section ZHW
variable {D : va_G} {Wm : Nat} {ST : List (String × String × String × Nat)} {b0 : sx_B} {l : Launch} {Sg : Nat → Option Nat} {bud : sx_Bu} {μ : pm_Mem} {B0 : Nat → Prop} {J : (Nat → Option Nat) → Heap → Prop}
set_option maxRecDepth 100000 in
theorem zl_fc1 (hK : zKK ST) {X : Nat → List pm_V → List pm_V → pm_Mem → Prop} {p : Int} (hb231 : sx_bit Wm 231 = true) (K : ∀ (k : Int) (μ : pm_Mem), zcoin μ 321 → zTJ μ → zW D Wm ST b0 l Sg zM173 bud X 34 [(2, 205), (0, p), (0, k), (9, 0), (9, 0), (9, 0)] [] μ) (hbd : 0 ≤ bud.1 ∧ 0 ≤ bud.2.1) : ∀ (n : Nat) {k : Int} {μ : pm_Mem}, (321 - k).toNat = n → ∀ (hk : 0 ≤ k ∧ k ≤ 321) (hz : zcoin μ k) (hT : zTJ μ), zW D Wm ST b0 l Sg zM173 bud X 2 [(2, 205), (0, p), (0, k), (9, 0), (9, 0), (9, 0)] [] μ := by
  intro n
  induction n using Nat.strongRecOn with
  | ind n ih =>
    intro k μ hn hk hz hT
    refine pm_blk hK zmm173 [] 2 6 [(2, 205), (0, p), (0, k), (9, 0), (9, 0), (9, 0)] [(0, 321), (0, k)] μ [] rfl trivial ?_
    refine pm_icmp hK zmm173 .ge 28 34 rfl rfl (fun h0 => ?_) (fun h0 => ?_)
    · have h0 : (321 : Int) ≤ k := h0
      have ek : k = 321 := by omega
      rw [ek] at hz
      exact K _ _ hz hT
    · have h0 : k < (321 : Int) := h0
      refine pm_blk hK zmm173 [] 5 17 [(2, 205), (0, p), (0, k), (9, 0), (9, 0), (9, 0)] [(0, 60), (0, k), (0, k), (2, 231)] μ [] rfl trivial ?_
      refine pm_icmp hK zmm173 .ne 7 24 rfl rfl (fun h1 => ?_) (fun h1 => ?_)
      · have h1 : k ≠ (60 : Int) := h1
        refine pm_blk hK zmm173 [] 2 28 [(2, 205), (0, p), (0, k), (9, 0), (9, 0), (9, 0)] [] (pm_up μ 231 k 100000000) [sx_bit Wm 231 = true, 0 ≤ k ∧ k < 321] rfl ⟨hb231, ⟨by omega, by omega⟩, trivial⟩ ?_
        obtain ⟨μ1, eμ1⟩ : ∃ μ', μ' = pm_up μ 231 k 100000000 := ⟨_, rfl⟩
        rw [← eμ1]
        have hTμ1 : zTJ μ1 := by rw [eμ1]; exact zT_up hT zs231_0 rfl (i := k) (by omega) (by omega) (by omega) (by omega)
        refine pm_blk hK zmm173 [] 2 2 [(2, 205), (0, p), (0, k + 1), (9, 0), (9, 0), (9, 0)] [] μ1 [pm_in (k + 1)] rfl ⟨pm_in_mk (by omega) (by omega), trivial⟩ ?_
        have hz1 : zcoin μ1 (k + 1) := by rw [eμ1]; exact zcoin_one hz (by omega) (by omega)
        exact ih _ (by omega) rfl ⟨by omega, by omega⟩ hz1 hTμ1
      · have h1 : k = (60 : Int) := h1
        refine pm_blk hK zmm173 [] 3 28 [(2, 205), (0, p), (0, k), (9, 0), (9, 0), (9, 0)] [] (pm_up μ 231 k 0) [sx_bit Wm 231 = true, 0 ≤ k ∧ k < 321] rfl ⟨hb231, ⟨by omega, by omega⟩, trivial⟩ ?_
        obtain ⟨μ2, eμ2⟩ : ∃ μ', μ' = pm_up μ 231 k 0 := ⟨_, rfl⟩
        rw [← eμ2]
        have hTμ2 : zTJ μ2 := by rw [eμ2]; exact zT_up hT zs231_0 rfl (i := k) (by omega) (by omega) (by omega) (by omega)
        refine pm_blk hK zmm173 [] 2 2 [(2, 205), (0, p), (0, k + 1), (9, 0), (9, 0), (9, 0)] [] μ2 [pm_in (k + 1)] rfl ⟨pm_in_mk (by omega) (by omega), trivial⟩ ?_
        have hz1 : zcoin μ2 (k + 1) := by rw [eμ2]; exact zcoin_one hz (by omega) (by omega)
        exact ih _ (by omega) rfl ⟨by omega, by omega⟩ hz1 hTμ2
set_option maxRecDepth 100000 in
theorem zl_fc3 (hK : zKK ST) {X : Nat → List pm_V → List pm_V → pm_Mem → Prop} {p k S0 : Int} (hk : 0 ≤ k ∧ k ≤ 320) (hb231 : sx_bit Wm 231 = true) (K : ∀ (more c : Int) (μ : pm_Mem), more = 0 ∨ more = 1 → zcoin μ 321 → zsum (μ 231) 321 ≤ S0 → (more = 1 → zsum (μ 231) 321 < S0) → zTJ μ → zW D Wm ST b0 l Sg zM173 bud X 167 [(2, 205), (0, p), (0, more), (0, k), (9, 0), (9, 0)] [] μ) (hbd : 1 ≤ bud.1 ∧ 22 ≤ bud.2.1) : ∀ (n : Nat) {more c : Int} {μ : pm_Mem}, (6 - c).toNat = n → ∀ (hc : 0 ≤ c ∧ c ≤ 6) (hm : more = 0 ∨ more = 1) (hz : zcoin μ 321) (hS : zsum (μ 231) 321 ≤ S0) (hS1 : more = 1 → zsum (μ 231) 321 < S0) (hT : zTJ μ), zW D Wm ST b0 l Sg zM173 bud X 54 [(2, 205), (0, p), (0, more), (0, k), (0, c), (9, 0)] [] μ := by
  intro n
  induction n using Nat.strongRecOn with
  | ind n ih =>
    intro more c μ hn hc hm hz hS hS1 hT
    have f1 := zT_get hT zs205_45 (i := 45) (by omega) (by omega)
    refine pm_blk hK zmm173 [] 3 60 [(2, 205), (0, p), (0, more), (0, k), (0, c), (9, 0)] [(0, μ 205 45), (0, c)] μ [] rfl trivial ?_
    refine pm_icmp hK zmm173 .ge 107 167 rfl rfl (fun h0 => ?_) (fun h0 => ?_)
    · have h0 : μ 205 45 ≤ c := h0
      refine pm_hide [4] ?_
      exact K _ c _ hm hz hS hS1 hT
    · have h0 : c < μ 205 45 := h0
      have hz0 := hz k (by omega) (by omega)
      have f2 := zT_get hT zs230_0 (i := c) (by omega) (by omega)
      refine pm_blk hK zmm173 [] 6 72 [(2, 205), (0, p), (0, more), (0, k), (0, c), (9, 0)] [(0, μ 230 c), (0, k), (2, 205)] μ [0 ≤ c ∧ c < 6] rfl ⟨⟨by omega, by omega⟩, trivial⟩ ?_
      refine pm_icmp hK zmm173 .lt 20 92 rfl rfl (fun h1 => ?_) (fun h1 => ?_)
      · have h1 : k < μ 230 c := h1
        refine pm_blk hK zmm173 [] 8 107 [(2, 205), (0, p), (0, more), (0, k), (0, c), (9, 0)] [(0, 321), (0, k + (μ 230 c)), (0, 100000000), (2, 205)] μ [0 ≤ c ∧ c < 6, pm_in (k + (μ 230 c))] rfl ⟨⟨by omega, by omega⟩, pm_in_mk (by omega) (by omega), trivial⟩ ?_
        refine pm_icmp hK zmm173 .ge 20 127 rfl rfl (fun h2 => ?_) (fun h2 => ?_)
        · have h2 : (321 : Int) ≤ k + (μ 230 c) := h2
          refine pm_blk hK zmm173 [] 1 130 [(2, 205), (0, p), (0, more), (0, k), (0, c), (9, 0)] [(0, 100000000), (0, 100000000), (2, 205)] μ [] rfl trivial ?_
          refine pm_call hK zmm173 (377, 0, 157, 2) zM157 (0, 0) [(2, 205), (0, 100000000), (0, 100000000)] [] rfl rfl rfl rfl ⟨by omega, by rw [zn157]; omega⟩ (zh_lesser hK ⟨by omega, by omega⟩) (fun st1 μc1 hp1 => ?_)
          obtain ⟨rfl, rfl⟩ := hp1
          have f3 := zT_get hT zs231_0 (i := k) (by omega) (by omega)
          refine pm_blk hK zmm173 [] 8 145 [(2, 205), (0, p), (0, more), (0, k), (0, c), (0, (min 100000000 100000000) + 1)] [(0, μ 231 k), (0, (min 100000000 100000000) + 1)] μ [pm_in ((min 100000000 100000000) + 1), 0 ≤ k ∧ k < 321] rfl ⟨pm_in_mk (by omega) (by omega), ⟨by omega, by omega⟩, trivial⟩ ?_
          refine pm_icmp hK zmm173 .lt 6 151 rfl rfl (fun h3 => ?_) (fun h3 => ?_)
          · have h3 : (min 100000000 100000000) + 1 < μ 231 k := h3
            refine pm_blk hK zmm173 [] 5 159 [(2, 205), (0, p), (0, more), (0, k), (0, c), (0, (min 100000000 100000000) + 1)] [] (pm_up μ 231 k ((min 100000000 100000000) + 1)) [sx_bit Wm 231 = true, 0 ≤ k ∧ k < 321] rfl ⟨hb231, ⟨by omega, by omega⟩, trivial⟩ ?_
            obtain ⟨μ1, eμ1⟩ : ∃ μ', μ' = pm_up μ 231 k ((min 100000000 100000000) + 1) := ⟨_, rfl⟩
            rw [← eμ1]
            have hTμ1 : zTJ μ1 := by rw [eμ1]; exact zT_up hT zs231_0 rfl (i := k) (by omega) (by omega) (by omega) (by omega)
            refine pm_blk hK zmm173 [] 4 54 [(2, 205), (0, p), (0, 1), (0, k), (0, c + 1), (0, (min 100000000 100000000) + 1)] [] μ1 [pm_in (c + 1)] rfl ⟨pm_in_mk (by omega) (by omega), trivial⟩ ?_
            refine pm_hide [5] ?_
            first
              | (have hz3 : zcoin μ1 321 := by rw [eμ1]; exact zcoin_up hz (by omega) (by omega)
                 have hs3 : zsum (μ1 231) 321 = zsum (μ 231) 321 - μ 231 k + ((min 100000000 100000000) + 1) := by rw [eμ1]; exact zsum_up (by omega) (by omega)
                 exact ih _ (by omega) rfl ⟨by omega, by omega⟩ (Or.inr rfl) hz3 (by omega) (fun _ => by omega) hTμ1)
              | exact ih _ (by omega) rfl ⟨by omega, by omega⟩ hm hz hS hS1 hTμ1
          · have h3 : μ 231 k ≤ (min 100000000 100000000) + 1 := h3
            refine pm_blk hK zmm173 [] 3 54 [(2, 205), (0, p), (0, more), (0, k), (0, c + 1), (0, (min 100000000 100000000) + 1)] [] μ [pm_in (c + 1)] rfl ⟨pm_in_mk (by omega) (by omega), trivial⟩ ?_
            refine pm_hide [5] ?_
            first
              | (have hz3 : zcoin μ 321 := by rw [eμ]; exact zcoin_up hz (by omega) (by omega)
                 have hs3 : zsum (μ 231) 321 = zsum (μ 231) 321 - μ 231 k + ((min 100000000 100000000) + 1) := by rw [eμ]; exact zsum_up (by omega) (by omega)
                 exact ih _ (by omega) rfl ⟨by omega, by omega⟩ (Or.inr rfl) hz3 (by omega) (fun _ => by omega) hT)
              | exact ih _ (by omega) rfl ⟨by omega, by omega⟩ hm hz hS hS1 hT
        · have h2 : k + (μ 230 c) < (321 : Int) := h2
          have fc := zT_get hT zs230_0 (i := c) (by omega) (by omega)
          have hz2 := hz (k + μ 230 c) (by omega) (by omega)
          have f4 := zT_get hT zs231_0 (i := k + (μ 230 c)) (by omega) (by omega)
          refine pm_blk hK zmm173 [] 10 130 [(2, 205), (0, p), (0, more), (0, k), (0, c), (9, 0)] [(0, μ 231 (k + (μ 230 c))), (0, 100000000), (2, 205)] μ [0 ≤ c ∧ c < 6, pm_in (k + (μ 230 c)), 0 ≤ k + (μ 230 c) ∧ k + (μ 230 c) < 321] rfl ⟨⟨by omega, by omega⟩, pm_in_mk (by omega) (by omega), ⟨by omega, by omega⟩, trivial⟩ ?_
          refine pm_call hK zmm173 (377, 0, 157, 2) zM157 (0, 0) [(2, 205), (0, 100000000), (0, μ 231 (k + (μ 230 c)))] [] rfl rfl rfl rfl ⟨by omega, by rw [zn157]; omega⟩ (zh_lesser hK ⟨by omega, by omega⟩) (fun st2 μc2 hp2 => ?_)
          obtain ⟨rfl, rfl⟩ := hp2
          have f5 := zT_get hT zs231_0 (i := k) (by omega) (by omega)
          refine pm_blk hK zmm173 [] 8 145 [(2, 205), (0, p), (0, more), (0, k), (0, c), (0, (min 100000000 (μ 231 (k + (μ 230 c)))) + 1)] [(0, μ 231 k), (0, (min 100000000 (μ 231 (k + (μ 230 c)))) + 1)] μ [pm_in ((min 100000000 (μ 231 (k + (μ 230 c)))) + 1), 0 ≤ k ∧ k < 321] rfl ⟨pm_in_mk (by omega) (by omega), ⟨by omega, by omega⟩, trivial⟩ ?_
          refine pm_icmp hK zmm173 .lt 6 151 rfl rfl (fun h4 => ?_) (fun h4 => ?_)
          · have h4 : (min 100000000 (μ 231 (k + (μ 230 c)))) + 1 < μ 231 k := h4
            refine pm_blk hK zmm173 [] 5 159 [(2, 205), (0, p), (0, more), (0, k), (0, c), (0, (min 100000000 (μ 231 (k + (μ 230 c)))) + 1)] [] (pm_up μ 231 k ((min 100000000 (μ 231 (k + (μ 230 c)))) + 1)) [sx_bit Wm 231 = true, 0 ≤ k ∧ k < 321] rfl ⟨hb231, ⟨by omega, by omega⟩, trivial⟩ ?_
            obtain ⟨μ2, eμ2⟩ : ∃ μ', μ' = pm_up μ 231 k ((min 100000000 (μ 231 (k + (μ 230 c)))) + 1) := ⟨_, rfl⟩
            rw [← eμ2]
            have hTμ2 : zTJ μ2 := by rw [eμ2]; exact zT_up hT zs231_0 rfl (i := k) (by omega) (by omega) (by omega) (by omega)
            refine pm_blk hK zmm173 [] 4 54 [(2, 205), (0, p), (0, 1), (0, k), (0, c + 1), (0, (min 100000000 (μ 231 (k + (μ 230 c)))) + 1)] [] μ2 [pm_in (c + 1)] rfl ⟨pm_in_mk (by omega) (by omega), trivial⟩ ?_
            refine pm_hide [5] ?_
            first
              | (have hz3 : zcoin μ2 321 := by rw [eμ2]; exact zcoin_up hz (by omega) (by omega)
                 have hs3 : zsum (μ2 231) 321 = zsum (μ 231) 321 - μ 231 k + ((min 100000000 (μ 231 (k + (μ 230 c)))) + 1) := by rw [eμ2]; exact zsum_up (by omega) (by omega)
                 exact ih _ (by omega) rfl ⟨by omega, by omega⟩ (Or.inr rfl) hz3 (by omega) (fun _ => by omega) hTμ2)
              | exact ih _ (by omega) rfl ⟨by omega, by omega⟩ hm hz hS hS1 hTμ2
          · have h4 : μ 231 k ≤ (min 100000000 (μ 231 (k + (μ 230 c)))) + 1 := h4
            refine pm_blk hK zmm173 [] 3 54 [(2, 205), (0, p), (0, more), (0, k), (0, c + 1), (0, (min 100000000 (μ 231 (k + (μ 230 c)))) + 1)] [] μ [pm_in (c + 1)] rfl ⟨pm_in_mk (by omega) (by omega), trivial⟩ ?_
            refine pm_hide [5] ?_
            first
              | (have hz3 : zcoin μ 321 := by rw [eμ]; exact zcoin_up hz (by omega) (by omega)
                 have hs3 : zsum (μ 231) 321 = zsum (μ 231) 321 - μ 231 k + ((min 100000000 (μ 231 (k + (μ 230 c)))) + 1) := by rw [eμ]; exact zsum_up (by omega) (by omega)
                 exact ih _ (by omega) rfl ⟨by omega, by omega⟩ (Or.inr rfl) hz3 (by omega) (fun _ => by omega) hT)
              | exact ih _ (by omega) rfl ⟨by omega, by omega⟩ hm hz hS hS1 hT
      · have h1 : μ 230 c ≤ k := h1
        have fc := zT_get hT zs230_0 (i := c) (by omega) (by omega)
        have hz1 := hz (k - μ 230 c) (by omega) (by omega)
        have f6 := zT_get hT zs231_0 (i := k - (μ 230 c)) (by omega) (by omega)
        refine pm_blk hK zmm173 [] 17 107 [(2, 205), (0, p), (0, more), (0, k), (0, c), (9, 0)] [(0, 321), (0, k + (μ 230 c)), (0, μ 231 (k - (μ 230 c))), (2, 205)] μ [0 ≤ c ∧ c < 6, pm_in (k - (μ 230 c)), 0 ≤ k - (μ 230 c) ∧ k - (μ 230 c) < 321, 0 ≤ c ∧ c < 6, pm_in (k + (μ 230 c))] rfl ⟨⟨by omega, by omega⟩, pm_in_mk (by omega) (by omega), ⟨by omega, by omega⟩, ⟨by omega, by omega⟩, pm_in_mk (by omega) (by omega), trivial⟩ ?_
        refine pm_icmp hK zmm173 .ge 20 127 rfl rfl (fun h5 => ?_) (fun h5 => ?_)
        · have h5 : (321 : Int) ≤ k + (μ 230 c) := h5
          refine pm_blk hK zmm173 [] 1 130 [(2, 205), (0, p), (0, more), (0, k), (0, c), (9, 0)] [(0, 100000000), (0, μ 231 (k - (μ 230 c))), (2, 205)] μ [] rfl trivial ?_
          refine pm_call hK zmm173 (377, 0, 157, 2) zM157 (0, 0) [(2, 205), (0, μ 231 (k - (μ 230 c))), (0, 100000000)] [] rfl rfl rfl rfl ⟨by omega, by rw [zn157]; omega⟩ (zh_lesser hK ⟨by omega, by omega⟩) (fun st3 μc3 hp3 => ?_)
          obtain ⟨rfl, rfl⟩ := hp3
          have f7 := zT_get hT zs231_0 (i := k) (by omega) (by omega)
          refine pm_blk hK zmm173 [] 8 145 [(2, 205), (0, p), (0, more), (0, k), (0, c), (0, (min (μ 231 (k - (μ 230 c))) 100000000) + 1)] [(0, μ 231 k), (0, (min (μ 231 (k - (μ 230 c))) 100000000) + 1)] μ [pm_in ((min (μ 231 (k - (μ 230 c))) 100000000) + 1), 0 ≤ k ∧ k < 321] rfl ⟨pm_in_mk (by omega) (by omega), ⟨by omega, by omega⟩, trivial⟩ ?_
          refine pm_icmp hK zmm173 .lt 6 151 rfl rfl (fun h6 => ?_) (fun h6 => ?_)
          · have h6 : (min (μ 231 (k - (μ 230 c))) 100000000) + 1 < μ 231 k := h6
            refine pm_blk hK zmm173 [] 5 159 [(2, 205), (0, p), (0, more), (0, k), (0, c), (0, (min (μ 231 (k - (μ 230 c))) 100000000) + 1)] [] (pm_up μ 231 k ((min (μ 231 (k - (μ 230 c))) 100000000) + 1)) [sx_bit Wm 231 = true, 0 ≤ k ∧ k < 321] rfl ⟨hb231, ⟨by omega, by omega⟩, trivial⟩ ?_
            obtain ⟨μ3, eμ3⟩ : ∃ μ', μ' = pm_up μ 231 k ((min (μ 231 (k - (μ 230 c))) 100000000) + 1) := ⟨_, rfl⟩
            rw [← eμ3]
            have hTμ3 : zTJ μ3 := by rw [eμ3]; exact zT_up hT zs231_0 rfl (i := k) (by omega) (by omega) (by omega) (by omega)
            refine pm_blk hK zmm173 [] 4 54 [(2, 205), (0, p), (0, 1), (0, k), (0, c + 1), (0, (min (μ 231 (k - (μ 230 c))) 100000000) + 1)] [] μ3 [pm_in (c + 1)] rfl ⟨pm_in_mk (by omega) (by omega), trivial⟩ ?_
            refine pm_hide [5] ?_
            first
              | (have hz3 : zcoin μ3 321 := by rw [eμ3]; exact zcoin_up hz (by omega) (by omega)
                 have hs3 : zsum (μ3 231) 321 = zsum (μ 231) 321 - μ 231 k + ((min (μ 231 (k - (μ 230 c))) 100000000) + 1) := by rw [eμ3]; exact zsum_up (by omega) (by omega)
                 exact ih _ (by omega) rfl ⟨by omega, by omega⟩ (Or.inr rfl) hz3 (by omega) (fun _ => by omega) hTμ3)
              | exact ih _ (by omega) rfl ⟨by omega, by omega⟩ hm hz hS hS1 hTμ3
          · have h6 : μ 231 k ≤ (min (μ 231 (k - (μ 230 c))) 100000000) + 1 := h6
            refine pm_blk hK zmm173 [] 3 54 [(2, 205), (0, p), (0, more), (0, k), (0, c + 1), (0, (min (μ 231 (k - (μ 230 c))) 100000000) + 1)] [] μ [pm_in (c + 1)] rfl ⟨pm_in_mk (by omega) (by omega), trivial⟩ ?_
            refine pm_hide [5] ?_
            first
              | (have hz3 : zcoin μ 321 := by rw [eμ]; exact zcoin_up hz (by omega) (by omega)
                 have hs3 : zsum (μ 231) 321 = zsum (μ 231) 321 - μ 231 k + ((min (μ 231 (k - (μ 230 c))) 100000000) + 1) := by rw [eμ]; exact zsum_up (by omega) (by omega)
                 exact ih _ (by omega) rfl ⟨by omega, by omega⟩ (Or.inr rfl) hz3 (by omega) (fun _ => by omega) hT)
              | exact ih _ (by omega) rfl ⟨by omega, by omega⟩ hm hz hS hS1 hT
        · have h5 : k + (μ 230 c) < (321 : Int) := h5
          have fc := zT_get hT zs230_0 (i := c) (by omega) (by omega)
          have hz2 := hz (k + μ 230 c) (by omega) (by omega)
          have f8 := zT_get hT zs231_0 (i := k + (μ 230 c)) (by omega) (by omega)
          refine pm_blk hK zmm173 [] 10 130 [(2, 205), (0, p), (0, more), (0, k), (0, c), (9, 0)] [(0, μ 231 (k + (μ 230 c))), (0, μ 231 (k - (μ 230 c))), (2, 205)] μ [0 ≤ c ∧ c < 6, pm_in (k + (μ 230 c)), 0 ≤ k + (μ 230 c) ∧ k + (μ 230 c) < 321] rfl ⟨⟨by omega, by omega⟩, pm_in_mk (by omega) (by omega), ⟨by omega, by omega⟩, trivial⟩ ?_
          refine pm_call hK zmm173 (377, 0, 157, 2) zM157 (0, 0) [(2, 205), (0, μ 231 (k - (μ 230 c))), (0, μ 231 (k + (μ 230 c)))] [] rfl rfl rfl rfl ⟨by omega, by rw [zn157]; omega⟩ (zh_lesser hK ⟨by omega, by omega⟩) (fun st4 μc4 hp4 => ?_)
          obtain ⟨rfl, rfl⟩ := hp4
          have f9 := zT_get hT zs231_0 (i := k) (by omega) (by omega)
          refine pm_blk hK zmm173 [] 8 145 [(2, 205), (0, p), (0, more), (0, k), (0, c), (0, (min (μ 231 (k - (μ 230 c))) (μ 231 (k + (μ 230 c)))) + 1)] [(0, μ 231 k), (0, (min (μ 231 (k - (μ 230 c))) (μ 231 (k + (μ 230 c)))) + 1)] μ [pm_in ((min (μ 231 (k - (μ 230 c))) (μ 231 (k + (μ 230 c)))) + 1), 0 ≤ k ∧ k < 321] rfl ⟨pm_in_mk (by omega) (by omega), ⟨by omega, by omega⟩, trivial⟩ ?_
          refine pm_icmp hK zmm173 .lt 6 151 rfl rfl (fun h7 => ?_) (fun h7 => ?_)
          · have h7 : (min (μ 231 (k - (μ 230 c))) (μ 231 (k + (μ 230 c)))) + 1 < μ 231 k := h7
            refine pm_blk hK zmm173 [] 5 159 [(2, 205), (0, p), (0, more), (0, k), (0, c), (0, (min (μ 231 (k - (μ 230 c))) (μ 231 (k + (μ 230 c)))) + 1)] [] (pm_up μ 231 k ((min (μ 231 (k - (μ 230 c))) (μ 231 (k + (μ 230 c)))) + 1)) [sx_bit Wm 231 = true, 0 ≤ k ∧ k < 321] rfl ⟨hb231, ⟨by omega, by omega⟩, trivial⟩ ?_
            obtain ⟨μ4, eμ4⟩ : ∃ μ', μ' = pm_up μ 231 k ((min (μ 231 (k - (μ 230 c))) (μ 231 (k + (μ 230 c)))) + 1) := ⟨_, rfl⟩
            rw [← eμ4]
            have hTμ4 : zTJ μ4 := by rw [eμ4]; exact zT_up hT zs231_0 rfl (i := k) (by omega) (by omega) (by omega) (by omega)
            refine pm_blk hK zmm173 [] 4 54 [(2, 205), (0, p), (0, 1), (0, k), (0, c + 1), (0, (min (μ 231 (k - (μ 230 c))) (μ 231 (k + (μ 230 c)))) + 1)] [] μ4 [pm_in (c + 1)] rfl ⟨pm_in_mk (by omega) (by omega), trivial⟩ ?_
            refine pm_hide [5] ?_
            first
              | (have hz3 : zcoin μ4 321 := by rw [eμ4]; exact zcoin_up hz (by omega) (by omega)
                 have hs3 : zsum (μ4 231) 321 = zsum (μ 231) 321 - μ 231 k + ((min (μ 231 (k - (μ 230 c))) (μ 231 (k + (μ 230 c)))) + 1) := by rw [eμ4]; exact zsum_up (by omega) (by omega)
                 exact ih _ (by omega) rfl ⟨by omega, by omega⟩ (Or.inr rfl) hz3 (by omega) (fun _ => by omega) hTμ4)
              | exact ih _ (by omega) rfl ⟨by omega, by omega⟩ hm hz hS hS1 hTμ4
          · have h7 : μ 231 k ≤ (min (μ 231 (k - (μ 230 c))) (μ 231 (k + (μ 230 c)))) + 1 := h7
            refine pm_blk hK zmm173 [] 3 54 [(2, 205), (0, p), (0, more), (0, k), (0, c + 1), (0, (min (μ 231 (k - (μ 230 c))) (μ 231 (k + (μ 230 c)))) + 1)] [] μ [pm_in (c + 1)] rfl ⟨pm_in_mk (by omega) (by omega), trivial⟩ ?_
            refine pm_hide [5] ?_
            first
              | (have hz3 : zcoin μ 321 := by rw [eμ]; exact zcoin_up hz (by omega) (by omega)
                 have hs3 : zsum (μ 231) 321 = zsum (μ 231) 321 - μ 231 k + ((min (μ 231 (k - (μ 230 c))) (μ 231 (k + (μ 230 c)))) + 1) := by rw [eμ]; exact zsum_up (by omega) (by omega)
                 exact ih _ (by omega) rfl ⟨by omega, by omega⟩ (Or.inr rfl) hz3 (by omega) (fun _ => by omega) hT)
              | exact ih _ (by omega) rfl ⟨by omega, by omega⟩ hm hz hS hS1 hT
set_option maxRecDepth 100000 in
theorem zl_fc2 (hK : zKK ST) {X : Nat → List pm_V → List pm_V → pm_Mem → Prop} {p S0 : Int} (hb231 : sx_bit Wm 231 = true) (K : ∀ (more k : Int) (μ : pm_Mem), more = 0 ∨ more = 1 → zcoin μ 321 → zsum (μ 231) 321 ≤ S0 → (more = 1 → zsum (μ 231) 321 < S0) → zTJ μ → zW D Wm ST b0 l Sg zM173 bud X 173 [(2, 205), (0, p), (0, more), (0, k), (9, 0), (9, 0)] [] μ) (hbd : 1 ≤ bud.1 ∧ 22 ≤ bud.2.1) : ∀ (n : Nat) {more k : Int} {μ : pm_Mem}, (321 - k).toNat = n → ∀ (hk : 0 ≤ k ∧ k ≤ 321) (hm : more = 0 ∨ more = 1) (hz : zcoin μ 321) (hS : zsum (μ 231) 321 ≤ S0) (hS1 : more = 1 → zsum (μ 231) 321 < S0) (hT : zTJ μ), zW D Wm ST b0 l Sg zM173 bud X 44 [(2, 205), (0, p), (0, more), (0, k), (9, 0), (9, 0)] [] μ := by
  intro n
  induction n using Nat.strongRecOn with
  | ind n ih =>
    intro more k μ hn hk hm hz hS hS1 hT
    refine pm_blk hK zmm173 [] 2 48 [(2, 205), (0, p), (0, more), (0, k), (9, 0), (9, 0)] [(0, 321), (0, k)] μ [] rfl trivial ?_
    refine pm_icmp hK zmm173 .ge 125 173 rfl rfl (fun h0 => ?_) (fun h0 => ?_)
    · have h0 : (321 : Int) ≤ k := h0
      exact K _ _ _ hm hz hS hS1 hT
    · have h0 : k < (321 : Int) := h0
      refine pm_blk hK zmm173 [] 2 54 [(2, 205), (0, p), (0, more), (0, k), (0, 0), (9, 0)] [] μ [] rfl trivial ?_
      refine zl_fc3 hK (S0 := S0) ⟨by omega, by omega⟩ hb231 (fun more c μ hm hz hS hS1 hT => ?_) hbd _ rfl ⟨by omega, by omega⟩ hm hz hS hS1 hT
      refine pm_blk hK zmm173 [] 2 44 [(2, 205), (0, p), (0, more), (0, k + 1), (9, 0), (9, 0)] [] μ [pm_in (k + 1)] rfl ⟨pm_in_mk (by omega) (by omega), trivial⟩ ?_
      exact ih _ (by omega) rfl ⟨by omega, by omega⟩ hm hz hS hS1 hT
set_option maxRecDepth 100000 in
theorem zl_fc0 (hK : zKK ST)  {p : Int} (hp : 0 ≤ p ∧ p ≤ 200) (hb231 : sx_bit Wm 231 = true) (hbd : 1 ≤ bud.1 ∧ 22 ≤ bud.2.1) : ∀ (n : Nat) {more : Int} {μ : pm_Mem}, (2 * zsum (μ 231) 321 + more).toNat = n → ∀ (hm : more = 0 ∨ more = 1) (hz : zcoin μ 321) (hT : zTJ μ), zW D Wm ST b0 l Sg zM173 bud (pm_X zM173 (fun st' μ' => ∃ x, st' = [(0, x)] ∧ pm_in x ∧ zTJ μ')) 36 [(2, 205), (0, p), (0, more), (9, 0), (9, 0), (9, 0)] [] μ := by
  intro n
  induction n using Nat.strongRecOn with
  | ind n ih =>
    intro more μ hn hm hz hT
    have hnn := zsum_nn (f := μ 231) (n := 321) (fun j h0 h1 => (hz j h0 h1).1)
    refine pm_blk hK zmm173 [] 1 37 [(2, 205), (0, p), (0, more), (9, 0), (9, 0), (9, 0)] [(0, more)] μ [] rfl trivial ?_
    refine pm_if hK zmm173 .eq 139 176 rfl rfl (fun h0 => ?_) (fun h0 => ?_)
    · have h0 : more = (0 : Int) := h0
      have f1 := zT_get hT zs231_0 (i := 60 + p) (by omega) (by omega)
      refine pm_blk hK zmm173 [] 7 188 [(2, 205), (0, p), (0, more), (9, 0), (9, 0), (9, 0)] [(0, 100000000), (0, μ 231 (60 + p))] μ [pm_in (60 + p), 0 ≤ 60 + p ∧ 60 + p < 321] rfl ⟨pm_in_mk (by omega) (by omega), ⟨by omega, by omega⟩, trivial⟩ ?_
      refine pm_icmp hK zmm173 .lt 7 195 rfl rfl (fun h1 => ?_) (fun h1 => ?_)
      · have h1 : μ 231 (60 + p) < (100000000 : Int) := h1
        refine pm_blk hK zmm173 [] 6 204 [(2, 205), (0, p), (0, more), (9, 0), (9, 0), (9, 0)] [(0, μ 231 (60 + p))] μ [pm_in (60 + p), 0 ≤ 60 + p ∧ 60 + p < 321] rfl ⟨pm_in_mk (by omega) (by omega), ⟨by omega, by omega⟩, trivial⟩ ?_
        exact pm_iret rfl rfl ⟨_, rfl, ⟨by omega, by omega⟩, hT⟩
      · have h1 : (100000000 : Int) ≤ μ 231 (60 + p) := h1
        refine pm_blk hK zmm173 [] 2 204 [(2, 205), (0, p), (0, more), (9, 0), (9, 0), (9, 0)] [(0, (-1))] μ [] rfl trivial ?_
        exact pm_iret rfl rfl ⟨_, rfl, ⟨by omega, by omega⟩, hT⟩
    · have h0 : more ≠ (0 : Int) := h0
      refine pm_blk hK zmm173 [] 4 44 [(2, 205), (0, p), (0, 0), (0, 0), (9, 0), (9, 0)] [] μ [] rfl trivial ?_
      refine zl_fc2 hK (S0 := zsum (μ 231) 321) hb231 (fun more2 k μ2 hm2 hz2 hS hS1 hT2 => ?_) hbd _ rfl ⟨by omega, by omega⟩ (Or.inl rfl) hz (by omega) (fun h => absurd h (by omega)) hT
      refine pm_blk hK zmm173 [] 1 36 [(2, 205), (0, p), (0, more2), (0, k), (9, 0), (9, 0)] [] μ2 [] rfl trivial ?_
      refine pm_hide [3] ?_
      have hnn2 := zsum_nn (f := μ2 231) (n := 321) (fun j h0 h1 => (hz2 j h0 h1).1)
      exact ih _ (by omega) rfl hm2 hz2 hT2
set_option maxRecDepth 100000 in
theorem zh_fewestCoins (hK : zKK ST) {p : Int} (hp : 0 ≤ p ∧ p ≤ 200) (hT : zTJ μ) (hb231 : sx_bit Wm 231 = true) (hbd : 1 ≤ bud.1 ∧ 22 ≤ bud.2.1) : zC D Wm ST b0 l Sg zM173 bud [(2, 205), (0, p)] μ (fun st' μ' => ∃ x, st' = [(0, x)] ∧ pm_in x ∧ zTJ μ') := by
  refine pm_blk hK zmm173 [] 2 2 [(2, 205), (0, p), (0, 0), (9, 0), (9, 0), (9, 0)] [] μ [] rfl trivial ?_
  refine zl_fc1 hK hb231 (fun k μ hz hT => ?_) ⟨by omega, by omega⟩ _ rfl ⟨by omega, by omega⟩ (fun j h0 h1 => absurd h1 (by omega)) hT
  refine pm_blk hK zmm173 [] 2 36 [(2, 205), (0, p), (0, 1), (9, 0), (9, 0), (9, 0)] [] μ [] rfl trivial ?_
  exact zl_fc0 hK hp hb231 hbd _ rfl (Or.inr rfl) hz hT
set_option maxRecDepth 100000 in
theorem zl_pa1 (hK : zKK ST) {X : Nat → List pm_V → List pm_V → pm_Mem → Prop} {p w : Int} (hp : 0 ≤ p ∧ p ≤ 200) (hb231 : sx_bit Wm 231 = true) (K : ∀ (k : Int) (μ : pm_Mem), zTJ μ → zW D Wm ST b0 l Sg zM172 bud X 67 [(2, 205), (0, p), (0, w), (0, k), (9, 0)] [] μ) (hbd : 0 ≤ bud.1 ∧ 0 ≤ bud.2.1) : ∀ (n : Nat) {k : Int} {μ : pm_Mem}, (201 - k).toNat = n → ∀ (hk : 0 ≤ k ∧ k ≤ 201) (hT : zTJ μ), zW D Wm ST b0 l Sg zM172 bud X 41 [(2, 205), (0, p), (0, w), (0, k), (9, 0)] [] μ := by
  intro n
  induction n using Nat.strongRecOn with
  | ind n ih =>
    intro k μ hn hk hT
    refine pm_blk hK zmm172 [] 2 43 [(2, 205), (0, p), (0, w), (0, k), (9, 0)] [(0, p), (0, k)] μ [] rfl trivial ?_
    refine pm_icmp hK zmm172 .gt 24 67 rfl rfl (fun h0 => ?_) (fun h0 => ?_)
    · have h0 : p < k := h0
      exact K _ _ hT
    · have h0 : k ≤ p := h0
      refine pm_blk hK zmm172 [] 4 52 [(2, 205), (0, p), (0, w), (0, k), (9, 0)] [(0, k), (0, k), (2, 231)] μ [] rfl trivial ?_
      refine pm_if hK zmm172 .ne 7 59 rfl rfl (fun h1 => ?_) (fun h1 => ?_)
      · have h1 : k ≠ (0 : Int) := h1
        refine pm_blk hK zmm172 [] 2 61 [(2, 205), (0, p), (0, w), (0, k), (9, 0)] [] (pm_up μ 231 k 0) [sx_bit Wm 231 = true, 0 ≤ k ∧ k < 321] rfl ⟨hb231, ⟨by omega, by omega⟩, trivial⟩ ?_
        obtain ⟨μ1, eμ1⟩ : ∃ μ', μ' = pm_up μ 231 k 0 := ⟨_, rfl⟩
        rw [← eμ1]
        have hTμ1 : zTJ μ1 := by rw [eμ1]; exact zT_up hT zs231_0 rfl (i := k) (by omega) (by omega) (by omega) (by omega)
        refine pm_blk hK zmm172 [] 2 41 [(2, 205), (0, p), (0, w), (0, k + 1), (9, 0)] [] μ1 [pm_in (k + 1)] rfl ⟨pm_in_mk (by omega) (by omega), trivial⟩ ?_
        exact ih _ (by omega) rfl ⟨by omega, by omega⟩ hTμ1
      · have h1 : k = (0 : Int) := h1
        refine pm_blk hK zmm172 [] 3 61 [(2, 205), (0, p), (0, w), (0, k), (9, 0)] [] (pm_up μ 231 k 1) [sx_bit Wm 231 = true, 0 ≤ k ∧ k < 321] rfl ⟨hb231, ⟨by omega, by omega⟩, trivial⟩ ?_
        obtain ⟨μ2, eμ2⟩ : ∃ μ', μ' = pm_up μ 231 k 1 := ⟨_, rfl⟩
        rw [← eμ2]
        have hTμ2 : zTJ μ2 := by rw [eμ2]; exact zT_up hT zs231_0 rfl (i := k) (by omega) (by omega) (by omega) (by omega)
        refine pm_blk hK zmm172 [] 2 41 [(2, 205), (0, p), (0, w), (0, k + 1), (9, 0)] [] μ2 [pm_in (k + 1)] rfl ⟨pm_in_mk (by omega) (by omega), trivial⟩ ?_
        exact ih _ (by omega) rfl ⟨by omega, by omega⟩ hTμ2
set_option maxRecDepth 100000 in
theorem zl_pa3 (hK : zKK ST) {X : Nat → List pm_V → List pm_V → pm_Mem → Prop} {p w c : Int} (hp : 0 ≤ p ∧ p ≤ 200) (hc : 0 ≤ c ∧ c ≤ 5) (hb231 : sx_bit Wm 231 = true) (K : ∀ (k : Int) (μ : pm_Mem), zTJ μ → zW D Wm ST b0 l Sg zM172 bud X 126 [(2, 205), (0, p), (0, w), (0, c), (9, 0)] [] μ) (hbd : 0 ≤ bud.1 ∧ 0 ≤ bud.2.1) : ∀ (n : Nat) {k : Int} {μ : pm_Mem}, (201 - k).toNat = n → ∀ (hk : μ 230 c ≤ k ∧ k ≤ 201) (hT : zTJ μ), zW D Wm ST b0 l Sg zM172 bud X 85 [(2, 205), (0, p), (0, w), (0, c), (0, k)] [] μ := by
  intro n
  induction n using Nat.strongRecOn with
  | ind n ih =>
    intro k μ hn hk hT
    have fc := zT_get hT zs230_0 (i := c) (by omega) (by omega)
    refine pm_blk hK zmm172 [118] 2 88 [(2, 205), (0, p), (0, w), (0, c), (0, k)] [(0, p), (0, k)] μ [] rfl trivial ?_
    refine pm_icmp hK zmm172 .gt 38 126 rfl rfl (fun h0 => ?_) (fun h0 => ?_)
    · have h0 : p < k := h0
      refine pm_hide [4] ?_
      exact K k _ hT
    · have h0 : k ≤ p := h0
      have f1 := zT_get hT zs231_0 (i := k) (by omega) (by omega)
      have f2 := zT_get hT zs230_0 (i := c) (by omega) (by omega)
      have f3 := zT_get hT zs231_0 (i := k - (μ 230 c)) (by omega) (by omega)
      have w4 := zw32 ((μ 231 k) + (μ 231 (k - (μ 230 c))))
      refine pm_blk hK zmm172 [118] 18 120 [(2, 205), (0, p), (0, w), (0, c), (0, k)] [] (pm_up μ 231 k (pm_w32 ((μ 231 k) + (μ 231 (k - (μ 230 c)))))) [0 ≤ k ∧ k < 321, 0 ≤ c ∧ c < 6, pm_in (k - (μ 230 c)), 0 ≤ k - (μ 230 c) ∧ k - (μ 230 c) < 321, sx_bit Wm 231 = true, 0 ≤ k ∧ k < 321] rfl ⟨⟨by omega, by omega⟩, ⟨by omega, by omega⟩, pm_in_mk (by omega) (by omega), ⟨by omega, by omega⟩, hb231, ⟨by omega, by omega⟩, trivial⟩ ?_
      obtain ⟨μ1, eμ1⟩ : ∃ μ', μ' = pm_up μ 231 k (pm_w32 ((μ 231 k) + (μ 231 (k - (μ 230 c))))) := ⟨_, rfl⟩
      rw [← eμ1]
      have hTμ1 : zTJ μ1 := by rw [eμ1]; exact zT_up hT zs231_0 rfl (i := k) (by omega) (by omega) (by omega) (by omega)
      refine pm_blk hK zmm172 [118] 2 85 [(2, 205), (0, p), (0, w), (0, c), (0, k + 1)] [] μ1 [pm_in (k + 1)] rfl ⟨pm_in_mk (by omega) (by omega), trivial⟩ ?_
      have g9 : μ1 230 c = μ 230 c := by rw [eμ1, pm_up_off (by decide)]
      exact ih _ (by omega) rfl ⟨by omega, by omega⟩ hTμ1
set_option maxRecDepth 100000 in
theorem zl_pa2 (hK : zKK ST)  {p w : Int} (hp : 0 ≤ p ∧ p ≤ 200) (hb231 : sx_bit Wm 231 = true) (hbd : 0 ≤ bud.1 ∧ 0 ≤ bud.2.1) : ∀ (n : Nat) {c : Int} {μ : pm_Mem}, (6 - c).toNat = n → ∀ (hc : 0 ≤ c ∧ c ≤ 6) (hT : zTJ μ), zW D Wm ST b0 l Sg zM172 bud (pm_X zM172 (fun st' μ' => ∃ x, st' = [(0, x)] ∧ pm_in x ∧ zTJ μ')) 69 [(2, 205), (0, p), (0, w), (0, c), (9, 0)] [] μ := by
  intro n
  induction n using Nat.strongRecOn with
  | ind n ih =>
    intro c μ hn hc hT
    have f1 := zT_get hT zs205_45 (i := 45) (by omega) (by omega)
    refine pm_blk hK zmm172 [] 3 74 [(2, 205), (0, p), (0, w), (0, c), (9, 0)] [(0, μ 205 45), (0, c)] μ [] rfl trivial ?_
    refine pm_icmp hK zmm172 .ge 58 132 rfl rfl (fun h0 => ?_) (fun h0 => ?_)
    · have h0 : μ 205 45 ≤ c := h0
      have f2 := zT_get hT zs231_0 (i := p) (by omega) (by omega)
      refine pm_blk hK zmm172 [] 4 138 [(2, 205), (0, p), (0, w), (0, c), (9, 0)] [(0, μ 231 p)] μ [0 ≤ p ∧ p < 321] rfl ⟨⟨by omega, by omega⟩, trivial⟩ ?_
      exact pm_iret rfl rfl ⟨_, rfl, ⟨by omega, by omega⟩, hT⟩
    · have h0 : c < μ 205 45 := h0
      have f3 := zT_get hT zs230_0 (i := c) (by omega) (by omega)
      refine pm_blk hK zmm172 [] 5 85 [(2, 205), (0, p), (0, w), (0, c), (0, μ 230 c)] [] μ [0 ≤ c ∧ c < 6] rfl ⟨⟨by omega, by omega⟩, trivial⟩ ?_
      refine zl_pa3 hK hp ⟨by omega, by omega⟩ hb231 (fun k μ hT => ?_) ⟨by omega, by omega⟩ _ rfl ⟨by omega, by omega⟩ hT
      refine pm_blk hK zmm172 [] 2 69 [(2, 205), (0, p), (0, w), (0, c + 1), (9, 0)] [] μ [pm_in (c + 1)] rfl ⟨pm_in_mk (by omega) (by omega), trivial⟩ ?_
      exact ih _ (by omega) rfl ⟨by omega, by omega⟩ hT
set_option maxRecDepth 100000 in
theorem zh_pays (hK : zKK ST) {p w : Int} (hp0 : pm_in p) (hw0 : pm_in w) (hT : zTJ μ) (hb231 : sx_bit Wm 231 = true) (hb205 : sx_bit Wm 205 = true) (hbd : 2 ≤ bud.1 ∧ 47 ≤ bud.2.1) : zC D Wm ST b0 l Sg zM172 bud [(2, 205), (0, p), (0, w)] μ (fun st' μ' => ∃ x, st' = [(0, x)] ∧ pm_in x ∧ zTJ μ') := by
  refine pm_blk hK zmm172 [] 3 5 [(2, 205), (0, p), (0, w), (9, 0), (9, 0)] [] (pm_up μ 205 0 0) [sx_bit Wm 205 = true] rfl ⟨hb205, trivial⟩ ?_
  obtain ⟨μ1, eμ1⟩ : ∃ μ', μ' = pm_up μ 205 0 0 := ⟨_, rfl⟩
  rw [← eμ1]
  have hTμ1 : zTJ μ1 := by rw [eμ1]; exact zT_up hT zs205_0 rfl (i := 0) (by omega) (by omega) (by omega) (by omega)
  refine pm_blk hK zmm172 [] 4 11 [(2, 205), (0, p), (0, w), (9, 0), (9, 0)] [(0, 200), (0, 0), (0, p), (2, 205)] μ1 [] rfl trivial ?_
  refine pm_call hK zmm172 (158, 0, 129, 3) zM129 (0, 0) [(2, 205), (0, p), (0, 0), (0, 200)] [] rfl rfl rfl rfl ⟨by omega, by rw [zn129]; omega⟩ (zh_isIn hK ⟨by omega, by omega⟩) (fun st1 μc1 hp1 => ?_)
  obtain ⟨rfl, rfl⟩ := hp1
  refine pm_if hK zmm172 .eq 13 27 rfl rfl (fun h0 => ?_) (fun h0 => ?_)
  · have h0 : (if 0 ≤ p ∧ p ≤ 200 then 1 else 0 : Int) = (0 : Int) := h0
    have h0 := zif0 h0
    refine pm_blk hK zmm172 [] 1 28 [(2, 205), (0, p), (0, w), (9, 0), (9, 0)] [(0, (-1))] μ1 [] rfl trivial ?_
    exact pm_iret rfl rfl ⟨_, rfl, ⟨by omega, by omega⟩, hTμ1⟩
  · have h0 : (if 0 ≤ p ∧ p ≤ 200 then 1 else 0 : Int) ≠ (0 : Int) := h0
    have h0 := zif1 h0
    refine pm_blk hK zmm172 [] 4 21 [(2, 205), (0, p), (0, w), (9, 0), (9, 0)] [(0, 1), (0, 0), (0, w), (2, 205)] μ1 [] rfl trivial ?_
    refine pm_call hK zmm172 (158, 0, 129, 3) zM129 (0, 0) [(2, 205), (0, w), (0, 0), (0, 1)] [] rfl rfl rfl rfl ⟨by omega, by rw [zn129]; omega⟩ (zh_isIn hK ⟨by omega, by omega⟩) (fun st2 μc2 hp2 => ?_)
    obtain ⟨rfl, rfl⟩ := hp2
    refine pm_if hK zmm172 .ne 5 29 rfl rfl (fun h1 => ?_) (fun h1 => ?_)
    · have h1 : (if 0 ≤ w ∧ w ≤ 1 then 1 else 0 : Int) ≠ (0 : Int) := h1
      have h1 := zif1 h1
      refine pm_blk hK zmm172 [] 1 30 [(2, 205), (0, p), (0, w), (9, 0), (9, 0)] [(0, w)] μ1 [] rfl trivial ?_
      refine pm_if hK zmm172 .ne 9 39 rfl rfl (fun h2 => ?_) (fun h2 => ?_)
      · have h2 : w ≠ (0 : Int) := h2
        refine pm_blk hK zmm172 [] 2 41 [(2, 205), (0, p), (0, w), (0, 0), (9, 0)] [] μ1 [] rfl trivial ?_
        refine zl_pa1 hK ⟨by omega, by omega⟩ hb231 (fun k μ hT => ?_) ⟨by omega, by omega⟩ _ rfl ⟨by omega, by omega⟩ hTμ1
        refine pm_blk hK zmm172 [] 2 69 [(2, 205), (0, p), (0, w), (0, 0), (9, 0)] [] μ [] rfl trivial ?_
        exact zl_pa2 hK ⟨by omega, by omega⟩ hb231 ⟨by omega, by omega⟩ _ rfl ⟨by omega, by omega⟩ hT
      · have h2 : w = (0 : Int) := h2
        refine pm_blk hK zmm172 [] 2 35 [(2, 205), (0, p), (0, w), (9, 0), (9, 0)] [(0, p), (2, 205)] μ1 [] rfl trivial ?_
        refine pm_call hK zmm172 (436, 0, 173, 1) zM173 (1, 22) [(2, 205), (0, p)] [] rfl rfl rfl rfl ⟨by omega, by rw [zn173]; omega⟩ (zh_fewestCoins hK (p := p) ⟨by omega, by omega⟩ hTμ1 hb231 ⟨Nat.le_refl _, Nat.le_refl _⟩) (fun st3 μc3 hp3 => ?_)
        obtain ⟨x3, rfl, hx3, hTc3⟩ := hp3
        have hx3 : -2147483648 ≤ x3 ∧ x3 ≤ 2147483647 := hx3
        exact pm_iret rfl rfl ⟨_, rfl, ⟨by omega, by omega⟩, hTc3⟩
    · have h1 : (if 0 ≤ w ∧ w ≤ 1 then 1 else 0 : Int) = (0 : Int) := h1
      have h1 := zif0 h1
      refine pm_blk hK zmm172 [] 1 28 [(2, 205), (0, p), (0, w), (9, 0), (9, 0)] [(0, (-1))] μ1 [] rfl trivial ?_
      exact pm_iret rfl rfl ⟨_, rfl, ⟨by omega, by omega⟩, hTμ1⟩
end ZHW
