/-! sums, both sides; walks printed by program (wip/p30/pmgen.py) and filled by hand -/
variable {φ : Option pm_Mem}
section ZHW
variable {D : va_G} {Wm : Nat} {ST : List (String × String × String × Nat)} {b0 : sx_B} {l : Launch} {Sg : Nat → Option Nat} {bud : sx_Bu} {μ : pm_Mem} {B0 : Nat → Prop} {J : (Nat → Option Nat) → Heap → Prop}
set_option maxRecDepth 100000 in
theorem zl_ca (hK : zKK ST) {X : Nat → List pm_V → List pm_V → pm_Mem → Prop} {s i : Int} {T : Int} (hT : zTJ φ μ) (hi : 0 ≤ i ∧ i ≤ 9) (K : ∀ x : Int, x = T → (0 ≤ x ∧ x ≤ 10 * i + 10) → zW D Wm ST b0 l Sg zM107 bud X 53 [(2, 41), (0, s), (0, x), (0, i), (9, 0)] [] μ) (hbd : 0 ≤ bud.1 ∧ 0 ≤ bud.2.1) : ∀ (n : Nat) {z j : Int}, (μ 41 1 - j).toNat = n → ∀ (hj : i + 1 ≤ j ∧ j ≤ μ 41 1) (hb : 0 ≤ z ∧ z ≤ 10 * i + j) (hz : z + zS (zgP (μ 42) s i) (μ 41 1 - j).toNat j = T), zW D Wm ST b0 l Sg zM107 bud X 17 [(2, 41), (0, s), (0, z), (0, i), (0, j)] [] μ := by
  intro n
  induction n using Nat.strongRecOn with
  | ind n ih =>
    intro z j hn hj hb hz
    have fc := zT_get hT zs41_1 (i := 1) (by omega) (by omega)
    have f1 := zT_get hT zs41_1 (i := 1) (by omega) (by omega)
    refine pm_blk hK zmm107 [] 3 23 [(2, 41), (0, s), (0, z), (0, i), (0, j)] [(0, μ 41 1), (0, j)] μ [] rfl trivial ?_
    refine pm_icmp hK zmm107 .ge 30 53 rfl rfl (fun h0 => ?_) (fun h0 => ?_)
    · have h0 : μ 41 1 ≤ j := h0
      refine pm_hide [4] ?_
      have e := zS_e (h := zgP (μ 42) s i) (a := j) (n := μ 41 1) (by omega)
      exact K z (by omega) ⟨by omega, by omega⟩
    · have h0 : j < μ 41 1 := h0
      have f2 := zT_get hT zs42_0 (i := i) (by omega) (by omega)
      have f3 := zT_get hT zs42_0 (i := j) (by omega) (by omega)
      refine pm_blk hK zmm107 [] 10 41 [(2, 41), (0, s), (0, z), (0, i), (0, j)] [(0, s), (0, (μ 42 i) + (μ 42 j))] μ [0 ≤ i ∧ i < 10, 0 ≤ j ∧ j < 10, pm_in ((μ 42 i) + (μ 42 j))] rfl ⟨⟨by omega, by omega⟩, ⟨by omega, by omega⟩, pm_in_mk (by omega) (by omega), trivial⟩ ?_
      refine pm_icmp hK zmm107 .ne 6 47 rfl rfl (fun h1 => ?_) (fun h1 => ?_)
      · have h1 : (μ 42 i) + (μ 42 j) ≠ s := h1
        refine pm_blk hK zmm107 [] 2 17 [(2, 41), (0, s), (0, z), (0, i), (0, j + 1)] [] μ [pm_in (j + 1)] rfl ⟨pm_in_mk (by omega) (by omega), trivial⟩ ?_
        have e := zS_u (h := zgP (μ 42) s i) (a := j) (n := μ 41 1) (by omega)
        first
        | (have e2 : (zgP (μ 42) s i) j = 1 := if_pos h1; exact ih _ (by omega) rfl ⟨by omega, by omega⟩ ⟨by omega, by omega⟩ (by omega))
        | (have e2 : (zgP (μ 42) s i) j = 0 := if_neg h1; exact ih _ (by omega) rfl ⟨by omega, by omega⟩ ⟨by omega, by omega⟩ (by omega))
      · have h1 : (μ 42 i) + (μ 42 j) = s := h1
        refine pm_blk hK zmm107 [] 3 17 [(2, 41), (0, s), (0, z + 1), (0, i), (0, j + 1)] [] μ [pm_in (z + 1), pm_in (j + 1)] rfl ⟨pm_in_mk (by omega) (by omega), pm_in_mk (by omega) (by omega), trivial⟩ ?_
        have e := zS_u (h := zgP (μ 42) s i) (a := j) (n := μ 41 1) (by omega)
        first
        | (have e2 : (zgP (μ 42) s i) j = 1 := if_pos h1; exact ih _ (by omega) rfl ⟨by omega, by omega⟩ ⟨by omega, by omega⟩ (by omega))
        | (have e2 : (zgP (μ 42) s i) j = 0 := if_neg h1; exact ih _ (by omega) rfl ⟨by omega, by omega⟩ ⟨by omega, by omega⟩ (by omega))
set_option maxRecDepth 100000 in
theorem zl_cb (hK : zKK ST)  {s T : Int} (hT : zTJ φ μ) (hbd : 0 ≤ bud.1 ∧ 0 ≤ bud.2.1) : ∀ (n : Nat) {z i : Int}, (μ 41 1 - i).toNat = n → ∀ (hi : 0 ≤ i ∧ i ≤ μ 41 1) (hb : 0 ≤ z ∧ z ≤ 10 * i) (hz : z + zS (fun i => zS (fun j => zgP (μ 42) s i j) ((μ 41 1).toNat - (i.toNat + 1)) (i + 1)) (μ 41 1 - i).toNat i = T), zW D Wm ST b0 l Sg zM107 bud (pm_X zM107 (fun st' μ' => μ = μ' ∧ st' = [(0, T)])) 4 [(2, 41), (0, s), (0, z), (0, i), (9, 0)] [] μ := by
  intro n
  induction n using Nat.strongRecOn with
  | ind n ih =>
    intro z i hn hi hb hz
    have fc := zT_get hT zs41_1 (i := 1) (by omega) (by omega)
    have f1 := zT_get hT zs41_1 (i := 1) (by omega) (by omega)
    refine pm_blk hK zmm107 [] 3 9 [(2, 41), (0, s), (0, z), (0, i), (9, 0)] [(0, μ 41 1), (0, i)] μ [] rfl trivial ?_
    refine pm_icmp hK zmm107 .ge 50 59 rfl rfl (fun h0 => ?_) (fun h0 => ?_)
    · have h0 : μ 41 1 ≤ i := h0
      refine pm_blk hK zmm107 [] 1 60 [(2, 41), (0, s), (0, z), (0, i), (9, 0)] [(0, z)] μ [] rfl trivial ?_
      have e := zS_e (h := fun i => zS (fun j => zgP (μ 42) s i j) ((μ 41 1).toNat - (i.toNat + 1)) (i + 1)) (a := i) (n := μ 41 1) (by omega)
      have eT : z = T := by omega
      exact pm_iret rfl rfl ⟨rfl, by rw [eT]⟩
    · have h0 : i < μ 41 1 := h0
      refine pm_blk hK zmm107 [] 4 17 [(2, 41), (0, s), (0, z), (0, i), (0, i + 1)] [] μ [pm_in (i + 1)] rfl ⟨pm_in_mk (by omega) (by omega), trivial⟩ ?_
      have e := zS_u (h := fun i => zS (fun j => zgP (μ 42) s i j) ((μ 41 1).toNat - (i.toNat + 1)) (i + 1)) (a := i) (n := μ 41 1) (by omega)
      have e3 : (μ 41 1).toNat - (i.toNat + 1) = (μ 41 1 - (i + 1)).toNat := by omega
      rw [e3] at e
      refine zl_ca hK hT ⟨by omega, by omega⟩ (T := z + zS (fun j => zgP (μ 42) s i j) (μ 41 1 - (i + 1)).toNat (i + 1)) (fun x hx hxb => ?_) hbd _ rfl ⟨Int.le_refl _, by omega⟩ ⟨by omega, by omega⟩ rfl
      refine pm_blk hK zmm107 [] 2 4 [(2, 41), (0, s), (0, x), (0, i + 1), (9, 0)] [] μ [pm_in (i + 1)] rfl ⟨pm_in_mk (by omega) (by omega), trivial⟩ ?_
      exact ih _ (by omega) rfl ⟨by omega, by omega⟩ ⟨by omega, by omega⟩ (by rw [hx]; omega)
set_option maxRecDepth 100000 in
theorem zh_couples (hK : zKK ST) {s : Int} (hT : zTJ φ μ) (hbd : 0 ≤ bud.1 ∧ 0 ≤ bud.2.1) : zC D Wm ST b0 l Sg zM107 bud [(2, 41), (0, s)] μ (fun st' μ' => μ = μ' ∧ st' = [(0, zcA (μ 42) s (μ 41 1).toNat)]) := by
  have fc := zT_get hT zs41_1 (i := 1) (by omega) (by omega)
  refine pm_blk hK zmm107 [] 4 4 [(2, 41), (0, s), (0, 0), (0, 0), (9, 0)] [] μ [] rfl trivial ?_
  exact zl_cb hK hT hbd _ rfl ⟨Int.le_refl _, by omega⟩ ⟨by omega, by omega⟩ (by rw [Int.sub_zero, Int.zero_add]; rfl)
set_option maxRecDepth 100000 in
theorem zl_ta (hK : zKK ST) {X : Nat → List pm_V → List pm_V → pm_Mem → Prop} {u i : Int} {T : Int} (hT : zTJ φ μ) (hu : 0 ≤ u ∧ u ≤ 9) (hi : 0 ≤ i ∧ i ≤ 9) (K : ∀ x : Int, x = T → (0 ≤ x ∧ x ≤ 100 * u + 10 * i + 10) → zW D Wm ST b0 l Sg zM106 bud X 68 [(2, 41), (0, x), (0, u), (0, i), (9, 0)] [] μ) (hbd : 0 ≤ bud.1 ∧ 0 ≤ bud.2.1) : ∀ (n : Nat) {z j : Int}, (μ 41 1 - j).toNat = n → ∀ (hj : i + 1 ≤ j ∧ j ≤ μ 41 1) (hb : 0 ≤ z ∧ z ≤ 100 * u + 10 * i + j) (hz : z + zS (zgP (μ 42) (μ 42 u) i) (μ 41 1 - j).toNat j = T), zW D Wm ST b0 l Sg zM106 bud X 27 [(2, 41), (0, z), (0, u), (0, i), (0, j)] [] μ := by
  intro n
  induction n using Nat.strongRecOn with
  | ind n ih =>
    intro z j hn hj hb hz
    have fc := zT_get hT zs41_1 (i := 1) (by omega) (by omega)
    have f1 := zT_get hT zs41_1 (i := 1) (by omega) (by omega)
    refine pm_blk hK zmm106 [] 3 33 [(2, 41), (0, z), (0, u), (0, i), (0, j)] [(0, μ 41 1), (0, j)] μ [] rfl trivial ?_
    refine pm_icmp hK zmm106 .ge 35 68 rfl rfl (fun h0 => ?_) (fun h0 => ?_)
    · have h0 : μ 41 1 ≤ j := h0
      refine pm_hide [4] ?_
      have e := zS_e (h := zgP (μ 42) (μ 42 u) i) (a := j) (n := μ 41 1) (by omega)
      exact K z (by omega) ⟨by omega, by omega⟩
    · have h0 : j < μ 41 1 := h0
      have f2 := zT_get hT zs42_0 (i := i) (by omega) (by omega)
      have f3 := zT_get hT zs42_0 (i := j) (by omega) (by omega)
      have f4 := zT_get hT zs42_0 (i := u) (by omega) (by omega)
      refine pm_blk hK zmm106 [] 13 56 [(2, 41), (0, z), (0, u), (0, i), (0, j)] [(0, μ 42 u), (0, (μ 42 i) + (μ 42 j))] μ [0 ≤ i ∧ i < 10, 0 ≤ j ∧ j < 10, pm_in ((μ 42 i) + (μ 42 j)), 0 ≤ u ∧ u < 10] rfl ⟨⟨by omega, by omega⟩, ⟨by omega, by omega⟩, pm_in_mk (by omega) (by omega), ⟨by omega, by omega⟩, trivial⟩ ?_
      refine pm_icmp hK zmm106 .ne 6 62 rfl rfl (fun h1 => ?_) (fun h1 => ?_)
      · have h1 : (μ 42 i) + (μ 42 j) ≠ μ 42 u := h1
        refine pm_blk hK zmm106 [] 2 27 [(2, 41), (0, z), (0, u), (0, i), (0, j + 1)] [] μ [pm_in (j + 1)] rfl ⟨pm_in_mk (by omega) (by omega), trivial⟩ ?_
        have e := zS_u (h := zgP (μ 42) (μ 42 u) i) (a := j) (n := μ 41 1) (by omega)
        first
        | (have e2 : (zgP (μ 42) (μ 42 u) i) j = 1 := if_pos h1; exact ih _ (by omega) rfl ⟨by omega, by omega⟩ ⟨by omega, by omega⟩ (by omega))
        | (have e2 : (zgP (μ 42) (μ 42 u) i) j = 0 := if_neg h1; exact ih _ (by omega) rfl ⟨by omega, by omega⟩ ⟨by omega, by omega⟩ (by omega))
      · have h1 : (μ 42 i) + (μ 42 j) = μ 42 u := h1
        refine pm_blk hK zmm106 [] 3 27 [(2, 41), (0, z + 1), (0, u), (0, i), (0, j + 1)] [] μ [pm_in (z + 1), pm_in (j + 1)] rfl ⟨pm_in_mk (by omega) (by omega), pm_in_mk (by omega) (by omega), trivial⟩ ?_
        have e := zS_u (h := zgP (μ 42) (μ 42 u) i) (a := j) (n := μ 41 1) (by omega)
        first
        | (have e2 : (zgP (μ 42) (μ 42 u) i) j = 1 := if_pos h1; exact ih _ (by omega) rfl ⟨by omega, by omega⟩ ⟨by omega, by omega⟩ (by omega))
        | (have e2 : (zgP (μ 42) (μ 42 u) i) j = 0 := if_neg h1; exact ih _ (by omega) rfl ⟨by omega, by omega⟩ ⟨by omega, by omega⟩ (by omega))
set_option maxRecDepth 100000 in
theorem zl_tb (hK : zKK ST) {X : Nat → List pm_V → List pm_V → pm_Mem → Prop} {u T : Int} (hT : zTJ φ μ) (hu : 0 ≤ u ∧ u ≤ 9) (hu2 : u < μ 41 1) (K : ∀ x : Int, x = T → (0 ≤ x ∧ x ≤ 100 * u + 100) → zW D Wm ST b0 l Sg zM106 bud X 74 [(2, 41), (0, x), (0, u), (9, 0), (9, 0)] [] μ) (hbd : 0 ≤ bud.1 ∧ 0 ≤ bud.2.1) : ∀ (n : Nat) {z i : Int}, (μ 41 1 - i).toNat = n → ∀ (hi : 0 ≤ i ∧ i ≤ μ 41 1) (hb : 0 ≤ z ∧ z ≤ 100 * u + 10 * i) (hz : z + zS (fun i => zS (fun j => zgP (μ 42) (μ 42 u) i j) ((μ 41 1).toNat - (i.toNat + 1)) (i + 1)) (μ 41 1 - i).toNat i = T), zW D Wm ST b0 l Sg zM106 bud X 14 [(2, 41), (0, z), (0, u), (0, i), (9, 0)] [] μ := by
  intro n
  induction n using Nat.strongRecOn with
  | ind n ih =>
    intro z i hn hi hb hz
    have fc := zT_get hT zs41_1 (i := 1) (by omega) (by omega)
    have f1 := zT_get hT zs41_1 (i := 1) (by omega) (by omega)
    refine pm_blk hK zmm106 [] 3 19 [(2, 41), (0, z), (0, u), (0, i), (9, 0)] [(0, μ 41 1), (0, i)] μ [] rfl trivial ?_
    refine pm_icmp hK zmm106 .ge 55 74 rfl rfl (fun h0 => ?_) (fun h0 => ?_)
    · have h0 : μ 41 1 ≤ i := h0
      refine pm_hide [3] ?_
      have e := zS_e (h := fun i => zS (fun j => zgP (μ 42) (μ 42 u) i j) ((μ 41 1).toNat - (i.toNat + 1)) (i + 1)) (a := i) (n := μ 41 1) (by omega)
      exact K z (by omega) ⟨by omega, by omega⟩
    · have h0 : i < μ 41 1 := h0
      refine pm_blk hK zmm106 [] 4 27 [(2, 41), (0, z), (0, u), (0, i), (0, i + 1)] [] μ [pm_in (i + 1)] rfl ⟨pm_in_mk (by omega) (by omega), trivial⟩ ?_
      have e := zS_u (h := fun i => zS (fun j => zgP (μ 42) (μ 42 u) i j) ((μ 41 1).toNat - (i.toNat + 1)) (i + 1)) (a := i) (n := μ 41 1) (by omega)
      have e3 : (μ 41 1).toNat - (i.toNat + 1) = (μ 41 1 - (i + 1)).toNat := by omega
      rw [e3] at e
      refine zl_ta hK hT hu ⟨by omega, by omega⟩ (T := z + zS (fun j => zgP (μ 42) (μ 42 u) i j) (μ 41 1 - (i + 1)).toNat (i + 1)) (fun x hx hxb => ?_) hbd _ rfl ⟨Int.le_refl _, by omega⟩ ⟨by omega, by omega⟩ rfl
      refine pm_blk hK zmm106 [] 2 14 [(2, 41), (0, x), (0, u), (0, i + 1), (9, 0)] [] μ [pm_in (i + 1)] rfl ⟨pm_in_mk (by omega) (by omega), trivial⟩ ?_
      exact ih _ (by omega) rfl ⟨by omega, by omega⟩ ⟨by omega, by omega⟩ (by rw [hx]; omega)
set_option maxRecDepth 100000 in
theorem zl_tc (hK : zKK ST)  {T : Int} (hT : zTJ φ μ) (hbd : 0 ≤ bud.1 ∧ 0 ≤ bud.2.1) : ∀ (n : Nat) {z u : Int}, (μ 41 1 - u).toNat = n → ∀ (hu : 0 ≤ u ∧ u ≤ μ 41 1) (hb : 0 ≤ z ∧ z ≤ 100 * u) (hz : z + zS (fun s => zcA (μ 42) (μ 42 s) (μ 41 1).toNat) (μ 41 1 - u).toNat u = T), zW D Wm ST b0 l Sg zM106 bud (pm_X zM106 (fun st' μ' => μ = μ' ∧ st' = [(0, T)])) 4 [(2, 41), (0, z), (0, u), (9, 0), (9, 0)] [] μ := by
  intro n
  induction n using Nat.strongRecOn with
  | ind n ih =>
    intro z u hn hu hb hz
    have fc := zT_get hT zs41_1 (i := 1) (by omega) (by omega)
    have f1 := zT_get hT zs41_1 (i := 1) (by omega) (by omega)
    refine pm_blk hK zmm106 [] 3 9 [(2, 41), (0, z), (0, u), (9, 0), (9, 0)] [(0, μ 41 1), (0, u)] μ [] rfl trivial ?_
    refine pm_icmp hK zmm106 .ge 71 80 rfl rfl (fun h0 => ?_) (fun h0 => ?_)
    · have h0 : μ 41 1 ≤ u := h0
      refine pm_blk hK zmm106 [] 1 81 [(2, 41), (0, z), (0, u), (9, 0), (9, 0)] [(0, z)] μ [] rfl trivial ?_
      have e := zS_e (h := fun s => zcA (μ 42) (μ 42 s) (μ 41 1).toNat) (a := u) (n := μ 41 1) (by omega)
      have eT : z = T := by omega
      exact pm_iret rfl rfl ⟨rfl, by rw [eT]⟩
    · have h0 : u < μ 41 1 := h0
      refine pm_blk hK zmm106 [] 2 14 [(2, 41), (0, z), (0, u), (0, 0), (9, 0)] [] μ [] rfl trivial ?_
      have e := zS_u (h := fun s => zcA (μ 42) (μ 42 s) (μ 41 1).toNat) (a := u) (n := μ 41 1) (by omega)
      refine zl_tb hK hT ⟨by omega, by omega⟩ (by omega) (T := z + zcA (μ 42) (μ 42 u) (μ 41 1).toNat) (fun x hx hxb => ?_) hbd _ rfl ⟨Int.le_refl _, by omega⟩ ⟨by omega, by omega⟩ (by rw [Int.sub_zero]; rfl)
      refine pm_blk hK zmm106 [] 2 4 [(2, 41), (0, x), (0, u + 1), (9, 0), (9, 0)] [] μ [pm_in (u + 1)] rfl ⟨pm_in_mk (by omega) (by omega), trivial⟩ ?_
      exact ih _ (by omega) rfl ⟨by omega, by omega⟩ ⟨by omega, by omega⟩ (by rw [hx]; omega)
set_option maxRecDepth 100000 in
theorem zh_threes (hK : zKK ST) (hT : zTJ φ μ) (hbd : 0 ≤ bud.1 ∧ 0 ≤ bud.2.1) : zC D Wm ST b0 l Sg zM106 bud [(2, 41)] μ (fun st' μ' => μ = μ' ∧ st' = [(0, ztA (μ 42) (μ 41 1).toNat)]) := by
  have fc := zT_get hT zs41_1 (i := 1) (by omega) (by omega)
  refine pm_blk hK zmm106 [] 4 4 [(2, 41), (0, 0), (0, 0), (9, 0), (9, 0)] [] μ [] rfl trivial ?_
  exact zl_tc hK hT hbd _ rfl ⟨Int.le_refl _, by omega⟩ ⟨by omega, by omega⟩ (by rw [Int.sub_zero, Int.zero_add]; rfl)
set_option maxRecDepth 100000 in
theorem zh_sumsx (hK : zKK ST) {s : Int} (hT : zTJ φ μ) (hbd : 1 ≤ bud.1 ∧ 30 ≤ bud.2.1) : zC D Wm ST b0 l Sg zM105 bud [(2, 1), (0, s)] μ (fun st' μ' => zTJ φ μ' ∧ st' = [(0, zuA (μ 41 1).toNat (μ 42) s)]) := by
  refine pm_blk hK zmm105 [] 2 2 [(2, 1), (0, s)] [(0, (-1)), (0, s)] μ [] rfl trivial ?_
  refine pm_icmp hK zmm105 .ne 14 16 rfl rfl (fun h0 => ?_) (fun h0 => ?_)
  · have h0 : s ≠ ((-1) : Int) := h0
    refine pm_blk hK zmm105 [] 3 21 [(2, 1), (0, s)] [(0, 198), (0, 0), (0, s)] μ [] rfl trivial ?_
    refine pm_call hK zmm105 (94, 1, 16, 3) zM16 (0, 0) [(0, s), (0, 0), (0, 198)] [] rfl rfl rfl rfl ⟨by omega, by rw [zn16]; omega⟩ (zh_within hK ⟨Nat.le_refl _, Nat.le_refl _⟩) (fun st1 μc1 hp1 => ?_)
    obtain ⟨rfl, rfl⟩ := hp1
    refine pm_if hK zmm105 .eq 17 41 rfl rfl (fun h1 => ?_) (fun h1 => ?_)
    · have h1 : (if 0 ≤ s ∧ s ≤ 198 then 1 else 0 : Int) = (0 : Int) := h1
      have h1 := zif0 h1
      refine pm_blk hK zmm105 [] 1 42 [(2, 1), (0, s)] [(0, (-1))] μ [] rfl trivial ?_
      first
      | (have zo : zuA (μ 41 1).toNat (μ 42) s = ((-1)) := if_pos (by assumption); exact pm_iret rfl rfl ⟨hT, by rw [zo]⟩)
      | (have zo : zuA (μ 41 1).toNat (μ 42) s = ((-1)) := (by unfold zuA; rw [if_neg (by assumption), if_pos (by assumption)]); exact pm_iret rfl rfl ⟨hT, by rw [zo]⟩)
      | (have zo : zuA (μ 41 1).toNat (μ 42) s = ((-1)) := (by unfold zuA; rw [if_neg (by assumption), if_neg (by assumption)]); exact pm_iret rfl rfl ⟨hT, by rw [zo]⟩)
    · have h1 : (if 0 ≤ s ∧ s ≤ 198 then 1 else 0 : Int) ≠ (0 : Int) := h1
      have h1 := zif1 h1
      refine pm_blk hK zmm105 [] 4 35 [(2, 1), (0, s)] [(0, s), (2, 41)] μ [] rfl trivial ?_
      refine pm_call hK zmm105 (380, 1, 107, 2) zM107 (0, 0) [(2, 41), (0, s)] [] rfl rfl rfl rfl ⟨by omega, by rw [zn107]; omega⟩ (zh_couples hK (s := s) hT ⟨Nat.le_refl _, Nat.le_refl _⟩) (fun st2 μc2 hp2 => ?_)
      obtain ⟨rfl, rfl⟩ := hp2
      refine pm_blk hK zmm105 [] 1 42 [(2, 1), (0, s)] [(0, zcA (μ 42) s (μ 41 1).toNat)] μ [] rfl trivial ?_
      first
      | (have zo : zuA (μ 41 1).toNat (μ 42) s = (zcA (μ 42) s (μ 41 1).toNat) := if_pos (by assumption); exact pm_iret rfl rfl ⟨hT, by rw [zo]⟩)
      | (have zo : zuA (μ 41 1).toNat (μ 42) s = (zcA (μ 42) s (μ 41 1).toNat) := (by unfold zuA; rw [if_neg (by assumption), if_pos (by assumption)]); exact pm_iret rfl rfl ⟨hT, by rw [zo]⟩)
      | (have zo : zuA (μ 41 1).toNat (μ 42) s = (zcA (μ 42) s (μ 41 1).toNat) := (by unfold zuA; rw [if_neg (by assumption), if_neg (by assumption)]); exact pm_iret rfl rfl ⟨hT, by rw [zo]⟩)
  · have h0 : s = ((-1) : Int) := h0
    refine pm_blk hK zmm105 [] 3 12 [(2, 1), (0, s)] [(2, 41)] μ [] rfl trivial ?_
    refine pm_call hK zmm105 (377, 1, 106, 1) zM106 (0, 0) [(2, 41)] [] rfl rfl rfl rfl ⟨by omega, by rw [zn106]; omega⟩ (zh_threes hK hT ⟨Nat.le_refl _, Nat.le_refl _⟩) (fun st3 μc3 hp3 => ?_)
    obtain ⟨rfl, rfl⟩ := hp3
    first
    | (have zo : zuA (μ 41 1).toNat (μ 42) s = (ztA (μ 42) (μ 41 1).toNat) := if_pos (by assumption); exact pm_iret rfl rfl ⟨hT, by rw [zo]⟩)
    | (have zo : zuA (μ 41 1).toNat (μ 42) s = (ztA (μ 42) (μ 41 1).toNat) := (by unfold zuA; rw [if_neg (by assumption), if_pos (by assumption)]); exact pm_iret rfl rfl ⟨hT, by rw [zo]⟩)
    | (have zo : zuA (μ 41 1).toNat (μ 42) s = (ztA (μ 42) (μ 41 1).toNat) := (by unfold zuA; rw [if_neg (by assumption), if_neg (by assumption)]); exact pm_iret rfl rfl ⟨hT, by rw [zo]⟩)
set_option maxRecDepth 100000 in
theorem zl_sa (hK : zKK ST) {X : Nat → List pm_V → List pm_V → pm_Mem → Prop} {s i : Int} {T : Int} (hT : zTJ φ μ) (hi : 0 ≤ i ∧ i ≤ 9) (hi2 : i < μ 205 63) (K : ∀ x : Int, x = T → (0 ≤ x ∧ x ≤ 10 * i + 10) → zW D Wm ST b0 l Sg zM194 bud X 78 [(2, 205), (0, s), (0, x), (0, i), (9, 0)] [] μ) (hbd : 0 ≤ bud.1 ∧ 0 ≤ bud.2.1) : ∀ (n : Nat) {z j : Int}, (i - j).toNat = n → ∀ (hj : 0 ≤ j ∧ j ≤ i) (hb : 0 ≤ z ∧ z ≤ 10 * i + j) (hz : z + zS (zgP (μ 241) s i) (i - j).toNat j = T), zW D Wm ST b0 l Sg zM194 bud X 44 [(2, 205), (0, s), (0, z), (0, i), (0, j)] [] μ := by
  intro n
  induction n using Nat.strongRecOn with
  | ind n ih =>
    intro z j hn hj hb hz
    have fc := zT_get hT zs205_63 (i := 63) (by omega) (by omega)
    refine pm_blk hK zmm194 [] 2 47 [(2, 205), (0, s), (0, z), (0, i), (0, j)] [(0, i), (0, j)] μ [] rfl trivial ?_
    refine pm_icmp hK zmm194 .ge 31 78 rfl rfl (fun h0 => ?_) (fun h0 => ?_)
    · have h0 : i ≤ j := h0
      refine pm_hide [4] ?_
      have e := zS_e (h := zgP (μ 241) s i) (a := j) (n := i) (by omega)
      exact K z (by omega) ⟨by omega, by omega⟩
    · have h0 : j < i := h0
      have f1 := zT_get hT zs241_0 (i := i) (by omega) (by omega)
      have f2 := zT_get hT zs241_0 (i := j) (by omega) (by omega)
      refine pm_blk hK zmm194 [] 10 65 [(2, 205), (0, s), (0, z), (0, i), (0, j)] [(0, s), (0, (μ 241 i) + (μ 241 j))] μ [0 ≤ i ∧ i < 10, 0 ≤ j ∧ j < 10, pm_in ((μ 241 i) + (μ 241 j))] rfl ⟨⟨by omega, by omega⟩, ⟨by omega, by omega⟩, pm_in_mk (by omega) (by omega), trivial⟩ ?_
      refine pm_icmp hK zmm194 .ne 7 72 rfl rfl (fun h1 => ?_) (fun h1 => ?_)
      · have h1 : (μ 241 i) + (μ 241 j) ≠ s := h1
        refine pm_blk hK zmm194 [] 2 44 [(2, 205), (0, s), (0, z), (0, i), (0, j + 1)] [] μ [pm_in (j + 1)] rfl ⟨pm_in_mk (by omega) (by omega), trivial⟩ ?_
        have e := zS_u (h := zgP (μ 241) s i) (a := j) (n := i) (by omega)
        first
        | (have e2 : (zgP (μ 241) s i) j = 1 := if_pos h1; exact ih _ (by omega) rfl ⟨by omega, by omega⟩ ⟨by omega, by omega⟩ (by omega))
        | (have e2 : (zgP (μ 241) s i) j = 0 := if_neg h1; exact ih _ (by omega) rfl ⟨by omega, by omega⟩ ⟨by omega, by omega⟩ (by omega))
      · have h1 : (μ 241 i) + (μ 241 j) = s := h1
        refine pm_blk hK zmm194 [] 6 44 [(2, 205), (0, s), (0, z + 1), (0, i), (0, j + 1)] [] μ [pm_in (z + 1), pm_in (j + 1)] rfl ⟨pm_in_mk (by omega) (by omega), pm_in_mk (by omega) (by omega), trivial⟩ ?_
        have e := zS_u (h := zgP (μ 241) s i) (a := j) (n := i) (by omega)
        first
        | (have e2 : (zgP (μ 241) s i) j = 1 := if_pos h1; exact ih _ (by omega) rfl ⟨by omega, by omega⟩ ⟨by omega, by omega⟩ (by omega))
        | (have e2 : (zgP (μ 241) s i) j = 0 := if_neg h1; exact ih _ (by omega) rfl ⟨by omega, by omega⟩ ⟨by omega, by omega⟩ (by omega))
set_option maxRecDepth 100000 in
theorem zl_sb (hK : zKK ST)  {s T : Int} (hT : zTJ φ μ) (hbd : 1 ≤ bud.1 ∧ 30 ≤ bud.2.1) : ∀ (n : Nat) {z i : Int}, (μ 205 63 - i).toNat = n → ∀ (hi : 0 ≤ i ∧ i ≤ μ 205 63) (hb : 0 ≤ z ∧ z ≤ 10 * i) (hz : z + zS (fun a => zS (fun b => zgP (μ 241) s a b) a.toNat 0) (μ 205 63 - i).toNat i = T), zW D Wm ST b0 l Sg zM194 bud (pm_X zM194 (fun st' μ' => zTJ φ μ' ∧ st' = [(0, T)])) 33 [(2, 205), (0, s), (0, z), (0, i), (9, 0)] [] μ := by
  intro n
  induction n using Nat.strongRecOn with
  | ind n ih =>
    intro z i hn hi hb hz
    have fc := zT_get hT zs205_63 (i := 63) (by omega) (by omega)
    have f1 := zT_get hT zs205_63 (i := 63) (by omega) (by omega)
    refine pm_blk hK zmm194 [] 3 38 [(2, 205), (0, s), (0, z), (0, i), (9, 0)] [(0, μ 205 63), (0, i)] μ [] rfl trivial ?_
    refine pm_icmp hK zmm194 .ge 46 84 rfl rfl (fun h0 => ?_) (fun h0 => ?_)
    · have h0 : μ 205 63 ≤ i := h0
      refine pm_blk hK zmm194 [] 1 85 [(2, 205), (0, s), (0, z), (0, i), (9, 0)] [(0, z)] μ [] rfl trivial ?_
      have e := zS_e (h := fun a => zS (fun b => zgP (μ 241) s a b) a.toNat 0) (a := i) (n := μ 205 63) (by omega)
      have eT : z = T := by omega
      exact pm_iret rfl rfl ⟨hT, by rw [eT]⟩
    · have h0 : i < μ 205 63 := h0
      refine pm_blk hK zmm194 [] 2 44 [(2, 205), (0, s), (0, z), (0, i), (0, 0)] [] μ [] rfl trivial ?_
      have e := zS_u (h := fun a => zS (fun b => zgP (μ 241) s a b) a.toNat 0) (a := i) (n := μ 205 63) (by omega)
      refine zl_sa hK hT ⟨by omega, by omega⟩ (by omega) (T := z + zS (fun b => zgP (μ 241) s i b) i.toNat 0) (fun x hx hxb => ?_) ⟨by omega, by omega⟩ _ rfl ⟨Int.le_refl _, by omega⟩ ⟨by omega, by omega⟩ (by rw [Int.sub_zero])
      refine pm_blk hK zmm194 [] 2 33 [(2, 205), (0, s), (0, x), (0, i + 1), (9, 0)] [] μ [pm_in (i + 1)] rfl ⟨pm_in_mk (by omega) (by omega), trivial⟩ ?_
      exact ih _ (by omega) rfl ⟨by omega, by omega⟩ ⟨by omega, by omega⟩ (by rw [hx]; omega)
set_option maxRecDepth 100000 in
theorem zl_oa (hK : zKK ST) {X : Nat → List pm_V → List pm_V → pm_Mem → Prop} {a i : Int} {T : Int} (hT : zTJ φ μ) (ha : 0 ≤ a ∧ a ≤ 9) (hi : 0 ≤ i ∧ i ≤ 9) (K : ∀ x : Int, x = T → (0 ≤ x ∧ x ≤ 100 * a + 10 * i + 10) → zW D Wm ST b0 l Sg zM195 bud X 107 [(2, 205), (0, x), (0, a), (0, i), (9, 0)] [] μ) (hbd : 0 ≤ bud.1 ∧ 0 ≤ bud.2.1) : ∀ (n : Nat) {z j : Int}, (i - j).toNat = n → ∀ (hj : 0 ≤ j ∧ j ≤ i) (hb : 0 ≤ z ∧ z ≤ 100 * a + 10 * i + j) (hz : z + zS (zh3 (μ 241) a i) (i - j).toNat j = T), zW D Wm ST b0 l Sg zM195 bud X 22 [(2, 205), (0, z), (0, a), (0, i), (0, j)] [] μ := by
  intro n
  induction n using Nat.strongRecOn with
  | ind n ih =>
    intro z j hn hj hb hz
    have fc := zT_get hT zs205_63 (i := 63) (by omega) (by omega)
    refine pm_blk hK zmm195 [] 2 25 [(2, 205), (0, z), (0, a), (0, i), (0, j)] [(0, i), (0, j)] μ [] rfl trivial ?_
    refine pm_icmp hK zmm195 .ge 82 107 rfl rfl (fun h0 => ?_) (fun h0 => ?_)
    · have h0 : i ≤ j := h0
      refine pm_hide [4] ?_
      have e := zS_e (h := zh3 (μ 241) a i) (a := j) (n := i) (by omega)
      exact K z (by omega) ⟨by omega, by omega⟩
    · have h0 : j < i := h0
      have f1 := zT_get hT zs241_0 (i := a) (by omega) (by omega)
      have f2 := zT_get hT zs241_0 (i := i) (by omega) (by omega)
      have f3 := zT_get hT zs241_0 (i := j) (by omega) (by omega)
      refine pm_blk hK zmm195 [] 13 48 [(2, 205), (0, z), (0, a), (0, i), (0, j)] [(0, μ 241 j), (0, (μ 241 a) + (μ 241 i))] μ [0 ≤ a ∧ a < 10, 0 ≤ i ∧ i < 10, pm_in ((μ 241 a) + (μ 241 i)), 0 ≤ j ∧ j < 10] rfl ⟨⟨by omega, by omega⟩, ⟨by omega, by omega⟩, pm_in_mk (by omega) (by omega), ⟨by omega, by omega⟩, trivial⟩ ?_
      refine pm_icmp hK zmm195 .eq 49 97 rfl rfl (fun h1 => ?_) (fun h1 => ?_)
      · have h1 : (μ 241 a) + (μ 241 i) = μ 241 j := h1
        refine pm_blk hK zmm195 [] 6 22 [(2, 205), (0, z + 1), (0, a), (0, i), (0, j + 1)] [] μ [pm_in (z + 1), pm_in (j + 1)] rfl ⟨pm_in_mk (by omega) (by omega), pm_in_mk (by omega) (by omega), trivial⟩ ?_
        have e := zS_u (h := zh3 (μ 241) a i) (a := j) (n := i) (by omega)
        first
        | (have e2 : (zh3 (μ 241) a i) j = 1 := if_pos (by omega); exact ih _ (by omega) rfl ⟨by omega, by omega⟩ ⟨by omega, by omega⟩ (by omega))
        | (have e2 : (zh3 (μ 241) a i) j = 0 := if_neg (by omega); exact ih _ (by omega) rfl ⟨by omega, by omega⟩ ⟨by omega, by omega⟩ (by omega))
      · have h1 : (μ 241 a) + (μ 241 i) ≠ μ 241 j := h1
        refine pm_blk hK zmm195 [] 13 71 [(2, 205), (0, z), (0, a), (0, i), (0, j)] [(0, μ 241 i), (0, (μ 241 a) + (μ 241 j))] μ [0 ≤ a ∧ a < 10, 0 ≤ j ∧ j < 10, pm_in ((μ 241 a) + (μ 241 j)), 0 ≤ i ∧ i < 10] rfl ⟨⟨by omega, by omega⟩, ⟨by omega, by omega⟩, pm_in_mk (by omega) (by omega), ⟨by omega, by omega⟩, trivial⟩ ?_
        refine pm_icmp hK zmm195 .eq 26 97 rfl rfl (fun h2 => ?_) (fun h2 => ?_)
        · have h2 : (μ 241 a) + (μ 241 j) = μ 241 i := h2
          refine pm_blk hK zmm195 [] 6 22 [(2, 205), (0, z + 1), (0, a), (0, i), (0, j + 1)] [] μ [pm_in (z + 1), pm_in (j + 1)] rfl ⟨pm_in_mk (by omega) (by omega), pm_in_mk (by omega) (by omega), trivial⟩ ?_
          have e := zS_u (h := zh3 (μ 241) a i) (a := j) (n := i) (by omega)
          first
          | (have e2 : (zh3 (μ 241) a i) j = 1 := if_pos (by omega); exact ih _ (by omega) rfl ⟨by omega, by omega⟩ ⟨by omega, by omega⟩ (by omega))
          | (have e2 : (zh3 (μ 241) a i) j = 0 := if_neg (by omega); exact ih _ (by omega) rfl ⟨by omega, by omega⟩ ⟨by omega, by omega⟩ (by omega))
        · have h2 : (μ 241 a) + (μ 241 j) ≠ μ 241 i := h2
          refine pm_blk hK zmm195 [] 13 94 [(2, 205), (0, z), (0, a), (0, i), (0, j)] [(0, μ 241 a), (0, (μ 241 i) + (μ 241 j))] μ [0 ≤ i ∧ i < 10, 0 ≤ j ∧ j < 10, pm_in ((μ 241 i) + (μ 241 j)), 0 ≤ a ∧ a < 10] rfl ⟨⟨by omega, by omega⟩, ⟨by omega, by omega⟩, pm_in_mk (by omega) (by omega), ⟨by omega, by omega⟩, trivial⟩ ?_
          refine pm_icmp hK zmm195 .ne 7 101 rfl rfl (fun h3 => ?_) (fun h3 => ?_)
          · have h3 : (μ 241 i) + (μ 241 j) ≠ μ 241 a := h3
            refine pm_blk hK zmm195 [] 2 22 [(2, 205), (0, z), (0, a), (0, i), (0, j + 1)] [] μ [pm_in (j + 1)] rfl ⟨pm_in_mk (by omega) (by omega), trivial⟩ ?_
            have e := zS_u (h := zh3 (μ 241) a i) (a := j) (n := i) (by omega)
            first
            | (have e2 : (zh3 (μ 241) a i) j = 1 := if_pos (by omega); exact ih _ (by omega) rfl ⟨by omega, by omega⟩ ⟨by omega, by omega⟩ (by omega))
            | (have e2 : (zh3 (μ 241) a i) j = 0 := if_neg (by omega); exact ih _ (by omega) rfl ⟨by omega, by omega⟩ ⟨by omega, by omega⟩ (by omega))
          · have h3 : (μ 241 i) + (μ 241 j) = μ 241 a := h3
            refine pm_blk hK zmm195 [] 6 22 [(2, 205), (0, z + 1), (0, a), (0, i), (0, j + 1)] [] μ [pm_in (z + 1), pm_in (j + 1)] rfl ⟨pm_in_mk (by omega) (by omega), pm_in_mk (by omega) (by omega), trivial⟩ ?_
            have e := zS_u (h := zh3 (μ 241) a i) (a := j) (n := i) (by omega)
            first
            | (have e2 : (zh3 (μ 241) a i) j = 1 := if_pos (by omega); exact ih _ (by omega) rfl ⟨by omega, by omega⟩ ⟨by omega, by omega⟩ (by omega))
            | (have e2 : (zh3 (μ 241) a i) j = 0 := if_neg (by omega); exact ih _ (by omega) rfl ⟨by omega, by omega⟩ ⟨by omega, by omega⟩ (by omega))
set_option maxRecDepth 100000 in
theorem zl_ob (hK : zKK ST) {X : Nat → List pm_V → List pm_V → pm_Mem → Prop} {a T : Int} (hT : zTJ φ μ) (ha : 0 ≤ a ∧ a ≤ 9) (K : ∀ x : Int, x = T → (0 ≤ x ∧ x ≤ 100 * a + 100) → zW D Wm ST b0 l Sg zM195 bud X 113 [(2, 205), (0, x), (0, a), (9, 0), (9, 0)] [] μ) (hbd : 0 ≤ bud.1 ∧ 0 ≤ bud.2.1) : ∀ (n : Nat) {z i : Int}, (a - i).toNat = n → ∀ (hi : 0 ≤ i ∧ i ≤ a) (hb : 0 ≤ z ∧ z ≤ 100 * a + 10 * i) (hz : z + zS (fun b => zS (fun c => zh3 (μ 241) a b c) b.toNat 0) (a - i).toNat i = T), zW D Wm ST b0 l Sg zM195 bud X 14 [(2, 205), (0, z), (0, a), (0, i), (9, 0)] [] μ := by
  intro n
  induction n using Nat.strongRecOn with
  | ind n ih =>
    intro z i hn hi hb hz
    have fc := zT_get hT zs205_63 (i := 63) (by omega) (by omega)
    refine pm_blk hK zmm195 [] 2 16 [(2, 205), (0, z), (0, a), (0, i), (9, 0)] [(0, a), (0, i)] μ [] rfl trivial ?_
    refine pm_icmp hK zmm195 .ge 97 113 rfl rfl (fun h0 => ?_) (fun h0 => ?_)
    · have h0 : a ≤ i := h0
      refine pm_hide [3] ?_
      have e := zS_e (h := fun b => zS (fun c => zh3 (μ 241) a b c) b.toNat 0) (a := i) (n := a) (by omega)
      exact K z (by omega) ⟨by omega, by omega⟩
    · have h0 : i < a := h0
      refine pm_blk hK zmm195 [] 2 22 [(2, 205), (0, z), (0, a), (0, i), (0, 0)] [] μ [] rfl trivial ?_
      have e := zS_u (h := fun b => zS (fun c => zh3 (μ 241) a b c) b.toNat 0) (a := i) (n := a) (by omega)
      refine zl_oa hK hT ha ⟨by omega, by omega⟩ (T := z + zS (fun c => zh3 (μ 241) a i c) i.toNat 0) (fun x hx hxb => ?_) hbd _ rfl ⟨Int.le_refl _, by omega⟩ ⟨by omega, by omega⟩ (by rw [Int.sub_zero])
      refine pm_blk hK zmm195 [] 2 14 [(2, 205), (0, x), (0, a), (0, i + 1), (9, 0)] [] μ [pm_in (i + 1)] rfl ⟨pm_in_mk (by omega) (by omega), trivial⟩ ?_
      exact ih _ (by omega) rfl ⟨by omega, by omega⟩ ⟨by omega, by omega⟩ (by rw [hx]; omega)
set_option maxRecDepth 100000 in
theorem zl_oc (hK : zKK ST)  {T : Int} (hT : zTJ φ μ) (hbd : 0 ≤ bud.1 ∧ 0 ≤ bud.2.1) : ∀ (n : Nat) {z a : Int}, (μ 205 63 - a).toNat = n → ∀ (ha : 0 ≤ a ∧ a ≤ μ 205 63) (hb : 0 ≤ z ∧ z ≤ 100 * a) (hz : z + zS (fun a => zS (fun b => zS (fun c => zh3 (μ 241) a b c) b.toNat 0) a.toNat 0) (μ 205 63 - a).toNat a = T), zW D Wm ST b0 l Sg zM195 bud (pm_X zM195 (fun st' μ' => μ = μ' ∧ st' = [(0, T)])) 4 [(2, 205), (0, z), (0, a), (9, 0), (9, 0)] [] μ := by
  intro n
  induction n using Nat.strongRecOn with
  | ind n ih =>
    intro z a hn ha hb hz
    have fc := zT_get hT zs205_63 (i := 63) (by omega) (by omega)
    have f1 := zT_get hT zs205_63 (i := 63) (by omega) (by omega)
    refine pm_blk hK zmm195 [] 3 9 [(2, 205), (0, z), (0, a), (9, 0), (9, 0)] [(0, μ 205 63), (0, a)] μ [] rfl trivial ?_
    refine pm_icmp hK zmm195 .ge 110 119 rfl rfl (fun h0 => ?_) (fun h0 => ?_)
    · have h0 : μ 205 63 ≤ a := h0
      refine pm_blk hK zmm195 [] 1 120 [(2, 205), (0, z), (0, a), (9, 0), (9, 0)] [(0, z)] μ [] rfl trivial ?_
      have e := zS_e (h := fun a => zS (fun b => zS (fun c => zh3 (μ 241) a b c) b.toNat 0) a.toNat 0) (a := a) (n := μ 205 63) (by omega)
      have eT : z = T := by omega
      exact pm_iret rfl rfl ⟨rfl, by rw [eT]⟩
    · have h0 : a < μ 205 63 := h0
      refine pm_blk hK zmm195 [] 2 14 [(2, 205), (0, z), (0, a), (0, 0), (9, 0)] [] μ [] rfl trivial ?_
      have e := zS_u (h := fun a => zS (fun b => zS (fun c => zh3 (μ 241) a b c) b.toNat 0) a.toNat 0) (a := a) (n := μ 205 63) (by omega)
      refine zl_ob hK hT ⟨by omega, by omega⟩ (T := z + zS (fun b => zS (fun c => zh3 (μ 241) a b c) b.toNat 0) a.toNat 0) (fun x hx hxb => ?_) hbd _ rfl ⟨Int.le_refl _, by omega⟩ ⟨by omega, by omega⟩ (by rw [Int.sub_zero])
      refine pm_blk hK zmm195 [] 2 4 [(2, 205), (0, x), (0, a + 1), (9, 0), (9, 0)] [] μ [pm_in (a + 1)] rfl ⟨pm_in_mk (by omega) (by omega), trivial⟩ ?_
      exact ih _ (by omega) rfl ⟨by omega, by omega⟩ ⟨by omega, by omega⟩ (by rw [hx]; omega)
set_option maxRecDepth 100000 in
theorem zh_threesOf (hK : zKK ST) (hT : zTJ φ μ) (hbd : 0 ≤ bud.1 ∧ 0 ≤ bud.2.1) : zC D Wm ST b0 l Sg zM195 bud [(2, 205)] μ (fun st' μ' => μ = μ' ∧ st' = [(0, ztB (μ 241) (μ 205 63).toNat)]) := by
  have fc := zT_get hT zs205_63 (i := 63) (by omega) (by omega)
  refine pm_blk hK zmm195 [] 4 4 [(2, 205), (0, 0), (0, 0), (9, 0), (9, 0)] [] μ [] rfl trivial ?_
  exact zl_oc hK hT hbd _ rfl ⟨Int.le_refl _, by omega⟩ ⟨by omega, by omega⟩ (by rw [Int.sub_zero, Int.zero_add]; rfl)
set_option maxRecDepth 100000 in
theorem zh_sumsm (hK : zKK ST) {s : Int} (hT : zTJ φ μ) (hb205 : sx_bit Wm 205 = true) (hbd : 1 ≤ bud.1 ∧ 30 ≤ bud.2.1) : zC D Wm ST b0 l Sg zM194 bud [(2, 205), (0, s)] μ (fun st' μ' => zTJ φ μ' ∧ st' = [(0, zuB (μ 205 63).toNat (μ 241) s)]) := by
  have f0 := zT_get hT zs205_63 (i := 63) (by omega) (by omega)
  refine pm_blk hK zmm194 [] 3 5 [(2, 205), (0, s), (9, 0), (9, 0), (9, 0)] [] (pm_up μ 205 0 0) [sx_bit Wm 205 = true] rfl ⟨hb205, trivial⟩ ?_
  obtain ⟨μ1, eμ1⟩ : ∃ μ', μ' = pm_up μ 205 0 0 := ⟨_, rfl⟩
  rw [← eμ1]
  have hTμ1 : zTJ φ μ1 := by rw [eμ1]; exact zT_up hT zs205_0 rfl (i := 0) (by omega) (by omega) (by omega) (by omega)
  have b3 : μ1 205 63 = μ 205 63 := by rw [eμ1, pm_up_ne (by decide)]
  have b4 : μ1 241 = μ 241 := by rw [eμ1, pm_up_row (by decide)]
  refine pm_blk hK zmm194 [] 2 7 [(2, 205), (0, s), (9, 0), (9, 0), (9, 0)] [(0, (-1)), (0, s)] μ1 [] rfl trivial ?_
  refine pm_icmp hK zmm194 .ne 8 15 rfl rfl (fun h0 => ?_) (fun h0 => ?_)
  · have h0 : s ≠ ((-1) : Int) := h0
    refine pm_blk hK zmm194 [] 4 21 [(2, 205), (0, s), (9, 0), (9, 0), (9, 0)] [(0, 198), (0, 0), (0, s), (2, 205)] μ1 [] rfl trivial ?_
    refine pm_call hK zmm194 (158, 0, 129, 3) zM129 (0, 0) [(2, 205), (0, s), (0, 0), (0, 198)] [] rfl rfl rfl rfl ⟨by omega, by rw [zn129]; omega⟩ (zh_isIn hK ⟨by omega, by omega⟩) (fun st1 μc1 hp1 => ?_)
    obtain ⟨rfl, rfl⟩ := hp1
    refine pm_if hK zmm194 .ne 5 29 rfl rfl (fun h1 => ?_) (fun h1 => ?_)
    · have h1 : (if 0 ≤ s ∧ s ≤ 198 then 1 else 0 : Int) ≠ (0 : Int) := h1
      have h1 := zif1 h1
      refine pm_blk hK zmm194 [] 4 33 [(2, 205), (0, s), (0, 0), (0, 0), (9, 0)] [] μ1 [] rfl trivial ?_
      have hV : zcB (μ 241) s (μ 205 63).toNat = zuB (μ 205 63).toNat (μ 241) s := by
        unfold zuB
        rw [if_neg (by assumption), if_pos (by assumption)]
      rw [← hV]
      exact zl_sb hK hTμ1 ⟨by omega, by omega⟩ _ rfl ⟨Int.le_refl _, by omega⟩ ⟨by omega, by omega⟩ (by rw [b3, b4, Int.sub_zero, Int.zero_add]; rfl)
    · have h1 : (if 0 ≤ s ∧ s ≤ 198 then 1 else 0 : Int) = (0 : Int) := h1
      have h1 := zif0 h1
      refine pm_blk hK zmm194 [] 1 28 [(2, 205), (0, s), (9, 0), (9, 0), (9, 0)] [(0, (-1))] μ1 [] rfl trivial ?_
      rw [← b3, ← b4]
      first
      | (have zo : zuB (μ1 205 63).toNat (μ1 241) s = ((-1)) := if_pos (by assumption); exact pm_iret rfl rfl ⟨hTμ1, by rw [zo]⟩)
      | (have zo : zuB (μ1 205 63).toNat (μ1 241) s = ((-1)) := (by unfold zuB; rw [if_neg (by assumption), if_pos (by assumption)]); exact pm_iret rfl rfl ⟨hTμ1, by rw [zo]⟩)
      | (have zo : zuB (μ1 205 63).toNat (μ1 241) s = ((-1)) := (by unfold zuB; rw [if_neg (by assumption), if_neg (by assumption)]); exact pm_iret rfl rfl ⟨hTμ1, by rw [zo]⟩)
  · have h0 : s = ((-1) : Int) := h0
    refine pm_blk hK zmm194 [] 1 11 [(2, 205), (0, s), (9, 0), (9, 0), (9, 0)] [(2, 205)] μ1 [] rfl trivial ?_
    refine pm_call hK zmm194 (498, 0, 195, 0) zM195 (0, 0) [(2, 205)] [] rfl rfl rfl rfl ⟨by omega, by rw [zn195]; omega⟩ (zh_threesOf hK hTμ1 ⟨Nat.le_refl _, Nat.le_refl _⟩) (fun st2 μc2 hp2 => ?_)
    obtain ⟨rfl, rfl⟩ := hp2
    rw [← b3, ← b4]
    first
    | (have zo : zuB (μ1 205 63).toNat (μ1 241) s = (ztB (μ1 241) (μ1 205 63).toNat) := if_pos (by assumption); exact pm_iret rfl rfl ⟨hTμ1, by rw [zo]⟩)
    | (have zo : zuB (μ1 205 63).toNat (μ1 241) s = (ztB (μ1 241) (μ1 205 63).toNat) := (by unfold zuB; rw [if_neg (by assumption), if_pos (by assumption)]); exact pm_iret rfl rfl ⟨hTμ1, by rw [zo]⟩)
    | (have zo : zuB (μ1 205 63).toNat (μ1 241) s = (ztB (μ1 241) (μ1 205 63).toNat) := (by unfold zuB; rw [if_neg (by assumption), if_neg (by assumption)]); exact pm_iret rfl rfl ⟨hTμ1, by rw [zo]⟩)
end ZHW
