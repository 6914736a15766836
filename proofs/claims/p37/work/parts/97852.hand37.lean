/-! shutters lifted, both sides; walks printed by program (wip/p30/pmgen.py) and filled by hand -/
variable {φ : Option pm_Mem}
section ZHW
variable {D : va_G} {Wm : Nat} {ST : List (String × String × String × Nat)} {b0 : sx_B} {l : Launch} {Sg : Nat → Option Nat} {bud : sx_Bu} {μ : pm_Mem} {B0 : Nat → Prop} {J : (Nat → Option Nat) → Heap → Prop}
set_option maxRecDepth 100000 in
theorem zh_abs (hK : zKK ST) {a : Int} (ha : -1000 ≤ a ∧ a ≤ 1000) (hbd : 0 ≤ bud.1 ∧ 0 ≤ bud.2.1) : zC D Wm ST b0 l Sg zM268 bud [(0, a)] μ (fun st' μ' => μ = μ' ∧ st' = [(0, zab a)]) := by
  refine pm_blk hK zmm268 [] 1 1 [(0, a)] [(0, a)] μ [] rfl trivial ?_
  refine pm_if hK zmm268 .ge 8 9 rfl rfl (fun h0 => ?_) (fun h0 => ?_)
  · have h0 : (0 : Int) ≤ a := h0
    refine pm_blk hK zmm268 [] 1 10 [(0, a)] [(0, a)] μ [] rfl trivial ?_
    first
    | (have e : zab a = a := if_pos (by omega); exact pm_iret rfl rfl ⟨rfl, by rw [e]⟩)
    | (have e : zab a = a := if_neg (by omega); exact pm_iret rfl rfl ⟨rfl, by rw [e]⟩)
  · have h0 : a < (0 : Int) := h0
    refine pm_blk hK zmm268 [] 3 10 [(0, a)] [(0, -a)] μ [pm_in (-a)] rfl ⟨pm_in_mk (by omega) (by omega), trivial⟩ ?_
    first
    | (have e : zab a = (-a) := if_pos (by omega); exact pm_iret rfl rfl ⟨rfl, by rw [e]⟩)
    | (have e : zab a = (-a) := if_neg (by omega); exact pm_iret rfl rfl ⟨rfl, by rw [e]⟩)
set_option maxRecDepth 100000 in
theorem zh_apart (hK : zKK ST) {a b : Int} (ha : 0 ≤ a ∧ a ≤ 8) (hb : 0 ≤ b ∧ b ≤ 8) (hbd : 0 ≤ bud.1 ∧ 0 ≤ bud.2.1) : zC D Wm ST b0 l Sg zM323 bud [(2, 205), (0, a), (0, b)] μ (fun st' μ' => μ = μ' ∧ st' = [(0, zab (b - a))]) := by
  refine pm_blk hK zmm323 [] 2 2 [(2, 205), (0, a), (0, b)] [(0, b), (0, a)] μ [] rfl trivial ?_
  refine pm_icmp hK zmm323 .le 9 11 rfl rfl (fun h0 => ?_) (fun h0 => ?_)
  · have h0 : a ≤ b := h0
    refine pm_blk hK zmm323 [] 3 14 [(2, 205), (0, a), (0, b)] [(0, b - a)] μ [pm_in (b - a)] rfl ⟨pm_in_mk (by omega) (by omega), trivial⟩ ?_
    have e := zab_ap (o := a) (k := b)
    first
    | (rw [if_pos (by omega)] at e; exact pm_iret rfl rfl ⟨rfl, by rw [← e]⟩)
    | (rw [if_neg (by omega)] at e; exact pm_iret rfl rfl ⟨rfl, by rw [← e]⟩)
  · have h0 : b < a := h0
    refine pm_blk hK zmm323 [] 4 14 [(2, 205), (0, a), (0, b)] [(0, a - b)] μ [pm_in (a - b)] rfl ⟨pm_in_mk (by omega) (by omega), trivial⟩ ?_
    have e := zab_ap (o := a) (k := b)
    first
    | (rw [if_pos (by omega)] at e; exact pm_iret rfl rfl ⟨rfl, by rw [← e]⟩)
    | (rw [if_neg (by omega)] at e; exact pm_iret rfl rfl ⟨rfl, by rw [← e]⟩)
set_option maxRecDepth 100000 in
theorem zl_li (hK : zKK ST) {X : Nat → List pm_V → List pm_V → pm_Mem → Prop} {s i T : Int} (hT : zTJ φ μ) (hi : 0 ≤ i ∧ i ≤ 7) (K : zW D Wm ST b0 l Sg zM114 bud X 59 [(2, 43), (0, s), (0, i), (0, T), (9, 0)] [] μ) (hbd : 1 ≤ bud.1 ∧ 30 ≤ bud.2.1) : ∀ (n : Nat) {h j : Int}, (μ 43 1 - j).toNat = n → ∀ (hj : 0 ≤ j ∧ j ≤ μ 43 1) (hh : 0 ≤ h ∧ h ≤ 99) (hz : zfM (μ 44) i (μ 43 1 - j).toNat j h = T), zW D Wm ST b0 l Sg zM114 bud X 22 [(2, 43), (0, s), (0, i), (0, h), (0, j)] [] μ := by
  intro n
  induction n using Nat.strongRecOn with
  | ind n ih =>
    intro h j hn hj hh hz
    have f1 := zT_get hT zs43_1 (i := 1) (by omega) (by omega)
    refine pm_blk hK zmm114 [] 3 28 [(2, 43), (0, s), (0, i), (0, h), (0, j)] [(0, μ 43 1), (0, j)] μ [] rfl trivial ?_
    refine pm_icmp hK zmm114 .ge 31 59 rfl rfl (fun h0 => ?_) (fun h0 => ?_)
    · have h0 : μ 43 1 ≤ j := h0
      refine pm_hide [4] ?_
      have hz2 : h = T := (zfM_end (by omega)).symm.trans hz
      rw [hz2]
      exact K
    · have h0 : j < μ 43 1 := h0
      have f2 := zT_get hT zs44_0 (i := j) (by omega) (by omega)
      refine pm_blk hK zmm114 [] 9 44 [(2, 43), (0, s), (0, i), (0, h), (0, j)] [(0, i - j), (0, 5), (0, μ 44 j), (0, h)] μ [0 ≤ j ∧ j < 8, pm_in (i - j)] rfl ⟨⟨by omega, by omega⟩, pm_in_mk (by omega) (by omega), trivial⟩ ?_
      refine pm_call hK zmm114 (50, 1, 268, 1) zM268 (0, 0) [(0, i - j)] [(0, 5), (0, μ 44 j), (0, h)] rfl rfl rfl rfl ⟨by omega, by rw [zn268]; omega⟩ (zh_abs hK (a := (i - j)) ⟨by omega, by omega⟩ ⟨Nat.le_refl _, Nat.le_refl _⟩) (fun st1 μc1 hp1 => ?_)
      obtain ⟨rfl, rfl⟩ := hp1
      have zb := zab_bd (d := (i - j)) ⟨by omega, by omega⟩
      refine pm_blk hK zmm114 [] 2 49 [(2, 43), (0, s), (0, i), (0, h), (0, j)] [(0, (μ 44 j) - (5 * (zab (i - j)))), (0, h)] μ [pm_in (5 * (zab (i - j))), pm_in ((μ 44 j) - (5 * (zab (i - j))))] rfl ⟨pm_in_mk (by omega) (by omega), pm_in_mk (by omega) (by omega), trivial⟩ ?_
      refine pm_call hK zmm114 (37, 1, 34, 2) zM34 (0, 0) [(0, h), (0, (μ 44 j) - (5 * (zab (i - j))))] [] rfl rfl rfl rfl ⟨by omega, by rw [zn34]; omega⟩ (zh_max hK ⟨Nat.le_refl _, Nat.le_refl _⟩) (fun st2 μc2 hp2 => ?_)
      obtain ⟨rfl, rfl⟩ := hp2
      refine pm_blk hK zmm114 [] 3 22 [(2, 43), (0, s), (0, i), (0, max h ((μ 44 j) - (5 * (zab (i - j))))), (0, j + 1)] [] μ [pm_in (j + 1)] rfl ⟨pm_in_mk (by omega) (by omega), trivial⟩ ?_
      exact ih _ (by omega) rfl ⟨by omega, by omega⟩ ⟨by omega, by omega⟩ (zfM_s (by omega) hz)
set_option maxRecDepth 100000 in
theorem zl_lo (hK : zKK ST)  {T : Int} (hT : zTJ φ μ) (hbd : 1 ≤ bud.1 ∧ 30 ≤ bud.2.1) : ∀ (n : Nat) {s i : Int}, (μ 43 1 - i).toNat = n → ∀ (hi : 0 ≤ i ∧ i ≤ μ 43 1) (hs : 0 ≤ s ∧ s ≤ 99 * i) (hz : zfS (μ 44) (μ 43 1) (μ 43 1 - i).toNat i s = T), zW D Wm ST b0 l Sg zM114 bud (pm_X zM114 (fun st' μ' => μ = μ' ∧ st' = [(0, T)])) 4 [(2, 43), (0, s), (0, i), (9, 0), (9, 0)] [] μ := by
  intro n
  induction n using Nat.strongRecOn with
  | ind n ih =>
    intro s i hn hi hs hz
    have f1 := zT_get hT zs43_1 (i := 1) (by omega) (by omega)
    refine pm_blk hK zmm114 [] 3 9 [(2, 43), (0, s), (0, i), (9, 0), (9, 0)] [(0, μ 43 1), (0, i)] μ [] rfl trivial ?_
    refine pm_icmp hK zmm114 .ge 67 76 rfl rfl (fun h0 => ?_) (fun h0 => ?_)
    · have h0 : μ 43 1 ≤ i := h0
      refine pm_blk hK zmm114 [] 1 77 [(2, 43), (0, s), (0, i), (9, 0), (9, 0)] [(0, s)] μ [] rfl trivial ?_
      have eT : s = T := (zfS_end (by omega)).symm.trans hz
      exact pm_iret rfl rfl ⟨rfl, by rw [eT]⟩
    · have h0 : i < μ 43 1 := h0
      have f2 := zT_get hT zs44_0 (i := i) (by omega) (by omega)
      refine pm_blk hK zmm114 [] 7 22 [(2, 43), (0, s), (0, i), (0, μ 44 i), (0, 0)] [] μ [0 ≤ i ∧ i < 8] rfl ⟨⟨by omega, by omega⟩, trivial⟩ ?_
      have fc := zT_get hT zs43_1 (i := 1) (by omega) (by omega)
      have hbd2 : ∀ z : Int, 0 ≤ z → z < μ 43 1 → 0 ≤ μ 44 z ∧ μ 44 z ≤ 99 := fun z z0 z1 => zT_get hT zs44_0 (i := z) (by omega) (by omega)
      have hM := zfM_bd hbd2 (i := i) (k := (μ 43 1).toNat) (j := 0) (h := 0) (Int.le_refl 0) (by omega) ⟨by omega, by omega⟩ ⟨by omega, by omega⟩ (by omega)
      have hg := zfM_i (f := μ 44) (i := i) (k := (μ 43 1).toNat) (j := 0) (h := 0) hi.1 (by omega)
      refine zl_li hK hT ⟨by omega, by omega⟩ ?_ hbd _ (T := zfM (μ 44) i (μ 43 1).toNat 0 0) rfl ⟨Int.le_refl _, by omega⟩ (hbd2 i hi.1 (by omega)) (by rw [Int.sub_zero]; exact zfM_own hi.1 (by omega) (hbd2 i hi.1 (by omega)).1)
      obtain ⟨h, eh⟩ : ∃ h, h = zfM (μ 44) i (μ 43 1).toNat 0 0 := ⟨_, rfl⟩
      rw [← eh] at hM hg ⊢
      have f1 := zT_get hT zs44_0 (i := i) (by omega) (by omega)
      refine pm_blk hK zmm114 [] 11 4 [(2, 43), (0, s + (h - (μ 44 i))), (0, i + 1), (0, h), (9, 0)] [] μ [0 ≤ i ∧ i < 8, pm_in (h - (μ 44 i)), pm_in (s + (h - (μ 44 i))), pm_in (i + 1)] rfl ⟨⟨by omega, by omega⟩, pm_in_mk (by omega) (by omega), pm_in_mk (by omega) (by omega), pm_in_mk (by omega) (by omega), trivial⟩ ?_
      refine pm_hide [3] ?_
      exact ih _ (by omega) rfl ⟨by omega, by omega⟩ ⟨by omega, by omega⟩ (zfS_s (by omega) hz eh.symm)
set_option maxRecDepth 100000 in
theorem zh_lifts (hK : zKK ST) (hT : zTJ φ μ) (hbd : 1 ≤ bud.1 ∧ 30 ≤ bud.2.1) : zC D Wm ST b0 l Sg zM114 bud [(2, 43)] μ (fun st' μ' => μ = μ' ∧ st' = [(0, zfZ (μ 43 1) (μ 44))]) := by
  have f0 := zT_get hT zs43_1 (i := 1) (by omega) (by omega)
  refine pm_blk hK zmm114 [] 4 4 [(2, 43), (0, 0), (0, 0), (9, 0), (9, 0)] [] μ [] rfl trivial ?_
  exact zl_lo hK hT hbd _ rfl ⟨Int.le_refl _, by omega⟩ ⟨by omega, by omega⟩ (by rw [Int.sub_zero]; rfl)
set_option maxRecDepth 100000 in
theorem zh_liftedx (hK : zKK ST) (hT : zTJ φ μ) (hbd : 2 ≤ bud.1 ∧ 60 ≤ bud.2.1) : zC D Wm ST b0 l Sg zM113 bud [(2, 1)] μ (fun st' μ' => zTJ φ μ' ∧ st' = [(0, zfZ (μ 43 1) (μ 44))]) := by
  refine pm_blk hK zmm113 [] 3 7 [(2, 1)] [(2, 43)] μ [] rfl trivial ?_
  refine pm_call hK zmm113 (397, 1, 114, 1) zM114 (1, 30) [(2, 43)] [] rfl rfl rfl rfl ⟨by omega, by rw [zn114]; omega⟩ (zh_lifts hK hT ⟨Nat.le_refl _, Nat.le_refl _⟩) (fun st1 μc1 hp1 => ?_)
  obtain ⟨rfl, rfl⟩ := hp1
  exact pm_iret rfl rfl ⟨hT, rfl⟩
set_option maxRecDepth 100000 in
theorem zl_lj (hK : zKK ST) {X : Nat → List pm_V → List pm_V → pm_Mem → Prop} {s i T : Int} (hT : zTJ φ μ) (hi : 0 ≤ i ∧ i ≤ 7) (K : zW D Wm ST b0 l Sg zM201 bud X 60 [(2, 205), (0, s), (0, i), (0, T), (9, 0)] [] μ) (hbd : 1 ≤ bud.1 ∧ 30 ≤ bud.2.1) : ∀ (n : Nat) {h j : Int}, (μ 205 67 - j).toNat = n → ∀ (hj : 0 ≤ j ∧ j ≤ μ 205 67) (hh : 0 ≤ h ∧ h ≤ 99) (hz : zfM (μ 244) i (μ 205 67 - j).toNat j h = T), zW D Wm ST b0 l Sg zM201 bud X 22 [(2, 205), (0, s), (0, i), (0, h), (0, j)] [] μ := by
  intro n
  induction n using Nat.strongRecOn with
  | ind n ih =>
    intro h j hn hj hh hz
    have f1 := zT_get hT zs205_67 (i := 67) (by omega) (by omega)
    refine pm_blk hK zmm201 [] 3 28 [(2, 205), (0, s), (0, i), (0, h), (0, j)] [(0, μ 205 67), (0, j)] μ [] rfl trivial ?_
    refine pm_icmp hK zmm201 .ge 32 60 rfl rfl (fun h0 => ?_) (fun h0 => ?_)
    · have h0 : μ 205 67 ≤ j := h0
      refine pm_hide [4] ?_
      have hz2 : h = T := (zfM_end (by omega)).symm.trans hz
      rw [hz2]
      exact K
    · have h0 : j < μ 205 67 := h0
      have f2 := zT_get hT zs244_0 (i := j) (by omega) (by omega)
      refine pm_blk hK zmm201 [] 10 45 [(2, 205), (0, s), (0, i), (0, h), (0, j)] [(0, i), (0, j), (2, 205), (0, 5), (0, μ 244 j), (0, h), (2, 205)] μ [0 ≤ j ∧ j < 8] rfl ⟨⟨by omega, by omega⟩, trivial⟩ ?_
      refine pm_call hK zmm201 (513, 0, 323, 2) zM323 (0, 0) [(2, 205), (0, j), (0, i)] [(0, 5), (0, μ 244 j), (0, h), (2, 205)] rfl rfl rfl rfl ⟨by omega, by rw [zn323]; omega⟩ (zh_apart hK (a := j) (b := i) ⟨by omega, by omega⟩ ⟨by omega, by omega⟩ ⟨Nat.le_refl _, Nat.le_refl _⟩) (fun st1 μc1 hp1 => ?_)
      obtain ⟨rfl, rfl⟩ := hp1
      have zb := zab_bd (d := i - j) ⟨by omega, by omega⟩
      refine pm_blk hK zmm201 [] 2 50 [(2, 205), (0, s), (0, i), (0, h), (0, j)] [(0, (μ 244 j) - (5 * (zab (i - j)))), (0, h), (2, 205)] μ [pm_in (5 * (zab (i - j))), pm_in ((μ 244 j) - (5 * (zab (i - j))))] rfl ⟨pm_in_mk (by omega) (by omega), pm_in_mk (by omega) (by omega), trivial⟩ ?_
      refine pm_call hK zmm201 (448, 0, 176, 2) zM176 (0, 0) [(2, 205), (0, h), (0, (μ 244 j) - (5 * (zab (i - j))))] [] rfl rfl rfl rfl ⟨by omega, by rw [zn176]; omega⟩ (zh_greater hK ⟨by omega, by omega⟩) (fun st2 μc2 hp2 => ?_)
      obtain ⟨rfl, rfl⟩ := hp2
      refine pm_blk hK zmm201 [] 3 22 [(2, 205), (0, s), (0, i), (0, max h ((μ 244 j) - (5 * (zab (i - j))))), (0, j + 1)] [] μ [pm_in (j + 1)] rfl ⟨pm_in_mk (by omega) (by omega), trivial⟩ ?_
      exact ih _ (by omega) rfl ⟨by omega, by omega⟩ ⟨by omega, by omega⟩ (zfM_s (by omega) hz)
set_option maxRecDepth 100000 in
theorem zl_lp (hK : zKK ST)  {T : Int} (hT : zTJ φ μ) (hbd : 1 ≤ bud.1 ∧ 30 ≤ bud.2.1) : ∀ (n : Nat) {s i : Int}, (μ 205 67 - i).toNat = n → ∀ (hi : 0 ≤ i ∧ i ≤ μ 205 67) (hs : 0 ≤ s ∧ s ≤ 99 * i) (hz : zfS (μ 244) (μ 205 67) (μ 205 67 - i).toNat i s = T), zW D Wm ST b0 l Sg zM201 bud (pm_X zM201 (fun st' μ' => zTJ φ μ' ∧ st' = [(0, T)])) 9 [(2, 205), (0, s), (0, i), (9, 0), (9, 0)] [] μ := by
  intro n
  induction n using Nat.strongRecOn with
  | ind n ih =>
    intro s i hn hi hs hz
    have f1 := zT_get hT zs205_67 (i := 67) (by omega) (by omega)
    refine pm_blk hK zmm201 [] 3 14 [(2, 205), (0, s), (0, i), (9, 0), (9, 0)] [(0, μ 205 67), (0, i)] μ [] rfl trivial ?_
    refine pm_icmp hK zmm201 .ge 63 77 rfl rfl (fun h0 => ?_) (fun h0 => ?_)
    · have h0 : μ 205 67 ≤ i := h0
      refine pm_blk hK zmm201 [] 1 78 [(2, 205), (0, s), (0, i), (9, 0), (9, 0)] [(0, s)] μ [] rfl trivial ?_
      have eT : s = T := (zfS_end (by omega)).symm.trans hz
      exact pm_iret rfl rfl ⟨hT, by rw [eT]⟩
    · have h0 : i < μ 205 67 := h0
      refine pm_blk hK zmm201 [] 4 22 [(2, 205), (0, s), (0, i), (0, 0), (0, 0)] [] μ [] rfl trivial ?_
      have fc := zT_get hT zs205_67 (i := 67) (by omega) (by omega)
      have hbd2 : ∀ z : Int, 0 ≤ z → z < μ 205 67 → 0 ≤ μ 244 z ∧ μ 244 z ≤ 99 := fun z z0 z1 => zT_get hT zs244_0 (i := z) (by omega) (by omega)
      have hM := zfM_bd hbd2 (i := i) (k := (μ 205 67).toNat) (j := 0) (h := 0) (Int.le_refl 0) (by omega) ⟨by omega, by omega⟩ ⟨by omega, by omega⟩ (by omega)
      have hg := zfM_i (f := μ 244) (i := i) (k := (μ 205 67).toNat) (j := 0) (h := 0) hi.1 (by omega)
      refine zl_lj hK hT ⟨by omega, by omega⟩ ?_ hbd _ (T := zfM (μ 244) i (μ 205 67).toNat 0 0) rfl ⟨Int.le_refl _, by omega⟩ ⟨by omega, by omega⟩ (by rw [Int.sub_zero])
      obtain ⟨h, eh⟩ : ∃ h, h = zfM (μ 244) i (μ 205 67).toNat 0 0 := ⟨_, rfl⟩
      rw [← eh] at hM hg ⊢
      have f1 := zT_get hT zs244_0 (i := i) (by omega) (by omega)
      refine pm_blk hK zmm201 [] 11 9 [(2, 205), (0, (s + h) - (μ 244 i)), (0, i + 1), (0, h), (9, 0)] [] μ [pm_in (s + h), 0 ≤ i ∧ i < 8, pm_in ((s + h) - (μ 244 i)), pm_in (i + 1)] rfl ⟨pm_in_mk (by omega) (by omega), ⟨by omega, by omega⟩, pm_in_mk (by omega) (by omega), pm_in_mk (by omega) (by omega), trivial⟩ ?_
      refine pm_hide [3] ?_
      have e1 := zfS_s (by omega) hz eh.symm
      rw [show s + (h - μ 244 i) = s + h - μ 244 i by omega] at e1
      exact ih _ (by omega) rfl ⟨by omega, by omega⟩ ⟨by omega, by omega⟩ e1
set_option maxRecDepth 100000 in
theorem zh_liftedm (hK : zKK ST) (hT : zTJ φ μ) (hb205 : sx_bit Wm 205 = true) (hbd : 1 ≤ bud.1 ∧ 30 ≤ bud.2.1) : zC D Wm ST b0 l Sg zM201 bud [(2, 205)] μ (fun st' μ' => zTJ φ μ' ∧ st' = [(0, zfZ (μ 205 67) (μ 244))]) := by
  have f0 := zT_get hT zs205_67 (i := 67) (by omega) (by omega)
  refine pm_blk hK zmm201 [] 3 5 [(2, 205), (9, 0), (9, 0), (9, 0), (9, 0)] [] (pm_up μ 205 0 0) [sx_bit Wm 205 = true] rfl ⟨hb205, trivial⟩ ?_
  obtain ⟨μ1, eμ1⟩ : ∃ μ', μ' = pm_up μ 205 0 0 := ⟨_, rfl⟩
  rw [← eμ1]
  have hTμ1 : zTJ φ μ1 := by rw [eμ1]; exact zT_up hT zs205_0 rfl (i := 0) (by omega) (by omega) (by omega) (by omega)
  have b3 : μ1 205 67 = μ 205 67 := by rw [eμ1, pm_up_ne (by decide)]
  have b4 : μ1 244 = μ 244 := by rw [eμ1, pm_up_row (by decide)]
  refine pm_blk hK zmm201 [] 4 9 [(2, 205), (0, 0), (0, 0), (9, 0), (9, 0)] [] μ1 [] rfl trivial ?_
  exact zl_lp hK hTμ1 hbd _ rfl ⟨Int.le_refl _, by omega⟩ ⟨by omega, by omega⟩ (by rw [b3, b4, Int.sub_zero]; rfl)
end ZHW
