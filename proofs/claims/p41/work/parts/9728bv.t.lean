/-! F: the reference keeps, goes back, thinks; walks printed by program (wip/p30/pmgen.py) and filled by hand -/
section ZHW
variable {D : va_G} {Wm : Nat} {ST : List (String × String × String × Nat)} {b0 : sx_B} {l : Launch} {Sg : Nat → Option Nat} {bud : sx_Bu} {μ : pm_Mem} {B0 : Nat → Prop} {J : (Nat → Option Nat) → Heap → Prop}
set_option maxRecDepth 100000 in
theorem fs_ka1 (hK : zKK ST) {X : Nat → List pm_V → List pm_V → pm_Mem → Prop} {μ0 : pm_Mem} {Q : Int → Int} (hb207 : sx_bit Wm 207 = true) (K : ∀ (k : Int) (μ : pm_Mem), μ 205 3 = 5 → zTJ none μ → (∀ i : Int, μ 207 i = if 0 ≤ i ∧ i < 800 then Q (i + 160) else Q i) → (∀ r, r ≠ 207 → μ r = μ0 r) → zW D Wm ST b0 l Sg zM153 bud X 55 [(2, 205), (0, k)] [] μ) (hbd : 0 ≤ bud.1 ∧ 0 ≤ bud.2.1) : ∀ (nM : Nat) {k : Int} {μ : pm_Mem}, (800 - k).toNat = nM → ∀ (hk : 0 ≤ k ∧ k ≤ 800) (hu : μ 205 3 = 5) (hT : zTJ none μ) (h7 : ∀ i : Int, μ 207 i = if 0 ≤ i ∧ i < k then Q (i + 160) else Q i) (hf : (∀ r, r ≠ 207 → μ r = μ0 r)), zW D Wm ST b0 l Sg zM153 bud X 21 [(2, 205), (0, k)] [] μ := by
  intro nM
  induction nM using Nat.strongRecOn with
  | ind nM ih =>
    intro k μ hn hk hu hT h7 hf
    have f1 := zT_get hT zs205_3 (i := 3) (by omega) (by omega)
    refine pm_blk hK zmm153 [] 5 30 [(2, 205), (0, k)] [(0, 160 * (μ 205 3)), (0, k)] μ [pm_in (160 * (μ 205 3))] rfl ⟨pm_in_mk (by omega) (by omega), trivial⟩ ?_
    refine pm_icmp hK zmm153 .ge 25 55 rfl rfl (fun h0 => ?_) (fun h0 => ?_)
    · have h0 : 160 * (μ 205 3) ≤ k := h0
      have ek : k = 800 := by omega
      subst ek
      exact K _ _ hu hT h7 hf
    · have h0 : k < 160 * (μ 205 3) := h0
      refine pm_blk hK zmm153 [] 10 49 [(2, 205), (0, k)] [] (pm_up μ 207 k (μ 207 (k + 160))) [pm_in (k + 160), 0 ≤ k + 160 ∧ k + 160 < 960, sx_bit Wm 207 = true, 0 ≤ k ∧ k < 960] rfl ⟨pm_in_mk (by omega) (by omega), ⟨by omega, by omega⟩, hb207, ⟨by omega, by omega⟩, trivial⟩ ?_
      obtain ⟨μ1, eμ1⟩ : ∃ μ', μ' = pm_up μ 207 k (μ 207 (k + 160)) := ⟨_, rfl⟩
      rw [← eμ1]
      have hTμ1 : zTJ none μ1 := by rw [eμ1]; exact zT_shift hT (by omega) (by omega)
      refine pm_blk hK zmm153 [] 2 21 [(2, 205), (0, k + 1)] [] μ1 [pm_in (k + 1)] rfl ⟨pm_in_mk (by omega) (by omega), trivial⟩ ?_
      exact ih _ (by omega) rfl ⟨by omega, by omega⟩ (by rw [eμ1, pm_up_off (by decide)]; exact hu) hTμ1 (fs_k1 h7 hk.1 eμ1) (fun r hr => by rw [eμ1, pm_up_row hr]; exact hf r hr)
set_option maxRecDepth 100000 in
theorem fs_ka2 (hK : zKK ST)  {μ0 ν : pm_Mem} {Q Q0 N : Int → Int} {w u0 : Int} (hw : 0 ≤ w ∧ w ≤ 5) (hN : μ0 206 = N) (hE : ∀ μ2 : pm_Mem, (∀ i : Int, μ2 207 i = if 160 * w ≤ i ∧ i < 160 * w + 160 then N (i - 160 * w) else Q i) → μ2 207 = fa_kQ Q0 u0 N) (hwu : w + 1 = fa_ku u0) (hν : (∀ k : Int, k ≠ 3 → μ0 205 k = ν 205 k) ∧ ∀ r, r ≠ 205 → r ≠ 207 → μ0 r = ν r) (hb205 : sx_bit Wm 205 = true) (hb207 : sx_bit Wm 207 = true) (hbd : 0 ≤ bud.1 ∧ 0 ≤ bud.2.1) : ∀ (nM : Nat) {k : Int} {μ : pm_Mem}, (160 - k).toNat = nM → ∀ (hk : 0 ≤ k ∧ k ≤ 160) (hu : μ 205 3 = w) (hT : zTJ none μ) (h7 : ∀ i : Int, μ 207 i = if 160 * w ≤ i ∧ i < 160 * w + k then N (i - 160 * w) else Q i) (hf : (∀ r, r ≠ 207 → μ r = μ0 r)), zW D Wm ST b0 l Sg zM153 bud (pm_X zM153 (fun st' μ' => st' = [] ∧ zTJ none μ' ∧ μ' 207 = fa_kQ Q0 u0 N ∧ μ' 205 3 = fa_ku u0 ∧ (∀ k : Int, k ≠ 3 → μ' 205 k = ν 205 k) ∧ ∀ r, r ≠ 205 → r ≠ 207 → μ' r = ν r)) 57 [(2, 205), (0, k)] [] μ := by
  intro nM
  induction nM using Nat.strongRecOn with
  | ind nM ih =>
    intro k μ hn hk hu hT h7 hf
    have g6 : μ 206 = N := (hf 206 (by decide)).trans hN
    refine pm_blk hK zmm153 [] 2 61 [(2, 205), (0, k)] [(0, 160), (0, k)] μ [] rfl trivial ?_
    refine pm_icmp hK zmm153 .ge 30 91 rfl rfl (fun h0 => ?_) (fun h0 => ?_)
    · have h0 : (160 : Int) ≤ k := h0
      have f1 := zT_get hT zs205_3 (i := 3) (by omega) (by omega)
      refine pm_blk hK zmm153 [] 6 101 [(2, 205), (0, k)] [] (pm_up μ 205 3 ((μ 205 3) + 1)) [pm_in ((μ 205 3) + 1), sx_bit Wm 205 = true] rfl ⟨pm_in_mk (by omega) (by omega), hb205, trivial⟩ ?_
      obtain ⟨μ1, eμ1⟩ : ∃ μ', μ' = pm_up μ 205 3 ((μ 205 3) + 1) := ⟨_, rfl⟩
      rw [← eμ1]
      have hTμ1 : zTJ none μ1 := by rw [eμ1]; exact zT_upn hT zs205_3 rfl (i := 3) (by omega) (by omega) (by omega) (by omega)
      have ek : k = 160 := by omega
      subst ek
      exact pm_vret rfl rfl ⟨rfl, hTμ1, hE _ (fun i => by rw [eμ1, pm_up_row (by decide)]; exact h7 i), by rw [eμ1, pm_up_eq]; omega, fun k hk => by rw [eμ1, pm_up_ne hk, hf 205 (by decide)]; exact hν.1 k hk, fun r r1 r2 => by rw [eμ1, pm_up_row r1, hf r r2]; exact hν.2 r r1 r2⟩
    · have h0 : k < (160 : Int) := h0
      have f2 := zT_get hT zs205_3 (i := 3) (by omega) (by omega)
      refine pm_blk hK zmm153 [] 13 85 [(2, 205), (0, k)] [] (pm_up μ 207 ((160 * (μ 205 3)) + k) (μ 206 k)) [pm_in (160 * (μ 205 3)), pm_in ((160 * (μ 205 3)) + k), 0 ≤ k ∧ k < 160, sx_bit Wm 207 = true, 0 ≤ (160 * (μ 205 3)) + k ∧ (160 * (μ 205 3)) + k < 960] rfl ⟨pm_in_mk (by omega) (by omega), pm_in_mk (by omega) (by omega), ⟨by omega, by omega⟩, hb207, ⟨by omega, by omega⟩, trivial⟩ ?_
      obtain ⟨μ2, eμ2⟩ : ∃ μ', μ' = pm_up μ 207 ((160 * (μ 205 3)) + k) (μ 206 k) := ⟨_, rfl⟩
      rw [← eμ2]
      have hTμ2 : zTJ none μ2 := by rw [eμ2]; exact zT_keep hT (by omega) (by omega) (by omega) (by omega)
      refine pm_blk hK zmm153 [] 2 57 [(2, 205), (0, k + 1)] [] μ2 [pm_in (k + 1)] rfl ⟨pm_in_mk (by omega) (by omega), trivial⟩ ?_
      exact ih _ (by omega) rfl ⟨by omega, by omega⟩ (by rw [eμ2, pm_up_off (by decide)]; exact hu) hTμ2 (fs_k2 h7 eμ2 (by omega) (by rw [g6]) hk.1) (fun r hr => by rw [eμ2, pm_up_row hr]; exact hf r hr)
set_option maxRecDepth 100000 in
theorem fs_keep (hK : zKK ST) (hT : zTJ none μ) (hb205 : sx_bit Wm 205 = true) (hb207 : sx_bit Wm 207 = true) (hbd : 0 ≤ bud.1 ∧ 0 ≤ bud.2.1) : zC D Wm ST b0 l Sg zM153 bud [(2, 205)] μ (fun st' μ' => st' = [] ∧ zTJ none μ' ∧ μ' 207 = fa_kQ (μ 207) (μ 205 3) (μ 206) ∧ μ' 205 3 = fa_ku (μ 205 3) ∧ (∀ k : Int, k ≠ 3 → μ' 205 k = μ 205 k) ∧ ∀ r, r ≠ 205 → r ≠ 207 → μ' r = μ r) := by
  have f3 := zT_get hT zs205_3 (i := 3) (by omega) (by omega)
  have f1 := zT_get hT zs205_3 (i := 3) (by omega) (by omega)
  refine pm_blk hK zmm153 [] 3 6 [(2, 205), (9, 0)] [(0, 6), (0, μ 205 3)] μ [] rfl trivial ?_
  refine pm_icmp hK zmm153 .ne 49 55 rfl rfl (fun h0 => ?_) (fun h0 => ?_)
  · have h0 : μ 205 3 ≠ (6 : Int) := h0
    refine pm_blk hK zmm153 [] 2 57 [(2, 205), (0, 0)] [] μ [] rfl trivial ?_
    exact fs_ka2 hK (μ0 := μ) (ν := μ) (Q := μ 207) (Q0 := μ 207) (N := μ 206) (w := μ 205 3) (u0 := μ 205 3) ⟨by omega, by omega⟩ rfl (fun μ2 h2 => fs_kQ (by omega) h2) (fa_ku_n (by omega)).symm ⟨fun _ _ => rfl, fun _ _ _ => rfl⟩ hb205 hb207 hbd _ (k := 0) rfl ⟨by omega, by omega⟩ rfl hT (fun i => by rw [if_neg (by omega)]) (fun _ _ => rfl)
  · have h0 : μ 205 3 = (6 : Int) := h0
    refine pm_blk hK zmm153 [] 6 19 [(2, 205), (9, 0)] [] (pm_up μ 205 3 ((μ 205 3) - 1)) [pm_in ((μ 205 3) - 1), sx_bit Wm 205 = true] rfl ⟨pm_in_mk (by omega) (by omega), hb205, trivial⟩ ?_
    obtain ⟨μ1, eμ1⟩ : ∃ μ', μ' = pm_up μ 205 3 ((μ 205 3) - 1) := ⟨_, rfl⟩
    rw [← eμ1]
    have hTμ1 : zTJ none μ1 := by rw [eμ1]; exact zT_upn hT zs205_3 rfl (i := 3) (by omega) (by omega) (by omega) (by omega)
    refine pm_blk hK zmm153 [] 2 21 [(2, 205), (0, 0)] [] μ1 [] rfl trivial ?_
    have hu : μ1 205 3 = 5 := by rw [eμ1, pm_up_eq]; omega
    have h6 : μ 205 3 = 6 := by omega
    refine fs_ka1 hK (μ0 := μ1) (Q := μ 207) hb207 (fun k1 μ2 hu2 hT2 h72 hf2 => ?_) hbd _ (k := 0) rfl ⟨by omega, by omega⟩ hu hTμ1 (fun i => by rw [if_neg (by omega), eμ1, pm_up_row (by decide)]) (fun _ _ => rfl)
    refine pm_blk hK zmm153 [] 2 57 [(2, 205), (0, 0)] [] μ2 [] rfl trivial ?_
    exact fs_ka2 hK (μ0 := μ2) (ν := μ) (Q := μ2 207) (Q0 := μ 207) (N := μ 206) (w := 5) (u0 := μ 205 3) ⟨by omega, by omega⟩ ((hf2 206 (by decide)).trans (by rw [eμ1, pm_up_row (by decide)])) (fun μ3 h3 => by rw [h6]; exact fs_kQ6 h72 h3) (by rw [fa_ku_6 h6]; rfl) ⟨fun k hk => by rw [hf2 205 (by decide), eμ1, pm_up_ne hk], fun r r1 r2 => by rw [hf2 r r2, eμ1, pm_up_row r1]⟩ hb205 hb207 hbd _ (k := 0) rfl ⟨by omega, by omega⟩ hu2 hT2 (fun i => by rw [if_neg (by omega)]) (fun _ _ => rfl)
set_option maxRecDepth 100000 in
theorem fs_ud (hK : zKK ST)  {μ0 : pm_Mem} {w : Int} (hw : 0 ≤ w ∧ w ≤ 5) (hb206 : sx_bit Wm 206 = true) (hbd : 0 ≤ bud.1 ∧ 0 ≤ bud.2.1) : ∀ (nM : Nat) {k : Int} {μ : pm_Mem}, (160 - k).toNat = nM → ∀ (hk : 0 ≤ k ∧ k ≤ 160) (hu : μ 205 3 = w) (hT : zTJ none μ) (h6 : ∀ i : Int, 0 ≤ i → i < k → μ 206 i = μ0 207 (160 * w + i)) (hf : ∀ r, r ≠ 206 → μ r = μ0 r), zW D Wm ST b0 l Sg zM126 bud (pm_X zM126 (fun st' μ' => st' = [(0, 1)] ∧ zTJ none μ' ∧ (∀ i : Int, 0 ≤ i → i < 160 → μ' 206 i = μ0 207 (160 * w + i)) ∧ ∀ r, r ≠ 206 → μ' r = μ0 r)) 26 [(2, 205), (0, k)] [] μ := by
  intro nM
  induction nM using Nat.strongRecOn with
  | ind nM ih =>
    intro k μ hn hk hu hT h6 hf
    have g7 := hf 207 (by decide)
    refine pm_blk hK zmm126 [] 2 30 [(2, 205), (0, k)] [(0, 160), (0, k)] μ [] rfl trivial ?_
    refine pm_icmp hK zmm126 .ge 30 60 rfl rfl (fun h0 => ?_) (fun h0 => ?_)
    · have h0 : (160 : Int) ≤ k := h0
      refine pm_blk hK zmm126 [] 1 61 [(2, 205), (0, k)] [(0, 1)] μ [] rfl trivial ?_
      have ek : k = 160 := by omega
      subst ek
      exact pm_zret rfl rfl (by first | exact Or.inl rfl | exact Or.inr rfl | omega) ⟨rfl, hT, h6, hf⟩
    · have h0 : k < (160 : Int) := h0
      have f1 := zT_get hT zs205_3 (i := 3) (by omega) (by omega)
      refine pm_blk hK zmm126 [] 13 54 [(2, 205), (0, k)] [] (pm_up μ 206 k (μ 207 ((160 * (μ 205 3)) + k))) [pm_in (160 * (μ 205 3)), pm_in ((160 * (μ 205 3)) + k), 0 ≤ (160 * (μ 205 3)) + k ∧ (160 * (μ 205 3)) + k < 960, sx_bit Wm 206 = true, 0 ≤ k ∧ k < 160] rfl ⟨pm_in_mk (by omega) (by omega), pm_in_mk (by omega) (by omega), ⟨by omega, by omega⟩, hb206, ⟨by omega, by omega⟩, trivial⟩ ?_
      obtain ⟨μ1, eμ1⟩ : ∃ μ', μ' = pm_up μ 206 k (μ 207 ((160 * (μ 205 3)) + k)) := ⟨_, rfl⟩
      rw [← eμ1]
      have hTμ1 : zTJ none μ1 := by rw [eμ1]; exact (by rw [hu]; exact fs_z67 hT (by omega) (by omega) hw.1 (by omega))
      refine pm_blk hK zmm126 [] 2 26 [(2, 205), (0, k + 1)] [] μ1 [pm_in (k + 1)] rfl ⟨pm_in_mk (by omega) (by omega), trivial⟩ ?_
      refine ih _ (by omega) rfl ⟨by omega, by omega⟩ (by rw [eμ1, pm_up_off (by decide)]; exact hu) hTμ1 (fun i i0 i1 => ?_) (fun r hr => by rw [eμ1, pm_up_row hr]; exact hf r hr)
      by_cases hi : i = k
      · rw [hi, eμ1, pm_up_eq, hu, g7]
      · rw [eμ1, pm_up_ne hi]; exact h6 i i0 (by omega)
set_option maxRecDepth 100000 in
theorem fs_undo (hK : zKK ST) (hT : zTJ none μ) (hb205 : sx_bit Wm 205 = true) (hb206 : sx_bit Wm 206 = true) (hbd : 0 ≤ bud.1 ∧ 0 ≤ bud.2.1) : zC D Wm ST b0 l Sg zM126 bud [(2, 205)] μ (fun st' μ' => ∃ x, st' = [(0, x)] ∧ zTJ none μ' ∧ ((μ 205 3 = 0 ∧ x = 0 ∧ (∀ k : Int, k ≠ 0 → μ' 205 k = μ 205 k) ∧ ∀ r, r ≠ 205 → μ' r = μ r) ∨ (μ 205 3 ≠ 0 ∧ x = 1 ∧ (∀ i : Int, 0 ≤ i → i < 160 → μ' 206 i = fa_row (μ 207) (μ 205 3 - 1) i) ∧ μ' 205 3 = μ 205 3 - 1 ∧ (∀ k : Int, k ≠ 0 → k ≠ 3 → μ' 205 k = μ 205 k) ∧ ∀ r, r ≠ 205 → r ≠ 206 → μ' r = μ r))) := by
  have f3 := zT_get hT zs205_3 (i := 3) (by omega) (by omega)
  refine pm_blk hK zmm126 [] 3 5 [(2, 205), (9, 0)] [] (pm_up μ 205 0 0) [sx_bit Wm 205 = true] rfl ⟨hb205, trivial⟩ ?_
  obtain ⟨μ1, eμ1⟩ : ∃ μ', μ' = pm_up μ 205 0 0 := ⟨_, rfl⟩
  rw [← eμ1]
  have hTμ1 : zTJ none μ1 := by rw [eμ1]; exact zT_upn hT zs205_0 rfl (i := 0) (by omega) (by omega) (by omega) (by omega)
  have b1 : ∀ k : Int, k ≠ 0 → μ1 205 k = μ 205 k := fun k hk => by rw [eμ1, pm_up_ne hk]
  have b2 : ∀ r, r ≠ 205 → μ1 r = μ r := fun r hr => by rw [eμ1, pm_up_row hr]
  have b3 := b1 3 (by decide)
  have f1 := zT_get hTμ1 zs205_3 (i := 3) (by omega) (by omega)
  refine pm_blk hK zmm126 [] 2 9 [(2, 205), (9, 0)] [(0, μ1 205 3)] μ1 [] rfl trivial ?_
  refine pm_if hK zmm126 .ne 5 14 rfl rfl (fun h0 => ?_) (fun h0 => ?_)
  · have h0 : μ1 205 3 ≠ (0 : Int) := h0
    refine pm_blk hK zmm126 [] 6 24 [(2, 205), (9, 0)] [] (pm_up μ1 205 3 ((μ1 205 3) - 1)) [pm_in ((μ1 205 3) - 1), sx_bit Wm 205 = true] rfl ⟨pm_in_mk (by omega) (by omega), hb205, trivial⟩ ?_
    obtain ⟨μ2, eμ2⟩ : ∃ μ', μ' = pm_up μ1 205 3 ((μ1 205 3) - 1) := ⟨_, rfl⟩
    rw [← eμ2]
    have hTμ2 : zTJ none μ2 := by rw [eμ2]; exact zT_upn hTμ1 zs205_3 rfl (i := 3) (by omega) (by omega) (by omega) (by omega)
    have c1 : ∀ k : Int, k ≠ 0 → k ≠ 3 → μ2 205 k = μ 205 k := fun k h0 h3 => by rw [eμ2, pm_up_ne h3]; exact b1 k h0
    have c2 : ∀ r, r ≠ 205 → μ2 r = μ r := fun r hr => by rw [eμ2, pm_up_row hr]; exact b2 r hr
    have c3 : μ2 205 3 = μ 205 3 - 1 := by rw [eμ2, pm_up_eq, b3]
    refine pm_blk hK zmm126 [] 2 26 [(2, 205), (0, 0)] [] μ2 [] rfl trivial ?_
    refine pm_then (fs_ud hK (μ0 := μ2) (w := μ 205 3 - 1) ⟨by omega, by omega⟩ hb206 hbd _ (k := 0) rfl ⟨by omega, by omega⟩ c3 hTμ2 (fun i i0 i1 => absurd i1 (by omega)) (fun _ _ => rfl)) (fun _ _ st9 μ9 hX9 => ?_)
    obtain ⟨h10, h9⟩ := hX9
    obtain ⟨rfl, k2, k3, k4⟩ := h9
    exact pm_exit ⟨h10, ⟨_, rfl, k2, Or.inr ⟨by omega, rfl, fun i i0 i1 => by rw [k3 i i0 i1, c2 207 (by decide)]; rfl, by rw [k4 205 (by decide)]; exact c3, fun k h0 h3 => by rw [k4 205 (by decide)]; exact c1 k h0 h3, fun r r1 r2 => by rw [k4 r r2]; exact c2 r r1⟩⟩⟩
  · have h0 : μ1 205 3 = (0 : Int) := h0
    refine pm_blk hK zmm126 [] 1 13 [(2, 205), (9, 0)] [(0, 0)] μ1 [] rfl trivial ?_
    exact pm_zret rfl rfl (by first | exact Or.inl rfl | exact Or.inr rfl | omega) ⟨_, rfl, hTμ1, Or.inl ⟨by omega, rfl, b1, b2⟩⟩
set_option maxRecDepth 100000 in
theorem fs_thinkl (hK : zKK ST)  {μ0 : pm_Mem} (hb205 : sx_bit Wm 205 = true) (hb208 : sx_bit Wm 208 = true) (hbd : 0 ≤ bud.1 ∧ 0 ≤ bud.2.1) : ∀ (nM : Nat) {k : Int} {μ : pm_Mem}, (160 - k).toNat = nM → ∀ (hk : 0 ≤ k ∧ k ≤ 160) (hT : zTJ none μ) (h6 : ∀ i : Int, 0 ≤ i → i < k → μ 208 i = μ0 206 i) (hf : ∀ r, r ≠ 208 → μ r = μ0 r), zW D Wm ST b0 l Sg zM163 bud (pm_X zM163 (fun st' μ' => st' = [] ∧ zTJ none μ' ∧ (∀ i : Int, 0 ≤ i → i < 160 → μ' 208 i = μ0 206 i) ∧ μ' 205 5 = 1 ∧ (∀ k : Int, k ≠ 5 → μ' 205 k = μ0 205 k) ∧ ∀ r, r ≠ 205 → r ≠ 208 → μ' r = μ0 r)) 2 [(2, 205), (0, k)] [] μ := by
  intro nM
  induction nM using Nat.strongRecOn with
  | ind nM ih =>
    intro k μ hn hk hT h6 hf
    have g7 := hf 206 (by decide)
    refine pm_blk hK zmm163 [] 2 6 [(2, 205), (0, k)] [(0, 160), (0, k)] μ [] rfl trivial ?_
    refine pm_icmp hK zmm163 .ge 21 27 rfl rfl (fun h0 => ?_) (fun h0 => ?_)
    · have h0 : (160 : Int) ≤ k := h0
      refine pm_blk hK zmm163 [] 3 32 [(2, 205), (0, k)] [] (pm_up μ 205 5 1) [sx_bit Wm 205 = true, 0 ≤ 1 ∧ 1 ≤ 1] rfl ⟨hb205, ⟨by omega, by omega⟩, trivial⟩ ?_
      obtain ⟨μ1, eμ1⟩ : ∃ μ', μ' = pm_up μ 205 5 1 := ⟨_, rfl⟩
      rw [← eμ1]
      have hTμ1 : zTJ none μ1 := by rw [eμ1]; exact zT_upn hT zs205_5 rfl (i := 5) (by omega) (by omega) (by omega) (by omega)
      have ek : k = 160 := by omega
      subst ek
      exact pm_vret rfl rfl ⟨rfl, hTμ1, fun i i0 i1 => by rw [eμ1, pm_up_off (by decide)]; exact h6 i i0 i1, by rw [eμ1, pm_up_eq], fun k hk => by rw [eμ1, pm_up_ne hk, hf 205 (by decide)], fun r r1 r2 => by rw [eμ1, pm_up_row r1]; exact hf r r2⟩
    · have h0 : k < (160 : Int) := h0
      refine pm_blk hK zmm163 [] 8 21 [(2, 205), (0, k)] [] (pm_up μ 208 k (μ 206 k)) [0 ≤ k ∧ k < 160, sx_bit Wm 208 = true, 0 ≤ k ∧ k < 160] rfl ⟨⟨by omega, by omega⟩, hb208, ⟨by omega, by omega⟩, trivial⟩ ?_
      obtain ⟨μ2, eμ2⟩ : ∃ μ', μ' = pm_up μ 208 k (μ 206 k) := ⟨_, rfl⟩
      rw [← eμ2]
      have hTμ2 : zTJ none μ2 := by rw [eμ2]; exact fs_z86 hT (by omega) (by omega)
      refine pm_blk hK zmm163 [] 2 2 [(2, 205), (0, k + 1)] [] μ2 [pm_in (k + 1)] rfl ⟨pm_in_mk (by omega) (by omega), trivial⟩ ?_
      refine ih _ (by omega) rfl ⟨by omega, by omega⟩ hTμ2 (fun i i0 i1 => ?_) (fun r hr => by rw [eμ2, pm_up_row hr]; exact hf r hr)
      by_cases hi : i = k
      · rw [hi, eμ2, pm_up_eq, g7]
      · rw [eμ2, pm_up_ne hi]; exact h6 i i0 (by omega)
set_option maxRecDepth 100000 in
theorem fs_think (hK : zKK ST) (hT : zTJ none μ) (hb205 : sx_bit Wm 205 = true) (hb208 : sx_bit Wm 208 = true) (hbd : 0 ≤ bud.1 ∧ 0 ≤ bud.2.1) : zC D Wm ST b0 l Sg zM163 bud [(2, 205)] μ (fun st' μ' => st' = [] ∧ zTJ none μ' ∧ (∀ i : Int, 0 ≤ i → i < 160 → μ' 208 i = μ 206 i) ∧ μ' 205 5 = 1 ∧ (∀ k : Int, k ≠ 5 → μ' 205 k = μ 205 k) ∧ ∀ r, r ≠ 205 → r ≠ 208 → μ' r = μ r) := by
  refine pm_blk hK zmm163 [] 2 2 [(2, 205), (0, 0)] [] μ [] rfl trivial ?_
  exact fs_thinkl hK (μ0 := μ) hb205 hb208 hbd _ (k := 0) rfl ⟨by omega, by omega⟩ hT (fun i i0 i1 => absurd i1 (by omega)) (fun _ _ => rfl)
set_option maxRecDepth 100000 in
theorem fs_endsl (hK : zKK ST)  {μ0 : pm_Mem} (hb205 : sx_bit Wm 205 = true) (hb206 : sx_bit Wm 206 = true) (hbd : 0 ≤ bud.1 ∧ 0 ≤ bud.2.1) : ∀ (nM : Nat) {k : Int} {μ : pm_Mem}, (160 - k).toNat = nM → ∀ (hk : 0 ≤ k ∧ k ≤ 160) (hT : zTJ none μ) (h6 : ∀ i : Int, 0 ≤ i → i < k → μ 206 i = μ0 208 i) (hf : ∀ r, r ≠ 206 → μ r = μ0 r), zW D Wm ST b0 l Sg zM165 bud (pm_X zM165 (fun st' μ' => st' = [] ∧ zTJ none μ' ∧ (∀ i : Int, 0 ≤ i → i < 160 → μ' 206 i = μ0 208 i) ∧ μ' 205 5 = 0 ∧ (∀ k : Int, k ≠ 5 → μ' 205 k = μ0 205 k) ∧ ∀ r, r ≠ 205 → r ≠ 206 → μ' r = μ0 r)) 2 [(2, 205), (0, k)] [] μ := by
  intro nM
  induction nM using Nat.strongRecOn with
  | ind nM ih =>
    intro k μ hn hk hT h6 hf
    have g7 := hf 208 (by decide)
    refine pm_blk hK zmm165 [] 2 6 [(2, 205), (0, k)] [(0, 160), (0, k)] μ [] rfl trivial ?_
    refine pm_icmp hK zmm165 .ge 21 27 rfl rfl (fun h0 => ?_) (fun h0 => ?_)
    · have h0 : (160 : Int) ≤ k := h0
      refine pm_blk hK zmm165 [] 3 32 [(2, 205), (0, k)] [] (pm_up μ 205 5 0) [sx_bit Wm 205 = true, 0 ≤ 0 ∧ 0 ≤ 1] rfl ⟨hb205, ⟨by omega, by omega⟩, trivial⟩ ?_
      obtain ⟨μ1, eμ1⟩ : ∃ μ', μ' = pm_up μ 205 5 0 := ⟨_, rfl⟩
      rw [← eμ1]
      have hTμ1 : zTJ none μ1 := by rw [eμ1]; exact zT_upn hT zs205_5 rfl (i := 5) (by omega) (by omega) (by omega) (by omega)
      have ek : k = 160 := by omega
      subst ek
      exact pm_vret rfl rfl ⟨rfl, hTμ1, fun i i0 i1 => by rw [eμ1, pm_up_off (by decide)]; exact h6 i i0 i1, by rw [eμ1, pm_up_eq], fun k hk => by rw [eμ1, pm_up_ne hk, hf 205 (by decide)], fun r r1 r2 => by rw [eμ1, pm_up_row r1]; exact hf r r2⟩
    · have h0 : k < (160 : Int) := h0
      refine pm_blk hK zmm165 [] 8 21 [(2, 205), (0, k)] [] (pm_up μ 206 k (μ 208 k)) [0 ≤ k ∧ k < 160, sx_bit Wm 206 = true, 0 ≤ k ∧ k < 160] rfl ⟨⟨by omega, by omega⟩, hb206, ⟨by omega, by omega⟩, trivial⟩ ?_
      obtain ⟨μ2, eμ2⟩ : ∃ μ', μ' = pm_up μ 206 k (μ 208 k) := ⟨_, rfl⟩
      rw [← eμ2]
      have hTμ2 : zTJ none μ2 := by rw [eμ2]; exact fs_z68 hT (by omega) (by omega)
      refine pm_blk hK zmm165 [] 2 2 [(2, 205), (0, k + 1)] [] μ2 [pm_in (k + 1)] rfl ⟨pm_in_mk (by omega) (by omega), trivial⟩ ?_
      refine ih _ (by omega) rfl ⟨by omega, by omega⟩ hTμ2 (fun i i0 i1 => ?_) (fun r hr => by rw [eμ2, pm_up_row hr]; exact hf r hr)
      by_cases hi : i = k
      · rw [hi, eμ2, pm_up_eq, g7]
      · rw [eμ2, pm_up_ne hi]; exact h6 i i0 (by omega)
set_option maxRecDepth 100000 in
theorem fs_ends (hK : zKK ST) (hT : zTJ none μ) (hb205 : sx_bit Wm 205 = true) (hb206 : sx_bit Wm 206 = true) (hbd : 0 ≤ bud.1 ∧ 0 ≤ bud.2.1) : zC D Wm ST b0 l Sg zM165 bud [(2, 205)] μ (fun st' μ' => st' = [] ∧ zTJ none μ' ∧ (∀ i : Int, 0 ≤ i → i < 160 → μ' 206 i = μ 208 i) ∧ μ' 205 5 = 0 ∧ (∀ k : Int, k ≠ 5 → μ' 205 k = μ 205 k) ∧ ∀ r, r ≠ 205 → r ≠ 206 → μ' r = μ r) := by
  refine pm_blk hK zmm165 [] 2 2 [(2, 205), (0, 0)] [] μ [] rfl trivial ?_
  exact fs_endsl hK (μ0 := μ) hb205 hb206 hbd _ (k := 0) rfl ⟨by omega, by omega⟩ hT (fun i i0 i1 => absurd i1 (by omega)) (fun _ _ => rfl)
end ZHW
