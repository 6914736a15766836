/-! how many, how wide: the class; walks printed by program (wip/p30/pmgen.py) and filled by hand -/
section ZHW
variable {φ : Option pm_Mem}
variable {D : va_G} {Wm : Nat} {ST : List (String × String × String × Nat)} {b0 : sx_B} {l : Launch} {Sg : Nat → Option Nat} {bud : sx_Bu} {μ : pm_Mem} {B0 : Nat → Prop} {J : (Nat → Option Nat) → Heap → Prop}
set_option maxRecDepth 100000 in
theorem zk_h1 (hK : zKK ST)  {μ : pm_Mem} {y a k : Int} {Post : List pm_V → pm_Mem → Prop} (hy : 0 ≤ y ∧ y ≤ 12) (ha : 0 ≤ a ∧ a ≤ 11) (KP : Post [(0, zcnt (fun z => μ 199 (a * 12 + z)) k y.toNat)] μ) (hbd : 2 ≤ bud.1 ∧ 46 ≤ bud.2.1) : ∀ (n : Nat) {f s : Int}, (y - s).toNat = n → ∀ (hs : 0 ≤ s ∧ s ≤ y) (hf : f = zcnt (fun z => μ 199 (a * 12 + z)) k s.toNat), zW D Wm ST b0 l Sg zM272 bud (pm_X zM272 Post) 13 [(2, 198), (2, 26), (0, y), (0, a), (0, k), (0, f), (0, s)] [] μ := by
  intro n
  induction n using Nat.strongRecOn with
  | ind n ih =>
    intro f s hn hs hf
    have hz := zcnt_bd (f := fun z => μ 199 (a * 12 + z)) (k := k) s.toNat
    refine pm_blk hK zmm272 [] 2 16 [(2, 198), (2, 26), (0, y), (0, a), (0, k), (0, f), (0, s)] [(0, y), (0, s)] μ [] rfl trivial ?_
    refine pm_icmp hK zmm272 .ge 24 40 rfl rfl (fun h0 => ?_) (fun h0 => ?_)
    · have h0 : y ≤ s := h0
      refine pm_blk hK zmm272 [] 1 42 [(2, 198), (2, 26), (0, y), (0, a), (0, k), (0, f), (0, s)] [(0, f)] μ [] rfl trivial ?_
      obtain rfl : s = y := by omega
      subst hf
      exact pm_iret rfl rfl KP
    · have h0 : s < y := h0
      refine pm_blk hK zmm272 [] 3 23 [(2, 198), (2, 26), (0, y), (0, a), (0, k), (0, f), (0, s)] [(0, s), (0, a), (2, 198)] μ [] rfl trivial ?_
      refine pm_call hK zmm272 (42, 0, 264, 2) zM264 (1, 22) [(2, 198), (0, a), (0, s)] [] rfl rfl rfl rfl ⟨by omega, by rw [zn264]; omega⟩ (zk_dist hK (a := a) (b := s) ⟨by omega, by omega⟩ ⟨by omega, by omega⟩ ⟨Nat.le_refl _, Nat.le_refl _⟩) (fun st1 μc1 hp1 => ?_)
      obtain ⟨rfl, rfl⟩ := hp1
      refine pm_blk hK zmm272 [] 1 28 [(2, 198), (2, 26), (0, y), (0, a), (0, k), (0, f), (0, s)] [(0, k), (0, μ 199 (a * 12 + s))] μ [] rfl trivial ?_
      refine pm_icmp hK zmm272 .ne 6 34 rfl rfl (fun h1 => ?_) (fun h1 => ?_)
      · have h1 : μ 199 (a * 12 + s) ≠ k := h1
        have e1 : (s + 1).toNat = s.toNat + 1 := by omega
        have ei : ((s.toNat : Nat) : Int) = s := by omega
        refine pm_blk hK zmm272 [] 2 13 [(2, 198), (2, 26), (0, y), (0, a), (0, k), (0, f), (0, s + 1)] [] μ [pm_in (s + 1)] rfl ⟨pm_in_mk (by omega) (by omega), trivial⟩ ?_
        refine ih _ (by omega) rfl ⟨by omega, by omega⟩ ?_
        rw [e1, zcnt_s, ei]
        split <;> omega
      · have h1 : μ 199 (a * 12 + s) = k := h1
        refine pm_blk hK zmm272 [] 1 34 [(2, 198), (2, 26), (0, y), (0, a), (0, k), (0, f + 1), (0, s)] [] μ [pm_in (f + 1)] rfl ⟨pm_in_mk (by omega) (by omega), trivial⟩ ?_
        have e1 : (s + 1).toNat = s.toNat + 1 := by omega
        have ei : ((s.toNat : Nat) : Int) = s := by omega
        refine pm_blk hK zmm272 [] 2 13 [(2, 198), (2, 26), (0, y), (0, a), (0, k), (0, f + 1), (0, s + 1)] [] μ [pm_in (s + 1)] rfl ⟨pm_in_mk (by omega) (by omega), trivial⟩ ?_
        refine ih _ (by omega) rfl ⟨by omega, by omega⟩ ?_
        rw [e1, zcnt_s, ei]
        split <;> omega
set_option maxRecDepth 100000 in
theorem zk_howMany (hK : zKK ST) {y a k : Int} {m : Nat} (hT : zTJ φ μ) (hy : 0 ≤ y ∧ y ≤ 12) (hn0 : μ 26 2 = (m : Int)) (hm : m ≤ 16) (hlv0 : zLvs (μ 27) m) (hb199 : sx_bit Wm 199 = true) (ha : 0 ≤ a ∧ a ≤ 11) (hbd : 4 ≤ bud.1 ∧ 99 ≤ bud.2.1) : zC D Wm ST b0 l Sg zM272 bud [(2, 198), (2, 26), (0, y), (0, a), (0, k)] μ (fun st' μ' => zTJ φ μ' ∧ (∀ r, r ≠ 199 → μ' r = μ r) ∧ ∃ f x, st' = [(0, x)] ∧ zFwl 1000000 (zws (zlw (μ 27) m) 0) y y f ∧ x = zcnt (fun z => f (a * 12 + z)) k y.toNat) := by
  refine pm_blk hK zmm272 [] 4 4 [(2, 198), (2, 26), (0, y), (0, a), (0, k), (9, 0), (9, 0)] [(0, 0), (0, y), (2, 26), (2, 198)] μ [] rfl trivial ?_
  refine pm_call hK zmm272 (54, 0, 69, 3) zM69 (3, 72) [(2, 198), (2, 26), (0, y), (0, 0)] [] rfl rfl rfl rfl ⟨by omega, by rw [zn69]; omega⟩ (zk_measure hK hT ⟨by omega, by omega⟩ hn0 hm hlv0 hb199 ⟨Nat.le_refl _, Nat.le_refl _⟩) (fun st1 μc1 hp1 => ?_)
  obtain ⟨rfl, hTc1, hs1, hF1⟩ := hp1
  have hs := hs1
  have hF := hF1
  refine pm_blk hK zmm272 [] 4 13 [(2, 198), (2, 26), (0, y), (0, a), (0, k), (0, 0), (0, 0)] [] μc1 [] rfl trivial ?_
  exact zk_h1 hK hy ha ⟨hTc1, hs, _, _, rfl, hF, rfl⟩ ⟨by omega, by omega⟩ _ rfl ⟨by omega, by omega⟩ rfl
set_option maxRecDepth 100000 in
theorem zk_w1 (hK : zKK ST) {X : Nat → List pm_V → List pm_V → pm_Mem → Prop} {μ : pm_Mem} {y a : Int} {W : Int → Int → Int} (hF : zFwl 1000000 (zws W 0) y y (μ 199)) (hy : 0 ≤ y ∧ y ≤ 12) (ha : 0 ≤ a ∧ a < y) (KK : ∀ (f : Int), zmo (zDs 1000000 (zws W 0) y) y a y f → zW D Wm ST b0 l Sg zM111 bud X 46 [(2, 198), (2, 26), (0, y), (0, f), (0, a), (9, 0)] [] μ) (hbd : 2 ≤ bud.1 ∧ 46 ≤ bud.2.1) : ∀ (n : Nat) {f b : Int}, (y - b).toNat = n → ∀ (hb : 0 ≤ b ∧ b ≤ y) (hf : zmo (zDs 1000000 (zws W 0) y) y a b f), zW D Wm ST b0 l Sg zM111 bud X 21 [(2, 198), (2, 26), (0, y), (0, f), (0, a), (0, b)] [] μ := by
  intro n
  induction n using Nat.strongRecOn with
  | ind n ih =>
    intro f b hn hb hf
    refine pm_blk hK zmm111 [] 2 24 [(2, 198), (2, 26), (0, y), (0, f), (0, a), (0, b)] [(0, y), (0, b)] μ [] rfl trivial ?_
    refine pm_icmp hK zmm111 .ge 22 46 rfl rfl (fun h0 => ?_) (fun h0 => ?_)
    · have h0 : y ≤ b := h0
      refine pm_hide [5] ?_
      obtain rfl : b = y := by omega
      exact KK _ hf
    · have h0 : b < y := h0
      refine pm_blk hK zmm111 [] 4 33 [(2, 198), (2, 26), (0, y), (0, f), (0, a), (0, b)] [(0, b), (0, a), (2, 198), (0, f)] μ [] rfl trivial ?_
      refine pm_call hK zmm111 (42, 0, 264, 2) zM264 (1, 22) [(2, 198), (0, a), (0, b)] [(0, f)] rfl rfl rfl rfl ⟨by omega, by rw [zn264]; omega⟩ (zk_dist hK (a := a) (b := b) ⟨by omega, by omega⟩ ⟨by omega, by omega⟩ ⟨Nat.le_refl _, Nat.le_refl _⟩) (fun st1 μc1 hp1 => ?_)
      obtain ⟨rfl, rfl⟩ := hp1
      refine pm_call hK zmm111 (58, 1, 34, 2) zM34 (0, 0) [(0, f), (0, μ 199 (a * 12 + b))] [] rfl rfl rfl rfl ⟨by omega, by rw [zn34]; omega⟩ (zk_max hK ⟨Nat.le_refl _, Nat.le_refl _⟩) (fun st2 μc2 hp2 => ?_)
      obtain ⟨rfl, rfl⟩ := hp2
      refine pm_blk hK zmm111 [] 3 21 [(2, 198), (2, 26), (0, y), (0, max f (μ 199 (a * 12 + b))), (0, a), (0, b + 1)] [] μ [pm_in (b + 1)] rfl ⟨pm_in_mk (by omega) (by omega), trivial⟩ ?_
      exact ih _ (by omega) rfl ⟨by omega, by omega⟩ (zmo_step (zFw_ds hF ha ⟨by omega, by omega⟩) ha ⟨by omega, by omega⟩ hf)
set_option maxRecDepth 100000 in
theorem zk_w2 (hK : zKK ST)  {μ : pm_Mem} {y : Int} {W : Int → Int → Int} (hF : zFwl 1000000 (zws W 0) y y (μ 199)) {Post : List pm_V → pm_Mem → Prop} (hy : 0 ≤ y ∧ y ≤ 12) (KP : ∀ f : Int, zmo (zDs 1000000 (zws W 0) y) y y 0 f → Post [(0, if 1000000 ≤ f then -1 else f)] μ) (hbd : 2 ≤ bud.1 ∧ 46 ≤ bud.2.1) : ∀ (n : Nat) {f a : Int}, (y - a).toNat = n → ∀ (ha : 0 ≤ a ∧ a ≤ y) (hf : zmo (zDs 1000000 (zws W 0) y) y a 0 f), zW D Wm ST b0 l Sg zM111 bud (pm_X zM111 Post) 12 [(2, 198), (2, 26), (0, y), (0, f), (0, a), (9, 0)] [] μ := by
  intro n
  induction n using Nat.strongRecOn with
  | ind n ih =>
    intro f a hn ha hf
    refine pm_blk hK zmm111 [] 2 15 [(2, 198), (2, 26), (0, y), (0, f), (0, a), (9, 0)] [(0, y), (0, a)] μ [] rfl trivial ?_
    refine pm_icmp hK zmm111 .ge 37 52 rfl rfl (fun h0 => ?_) (fun h0 => ?_)
    · have h0 : y ≤ a := h0
      refine pm_blk hK zmm111 [] 2 55 [(2, 198), (2, 26), (0, y), (0, f), (0, a), (9, 0)] [(0, 1000000), (0, f)] μ [] rfl trivial ?_
      refine pm_icmp hK zmm111 .lt 7 62 rfl rfl (fun h1 => ?_) (fun h1 => ?_)
      · have h1 : f < (1000000 : Int) := h1
        refine pm_blk hK zmm111 [] 1 63 [(2, 198), (2, 26), (0, y), (0, f), (0, a), (9, 0)] [(0, f)] μ [] rfl trivial ?_
        obtain rfl : a = y := by omega
        have h9 := KP _ hf
        first
        | (rw [if_pos (by omega)] at h9; exact pm_iret rfl rfl h9)
        | (rw [if_neg (by omega)] at h9; exact pm_iret rfl rfl h9)
        | (exfalso; omega)
      · have h1 : (1000000 : Int) ≤ f := h1
        refine pm_blk hK zmm111 [] 2 63 [(2, 198), (2, 26), (0, y), (0, f), (0, a), (9, 0)] [(0, (-1))] μ [] rfl trivial ?_
        obtain rfl : a = y := by omega
        have h9 := KP _ hf
        first
        | (rw [if_pos (by omega)] at h9; exact pm_iret rfl rfl h9)
        | (rw [if_neg (by omega)] at h9; exact pm_iret rfl rfl h9)
        | (exfalso; omega)
    · have h0 : a < y := h0
      refine pm_blk hK zmm111 [] 2 21 [(2, 198), (2, 26), (0, y), (0, f), (0, a), (0, 0)] [] μ [] rfl trivial ?_
      refine zk_w1 hK hF hy ⟨by omega, by omega⟩ (fun f hf => ?_) ⟨by omega, by omega⟩ _ rfl ⟨by omega, by omega⟩ hf
      refine pm_blk hK zmm111 [] 2 12 [(2, 198), (2, 26), (0, y), (0, f), (0, a + 1), (9, 0)] [] μ [pm_in (a + 1)] rfl ⟨pm_in_mk (by omega) (by omega), trivial⟩ ?_
      exact ih _ (by omega) rfl ⟨by omega, by omega⟩ (zmo_row hf)
set_option maxRecDepth 100000 in
theorem zk_wide (hK : zKK ST) {y : Int} {m : Nat} (hT : zTJ φ μ) (hy : 0 ≤ y ∧ y ≤ 12) (hn0 : μ 26 2 = (m : Int)) (hm : m ≤ 16) (hlv0 : zLvs (μ 27) m) (hb199 : sx_bit Wm 199 = true) (hbd : 4 ≤ bud.1 ∧ 99 ≤ bud.2.1) : zC D Wm ST b0 l Sg zM111 bud [(2, 198), (2, 26), (0, y)] μ (fun st' μ' => zTJ φ μ' ∧ (∀ r, r ≠ 199 → μ' r = μ r) ∧ ∃ f, st' = [(0, if 1000000 ≤ f then -1 else f)] ∧ zmo (zDs 1000000 (zws (zlw (μ 27) m) 0) y) y y 0 f) := by
  refine pm_blk hK zmm111 [] 4 4 [(2, 198), (2, 26), (0, y), (9, 0), (9, 0), (9, 0)] [(0, 0), (0, y), (2, 26), (2, 198)] μ [] rfl trivial ?_
  refine pm_call hK zmm111 (54, 0, 69, 3) zM69 (3, 72) [(2, 198), (2, 26), (0, y), (0, 0)] [] rfl rfl rfl rfl ⟨by omega, by rw [zn69]; omega⟩ (zk_measure hK hT ⟨by omega, by omega⟩ hn0 hm hlv0 hb199 ⟨Nat.le_refl _, Nat.le_refl _⟩) (fun st1 μc1 hp1 => ?_)
  obtain ⟨rfl, hTc1, hs1, hF1⟩ := hp1
  have hs := hs1
  have hF := hF1
  refine pm_blk hK zmm111 [] 4 12 [(2, 198), (2, 26), (0, y), (0, (-1)), (0, 0), (9, 0)] [] μc1 [] rfl trivial ?_
  exact zk_w2 hK hF hy (fun f hf => ⟨hTc1, hs, _, rfl, hf⟩) ⟨by omega, by omega⟩ _ rfl ⟨by omega, by omega⟩ zmo_0
end ZHW
