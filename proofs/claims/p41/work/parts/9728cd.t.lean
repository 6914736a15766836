/-! F: the class: GOES; walks printed by program (wip/p30/pmgen.py) and filled by hand -/
section ZHW
variable {φ : Option pm_Mem}
variable {D : va_G} {Wm : Nat} {ST : List (String × String × String × Nat)} {b0 : sx_B} {l : Launch} {Sg : Nat → Option Nat} {bud : sx_Bu} {μ : pm_Mem} {B0 : Nat → Prop} {J : (Nat → Option Nat) → Heap → Prop}
set_option maxRecDepth 100000 in
theorem fg_sum185 (hK : zKK ST)  {μ : pm_Mem} {c : Int} (hT : zTJ φ μ) (hc : c ≤ 12) (hbd : 0 ≤ bud.1 ∧ 0 ≤ bud.2.1) : ∀ (nM : Nat) {z i : Int}, (c - i).toNat = nM → ∀ (hi : 0 ≤ i ∧ i ≤ c) (hz : z = fa_add (μ 185) 0 i.toNat), zW D Wm ST b0 l Sg zM61 bud (pm_X zM61 (fun st' μ' => μ = μ' ∧ st' = [(0, fa_add (μ 185) 0 c.toNat)])) 4 [(2, 185), (0, c), (0, z), (0, i)] [] μ := by
  intro nM
  induction nM using Nat.strongRecOn with
  | ind nM ih =>
    intro z i hn hi hz
    have ei : ((i.toNat : Nat) : Int) = i := by omega
    have e1 : (i + 1).toNat = i.toNat + 1 := by omega
    have hzr := fa_add_in (N := μ 185) (b := 0) i.toNat
    rw [← hz] at hzr
    refine pm_blk hK zmm61 [19] 2 6 [(2, 185), (0, c), (0, z), (0, i)] [(0, c), (0, i)] μ [] rfl trivial ?_
    refine pm_icmp hK zmm61 .ge 21 27 rfl rfl (fun h0 => ?_) (fun h0 => ?_)
    · have h0 : c ≤ i := h0
      refine pm_blk hK zmm61 [19] 1 28 [(2, 185), (0, c), (0, z), (0, i)] [(0, z)] μ [] rfl trivial ?_
      have ek : i.toNat = c.toNat := by omega
      exact pm_iret rfl rfl ⟨rfl, by rw [hz, ek]⟩
    · have h0 : i < c := h0
      refine pm_blk hK zmm61 [19] 3 12 [(2, 185), (0, c), (0, z), (0, i)] [(0, 12), (0, i)] μ [] rfl trivial ?_
      refine pm_icmp hK zmm61 .ge 15 27 rfl rfl (fun h1 => ?_) (fun h1 => ?_)
      · have h1 : (12 : Int) ≤ i := h1
        refine pm_blk hK zmm61 [19] 1 28 [(2, 185), (0, c), (0, z), (0, i)] [(0, z)] μ [] rfl trivial ?_
        have ek : i.toNat = c.toNat := by omega
        exact pm_iret rfl rfl ⟨rfl, by rw [hz, ek]⟩
      · have h1 : i < (12 : Int) := h1
        have f1 := zT_get hT zs185_0 (i := i) (by omega) (by omega)
        have w2 := zw32 (z + (μ 185 i))
        refine pm_blk hK zmm61 [19] 8 4 [(2, 185), (0, c), (0, pm_w32 (z + (μ 185 i))), (0, i + 1)] [] μ [0 ≤ i ∧ i < 12, pm_in (i + 1)] rfl ⟨⟨by omega, by omega⟩, pm_in_mk (by omega) (by omega), trivial⟩ ?_
        exact ih _ (by omega) rfl ⟨by omega, by omega⟩ (by rw [e1, fa_add_s, ei, Int.zero_add, ← hz])
set_option maxRecDepth 100000 in
theorem fg_sumof185 (hK : zKK ST) {c : Int} (hT : zTJ φ μ) (hc : 0 ≤ c ∧ c ≤ 12) (hbd : 0 ≤ bud.1 ∧ 0 ≤ bud.2.1) : zC D Wm ST b0 l Sg zM61 bud [(2, 185), (0, c)] μ (fun st' μ' => μ = μ' ∧ st' = [(0, fa_add (μ 185) 0 c.toNat)]) := by
  refine pm_blk hK zmm61 [] 4 4 [(2, 185), (0, c), (0, 0), (0, 0)] [] μ [] rfl trivial ?_
  exact fg_sum185 hK hT hc.2 hbd _ rfl ⟨by omega, by omega⟩ rfl
set_option maxRecDepth 100000 in
theorem fg_sum183 (hK : zKK ST)  {μ : pm_Mem} {c : Int} (hT : zTJ φ μ) (hc : c ≤ 12) (hbd : 0 ≤ bud.1 ∧ 0 ≤ bud.2.1) : ∀ (nM : Nat) {z i : Int}, (c - i).toNat = nM → ∀ (hi : 0 ≤ i ∧ i ≤ c) (hz : z = fa_add (μ 183) 0 i.toNat), zW D Wm ST b0 l Sg zM61 bud (pm_X zM61 (fun st' μ' => μ = μ' ∧ st' = [(0, fa_add (μ 183) 0 c.toNat)])) 4 [(2, 183), (0, c), (0, z), (0, i)] [] μ := by
  intro nM
  induction nM using Nat.strongRecOn with
  | ind nM ih =>
    intro z i hn hi hz
    have ei : ((i.toNat : Nat) : Int) = i := by omega
    have e1 : (i + 1).toNat = i.toNat + 1 := by omega
    have hzr := fa_add_in (N := μ 183) (b := 0) i.toNat
    rw [← hz] at hzr
    refine pm_blk hK zmm61 [19] 2 6 [(2, 183), (0, c), (0, z), (0, i)] [(0, c), (0, i)] μ [] rfl trivial ?_
    refine pm_icmp hK zmm61 .ge 21 27 rfl rfl (fun h0 => ?_) (fun h0 => ?_)
    · have h0 : c ≤ i := h0
      refine pm_blk hK zmm61 [19] 1 28 [(2, 183), (0, c), (0, z), (0, i)] [(0, z)] μ [] rfl trivial ?_
      have ek : i.toNat = c.toNat := by omega
      exact pm_iret rfl rfl ⟨rfl, by rw [hz, ek]⟩
    · have h0 : i < c := h0
      refine pm_blk hK zmm61 [19] 3 12 [(2, 183), (0, c), (0, z), (0, i)] [(0, 12), (0, i)] μ [] rfl trivial ?_
      refine pm_icmp hK zmm61 .ge 15 27 rfl rfl (fun h1 => ?_) (fun h1 => ?_)
      · have h1 : (12 : Int) ≤ i := h1
        refine pm_blk hK zmm61 [19] 1 28 [(2, 183), (0, c), (0, z), (0, i)] [(0, z)] μ [] rfl trivial ?_
        have ek : i.toNat = c.toNat := by omega
        exact pm_iret rfl rfl ⟨rfl, by rw [hz, ek]⟩
      · have h1 : i < (12 : Int) := h1
        have f1 := zT_get hT zs183_0 (i := i) (by omega) (by omega)
        have w2 := zw32 (z + (μ 183 i))
        refine pm_blk hK zmm61 [19] 8 4 [(2, 183), (0, c), (0, pm_w32 (z + (μ 183 i))), (0, i + 1)] [] μ [0 ≤ i ∧ i < 12, pm_in (i + 1)] rfl ⟨⟨by omega, by omega⟩, pm_in_mk (by omega) (by omega), trivial⟩ ?_
        exact ih _ (by omega) rfl ⟨by omega, by omega⟩ (by rw [e1, fa_add_s, ei, Int.zero_add, ← hz])
set_option maxRecDepth 100000 in
theorem fg_sumof183 (hK : zKK ST) {c : Int} (hT : zTJ φ μ) (hc : 0 ≤ c ∧ c ≤ 12) (hbd : 0 ≤ bud.1 ∧ 0 ≤ bud.2.1) : zC D Wm ST b0 l Sg zM61 bud [(2, 183), (0, c)] μ (fun st' μ' => μ = μ' ∧ st' = [(0, fa_add (μ 183) 0 c.toNat)]) := by
  refine pm_blk hK zmm61 [] 4 4 [(2, 183), (0, c), (0, 0), (0, 0)] [] μ [] rfl trivial ?_
  exact fg_sum183 hK hT hc.2 hbd _ rfl ⟨by omega, by omega⟩ rfl
set_option maxRecDepth 100000 in
theorem fg_sum193 (hK : zKK ST)  {μ : pm_Mem} {c : Int} (hT : zTJ φ μ) (hc : c ≤ 18) (hbd : 0 ≤ bud.1 ∧ 0 ≤ bud.2.1) : ∀ (nM : Nat) {z i : Int}, (c - i).toNat = nM → ∀ (hi : 0 ≤ i ∧ i ≤ c) (hz : z = fa_add (μ 193) 0 i.toNat), zW D Wm ST b0 l Sg zM61 bud (pm_X zM61 (fun st' μ' => μ = μ' ∧ st' = [(0, fa_add (μ 193) 0 c.toNat)])) 4 [(2, 193), (0, c), (0, z), (0, i)] [] μ := by
  intro nM
  induction nM using Nat.strongRecOn with
  | ind nM ih =>
    intro z i hn hi hz
    have ei : ((i.toNat : Nat) : Int) = i := by omega
    have e1 : (i + 1).toNat = i.toNat + 1 := by omega
    have hzr := fa_add_in (N := μ 193) (b := 0) i.toNat
    rw [← hz] at hzr
    refine pm_blk hK zmm61 [19] 2 6 [(2, 193), (0, c), (0, z), (0, i)] [(0, c), (0, i)] μ [] rfl trivial ?_
    refine pm_icmp hK zmm61 .ge 21 27 rfl rfl (fun h0 => ?_) (fun h0 => ?_)
    · have h0 : c ≤ i := h0
      refine pm_blk hK zmm61 [19] 1 28 [(2, 193), (0, c), (0, z), (0, i)] [(0, z)] μ [] rfl trivial ?_
      have ek : i.toNat = c.toNat := by omega
      exact pm_iret rfl rfl ⟨rfl, by rw [hz, ek]⟩
    · have h0 : i < c := h0
      refine pm_blk hK zmm61 [19] 3 12 [(2, 193), (0, c), (0, z), (0, i)] [(0, 18), (0, i)] μ [] rfl trivial ?_
      refine pm_icmp hK zmm61 .ge 15 27 rfl rfl (fun h1 => ?_) (fun h1 => ?_)
      · have h1 : (18 : Int) ≤ i := h1
        refine pm_blk hK zmm61 [19] 1 28 [(2, 193), (0, c), (0, z), (0, i)] [(0, z)] μ [] rfl trivial ?_
        have ek : i.toNat = c.toNat := by omega
        exact pm_iret rfl rfl ⟨rfl, by rw [hz, ek]⟩
      · have h1 : i < (18 : Int) := h1
        have f1 := zT_get hT zs193_0 (i := i) (by omega) (by omega)
        have w2 := zw32 (z + (μ 193 i))
        refine pm_blk hK zmm61 [19] 8 4 [(2, 193), (0, c), (0, pm_w32 (z + (μ 193 i))), (0, i + 1)] [] μ [0 ≤ i ∧ i < 18, pm_in (i + 1)] rfl ⟨⟨by omega, by omega⟩, pm_in_mk (by omega) (by omega), trivial⟩ ?_
        exact ih _ (by omega) rfl ⟨by omega, by omega⟩ (by rw [e1, fa_add_s, ei, Int.zero_add, ← hz])
set_option maxRecDepth 100000 in
theorem fg_sumof193 (hK : zKK ST) {c : Int} (hT : zTJ φ μ) (hc : 0 ≤ c ∧ c ≤ 18) (hbd : 0 ≤ bud.1 ∧ 0 ≤ bud.2.1) : zC D Wm ST b0 l Sg zM61 bud [(2, 193), (0, c)] μ (fun st' μ' => μ = μ' ∧ st' = [(0, fa_add (μ 193) 0 c.toNat)]) := by
  refine pm_blk hK zmm61 [] 4 4 [(2, 193), (0, c), (0, 0), (0, 0)] [] μ [] rfl trivial ?_
  exact fg_sum193 hK hT hc.2 hbd _ rfl ⟨by omega, by omega⟩ rfl
set_option maxRecDepth 100000 in
theorem fg_sum186 (hK : zKK ST)  {μ : pm_Mem} {c : Int} (hT : zTJ φ μ) (hc : c ≤ 12) (hbd : 0 ≤ bud.1 ∧ 0 ≤ bud.2.1) : ∀ (nM : Nat) {z i : Int}, (c - i).toNat = nM → ∀ (hi : 0 ≤ i ∧ i ≤ c) (hz : z = fa_add (μ 186) 0 i.toNat), zW D Wm ST b0 l Sg zM61 bud (pm_X zM61 (fun st' μ' => μ = μ' ∧ st' = [(0, fa_add (μ 186) 0 c.toNat)])) 4 [(2, 186), (0, c), (0, z), (0, i)] [] μ := by
  intro nM
  induction nM using Nat.strongRecOn with
  | ind nM ih =>
    intro z i hn hi hz
    have ei : ((i.toNat : Nat) : Int) = i := by omega
    have e1 : (i + 1).toNat = i.toNat + 1 := by omega
    have hzr := fa_add_in (N := μ 186) (b := 0) i.toNat
    rw [← hz] at hzr
    refine pm_blk hK zmm61 [19] 2 6 [(2, 186), (0, c), (0, z), (0, i)] [(0, c), (0, i)] μ [] rfl trivial ?_
    refine pm_icmp hK zmm61 .ge 21 27 rfl rfl (fun h0 => ?_) (fun h0 => ?_)
    · have h0 : c ≤ i := h0
      refine pm_blk hK zmm61 [19] 1 28 [(2, 186), (0, c), (0, z), (0, i)] [(0, z)] μ [] rfl trivial ?_
      have ek : i.toNat = c.toNat := by omega
      exact pm_iret rfl rfl ⟨rfl, by rw [hz, ek]⟩
    · have h0 : i < c := h0
      refine pm_blk hK zmm61 [19] 3 12 [(2, 186), (0, c), (0, z), (0, i)] [(0, 12), (0, i)] μ [] rfl trivial ?_
      refine pm_icmp hK zmm61 .ge 15 27 rfl rfl (fun h1 => ?_) (fun h1 => ?_)
      · have h1 : (12 : Int) ≤ i := h1
        refine pm_blk hK zmm61 [19] 1 28 [(2, 186), (0, c), (0, z), (0, i)] [(0, z)] μ [] rfl trivial ?_
        have ek : i.toNat = c.toNat := by omega
        exact pm_iret rfl rfl ⟨rfl, by rw [hz, ek]⟩
      · have h1 : i < (12 : Int) := h1
        have f1 := zT_get hT zs186_0 (i := i) (by omega) (by omega)
        have w2 := zw32 (z + (μ 186 i))
        refine pm_blk hK zmm61 [19] 8 4 [(2, 186), (0, c), (0, pm_w32 (z + (μ 186 i))), (0, i + 1)] [] μ [0 ≤ i ∧ i < 12, pm_in (i + 1)] rfl ⟨⟨by omega, by omega⟩, pm_in_mk (by omega) (by omega), trivial⟩ ?_
        exact ih _ (by omega) rfl ⟨by omega, by omega⟩ (by rw [e1, fa_add_s, ei, Int.zero_add, ← hz])
set_option maxRecDepth 100000 in
theorem fg_sumof186 (hK : zKK ST) {c : Int} (hT : zTJ φ μ) (hc : 0 ≤ c ∧ c ≤ 12) (hbd : 0 ≤ bud.1 ∧ 0 ≤ bud.2.1) : zC D Wm ST b0 l Sg zM61 bud [(2, 186), (0, c)] μ (fun st' μ' => μ = μ' ∧ st' = [(0, fa_add (μ 186) 0 c.toNat)]) := by
  refine pm_blk hK zmm61 [] 4 4 [(2, 186), (0, c), (0, 0), (0, 0)] [] μ [] rfl trivial ?_
  exact fg_sum186 hK hT hc.2 hbd _ rfl ⟨by omega, by omega⟩ rfl
set_option maxRecDepth 100000 in
theorem fg_tog (hK : zKK ST) {w : Int} (hT : zTJ φ μ) {N pol : Int → Int} {n m : Int} (hA : fa_A 182 n m N pol μ) (hn0 : 0 ≤ n) (hm0 : 0 ≤ m) (hq : n ≤ 12 ∧ m ≤ 18) (hI : fa_I n m N) (hw : 0 ≤ w ∧ w ≤ 3) (hbd : 1 ≤ bud.1 ∧ 23 ≤ bud.2.1) : zC D Wm ST b0 l Sg zM60 bud [(2, 182), (0, w)] μ (fun st' μ' => μ = μ' ∧ st' = [(0, fa_tog n m N w)]) := by
  have a0 : μ 182 0 = n := hA.1.1
  have a1 : μ 182 1 = m := hA.1.2.1
  refine pm_blk hK zmm60 [] 1 1 [(2, 182), (0, w)] [(0, w)] μ [] rfl trivial ?_
  have ht0 : (w < 0 ∨ 2 < w) ∨ w = 0 ∨ w = 1 ∨ w = 2 := by omega
  rcases ht0 with ht0 | ht0 | ht0 | ht0
  · refine zp_tout hK zmm60 rfl ht0 (tgt := 64) (by decide) ?_
    have f1 := zT_get hT zs182_0 (i := 0) (by omega) (by omega)
    refine pm_blk hK zmm60 [] 6 76 [(2, 182), (0, w)] [(0, μ 182 0), (2, 186), (0, μ 182 0)] μ [] rfl trivial ?_
    refine pm_call hK zmm60 (87, 1, 61, 2) zM61 (0, 0) [(2, 186), (0, μ 182 0)] [(0, μ 182 0)] rfl rfl rfl rfl ⟨by omega, by rw [zn61]; omega⟩ (fg_sumof186 hK (c := (μ 182 0)) hT ⟨by omega, by omega⟩ ⟨Nat.le_refl _, Nat.le_refl _⟩) (fun st1 μc1 hp1 => ?_)
    obtain ⟨rfl, rfl⟩ := hp1
    have ho := fa_add_on (F := μ 186) (N := N) n.toNat (by omega) (fun i i0 i1 => ⟨fa_r_open hA i0 (by omega), (fa_I_s hI (s := i) i0 (by omega)).2.2.1⟩)
    have hn9 : ((n.toNat : Nat) : Int) = n := by omega
    rw [hn9] at ho
    have ho2 : fa_add (μ 186) 0 (μ 182 0).toNat = n - fa_add N 40 n.toNat := by rw [a0]; exact ho.1
    refine pm_blk hK zmm60 [] 1 80 [(2, 182), (0, w)] [(0, (μ 182 0) - (fa_add (μ 186) 0 ((μ 182 0)).toNat))] μ [pm_in ((μ 182 0) - (fa_add (μ 186) 0 ((μ 182 0)).toNat))] rfl ⟨pm_in_mk (by omega) (by omega), trivial⟩ ?_
    have hw9 : w = 3 := by omega
    exact pm_iret rfl rfl ⟨rfl, by rw [hw9, fa_tog_3, ho2, a0, show n - (n - fa_add N 40 n.toNat) = fa_add N 40 n.toNat by omega]⟩
  · refine zp_tin hK zmm60 (off := 27) (tgt := 28) rfl (by omega) (by omega) (by rw [ht0]; rfl) (by decide) ?_
    have f2 := zT_get hT zs182_0 (i := 0) (by omega) (by omega)
    refine pm_blk hK zmm60 [] 4 36 [(2, 182), (0, w)] [(0, μ 182 0), (2, 185)] μ [] rfl trivial ?_
    refine pm_call hK zmm60 (87, 1, 61, 2) zM61 (0, 0) [(2, 185), (0, μ 182 0)] [] rfl rfl rfl rfl ⟨by omega, by rw [zn61]; omega⟩ (fg_sumof185 hK (c := (μ 182 0)) hT ⟨by omega, by omega⟩ ⟨Nat.le_refl _, Nat.le_refl _⟩) (fun st2 μc2 hp2 => ?_)
    obtain ⟨rfl, rfl⟩ := hp2
    have hw9 : w = 0 := by omega
    exact pm_iret rfl rfl ⟨rfl, by rw [hw9, fa_tog_0, a0, fa_add_cg (F := μ 185) (N := N) (b := 28) (k := n) (fun i i0 i1 => fa_r_till hA i0 i1) (by omega)]⟩
  · refine zp_tin hK zmm60 (off := 39) (tgt := 40) rfl (by omega) (by omega) (by rw [ht0]; rfl) (by decide) ?_
    have f3 := zT_get hT zs182_0 (i := 0) (by omega) (by omega)
    refine pm_blk hK zmm60 [] 4 48 [(2, 182), (0, w)] [(0, μ 182 0), (2, 183)] μ [] rfl trivial ?_
    refine pm_call hK zmm60 (87, 1, 61, 2) zM61 (0, 0) [(2, 183), (0, μ 182 0)] [] rfl rfl rfl rfl ⟨by omega, by rw [zn61]; omega⟩ (fg_sumof183 hK (c := (μ 182 0)) hT ⟨by omega, by omega⟩ ⟨Nat.le_refl _, Nat.le_refl _⟩) (fun st3 μc3 hp3 => ?_)
    obtain ⟨rfl, rfl⟩ := hp3
    have hw9 : w = 1 := by omega
    exact pm_iret rfl rfl ⟨rfl, by rw [hw9, fa_tog_1, a0, fa_add_cg (F := μ 183) (N := N) (b := 4) (k := n) (fun i i0 i1 => fa_r_goods hA i0 i1) (by omega)]⟩
  · refine zp_tin hK zmm60 (off := 51) (tgt := 52) rfl (by omega) (by omega) (by rw [ht0]; rfl) (by decide) ?_
    have f4 := zT_get hT zs182_1 (i := 1) (by omega) (by omega)
    refine pm_blk hK zmm60 [] 4 60 [(2, 182), (0, w)] [(0, μ 182 1), (2, 193)] μ [] rfl trivial ?_
    refine pm_call hK zmm60 (87, 1, 61, 2) zM61 (0, 0) [(2, 193), (0, μ 182 1)] [] rfl rfl rfl rfl ⟨by omega, by rw [zn61]; omega⟩ (fg_sumof193 hK (c := (μ 182 1)) hT ⟨by omega, by omega⟩ ⟨Nat.le_refl _, Nat.le_refl _⟩) (fun st4 μc4 hp4 => ?_)
    obtain ⟨rfl, rfl⟩ := hp4
    have hw9 : w = 2 := by omega
    exact pm_iret rfl rfl ⟨rfl, by rw [hw9, fa_tog_2, a1, fa_add_cg (F := μ 193) (N := N) (b := 124) (k := m) (fun i i0 i1 => fa_r_poles hA i0 i1) (by omega)]⟩
set_option maxRecDepth 100000 in
theorem fg_gl (hK : zKK ST)  {μ0 : pm_Mem} {k_ w : Int} (hk60 : k_ ≤ 60) (hw : 0 ≤ w ∧ w ≤ 3) {N B pol : Int → Int} {n m : Int} (hn0 : 0 ≤ n) (hm0 : 0 ≤ m) (hq : n ≤ 12 ∧ m ≤ 18) (hI : fa_I n m N) (hO : fa_O m N) {ls : List (Int × List zIw × List zIw)} {rn dn : Int} {RR DD : Int → Int} (hX : fa_X ls n m rn dn RR DD μ0) (hb178 : sx_bit Wm 178 = true) (hb179 : sx_bit Wm 179 = true) (hb182 : sx_bit Wm 182 = true) (hb183 : sx_bit Wm 183 = true) (hb184 : sx_bit Wm 184 = true) (hb185 : sx_bit Wm 185 = true) (hb186 : sx_bit Wm 186 = true) (hb187 : sx_bit Wm 187 = true) (hb188 : sx_bit Wm 188 = true) (hb189 : sx_bit Wm 189 = true) (hb190 : sx_bit Wm 190 = true) (hb191 : sx_bit Wm 191 = true) (hb192 : sx_bit Wm 192 = true) (hb193 : sx_bit Wm 193 = true) (hb194 : sx_bit Wm 194 = true) (hbd : 7 ≤ bud.1 ∧ 166 ≤ bud.2.1) : ∀ (nM : Nat) {k : Int} {μ : pm_Mem}, (k_ - k).toNat = nM → ∀ (hk : 0 ≤ k ∧ k ≤ k_) (hT : zTJ φ μ) (hC : fa_C true 182 n m (fa_tho (fr_law ls) RR DD pol rn dn n m k.toNat (N, B)) pol μ) (hF : fa_fr fc_L182 μ0 μ), zW D Wm ST b0 l Sg zM59 bud (pm_X zM59 (fun st' μ' => st' = [(0, fa_tog n m (fa_tho (fr_law ls) RR DD pol rn dn n m k_.toNat (N, B)).1 w)] ∧ zTJ φ μ' ∧ fa_fr fc_L182 μ0 μ')) 37 [(2, 1), (0, k_), (0, w), (0, k)] [] μ := by
  intro nM
  induction nM using Nat.strongRecOn with
  | ind nM ih =>
    intro k μ hn hk hT hC hF
    obtain ⟨⟨Nk, Bk⟩, ez⟩ : ∃ z : fa_St, z = (fa_tho (fr_law ls) RR DD pol rn dn n m k.toNat (N, B)) := ⟨_, rfl⟩
    have hIO := fa_I_tho (t := fr_law ls) (R := RR) (D := DD) (pol := pol) (fa_X_dom hX ⟨hn0, hq.1⟩ ⟨hm0, hq.2⟩) k.toNat (S := (N, B)) hI hO
    rw [← ez] at hC hIO
    have hC1 : fa_C true 182 n m (Nk, Bk) pol μ := hC
    have hI1 : fa_I n m Nk := hIO.1
    have hO1 : fa_O m Nk := hIO.2
    have hX1 := fa_X_frL hX hF rfl
    have ek : (k + 1).toNat = k.toNat + 1 := by omega
    refine pm_blk hK zmm59 [] 2 39 [(2, 1), (0, k_), (0, w), (0, k)] [(0, k_), (0, k)] μ [] rfl trivial ?_
    refine pm_icmp hK zmm59 .ge 21 60 rfl rfl (fun h0 => ?_) (fun h0 => ?_)
    · have h0 : k_ ≤ k := h0
      refine pm_blk hK zmm59 [] 3 65 [(2, 1), (0, k_), (0, w), (0, k)] [(0, w), (2, 182)] μ [] rfl trivial ?_
      refine pm_call hK zmm59 (253, 0, 60, 1) zM60 (1, 23) [(2, 182), (0, w)] [] rfl rfl rfl rfl ⟨by omega, by rw [zn60]; omega⟩ (fg_tog hK (w := w) hT hC1.1 hn0 hm0 hq hI1 ⟨by omega, by omega⟩ ⟨Nat.le_refl _, Nat.le_refl _⟩) (fun st1 μc1 hp1 => ?_)
      obtain ⟨rfl, rfl⟩ := hp1
      have e9 : k.toNat = k_.toNat := by omega
      exact pm_iret rfl rfl ⟨by rw [← e9, ← ez], hT, hF⟩
    · have h0 : k < k_ := h0
      refine pm_blk hK zmm59 [] 4 50 [(2, 1), (0, k_), (0, w), (0, k)] [(2, 182), (2, 181)] μ [] rfl trivial ?_
      refine pm_call hK zmm59 (162, 0, 37, 1) zM37 (6, 144) [(2, 181), (2, 182)] [] rfl rfl rfl rfl ⟨by omega, by rw [zn37]; omega⟩ (fc_pass182 hK hT hC1 hn0 hm0 hq hI1 hO1 hX1 hb178 hb179 hb182 hb183 hb184 hb185 hb186 hb187 hb188 hb189 hb190 hb191 hb192 hb193 hb194 ⟨Nat.le_refl _, Nat.le_refl _⟩) (fun st2 μc2 hp2 => ?_)
      obtain ⟨rfl, hTc2, hCc2, hF2⟩ := hp2
      have hC4 := hCc2
      have hF4 : fa_fr fc_L182 μ0 μc2 := fa_fr_t hF hF2
      refine pm_blk hK zmm59 [] 3 37 [(2, 1), (0, k_), (0, w), (0, k + 1)] [] μc2 [pm_in (k + 1)] rfl ⟨pm_in_mk (by omega) (by omega), trivial⟩ ?_
      exact ih _ (by omega) rfl ⟨by omega, by omega⟩ hTc2 (by rw [ek, fa_tho_s, ← ez]; exact hC4) hF4
set_option maxRecDepth 100000 in
theorem fg_goes (hK : zKK ST) {k_ w : Int} (hT : zTJ φ μ) {N B pol : Int → Int} {n m : Int} (hC : fa_C false 3 n m (N, B) pol μ) (hn0 : 0 ≤ n) (hm0 : 0 ≤ m) (hq : n ≤ 12 ∧ m ≤ 18) (hI : fa_I n m N) (hO : fa_O m N) {ls : List (Int × List zIw × List zIw)} {rn dn : Int} {RR DD : Int → Int} (hX : fa_X ls n m rn dn RR DD μ) (hb178 : sx_bit Wm 178 = true) (hb179 : sx_bit Wm 179 = true) (hb182 : sx_bit Wm 182 = true) (hb183 : sx_bit Wm 183 = true) (hb184 : sx_bit Wm 184 = true) (hb185 : sx_bit Wm 185 = true) (hb186 : sx_bit Wm 186 = true) (hb187 : sx_bit Wm 187 = true) (hb188 : sx_bit Wm 188 = true) (hb189 : sx_bit Wm 189 = true) (hb190 : sx_bit Wm 190 = true) (hb191 : sx_bit Wm 191 = true) (hb192 : sx_bit Wm 192 = true) (hb193 : sx_bit Wm 193 = true) (hb194 : sx_bit Wm 194 = true) (hbd : 7 ≤ bud.1 ∧ 166 ≤ bud.2.1) : zC D Wm ST b0 l Sg zM59 bud [(2, 1), (0, k_), (0, w)] μ (fun st' μ' => zTJ φ μ' ∧ fa_fr fc_L182 μ μ' ∧ st' = [(0, if ((1 ≤ k_ ∧ k_ ≤ 60) ∧ 0 ≤ w ∧ w ≤ 3) then fa_tog n m (fa_tho (fr_law ls) RR DD pol rn dn n m k_.toNat (N, B)).1 w else -1)]) := by
  refine pm_blk hK zmm59 [] 3 4 [(2, 1), (0, k_), (0, w), (9, 0)] [(0, 60), (0, 1), (0, k_)] μ [] rfl trivial ?_
  refine pm_call hK zmm59 (94, 1, 16, 3) zM16 (0, 0) [(0, k_), (0, 1), (0, 60)] [] rfl rfl rfl rfl ⟨by omega, by rw [zn16]; omega⟩ (zh_within hK ⟨Nat.le_refl _, Nat.le_refl _⟩) (fun st1 μc1 hp1 => ?_)
  obtain ⟨rfl, rfl⟩ := hp1
  refine pm_if hK zmm59 .eq 12 19 rfl rfl (fun h0 => ?_) (fun h0 => ?_)
  · have h0 : (if 1 ≤ k_ ∧ k_ ≤ 60 then 1 else 0 : Int) = (0 : Int) := h0
    have h0 := zif0 h0
    refine pm_blk hK zmm59 [] 1 20 [(2, 1), (0, k_), (0, w), (9, 0)] [(0, (-1))] μ [] rfl trivial ?_
    exact pm_iret rfl rfl ⟨hT, fa_fr_0, by rw [if_neg (fun q => by omega)]⟩
  · have h0 : (if 1 ≤ k_ ∧ k_ ≤ 60 then 1 else 0 : Int) ≠ (0 : Int) := h0
    have h0 := zif1 h0
    refine pm_blk hK zmm59 [] 3 13 [(2, 1), (0, k_), (0, w), (9, 0)] [(0, 3), (0, 0), (0, w)] μ [] rfl trivial ?_
    refine pm_call hK zmm59 (94, 1, 16, 3) zM16 (0, 0) [(0, w), (0, 0), (0, 3)] [] rfl rfl rfl rfl ⟨by omega, by rw [zn16]; omega⟩ (zh_within hK ⟨Nat.le_refl _, Nat.le_refl _⟩) (fun st2 μc2 hp2 => ?_)
    obtain ⟨rfl, rfl⟩ := hp2
    refine pm_if hK zmm59 .ne 5 21 rfl rfl (fun h1 => ?_) (fun h1 => ?_)
    · have h1 : (if 0 ≤ w ∧ w ≤ 3 then 1 else 0 : Int) ≠ (0 : Int) := h1
      have h1 := zif1 h1
      refine pm_blk hK zmm59 [] 5 32 [(2, 1), (0, k_), (0, w), (9, 0)] [(2, 3), (2, 182)] μ [] rfl trivial ?_
      refine pm_call hK zmm59 (250, 0, 28, 1) zM28 (2, 46) [(2, 182), (2, 3)] [] rfl rfl rfl rfl ⟨by omega, by rw [zn28]; omega⟩ (fc_ac182_3 hK hT hb182 hb183 hb184 hb185 hb186 hb187 hb188 hb189 hb190 hb191 hb192 hb193 hb194 ⟨Nat.le_refl _, Nat.le_refl _⟩) (fun st3 μc3 hp3 => ?_)
      obtain ⟨rfl, hTc3, hc3⟩ := hp3
      have hA1 : fa_A 182 n m N pol μc3 := fa_cp_A hq hc3 hC.1
      have hF1 : fa_fr fc_L182 μ μc3 := fa_fr_cp hc3 rfl
      refine pm_blk hK zmm59 [] 2 37 [(2, 1), (0, k_), (0, w), (0, 0)] [] μc3 [] rfl trivial ?_
      refine pm_then (fg_gl hK (μ0 := μ) (k_ := k_) (w := w) (B := B) (by omega) ⟨by omega, by omega⟩ hn0 hm0 hq hI hO hX hb178 hb179 hb182 hb183 hb184 hb185 hb186 hb187 hb188 hb189 hb190 hb191 hb192 hb193 hb194 hbd _ (k := 0) rfl ⟨by omega, by omega⟩ hTc3 ⟨hA1, fun e => absurd e (by decide)⟩ hF1) (fun _ _ st9 μ9 hX9 => ?_)
      obtain ⟨h10, h11, h12, h13⟩ := hX9
      exact pm_exit ⟨h10, h12, h13, by rw [if_pos ⟨⟨by omega, by omega⟩, by omega, by omega⟩]; exact h11⟩
    · have h1 : (if 0 ≤ w ∧ w ≤ 3 then 1 else 0 : Int) = (0 : Int) := h1
      have h1 := zif0 h1
      refine pm_blk hK zmm59 [] 1 20 [(2, 1), (0, k_), (0, w), (9, 0)] [(0, (-1))] μ [] rfl trivial ?_
      exact pm_iret rfl rfl ⟨hT, fa_fr_0, by rw [if_neg (fun q => by omega)]⟩
end ZHW
