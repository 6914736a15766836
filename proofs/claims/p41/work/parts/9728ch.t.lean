/-! F: the class: LOOK; walks printed by program (wip/p30/pmgen.py) and filled by hand -/
section ZHW
variable {φ : Option pm_Mem}
variable {D : va_G} {Wm : Nat} {ST : List (String × String × String × Nat)} {b0 : sx_B} {l : Launch} {Sg : Nat → Option Nat} {bud : sx_Bu} {μ : pm_Mem} {B0 : Nat → Prop} {J : (Nat → Option Nat) → Heap → Prop}
set_option maxRecDepth 100000 in
theorem fg_lal (hK : zKK ST)  {μ : pm_Mem} {N pol : Int → Int} {n m : Int} (hT : zTJ φ μ) (hA : fa_A 3 n m N pol μ) (hn : n ≤ 12) (hbd : 0 ≤ bud.1 ∧ 0 ≤ bud.2.1) : ∀ (nM : Nat) {f s : Int}, (n - s).toNat = nM → ∀ (hs : 0 ≤ s ∧ s ≤ n) (hf : f = fg_la N s.toNat), zW D Wm ST b0 l Sg zM123 bud (pm_X zM123 (fun st' μ' => μ = μ' ∧ st' = [(0, fg_la N n.toNat)])) 4 [(2, 3), (0, f), (0, s)] [] μ := by
  intro nM
  induction nM using Nat.strongRecOn with
  | ind nM ih =>
    intro f s hn9 hs hf
    have a0 : μ 3 0 = n := hA.1.1
    have es : ((s.toNat : Nat) : Int) = s := by omega
    have e1 : (s + 1).toNat = s.toNat + 1 := by omega
    have hb9 := fg_la_b (N := N) s.toNat
    rw [← hf] at hb9
    have rn : ∀ i : Int, 0 ≤ i → i < n → μ 10 i = N (76 + i) := fun i i0 i1 => fa_r_nights hA i0 i1
    have f1 := zT_get hT zs3_0 (i := 0) (by omega) (by omega)
    refine pm_blk hK zmm123 [] 3 9 [(2, 3), (0, f), (0, s)] [(0, μ 3 0), (0, s)] μ [] rfl trivial ?_
    refine pm_icmp hK zmm123 .ge 31 40 rfl rfl (fun h0 => ?_) (fun h0 => ?_)
    · have h0 : μ 3 0 ≤ s := h0
      refine pm_blk hK zmm123 [] 1 41 [(2, 3), (0, f), (0, s)] [(0, f)] μ [] rfl trivial ?_
      have ek : s.toNat = n.toNat := by omega
      exact pm_iret rfl rfl ⟨rfl, by rw [hf, ek]⟩
    · have h0 : s < μ 3 0 := h0
      refine pm_blk hK zmm123 [] 2 14 [(2, 3), (0, f), (0, s)] [(0, (-1)), (0, f)] μ [] rfl trivial ?_
      refine pm_icmp hK zmm123 .eq 18 32 rfl rfl (fun h1 => ?_) (fun h1 => ?_)
      · have h1 : f = ((-1) : Int) := h1
        refine pm_blk hK zmm123 [] 4 4 [(2, 3), (0, s), (0, s + 1)] [] μ [pm_in (s + 1)] rfl ⟨pm_in_mk (by omega) (by omega), trivial⟩ ?_
        refine ih _ (by omega) rfl ⟨by omega, by omega⟩ ?_
        rw [e1, fg_la_s, ← hf, es]
        first
        | rw [if_pos (Or.inl (by omega))]
        | rw [if_pos (Or.inr (by omega))]
        | rw [if_neg (by omega)]
        | (exfalso; omega)
      · have h1 : f ≠ ((-1) : Int) := h1
        have r1 := rn s (by omega) (by omega)
        have r2 := rn f (by omega) (by omega)
        have f2 := zT_get hT zs10_0 (i := s) (by omega) (by omega)
        have f3 := zT_get hT zs10_0 (i := f) (by omega) (by omega)
        refine pm_blk hK zmm123 [] 8 29 [(2, 3), (0, f), (0, s)] [(0, μ 10 f), (0, μ 10 s)] μ [0 ≤ s ∧ s < 12, 0 ≤ f ∧ f < 12] rfl ⟨⟨by omega, by omega⟩, ⟨by omega, by omega⟩, trivial⟩ ?_
        refine pm_icmp hK zmm123 .le 5 34 rfl rfl (fun h2 => ?_) (fun h2 => ?_)
        · have h2 : μ 10 s ≤ μ 10 f := h2
          refine pm_blk hK zmm123 [] 2 4 [(2, 3), (0, f), (0, s + 1)] [] μ [pm_in (s + 1)] rfl ⟨pm_in_mk (by omega) (by omega), trivial⟩ ?_
          refine ih _ (by omega) rfl ⟨by omega, by omega⟩ ?_
          rw [e1, fg_la_s, ← hf, es]
          first
          | rw [if_pos (Or.inl (by omega))]
          | rw [if_pos (Or.inr (by omega))]
          | rw [if_neg (by omega)]
          | (exfalso; omega)
        · have h2 : μ 10 f < μ 10 s := h2
          refine pm_blk hK zmm123 [] 4 4 [(2, 3), (0, s), (0, s + 1)] [] μ [pm_in (s + 1)] rfl ⟨pm_in_mk (by omega) (by omega), trivial⟩ ?_
          refine ih _ (by omega) rfl ⟨by omega, by omega⟩ ?_
          rw [e1, fg_la_s, ← hf, es]
          first
          | rw [if_pos (Or.inl (by omega))]
          | rw [if_pos (Or.inr (by omega))]
          | rw [if_neg (by omega)]
          | (exfalso; omega)
set_option maxRecDepth 100000 in
theorem fg_lat (hK : zKK ST) (hT : zTJ φ μ) {N pol : Int → Int} {n m : Int} (hA : fa_A 3 n m N pol μ) (hn0 : 0 ≤ n) (hm0 : 0 ≤ m) (hq : n ≤ 12 ∧ m ≤ 18)  (hbd : 0 ≤ bud.1 ∧ 0 ≤ bud.2.1) : zC D Wm ST b0 l Sg zM123 bud [(2, 3)] μ (fun st' μ' => μ = μ' ∧ st' = [(0, fg_la N n.toNat)]) := by
  refine pm_blk hK zmm123 [] 4 4 [(2, 3), (0, (-1)), (0, 0)] [] μ [] rfl trivial ?_
  exact fg_lal hK hT hA hq.1 hbd _ rfl ⟨by omega, by omega⟩ rfl
set_option maxRecDepth 100000 in
theorem fg_osl (hK : zKK ST)  {μ : pm_Mem} {N pol : Int → Int} {n m : Int} (hT : zTJ φ μ) (hA : fa_A 3 n m N pol μ) (hI : fa_I n m N) (hn : n ≤ 12) (hbd : 0 ≤ bud.1 ∧ 0 ≤ bud.2.1) : ∀ (nM : Nat) {z s : Int}, (n - s).toNat = nM → ∀ (hs : 0 ≤ s ∧ s ≤ n) (hz : z = ((fg_os N s.toNat : Nat) : Int)), zW D Wm ST b0 l Sg zM124 bud (pm_X zM124 (fun st' μ' => μ = μ' ∧ st' = [(0, ((fg_os N n.toNat : Nat) : Int))])) 4 [(2, 3), (0, z), (0, s)] [] μ := by
  intro nM
  induction nM using Nat.strongRecOn with
  | ind nM ih =>
    intro z s hn9 hs hz
    have a0 : μ 3 0 = n := hA.1.1
    have es : ((s.toNat : Nat) : Int) = s := by omega
    have e1 : (s + 1).toNat = s.toNat + 1 := by omega
    have hlt := fg_os_lt N s.toNat
    have hp : 2 ^ s.toNat ≤ 2 ^ 12 := Nat.pow_le_pow_right (by decide) (by omega)
    have hp8 : (2 : Nat) ^ 12 = 4096 := by decide
    have e2 := fg_os_s N s.toNat
    rw [es] at e2
    have f1 := zT_get hT zs3_0 (i := 0) (by omega) (by omega)
    refine pm_blk hK zmm124 [] 3 9 [(2, 3), (0, z), (0, s)] [(0, μ 3 0), (0, s)] μ [] rfl trivial ?_
    refine pm_icmp hK zmm124 .ge 20 29 rfl rfl (fun h0 => ?_) (fun h0 => ?_)
    · have h0 : μ 3 0 ≤ s := h0
      refine pm_blk hK zmm124 [] 1 30 [(2, 3), (0, z), (0, s)] [(0, z)] μ [] rfl trivial ?_
      have ek : s.toNat = n.toNat := by omega
      exact pm_iret rfl rfl ⟨rfl, by rw [hz, ek]⟩
    · have h0 : s < μ 3 0 := h0
      have ro : μ 7 s = 1 - N (40 + s) := fa_r_open hA (by omega) (by omega)
      have hob := (fa_I_s hI (s := s) (by omega) (by omega)).2.2.1
      have hE : pm_or z (pm_shl (μ 7 s) s) = ((fg_os N (s.toNat + 1) : Nat) : Int) := by
        by_cases h40 : N (40 + s) = 0
        · rw [if_pos h40] at e2
          have h1 := zshl1 s.toNat (by omega)
          rw [es] at h1
          have hpl : 2 ^ s.toNat ≤ 2 ^ 12 := hp
          have eo := zor (x := z) (y := ((2 ^ s.toNat : Nat) : Int)) (by omega) (by omega) (by omega) (by omega)
          rw [Int.toNat_natCast, hz, Int.toNat_natCast] at eo
          rw [ro, h40, show (1 : Int) - 0 = 1 by decide, h1, hz, eo, e2]
        · rw [if_neg h40] at e2
          have h1 := zshl0 s.toNat (by omega)
          rw [es] at h1
          rw [ro, show 1 - N (40 + s) = 0 by omega, h1, zor0 (by omega) (by omega), e2]
          exact hz
      have f2 := zT_get hT zs7_0 (i := s) (by omega) (by omega)
      refine pm_blk hK zmm124 [] 11 4 [(2, 3), (0, pm_or z (pm_shl (μ 7 s) s)), (0, s + 1)] [] μ [0 ≤ s ∧ s < 12, pm_in (s + 1)] rfl ⟨⟨by omega, by omega⟩, pm_in_mk (by omega) (by omega), trivial⟩ ?_
      exact ih _ (by omega) rfl ⟨by omega, by omega⟩ (by rw [e1]; exact hE)
set_option maxRecDepth 100000 in
theorem fg_ose (hK : zKK ST) (hT : zTJ φ μ) {N pol : Int → Int} {n m : Int} (hA : fa_A 3 n m N pol μ) (hn0 : 0 ≤ n) (hm0 : 0 ≤ m) (hq : n ≤ 12 ∧ m ≤ 18) (hI : fa_I n m N)  (hbd : 0 ≤ bud.1 ∧ 0 ≤ bud.2.1) : zC D Wm ST b0 l Sg zM124 bud [(2, 3)] μ (fun st' μ' => μ = μ' ∧ st' = [(0, ((fg_os N n.toNat : Nat) : Int))]) := by
  refine pm_blk hK zmm124 [] 4 4 [(2, 3), (0, 0), (0, 0)] [] μ [] rfl trivial ?_
  exact fg_osl hK hT hA hI hq.1 hbd _ rfl ⟨by omega, by omega⟩ rfl
set_option maxRecDepth 100000 in
theorem fg_lookc (hK : zKK ST) {w : Int} (hT : zTJ φ μ) {N B pol : Int → Int} {n m : Int} (hC : fa_C false 3 n m (N, B) pol μ) (hn0 : 0 ≤ n) (hm0 : 0 ≤ m) (hq : n ≤ 12 ∧ m ≤ 18) (hI : fa_I n m N)  (hbd : 1 ≤ bud.1 ∧ 22 ≤ bud.2.1) : zC D Wm ST b0 l Sg zM122 bud [(2, 1), (0, w)] μ (fun st' μ' => μ = μ' ∧ st' = [(0, fg_look n m N (μ 17 2) (μ 20 2) (μ 23 2) (μ 26 2) (μ 96 3) w)]) := by
  have a0 : μ 3 0 = n := hC.1.1.1
  have a1 : μ 3 1 = m := hC.1.1.2.1
  have a2 : μ 3 2 = N 1 := hC.1.1.2.2.1
  have a3 : μ 3 3 = N 0 := hC.1.1.2.2.2.1
  have a4 : μ 3 4 = N 2 := hC.1.1.2.2.2.2
  have b2 : μ 2 2 = N 3 := (hC.2 rfl).1
  refine pm_blk hK zmm122 [] 5 9 [(2, 1), (0, w), (2, 3)] [(0, w)] μ [] rfl trivial ?_
  have ht0 : (w < 0 ∨ 12 < w) ∨ w = 0 ∨ w = 1 ∨ w = 2 ∨ w = 3 ∨ w = 4 ∨ w = 5 ∨ w = 6 ∨ w = 7 ∨ w = 8 ∨ w = 9 ∨ w = 10 ∨ w = 11 ∨ w = 12 := by omega
  rcases ht0 with ht0 | ht0 | ht0 | ht0 | ht0 | ht0 | ht0 | ht0 | ht0 | ht0 | ht0 | ht0 | ht0 | ht0
  · refine zp_tout hK zmm122 rfl ht0 (tgt := 171) (by decide) ?_
    refine pm_blk hK zmm122 [] 1 174 [(2, 1), (0, w), (2, 3)] [(0, (-100000))] μ [] rfl trivial ?_
    exact pm_iret rfl rfl ⟨rfl, by unfold fg_look; rw [if_neg (by omega), if_neg (by omega), if_neg (by omega), if_neg (by omega), if_neg (by omega), if_neg (by omega), if_neg (by omega), if_neg (by omega), if_neg (by omega), if_neg (by omega), if_neg (by omega), if_neg (by omega), if_neg (by omega)]⟩
  · refine zp_tin hK zmm122 (off := 67) (tgt := 76) rfl (by omega) (by omega) (by rw [ht0]; rfl) (by decide) ?_
    have f1 := zT_get hT zs3_0 (i := 0) (by omega) (by omega)
    refine pm_blk hK zmm122 [] 2 80 [(2, 1), (0, w), (2, 3)] [(0, μ 3 0)] μ [] rfl trivial ?_
    exact pm_iret rfl rfl ⟨rfl, by unfold fg_look; rw [if_pos (show w = 0 by omega), a0]⟩
  · refine zp_tin hK zmm122 (off := 72) (tgt := 81) rfl (by omega) (by omega) (by rw [ht0]; rfl) (by decide) ?_
    have f2 := zT_get hT zs3_1 (i := 1) (by omega) (by omega)
    refine pm_blk hK zmm122 [] 2 85 [(2, 1), (0, w), (2, 3)] [(0, μ 3 1)] μ [] rfl trivial ?_
    exact pm_iret rfl rfl ⟨rfl, by unfold fg_look; rw [if_neg (by omega), if_pos (show w = 1 by omega), a1]⟩
  · refine zp_tin hK zmm122 (off := 77) (tgt := 86) rfl (by omega) (by omega) (by rw [ht0]; rfl) (by decide) ?_
    have f3 := zT_get hT zs3_2 (i := 2) (by omega) (by omega)
    refine pm_blk hK zmm122 [] 2 90 [(2, 1), (0, w), (2, 3)] [(0, μ 3 2)] μ [] rfl trivial ?_
    exact pm_iret rfl rfl ⟨rfl, by unfold fg_look; rw [if_neg (by omega), if_neg (by omega), if_pos (show w = 2 by omega), a2]⟩
  · refine zp_tin hK zmm122 (off := 82) (tgt := 91) rfl (by omega) (by omega) (by rw [ht0]; rfl) (by decide) ?_
    have f4 := zT_get hT zs3_3 (i := 3) (by omega) (by omega)
    refine pm_blk hK zmm122 [] 2 95 [(2, 1), (0, w), (2, 3)] [(0, μ 3 3)] μ [] rfl trivial ?_
    exact pm_iret rfl rfl ⟨rfl, by unfold fg_look; rw [if_neg (by omega), if_neg (by omega), if_neg (by omega), if_pos (show w = 3 by omega), a3]⟩
  · refine zp_tin hK zmm122 (off := 87) (tgt := 96) rfl (by omega) (by omega) (by rw [ht0]; rfl) (by decide) ?_
    refine pm_blk hK zmm122 [] 1 97 [(2, 1), (0, w), (2, 3)] [(2, 3)] μ [] rfl trivial ?_
    refine pm_call hK zmm122 (413, 0, 123, 0) zM123 (0, 0) [(2, 3)] [] rfl rfl rfl rfl ⟨by omega, by rw [zn123]; omega⟩ (fg_lat hK hT hC.1 hn0 hm0 hq ⟨Nat.le_refl _, Nat.le_refl _⟩) (fun st1 μc1 hp1 => ?_)
    obtain ⟨rfl, rfl⟩ := hp1
    exact pm_iret rfl rfl ⟨rfl, by unfold fg_look; rw [if_neg (by omega), if_neg (by omega), if_neg (by omega), if_neg (by omega), if_pos (show w = 4 by omega)]⟩
  · refine zp_tin hK zmm122 (off := 92) (tgt := 101) rfl (by omega) (by omega) (by rw [ht0]; rfl) (by decide) ?_
    refine pm_blk hK zmm122 [] 1 102 [(2, 1), (0, w), (2, 3)] [(2, 3)] μ [] rfl trivial ?_
    refine pm_call hK zmm122 (416, 0, 124, 0) zM124 (0, 0) [(2, 3)] [] rfl rfl rfl rfl ⟨by omega, by rw [zn124]; omega⟩ (fg_ose hK hT hC.1 hn0 hm0 hq hI ⟨Nat.le_refl _, Nat.le_refl _⟩) (fun st2 μc2 hp2 => ?_)
    obtain ⟨rfl, rfl⟩ := hp2
    exact pm_iret rfl rfl ⟨rfl, by unfold fg_look; rw [if_neg (by omega), if_neg (by omega), if_neg (by omega), if_neg (by omega), if_neg (by omega), if_pos (show w = 5 by omega)]⟩
  · refine zp_tin hK zmm122 (off := 97) (tgt := 106) rfl (by omega) (by omega) (by rw [ht0]; rfl) (by decide) ?_
    have f5 := zT_get hT zs2_2 (i := 2) (by omega) (by omega)
    refine pm_blk hK zmm122 [] 3 113 [(2, 1), (0, w), (2, 3)] [(0, μ 2 2)] μ [] rfl trivial ?_
    exact pm_iret rfl rfl ⟨rfl, by unfold fg_look; rw [if_neg (by omega), if_neg (by omega), if_neg (by omega), if_neg (by omega), if_neg (by omega), if_neg (by omega), if_pos (show w = 6 by omega), b2]⟩
  · refine zp_tin hK zmm122 (off := 105) (tgt := 114) rfl (by omega) (by omega) (by rw [ht0]; rfl) (by decide) ?_
    have f6 := zT_get hT zs3_4 (i := 4) (by omega) (by omega)
    refine pm_blk hK zmm122 [] 2 118 [(2, 1), (0, w), (2, 3)] [(0, μ 3 4)] μ [] rfl trivial ?_
    exact pm_iret rfl rfl ⟨rfl, by unfold fg_look; rw [if_neg (by omega), if_neg (by omega), if_neg (by omega), if_neg (by omega), if_neg (by omega), if_neg (by omega), if_neg (by omega), if_pos (show w = 7 by omega), a4]⟩
  · refine zp_tin hK zmm122 (off := 110) (tgt := 119) rfl (by omega) (by omega) (by rw [ht0]; rfl) (by decide) ?_
    have f7 := zT_get hT zs17_2 (i := 2) (by omega) (by omega)
    refine pm_blk hK zmm122 [] 4 129 [(2, 1), (0, w), (2, 3)] [(0, μ 17 2)] μ [] rfl trivial ?_
    exact pm_iret rfl rfl ⟨rfl, by unfold fg_look; rw [if_neg (by omega), if_neg (by omega), if_neg (by omega), if_neg (by omega), if_neg (by omega), if_neg (by omega), if_neg (by omega), if_neg (by omega), if_pos (show w = 8 by omega)]⟩
  · refine zp_tin hK zmm122 (off := 121) (tgt := 130) rfl (by omega) (by omega) (by rw [ht0]; rfl) (by decide) ?_
    have f8 := zT_get hT zs20_2 (i := 2) (by omega) (by omega)
    refine pm_blk hK zmm122 [] 4 140 [(2, 1), (0, w), (2, 3)] [(0, μ 20 2)] μ [] rfl trivial ?_
    exact pm_iret rfl rfl ⟨rfl, by unfold fg_look; rw [if_neg (by omega), if_neg (by omega), if_neg (by omega), if_neg (by omega), if_neg (by omega), if_neg (by omega), if_neg (by omega), if_neg (by omega), if_neg (by omega), if_pos (show w = 9 by omega)]⟩
  · refine zp_tin hK zmm122 (off := 132) (tgt := 141) rfl (by omega) (by omega) (by rw [ht0]; rfl) (by decide) ?_
    have f9 := zT_get hT zs23_2 (i := 2) (by omega) (by omega)
    refine pm_blk hK zmm122 [] 4 151 [(2, 1), (0, w), (2, 3)] [(0, μ 23 2)] μ [] rfl trivial ?_
    exact pm_iret rfl rfl ⟨rfl, by unfold fg_look; rw [if_neg (by omega), if_neg (by omega), if_neg (by omega), if_neg (by omega), if_neg (by omega), if_neg (by omega), if_neg (by omega), if_neg (by omega), if_neg (by omega), if_neg (by omega), if_pos (show w = 10 by omega)]⟩
  · refine zp_tin hK zmm122 (off := 143) (tgt := 152) rfl (by omega) (by omega) (by rw [ht0]; rfl) (by decide) ?_
    have f10 := zT_get hT zs26_2 (i := 2) (by omega) (by omega)
    refine pm_blk hK zmm122 [] 4 162 [(2, 1), (0, w), (2, 3)] [(0, μ 26 2)] μ [] rfl trivial ?_
    exact pm_iret rfl rfl ⟨rfl, by unfold fg_look; rw [if_neg (by omega), if_neg (by omega), if_neg (by omega), if_neg (by omega), if_neg (by omega), if_neg (by omega), if_neg (by omega), if_neg (by omega), if_neg (by omega), if_neg (by omega), if_neg (by omega), if_pos (show w = 11 by omega)]⟩
  · refine zp_tin hK zmm122 (off := 154) (tgt := 163) rfl (by omega) (by omega) (by rw [ht0]; rfl) (by decide) ?_
    have f11 := zT_get hT zs96_3 (i := 3) (by omega) (by omega)
    refine pm_blk hK zmm122 [] 3 170 [(2, 1), (0, w), (2, 3)] [(0, μ 96 3)] μ [] rfl trivial ?_
    exact pm_iret rfl rfl ⟨rfl, by unfold fg_look; rw [if_neg (by omega), if_neg (by omega), if_neg (by omega), if_neg (by omega), if_neg (by omega), if_neg (by omega), if_neg (by omega), if_neg (by omega), if_neg (by omega), if_neg (by omega), if_neg (by omega), if_neg (by omega), if_pos (show w = 12 by omega)]⟩
end ZHW
