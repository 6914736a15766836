/-! F: the reference: LOOK; walks printed by program (wip/p30/pmgen.py) and filled by hand -/
section ZHW
variable {φ : Option pm_Mem}
variable {D : va_G} {Wm : Nat} {ST : List (String × String × String × Nat)} {b0 : sx_B} {l : Launch} {Sg : Nat → Option Nat} {bud : sx_Bu} {μ : pm_Mem} {B0 : Nat → Prop} {J : (Nat → Option Nat) → Heap → Prop}
set_option maxRecDepth 100000 in
theorem fs_lal (hK : zKK ST)  {μ : pm_Mem} (hT : zTJ φ μ) (hbd : 0 ≤ bud.1 ∧ 0 ≤ bud.2.1) : ∀ (nM : Nat) {f s : Int}, (μ 205 6 - s).toNat = nM → ∀ (hs : 0 ≤ s ∧ s ≤ μ 205 6) (hf : f = fg_la (μ 206) s.toNat), zW D Wm ST b0 l Sg zM209 bud (pm_X zM209 (fun st' μ' => μ = μ' ∧ st' = [(0, fg_la (μ 206) (μ 205 6).toNat)])) 4 [(2, 205), (0, f), (0, s)] [] μ := by
  intro nM
  induction nM using Nat.strongRecOn with
  | ind nM ih =>
    intro f s hn hs hf
    have f6 := zT_get hT zs205_6 (i := 6) (by omega) (by omega)
    have es : ((s.toNat : Nat) : Int) = s := by omega
    have e1 : (s + 1).toNat = s.toNat + 1 := by omega
    have hb9 := fg_la_b (N := μ 206) s.toNat
    rw [← hf] at hb9
    have f1 := zT_get hT zs205_6 (i := 6) (by omega) (by omega)
    refine pm_blk hK zmm209 [] 3 9 [(2, 205), (0, f), (0, s)] [(0, μ 205 6), (0, s)] μ [] rfl trivial ?_
    refine pm_icmp hK zmm209 .ge 37 46 rfl rfl (fun h0 => ?_) (fun h0 => ?_)
    · have h0 : μ 205 6 ≤ s := h0
      refine pm_blk hK zmm209 [] 1 47 [(2, 205), (0, f), (0, s)] [(0, f)] μ [] rfl trivial ?_
      have ek : s.toNat = (μ 205 6).toNat := by omega
      exact pm_iret rfl rfl ⟨rfl, by rw [hf, ek]⟩
    · have h0 : s < μ 205 6 := h0
      refine pm_blk hK zmm209 [] 2 14 [(2, 205), (0, f), (0, s)] [(0, (-1)), (0, f)] μ [] rfl trivial ?_
      refine pm_icmp hK zmm209 .eq 24 38 rfl rfl (fun h1 => ?_) (fun h1 => ?_)
      · have h1 : f = ((-1) : Int) := h1
        refine pm_blk hK zmm209 [] 4 4 [(2, 205), (0, s), (0, s + 1)] [] μ [pm_in (s + 1)] rfl ⟨pm_in_mk (by omega) (by omega), trivial⟩ ?_
        refine ih _ (by omega) rfl ⟨by omega, by omega⟩ ?_
        rw [e1, fg_la_s, ← hf, es]
        first
        | rw [if_pos (Or.inl (by omega))]
        | rw [if_pos (Or.inr (by omega))]
        | rw [if_neg (by omega)]
        | (exfalso; omega)
      · have h1 : f ≠ ((-1) : Int) := h1
        have f2 := zT_get hT zs206_76 (i := 76 + s) (by omega) (by omega)
        have f3 := zT_get hT zs206_76 (i := 76 + f) (by omega) (by omega)
        refine pm_blk hK zmm209 [] 12 35 [(2, 205), (0, f), (0, s)] [(0, μ 206 (76 + f)), (0, μ 206 (76 + s))] μ [pm_in (76 + s), 0 ≤ 76 + s ∧ 76 + s < 160, pm_in (76 + f), 0 ≤ 76 + f ∧ 76 + f < 160] rfl ⟨pm_in_mk (by omega) (by omega), ⟨by omega, by omega⟩, pm_in_mk (by omega) (by omega), ⟨by omega, by omega⟩, trivial⟩ ?_
        refine pm_icmp hK zmm209 .le 5 40 rfl rfl (fun h2 => ?_) (fun h2 => ?_)
        · have h2 : μ 206 (76 + s) ≤ μ 206 (76 + f) := h2
          refine pm_blk hK zmm209 [] 2 4 [(2, 205), (0, f), (0, s + 1)] [] μ [pm_in (s + 1)] rfl ⟨pm_in_mk (by omega) (by omega), trivial⟩ ?_
          refine ih _ (by omega) rfl ⟨by omega, by omega⟩ ?_
          rw [e1, fg_la_s, ← hf, es]
          first
          | rw [if_pos (Or.inl (by omega))]
          | rw [if_pos (Or.inr (by omega))]
          | rw [if_neg (by omega)]
          | (exfalso; omega)
        · have h2 : μ 206 (76 + f) < μ 206 (76 + s) := h2
          refine pm_blk hK zmm209 [] 4 4 [(2, 205), (0, s), (0, s + 1)] [] μ [pm_in (s + 1)] rfl ⟨pm_in_mk (by omega) (by omega), trivial⟩ ?_
          refine ih _ (by omega) rfl ⟨by omega, by omega⟩ ?_
          rw [e1, fg_la_s, ← hf, es]
          first
          | rw [if_pos (Or.inl (by omega))]
          | rw [if_pos (Or.inr (by omega))]
          | rw [if_neg (by omega)]
          | (exfalso; omega)
set_option maxRecDepth 100000 in
theorem fs_latest (hK : zKK ST) (hT : zTJ φ μ) (hbd : 0 ≤ bud.1 ∧ 0 ≤ bud.2.1) : zC D Wm ST b0 l Sg zM209 bud [(2, 205)] μ (fun st' μ' => μ = μ' ∧ st' = [(0, fg_la (μ 206) (μ 205 6).toNat)]) := by
  refine pm_blk hK zmm209 [] 4 4 [(2, 205), (0, (-1)), (0, 0)] [] μ [] rfl trivial ?_
  have f6 := zT_get hT zs205_6 (i := 6) (by omega) (by omega)
  exact fs_lal hK hT hbd _ rfl ⟨by omega, by omega⟩ rfl
set_option maxRecDepth 100000 in
theorem fs_osl (hK : zKK ST)  {μ μ0 : pm_Mem} {w : Int} (hT : zTJ φ μ) (hb1 : ∀ k : Int, k ≠ 0 → μ 205 k = μ0 205 k) (hb2 : ∀ r, r ≠ 205 → μ r = μ0 r) (hbd : 1 ≤ bud.1 ∧ 21 ≤ bud.2.1) : ∀ (nM : Nat) {z s : Int}, (μ 205 6 - s).toNat = nM → ∀ (hs : 0 ≤ s ∧ s ≤ μ 205 6) (hz : z = ((fg_os (μ 206) s.toNat : Nat) : Int)), zW D Wm ST b0 l Sg zM208 bud (pm_X zM208 (fun st' μ' => zTJ φ μ' ∧ st' = [(0, ((fg_os (μ0 206) (μ0 205 6).toNat : Nat) : Int))] ∧ (∀ k : Int, k ≠ 0 → μ' 205 k = μ0 205 k) ∧ ∀ r, r ≠ 205 → μ' r = μ0 r)) 154 [(2, 205), (0, w), (0, z), (0, s)] [] μ := by
  intro nM
  induction nM using Nat.strongRecOn with
  | ind nM ih =>
    intro z s hn hs hz
    have f6 := zT_get hT zs205_6 (i := 6) (by omega) (by omega)
    have es : ((s.toNat : Nat) : Int) = s := by omega
    have e1 : (s + 1).toNat = s.toNat + 1 := by omega
    have hlt := fg_os_lt (μ 206) s.toNat
    have hp : 2 ^ s.toNat ≤ 2 ^ 12 := Nat.pow_le_pow_right (by decide) (by omega)
    have hp8 : (2 : Nat) ^ 12 = 4096 := by decide
    have e2 := fg_os_s (μ 206) s.toNat
    rw [es] at e2
    have f1 := zT_get hT zs205_6 (i := 6) (by omega) (by omega)
    refine pm_blk hK zmm208 [] 3 159 [(2, 205), (0, w), (0, z), (0, s)] [(0, μ 205 6), (0, s)] μ [] rfl trivial ?_
    refine pm_icmp hK zmm208 .ge 23 182 rfl rfl (fun h0 => ?_) (fun h0 => ?_)
    · have h0 : μ 205 6 ≤ s := h0
      refine pm_blk hK zmm208 [] 1 183 [(2, 205), (0, w), (0, z), (0, s)] [(0, z)] μ [] rfl trivial ?_
      have ek : s.toNat = (μ 205 6).toNat := by omega
      exact pm_iret rfl rfl ⟨hT, by rw [hz, ek, hb2 206 (by decide), hb1 6 (by decide)], hb1, hb2⟩
    · have h0 : s < μ 205 6 := h0
      refine pm_blk hK zmm208 [] 2 164 [(2, 205), (0, w), (0, z), (0, s)] [(0, s), (2, 205)] μ [] rfl trivial ?_
      refine pm_call hK zmm208 (356, 0, 297, 1) zM297 (0, 0) [(2, 205), (0, s)] [] rfl rfl rfl rfl ⟨by omega, by rw [zn297]; omega⟩ (zh_isOpen hK (s := s) hT ⟨by omega, by omega⟩ ⟨Nat.le_refl _, Nat.le_refl _⟩) (fun st1 μc1 hp1 => ?_)
      obtain ⟨rfl, rfl⟩ := hp1
      refine pm_if hK zmm208 .eq 9 176 rfl rfl (fun h1 => ?_) (fun h1 => ?_)
      · have h1 : (if μ 206 (40 + (s)) = 0 then 1 else 0 : Int) = (0 : Int) := h1
        have h1 := zif0 h1
        refine pm_blk hK zmm208 [] 2 154 [(2, 205), (0, w), (0, z), (0, s + 1)] [] μ [pm_in (s + 1)] rfl ⟨pm_in_mk (by omega) (by omega), trivial⟩ ?_
        refine ih _ (by omega) rfl ⟨by omega, by omega⟩ ?_
        rw [e1, e2]
        first
        | (rw [h1, hz]; exact eo)
        | (rw [if_neg (by omega)]; exact hz)
        | (exfalso; omega)
      · have h1 : (if μ 206 (40 + (s)) = 0 then 1 else 0 : Int) ≠ (0 : Int) := h1
        have h1 := zif1 h1
        have h40 : μ 206 (40 + s) = 0 := by omega
        have h1 := zshl1 s.toNat (by omega)
        rw [es] at h1
        have eo := zor (x := z) (y := ((2 ^ s.toNat : Nat) : Int)) (by omega) (by omega) (by omega) (by omega)
        rw [Int.toNat_natCast, hz, Int.toNat_natCast] at eo
        rw [if_pos h40] at e2
        refine pm_blk hK zmm208 [] 8 154 [(2, 205), (0, w), (0, pm_or z (pm_shl 1 s)), (0, s + 1)] [] μ [pm_in (s + 1)] rfl ⟨pm_in_mk (by omega) (by omega), trivial⟩ ?_
        refine ih _ (by omega) rfl ⟨by omega, by omega⟩ ?_
        rw [e1, e2]
        first
        | (rw [h1, hz]; exact eo)
        | (rw [if_neg (by omega)]; exact hz)
        | (exfalso; omega)
set_option maxRecDepth 100000 in
theorem fs_look (hK : zKK ST) {w : Int} (hT : zTJ φ μ) (hb205 : sx_bit Wm 205 = true) (hbd : 1 ≤ bud.1 ∧ 22 ≤ bud.2.1) : zC D Wm ST b0 l Sg zM208 bud [(2, 205), (0, w)] μ (fun st' μ' => zTJ φ μ' ∧ st' = [(0, fg_look (μ 205 6) (μ 205 7) (μ 206) (μ 213 0) (μ 205 33) (μ 205 35) (μ 205 37) (μ 205 3) w)] ∧ (∀ k : Int, k ≠ 0 → μ' 205 k = μ 205 k) ∧ ∀ r, r ≠ 205 → μ' r = μ r) := by
  have f6 := zT_get hT zs205_6 (i := 6) (by omega) (by omega)
  refine pm_blk hK zmm208 [] 3 5 [(2, 205), (0, w), (9, 0), (9, 0)] [] (pm_up μ 205 0 0) [sx_bit Wm 205 = true] rfl ⟨hb205, trivial⟩ ?_
  obtain ⟨μ1, eμ1⟩ : ∃ μ', μ' = pm_up μ 205 0 0 := ⟨_, rfl⟩
  rw [← eμ1]
  have hTμ1 : zTJ φ μ1 := by rw [eμ1]; exact zT_up hT zs205_0 rfl (i := 0) (by omega) (by omega) (by omega) (by omega)
  have b1 : ∀ k : Int, k ≠ 0 → μ1 205 k = μ 205 k := fun k hk => by rw [eμ1, pm_up_ne hk]
  have b2 : ∀ r, r ≠ 205 → μ1 r = μ r := fun r hr => by rw [eμ1, pm_up_row hr]
  refine pm_blk hK zmm208 [] 1 6 [(2, 205), (0, w), (9, 0), (9, 0)] [(0, w)] μ1 [] rfl trivial ?_
  refine pm_if hK zmm208 .ne 8 14 rfl rfl (fun h0 => ?_) (fun h0 => ?_)
  · have h0 : w ≠ (0 : Int) := h0
    refine pm_blk hK zmm208 [] 2 16 [(2, 205), (0, w), (9, 0), (9, 0)] [(0, 1), (0, w)] μ1 [] rfl trivial ?_
    refine pm_icmp hK zmm208 .ne 8 24 rfl rfl (fun h1 => ?_) (fun h1 => ?_)
    · have h1 : w ≠ (1 : Int) := h1
      refine pm_blk hK zmm208 [] 2 26 [(2, 205), (0, w), (9, 0), (9, 0)] [(0, 2), (0, w)] μ1 [] rfl trivial ?_
      refine pm_icmp hK zmm208 .ne 10 36 rfl rfl (fun h2 => ?_) (fun h2 => ?_)
      · have h2 : w ≠ (2 : Int) := h2
        refine pm_blk hK zmm208 [] 2 38 [(2, 205), (0, w), (9, 0), (9, 0)] [(0, 3), (0, w)] μ1 [] rfl trivial ?_
        refine pm_icmp hK zmm208 .ne 10 48 rfl rfl (fun h3 => ?_) (fun h3 => ?_)
        · have h3 : w ≠ (3 : Int) := h3
          refine pm_blk hK zmm208 [] 2 50 [(2, 205), (0, w), (9, 0), (9, 0)] [(0, 4), (0, w)] μ1 [] rfl trivial ?_
          refine pm_icmp hK zmm208 .ne 8 58 rfl rfl (fun h4 => ?_) (fun h4 => ?_)
          · have h4 : w ≠ (4 : Int) := h4
            refine pm_blk hK zmm208 [] 2 61 [(2, 205), (0, w), (9, 0), (9, 0)] [(0, 6), (0, w)] μ1 [] rfl trivial ?_
            refine pm_icmp hK zmm208 .ne 10 71 rfl rfl (fun h5 => ?_) (fun h5 => ?_)
            · have h5 : w ≠ (6 : Int) := h5
              refine pm_blk hK zmm208 [] 2 74 [(2, 205), (0, w), (9, 0), (9, 0)] [(0, 7), (0, w)] μ1 [] rfl trivial ?_
              refine pm_icmp hK zmm208 .ne 10 84 rfl rfl (fun h6 => ?_) (fun h6 => ?_)
              · have h6 : w ≠ (7 : Int) := h6
                refine pm_blk hK zmm208 [] 2 87 [(2, 205), (0, w), (9, 0), (9, 0)] [(0, 8), (0, w)] μ1 [] rfl trivial ?_
                refine pm_icmp hK zmm208 .ne 10 97 rfl rfl (fun h7 => ?_) (fun h7 => ?_)
                · have h7 : w ≠ (8 : Int) := h7
                  refine pm_blk hK zmm208 [] 2 100 [(2, 205), (0, w), (9, 0), (9, 0)] [(0, 9), (0, w)] μ1 [] rfl trivial ?_
                  refine pm_icmp hK zmm208 .ne 8 108 rfl rfl (fun h8 => ?_) (fun h8 => ?_)
                  · have h8 : w ≠ (9 : Int) := h8
                    refine pm_blk hK zmm208 [] 2 111 [(2, 205), (0, w), (9, 0), (9, 0)] [(0, 10), (0, w)] μ1 [] rfl trivial ?_
                    refine pm_icmp hK zmm208 .ne 8 119 rfl rfl (fun h9 => ?_) (fun h9 => ?_)
                    · have h9 : w ≠ (10 : Int) := h9
                      refine pm_blk hK zmm208 [] 2 122 [(2, 205), (0, w), (9, 0), (9, 0)] [(0, 11), (0, w)] μ1 [] rfl trivial ?_
                      refine pm_icmp hK zmm208 .ne 8 130 rfl rfl (fun h10 => ?_) (fun h10 => ?_)
                      · have h10 : w ≠ (11 : Int) := h10
                        refine pm_blk hK zmm208 [] 2 133 [(2, 205), (0, w), (9, 0), (9, 0)] [(0, 12), (0, w)] μ1 [] rfl trivial ?_
                        refine pm_icmp hK zmm208 .ne 8 141 rfl rfl (fun h11 => ?_) (fun h11 => ?_)
                        · have h11 : w ≠ (12 : Int) := h11
                          refine pm_blk hK zmm208 [] 2 143 [(2, 205), (0, w), (9, 0), (9, 0)] [(0, 5), (0, w)] μ1 [] rfl trivial ?_
                          refine pm_icmp hK zmm208 .eq 7 150 rfl rfl (fun h12 => ?_) (fun h12 => ?_)
                          · have h12 : w = (5 : Int) := h12
                            refine pm_blk hK zmm208 [] 4 154 [(2, 205), (0, w), (0, 0), (0, 0)] [] μ1 [] rfl trivial ?_
                            have b6 := b1 6 (by decide)
                            refine pm_then (fs_osl hK (μ0 := μ) hTμ1 b1 b2 ⟨by omega, by omega⟩ _ (z := 0) (s := 0) rfl ⟨by omega, by omega⟩ rfl) (fun _ _ st9 μ9 hX9 => ?_)
                            obtain ⟨h10, h11, h12, h13, h14⟩ := hX9
                            exact pm_exit ⟨h10, h11, by rw [h12]; unfold fg_look; rw [if_neg (by omega), if_neg (by omega), if_neg (by omega), if_neg (by omega), if_neg (by omega), if_pos (show w = 5 by omega)], h13, h14⟩
                          · have h12 : w ≠ (5 : Int) := h12
                            refine pm_blk hK zmm208 [] 1 149 [(2, 205), (0, w), (9, 0), (9, 0)] [(0, (-100000))] μ1 [] rfl trivial ?_
                            exact pm_iret rfl rfl ⟨hTμ1, by unfold fg_look; rw [if_neg (by omega), if_neg (by omega), if_neg (by omega), if_neg (by omega), if_neg (by omega), if_neg (by omega), if_neg (by omega), if_neg (by omega), if_neg (by omega), if_neg (by omega), if_neg (by omega), if_neg (by omega), if_neg (by omega)], b1, b2⟩
                        · have h11 : w = (12 : Int) := h11
                          have f1 := zT_get hTμ1 zs205_3 (i := 3) (by omega) (by omega)
                          refine pm_blk hK zmm208 [] 2 140 [(2, 205), (0, w), (9, 0), (9, 0)] [(0, μ1 205 3)] μ1 [] rfl trivial ?_
                          exact pm_iret rfl rfl ⟨hTμ1, by unfold fg_look; rw [if_neg (by omega), if_neg (by omega), if_neg (by omega), if_neg (by omega), if_neg (by omega), if_neg (by omega), if_neg (by omega), if_neg (by omega), if_neg (by omega), if_neg (by omega), if_neg (by omega), if_neg (by omega), if_pos (show w = 12 by omega), b1 3 (by decide)], b1, b2⟩
                      · have h10 : w = (11 : Int) := h10
                        have f2 := zT_get hTμ1 zs205_37 (i := 37) (by omega) (by omega)
                        refine pm_blk hK zmm208 [] 2 129 [(2, 205), (0, w), (9, 0), (9, 0)] [(0, μ1 205 37)] μ1 [] rfl trivial ?_
                        exact pm_iret rfl rfl ⟨hTμ1, by unfold fg_look; rw [if_neg (by omega), if_neg (by omega), if_neg (by omega), if_neg (by omega), if_neg (by omega), if_neg (by omega), if_neg (by omega), if_neg (by omega), if_neg (by omega), if_neg (by omega), if_neg (by omega), if_pos (show w = 11 by omega), b1 37 (by decide)], b1, b2⟩
                    · have h9 : w = (10 : Int) := h9
                      have f3 := zT_get hTμ1 zs205_35 (i := 35) (by omega) (by omega)
                      refine pm_blk hK zmm208 [] 2 118 [(2, 205), (0, w), (9, 0), (9, 0)] [(0, μ1 205 35)] μ1 [] rfl trivial ?_
                      exact pm_iret rfl rfl ⟨hTμ1, by unfold fg_look; rw [if_neg (by omega), if_neg (by omega), if_neg (by omega), if_neg (by omega), if_neg (by omega), if_neg (by omega), if_neg (by omega), if_neg (by omega), if_neg (by omega), if_neg (by omega), if_pos (show w = 10 by omega), b1 35 (by decide)], b1, b2⟩
                  · have h8 : w = (9 : Int) := h8
                    have f4 := zT_get hTμ1 zs205_33 (i := 33) (by omega) (by omega)
                    refine pm_blk hK zmm208 [] 2 107 [(2, 205), (0, w), (9, 0), (9, 0)] [(0, μ1 205 33)] μ1 [] rfl trivial ?_
                    exact pm_iret rfl rfl ⟨hTμ1, by unfold fg_look; rw [if_neg (by omega), if_neg (by omega), if_neg (by omega), if_neg (by omega), if_neg (by omega), if_neg (by omega), if_neg (by omega), if_neg (by omega), if_neg (by omega), if_pos (show w = 9 by omega), b1 33 (by decide)], b1, b2⟩
                · have h7 : w = (8 : Int) := h7
                  have g5 : μ1 213 0 = μ 213 0 := by rw [eμ1, pm_up_off (by decide)]
                  have f6 := zT_get hTμ1 zs213_0 (i := 0) (by omega) (by omega)
                  refine pm_blk hK zmm208 [] 4 96 [(2, 205), (0, w), (9, 0), (9, 0)] [(0, μ1 213 0)] μ1 [0 ≤ 0 ∧ 0 < 2] rfl ⟨⟨by omega, by omega⟩, trivial⟩ ?_
                  exact pm_iret rfl rfl ⟨hTμ1, by unfold fg_look; rw [if_neg (by omega), if_neg (by omega), if_neg (by omega), if_neg (by omega), if_neg (by omega), if_neg (by omega), if_neg (by omega), if_neg (by omega), if_pos (show w = 8 by omega), b2 213 (by decide)], b1, b2⟩
              · have h6 : w = (7 : Int) := h6
                have g7 : μ1 206 2 = μ 206 2 := by rw [eμ1, pm_up_off (by decide)]
                have f8 := zT_get hTμ1 zs206_2 (i := 2) (by omega) (by omega)
                refine pm_blk hK zmm208 [] 4 83 [(2, 205), (0, w), (9, 0), (9, 0)] [(0, μ1 206 2)] μ1 [0 ≤ 2 ∧ 2 < 160] rfl ⟨⟨by omega, by omega⟩, trivial⟩ ?_
                exact pm_iret rfl rfl ⟨hTμ1, by unfold fg_look; rw [if_neg (by omega), if_neg (by omega), if_neg (by omega), if_neg (by omega), if_neg (by omega), if_neg (by omega), if_neg (by omega), if_pos (show w = 7 by omega), b2 206 (by decide)], b1, b2⟩
            · have h5 : w = (6 : Int) := h5
              have g9 : μ1 206 3 = μ 206 3 := by rw [eμ1, pm_up_off (by decide)]
              have f10 := zT_get hTμ1 zs206_3 (i := 3) (by omega) (by omega)
              refine pm_blk hK zmm208 [] 4 70 [(2, 205), (0, w), (9, 0), (9, 0)] [(0, μ1 206 3)] μ1 [0 ≤ 3 ∧ 3 < 160] rfl ⟨⟨by omega, by omega⟩, trivial⟩ ?_
              exact pm_iret rfl rfl ⟨hTμ1, by unfold fg_look; rw [if_neg (by omega), if_neg (by omega), if_neg (by omega), if_neg (by omega), if_neg (by omega), if_neg (by omega), if_pos (show w = 6 by omega), b2 206 (by decide)], b1, b2⟩
          · have h4 : w = (4 : Int) := h4
            refine pm_blk hK zmm208 [] 1 54 [(2, 205), (0, w), (9, 0), (9, 0)] [(2, 205)] μ1 [] rfl trivial ?_
            refine pm_call hK zmm208 (540, 0, 209, 0) zM209 (0, 0) [(2, 205)] [] rfl rfl rfl rfl ⟨by omega, by rw [zn209]; omega⟩ (fs_latest hK hTμ1 ⟨Nat.le_refl _, Nat.le_refl _⟩) (fun st1 μc1 hp1 => ?_)
            obtain ⟨rfl, rfl⟩ := hp1
            exact pm_iret rfl rfl ⟨hTμ1, by unfold fg_look; rw [if_neg (by omega), if_neg (by omega), if_neg (by omega), if_neg (by omega), if_pos (show w = 4 by omega), b2 206 (by decide), b1 6 (by decide)], b1, b2⟩
        · have h3 : w = (3 : Int) := h3
          have g11 : μ1 206 0 = μ 206 0 := by rw [eμ1, pm_up_off (by decide)]
          have f12 := zT_get hTμ1 zs206_0 (i := 0) (by omega) (by omega)
          refine pm_blk hK zmm208 [] 4 47 [(2, 205), (0, w), (9, 0), (9, 0)] [(0, μ1 206 0)] μ1 [0 ≤ 0 ∧ 0 < 160] rfl ⟨⟨by omega, by omega⟩, trivial⟩ ?_
          exact pm_iret rfl rfl ⟨hTμ1, by unfold fg_look; rw [if_neg (by omega), if_neg (by omega), if_neg (by omega), if_pos (show w = 3 by omega), b2 206 (by decide)], b1, b2⟩
      · have h2 : w = (2 : Int) := h2
        have g13 : μ1 206 1 = μ 206 1 := by rw [eμ1, pm_up_off (by decide)]
        have f14 := zT_get hTμ1 zs206_1 (i := 1) (by omega) (by omega)
        refine pm_blk hK zmm208 [] 4 35 [(2, 205), (0, w), (9, 0), (9, 0)] [(0, μ1 206 1)] μ1 [0 ≤ 1 ∧ 1 < 160] rfl ⟨⟨by omega, by omega⟩, trivial⟩ ?_
        exact pm_iret rfl rfl ⟨hTμ1, by unfold fg_look; rw [if_neg (by omega), if_neg (by omega), if_pos (show w = 2 by omega), b2 206 (by decide)], b1, b2⟩
    · have h1 : w = (1 : Int) := h1
      have f15 := zT_get hTμ1 zs205_7 (i := 7) (by omega) (by omega)
      refine pm_blk hK zmm208 [] 2 23 [(2, 205), (0, w), (9, 0), (9, 0)] [(0, μ1 205 7)] μ1 [] rfl trivial ?_
      exact pm_iret rfl rfl ⟨hTμ1, by unfold fg_look; rw [if_neg (by omega), if_pos (show w = 1 by omega), b1 7 (by decide)], b1, b2⟩
  · have h0 : w = (0 : Int) := h0
    have f16 := zT_get hTμ1 zs205_6 (i := 6) (by omega) (by omega)
    refine pm_blk hK zmm208 [] 2 13 [(2, 205), (0, w), (9, 0), (9, 0)] [(0, μ1 205 6)] μ1 [] rfl trivial ?_
    exact pm_iret rfl rfl ⟨hTμ1, by unfold fg_look; rw [if_pos (show w = 0 by omega), b1 6 (by decide)], b1, b2⟩
end ZHW
