/-! year, both sides; walks printed by program (wip/p30/pmgen.py) and filled by hand -/
section ZHW
variable {D : va_G} {Wm : Nat} {ST : List (String × String × String × Nat)} {b0 : sx_B} {l : Launch} {Sg : Nat → Option Nat} {bud : sx_Bu} {μ : pm_Mem} {B0 : Nat → Prop} {J : (Nat → Option Nat) → Heap → Prop}
set_option maxRecDepth 100000 in
theorem zx_la2 (hK : zKK ST)  {y i s T : Int} (hs : 0 ≤ s ∧ s ≤ 12) (hG : ∀ q ∈ zGT, sx_gtok zCDs (zAS ST) zTB Sg q) (K : ∀ (r a : Int) (μ : pm_Mem), 0 ≤ r ∧ r ≤ 3999 → 0 ≤ a ∧ a ≤ 6 * s + 6 → zxn (zxO (12 - s).toNat r) (i - a) = T → zTJ μ → zW D Wm ST b0 l Sg zM103 bud (pm_X zM103 (fun st' μ' => zTJ μ' ∧ st' = [(0, T)])) 90 [(0, y), (0, i), (0, r), (0, a), (0, s), (9, 0)] [] μ) (hbd : 0 ≤ bud.1 ∧ 0 ≤ bud.2.1) : ∀ (n : Nat) {r a t : Int} {μ : pm_Mem}, (3 - t).toNat = n → ∀ (ht : 0 ≤ t ∧ t ≤ 3) (hr : 0 ≤ r ∧ r ≤ 3999) (ha : 0 ≤ a ∧ a ≤ 6 * s + 2 * t) (hz : zxn (zxP (3 - t).toNat s r) (i - a) = T) (hT : zTJ μ), zW D Wm ST b0 l Sg zM103 bud (pm_X zM103 (fun st' μ' => zTJ μ' ∧ st' = [(0, T)])) 19 [(0, y), (0, i), (0, r), (0, a), (0, s), (0, t)] [] μ := by
  intro n
  induction n using Nat.strongRecOn with
  | ind n ih =>
    intro r a t μ hn ht hr ha hz hT
    have gW := zxW_bd hs.1 hs.2
    refine pm_blk hK zmm103 [] 2 22 [(0, y), (0, i), (0, r), (0, a), (0, s), (0, t)] [(0, 3), (0, t)] μ [] rfl trivial ?_
    refine pm_icmp hK zmm103 .ge 68 90 rfl rfl (fun h0 => ?_) (fun h0 => ?_)
    · have h0 : (3 : Int) ≤ t := h0
      refine pm_hide [5] ?_
      exact K _ _ _ ⟨by omega, by omega⟩ ⟨by omega, by omega⟩ (by rw [zxP_end (by omega)] at hz; exact hz) hT
    · have h0 : t < (3 : Int) := h0
      refine pm_blk hK zmm103 [] 1 26 [(0, y), (0, i), (0, r), (0, a), (0, s), (0, t)] [(0, r)] μ [] rfl trivial ?_
      refine zp_gst hK zmm103 (hG (5, 74, ("ArcadePoles$Puzzles", "SIGN_WORTH", "[I"), 247) (List.mem_of_getElem? (i := 1) rfl)) rfl rfl rfl ?_
      refine pm_blk hK zmm103 [] 2 32 [(0, y), (0, i), (0, r), (0, a), (0, s), (0, t)] [(0, μ 247 s), (0, r)] μ [0 ≤ s ∧ s < 13] rfl ⟨⟨by omega, by omega⟩, trivial⟩ ?_
      have w1 := zxW_at hT hs.1 hs.2
      refine pm_icmp hK zmm103 .lt 58 90 rfl rfl (fun h1 => ?_) (fun h1 => ?_)
      · have h1 : r < μ 247 s := h1
        refine pm_hide [5] ?_
        exact K _ _ _ ⟨by omega, by omega⟩ ⟨by omega, by omega⟩ (by rw [zxP_end (by omega)] at hz; exact hz) hT
      · have h1 : μ 247 s ≤ r := h1
        refine pm_blk hK zmm103 [] 1 36 [(0, y), (0, i), (0, r), (0, a), (0, s), (0, t)] [(0, r)] μ [] rfl trivial ?_
        refine zp_gst hK zmm103 (hG (5, 74, ("ArcadePoles$Puzzles", "SIGN_WORTH", "[I"), 247) (List.mem_of_getElem? (i := 1) rfl)) rfl rfl rfl ?_
        refine pm_blk hK zmm103 [] 6 46 [(0, y), (0, i), (0, r - (μ 247 s)), (0, a), (0, s), (0, t)] [(0, i), (0, a)] μ [0 ≤ s ∧ s < 13, pm_in (r - (μ 247 s))] rfl ⟨⟨by omega, by omega⟩, pm_in_mk (by omega) (by omega), trivial⟩ ?_
        refine pm_icmp hK zmm103 .ne 10 56 rfl rfl (fun h2 => ?_) (fun h2 => ?_)
        · have h2 : a ≠ i := h2
          refine pm_blk hK zmm103 [] 1 59 [(0, y), (0, i), (0, r - (μ 247 s)), (0, a + 1), (0, s), (0, t)] [] μ [pm_in (a + 1)] rfl ⟨pm_in_mk (by omega) (by omega), trivial⟩ ?_
          refine zp_gst hK zmm103 (hG (5, 80, ("ArcadePoles$Puzzles", "SIGN_SECOND", "[I"), 249) (List.mem_of_getElem? (i := 3) rfl)) rfl rfl rfl ?_
          refine pm_blk hK zmm103 [] 3 66 [(0, y), (0, i), (0, r - (μ 247 s)), (0, a + 1), (0, s), (0, t)] [(0, (-1)), (0, μ 249 s)] μ [0 ≤ s ∧ s < 13] rfl ⟨⟨by omega, by omega⟩, trivial⟩ ?_
          have g1 := zxG_at hT hs.1 hs.2
          refine pm_icmp hK zmm103 .eq 18 84 rfl rfl (fun h3 => ?_) (fun h3 => ?_)
          · have h3 : μ 249 s = ((-1) : Int) := h3
            refine pm_blk hK zmm103 [] 2 19 [(0, y), (0, i), (0, r - (μ 247 s)), (0, a + 1), (0, s), (0, t + 1)] [] μ [pm_in (t + 1)] rfl ⟨pm_in_mk (by omega) (by omega), trivial⟩ ?_
            rw [show (3 - t).toNat = (3 - (t + 1)).toNat + 1 by omega] at hz
            first
            | (rw [zxP_1 (by omega) (by omega), zxn_s (by omega)] at hz; exact ih _ (by omega) rfl ⟨by omega, by omega⟩ ⟨by omega, by omega⟩ ⟨by omega, by omega⟩ (by rw [w1, show i - (a + 1) = i - a - 1 by omega]; exact hz) hT)
            | (rw [zxP_2 (by omega) (by omega), zxn_s (by omega), zxn_s (by omega)] at hz; exact ih _ (by omega) rfl ⟨by omega, by omega⟩ ⟨by omega, by omega⟩ ⟨by omega, by omega⟩ (by rw [w1, show i - (a + 1 + 1) = i - a - 1 - 1 by omega]; exact hz) hT)
          · have h3 : μ 249 s ≠ ((-1) : Int) := h3
            refine pm_blk hK zmm103 [] 2 71 [(0, y), (0, i), (0, r - (μ 247 s)), (0, a + 1), (0, s), (0, t)] [(0, i), (0, a + 1)] μ [] rfl trivial ?_
            refine pm_icmp hK zmm103 .ne 10 81 rfl rfl (fun h4 => ?_) (fun h4 => ?_)
            · have h4 : a + 1 ≠ i := h4
              refine pm_blk hK zmm103 [] 3 19 [(0, y), (0, i), (0, r - (μ 247 s)), (0, (a + 1) + 1), (0, s), (0, t + 1)] [] μ [pm_in ((a + 1) + 1), pm_in (t + 1)] rfl ⟨pm_in_mk (by omega) (by omega), pm_in_mk (by omega) (by omega), trivial⟩ ?_
              rw [show (3 - t).toNat = (3 - (t + 1)).toNat + 1 by omega] at hz
              first
              | (rw [zxP_1 (by omega) (by omega), zxn_s (by omega)] at hz; exact ih _ (by omega) rfl ⟨by omega, by omega⟩ ⟨by omega, by omega⟩ ⟨by omega, by omega⟩ (by rw [w1, show i - (a + 1) = i - a - 1 by omega]; exact hz) hT)
              | (rw [zxP_2 (by omega) (by omega), zxn_s (by omega), zxn_s (by omega)] at hz; exact ih _ (by omega) rfl ⟨by omega, by omega⟩ ⟨by omega, by omega⟩ ⟨by omega, by omega⟩ (by rw [w1, show i - (a + 1 + 1) = i - a - 1 - 1 by omega]; exact hz) hT)
            · have h4 : a + 1 = i := h4
              refine zp_gst hK zmm103 (hG (5, 80, ("ArcadePoles$Puzzles", "SIGN_SECOND", "[I"), 249) (List.mem_of_getElem? (i := 3) rfl)) rfl rfl rfl ?_
              refine pm_blk hK zmm103 [] 2 80 [(0, y), (0, i), (0, r - (μ 247 s)), (0, a + 1), (0, s), (0, t)] [(0, μ 249 s)] μ [0 ≤ s ∧ s < 13] rfl ⟨⟨by omega, by omega⟩, trivial⟩ ?_
              have g2 := zxG_at hT hs.1 hs.2
              rw [show (3 - t).toNat = (3 - (t + 1)).toNat + 1 by omega, zxP_2 (by omega) (by omega), zxn_s (by omega), show i - a - 1 = 0 by omega, zxn_0] at hz
              exact pm_iret rfl rfl ⟨hT, by rw [g2, hz]⟩
        · have h2 : a = i := h2
          refine zp_gst hK zmm103 (hG (5, 77, ("ArcadePoles$Puzzles", "SIGN_FIRST", "[I"), 248) (List.mem_of_getElem? (i := 2) rfl)) rfl rfl rfl ?_
          refine pm_blk hK zmm103 [] 2 55 [(0, y), (0, i), (0, r - (μ 247 s)), (0, a), (0, s), (0, t)] [(0, μ 248 s)] μ [0 ≤ s ∧ s < 13] rfl ⟨⟨by omega, by omega⟩, trivial⟩ ?_
          have f1 := zxF_at hT hs.1 hs.2
          obtain ⟨tl, el⟩ := zxP_f (n := (3 - (t + 1)).toNat) (s := s) (r := r) (by omega)
          rw [show (3 - t).toNat = (3 - (t + 1)).toNat + 1 by omega, el, show i - a = 0 by omega, zxn_0] at hz
          exact pm_iret rfl rfl ⟨hT, by rw [f1, hz]⟩
set_option maxRecDepth 100000 in
theorem zx_la1 (hK : zKK ST)  {y i T : Int} (hG : ∀ q ∈ zGT, sx_gtok zCDs (zAS ST) zTB Sg q) (hbd : 0 ≤ bud.1 ∧ 0 ≤ bud.2.1) : ∀ (n : Nat) {r a s : Int} {μ : pm_Mem}, (13 - s).toNat = n → ∀ (hs : 0 ≤ s ∧ s ≤ 13) (hr : 0 ≤ r ∧ r ≤ 3999) (ha : 0 ≤ a ∧ a ≤ 6 * s) (hz : zxn (zxO (13 - s).toNat r) (i - a) = T) (hT : zTJ μ), zW D Wm ST b0 l Sg zM103 bud (pm_X zM103 (fun st' μ' => zTJ μ' ∧ st' = [(0, T)])) 7 [(0, y), (0, i), (0, r), (0, a), (0, s), (9, 0)] [] μ := by
  intro n
  induction n using Nat.strongRecOn with
  | ind n ih =>
    intro r a s μ hn hs hr ha hz hT
    refine pm_blk hK zmm103 [] 1 9 [(0, y), (0, i), (0, r), (0, a), (0, s), (9, 0)] [(0, s)] μ [] rfl trivial ?_
    refine zp_gst hK zmm103 (hG (5, 74, ("ArcadePoles$Puzzles", "SIGN_WORTH", "[I"), 247) (List.mem_of_getElem? (i := 1) rfl)) rfl rfl rfl ?_
    refine pm_blk hK zmm103 [] 1 13 [(0, y), (0, i), (0, r), (0, a), (0, s), (9, 0)] [(0, 13), (0, s)] μ [] rfl trivial ?_
    refine pm_icmp hK zmm103 .ge 83 96 rfl rfl (fun h0 => ?_) (fun h0 => ?_)
    · have h0 : (13 : Int) ≤ s := h0
      refine pm_blk hK zmm103 [] 1 97 [(0, y), (0, i), (0, r), (0, a), (0, s), (9, 0)] [(0, (-1))] μ [] rfl trivial ?_
      rw [show (13 - s).toNat = 0 by omega] at hz
      have hz2 : -1 = T := (zxn_nil (i - a)).symm.trans hz
      exact pm_iret rfl rfl ⟨hT, by rw [← hz2]⟩
    · have h0 : s < (13 : Int) := h0
      refine pm_blk hK zmm103 [] 2 19 [(0, y), (0, i), (0, r), (0, a), (0, s), (0, 0)] [] μ [] rfl trivial ?_
      refine zx_la2 hK (y := y) (i := i) (s := s) (T := T) ⟨by omega, by omega⟩ hG (fun r a μ hr ha hz hT => ?_) hbd _ (r := r) (a := a) (t := 0) rfl ⟨by omega, by omega⟩ hr ⟨by omega, by omega⟩ (by rw [show (3 - 0 : Int).toNat = 3 from rfl, ← zxP_3 (by omega) (by omega)]; exact hz) hT
      refine pm_blk hK zmm103 [] 2 7 [(0, y), (0, i), (0, r), (0, a), (0, s + 1), (9, 0)] [] μ [pm_in (s + 1)] rfl ⟨pm_in_mk (by omega) (by omega), trivial⟩ ?_
      exact ih _ (by omega) rfl ⟨by omega, by omega⟩ hr ⟨by omega, by omega⟩ (by rw [show 13 - (s + 1) = 12 - s by omega]; exact hz) hT
set_option maxRecDepth 100000 in
theorem zx_letterAt (hK : zKK ST) {y i : Int} (hy : 0 ≤ y ∧ y ≤ 3999) (hT : zTJ μ) (hG : ∀ q ∈ zGT, sx_gtok zCDs (zAS ST) zTB Sg q) (hbd : 0 ≤ bud.1 ∧ 0 ≤ bud.2.1) : zC D Wm ST b0 l Sg zM103 bud [(0, y), (0, i)] μ (fun st' μ' => zTJ μ' ∧ st' = [(0, zxn (zxY y) i)]) := by
  refine pm_blk hK zmm103 [] 6 7 [(0, y), (0, i), (0, y), (0, 0), (0, 0), (9, 0)] [] μ [] rfl trivial ?_
  exact zx_la1 hK hG hbd _ (r := y) (a := 0) (s := 0) rfl ⟨by omega, by omega⟩ hy ⟨by omega, by omega⟩ (by rw [show (13 - 0 : Int).toNat = 13 from rfl, zxO_eq hy.1 hy.2, Int.sub_zero]) hT
set_option maxRecDepth 100000 in
theorem zh_yearx (hK : zKK ST) {y w : Int} (hw : pm_in w) (hT : zTJ μ) (hG : ∀ q ∈ zGT, sx_gtok zCDs (zAS ST) zTB Sg q) (hbd : 3 ≤ bud.1 ∧ 67 ≤ bud.2.1) : zC D Wm ST b0 l Sg zM100 bud [(2, 1), (0, y), (0, w)] μ (fun st' μ' => zTJ μ' ∧ st' = [(0, zyz y w)]) := by
  refine pm_blk hK zmm100 [45] 3 5 [(2, 1), (0, y), (0, w)] [(0, 3999), (0, 1), (0, y)] μ [] rfl trivial ?_
  refine pm_call hK zmm100 (94, 1, 16, 3) zM16 (0, 0) [(0, y), (0, 1), (0, 3999)] [] rfl rfl rfl rfl ⟨by omega, by rw [zn16]; omega⟩ (zh_within hK ⟨Nat.le_refl _, Nat.le_refl _⟩) (fun st1 μc1 hp1 => ?_)
  obtain ⟨rfl, rfl⟩ := hp1
  refine pm_if hK zmm100 .ne 5 13 rfl rfl (fun h0 => ?_) (fun h0 => ?_)
  · have h0 : (if 1 ≤ y ∧ y ≤ 3999 then 1 else 0 : Int) ≠ (0 : Int) := h0
    have h0 := zif1 h0
    refine pm_blk hK zmm100 [45] 1 14 [(2, 1), (0, y), (0, w)] [(0, w)] μ [] rfl trivial ?_
    refine pm_if hK zmm100 .ne 8 22 rfl rfl (fun h1 => ?_) (fun h1 => ?_)
    · have h1 : w ≠ (0 : Int) := h1
      refine pm_blk hK zmm100 [45] 3 27 [(2, 1), (0, y), (0, w)] [(0, 115), (0, 101), (0, w)] μ [] rfl trivial ?_
      refine pm_call hK zmm100 (94, 1, 16, 3) zM16 (0, 0) [(0, w), (0, 101), (0, 115)] [] rfl rfl rfl rfl ⟨by omega, by rw [zn16]; omega⟩ (zh_within hK ⟨Nat.le_refl _, Nat.le_refl _⟩) (fun st2 μc2 hp2 => ?_)
      obtain ⟨rfl, rfl⟩ := hp2
      refine pm_if hK zmm100 .eq 12 42 rfl rfl (fun h2 => ?_) (fun h2 => ?_)
      · have h2 : (if 101 ≤ w ∧ w ≤ 115 then 1 else 0 : Int) = (0 : Int) := h2
        have h2 := zif0 h2
        have w1 := zw32 (w - 1)
        refine pm_blk hK zmm100 [45] 4 46 [(2, 1), (0, y), (0, w)] [(0, pm_w32 (w - 1)), (0, y)] μ [] rfl trivial ?_
        refine pm_call hK zmm100 (371, 1, 103, 2) zM103 (0, 0) [(0, y), (0, pm_w32 (w - 1))] [] rfl rfl rfl rfl ⟨by omega, by rw [zn103]; omega⟩ (zx_letterAt hK (y := y) (i := (pm_w32 (w - 1))) ⟨by omega, by omega⟩ hT hG ⟨Nat.le_refl _, Nat.le_refl _⟩) (fun st3 μc3 hp3 => ?_)
        obtain ⟨hTc3, rfl⟩ := hp3
        exact pm_iret rfl rfl ⟨hTc3, by rw [zyz_2 ⟨by omega, by omega⟩ (by omega) (by omega), zxn_w (zxk_len (by omega) (by omega)).2 hw]⟩
      · have h2 : (if 101 ≤ w ∧ w ≤ 115 then 1 else 0 : Int) ≠ (0 : Int) := h2
        have h2 := zif1 h2
        refine pm_blk hK zmm100 [45] 4 38 [(2, 1), (0, y), (0, w)] [(0, w - 100), (0, y)] μ [pm_in (w - 100)] rfl ⟨pm_in_mk (by omega) (by omega), trivial⟩ ?_
        refine pm_call hK zmm100 (368, 1, 102, 2) zM102 (2, 44) [(0, y), (0, w - 100)] [] rfl rfl rfl rfl ⟨by omega, by rw [zn102]; omega⟩ (zx_yearsOf hK (y := y) (w := (w - 100)) ⟨by omega, by omega⟩ hT hG ⟨Nat.le_refl _, Nat.le_refl _⟩) (fun st4 μc4 hp4 => ?_)
        obtain ⟨hTc4, rfl⟩ := hp4
        exact pm_iret rfl rfl ⟨hTc4, by rw [zyz_1 ⟨by omega, by omega⟩ (by omega) ⟨by omega, by omega⟩]⟩
    · have h1 : w = (0 : Int) := h1
      refine pm_blk hK zmm100 [45] 1 18 [(2, 1), (0, y), (0, w)] [(0, y)] μ [] rfl trivial ?_
      refine pm_call hK zmm100 (365, 1, 101, 1) zM101 (1, 21) [(0, y)] [] rfl rfl rfl rfl ⟨by omega, by rw [zn101]; omega⟩ (zx_letters hK (y := y) ⟨by omega, by omega⟩ hT hG ⟨Nat.le_refl _, Nat.le_refl _⟩) (fun st5 μc5 hp5 => ?_)
      obtain ⟨hTc5, rfl⟩ := hp5
      exact pm_iret rfl rfl ⟨hTc5, by rw [zyz_0 ⟨by omega, by omega⟩ (by omega)]⟩
  · have h0 : (if 1 ≤ y ∧ y ≤ 3999 then 1 else 0 : Int) = (0 : Int) := h0
    have h0 := zif0 h0
    refine pm_blk hK zmm100 [45] 1 12 [(2, 1), (0, y), (0, w)] [(0, (-1))] μ [] rfl trivial ?_
    exact pm_iret rfl rfl ⟨hT, by rw [zyz_out (by omega)]⟩
set_option maxRecDepth 100000 in
theorem zx_ym (hK : zKK ST)  {y w T : Int} (hy : 1 ≤ y ∧ y ≤ 3999) (hw : 101 ≤ w ∧ w ≤ 115) (hTT : zxc (w - 100) y = T) (hb205 : sx_bit Wm 205 = true) (hb240 : sx_bit Wm 240 = true) (hbd : 3 ≤ bud.1 ∧ 65 ≤ bud.2.1) : ∀ (n : Nat) {c i : Int} {μ : pm_Mem}, (y + 1 - i).toNat = n → ∀ (hi : 1 ≤ i ∧ i ≤ y + 1) (hc : c = zxc (w - 100) (i - 1)) (hT : zTJ μ), zW D Wm ST b0 l Sg zM192 bud (pm_X zM192 (fun st' μ' => zTJ μ' ∧ st' = [(0, T)])) 36 [(2, 205), (0, y), (0, w), (0, c), (0, i)] [] μ := by
  intro n
  induction n using Nat.strongRecOn with
  | ind n ih =>
    intro c i μ hn hi hc hT
    have cb := zxc_bd (w := w - 100) (y := i - 1) (by omega)
    have cp := zxc_p (w := w - 100) hi.1
    refine pm_blk hK zmm192 [] 2 39 [(2, 205), (0, y), (0, w), (0, c), (0, i)] [(0, y), (0, i)] μ [] rfl trivial ?_
    refine pm_icmp hK zmm192 .gt 30 69 rfl rfl (fun h0 => ?_) (fun h0 => ?_)
    · have h0 : y < i := h0
      refine pm_blk hK zmm192 [] 1 70 [(2, 205), (0, y), (0, w), (0, c), (0, i)] [(0, c)] μ [] rfl trivial ?_
      have ei : i - 1 = y := by omega
      exact pm_iret rfl rfl ⟨hT, by rw [hc, ei, hTT]⟩
    · have h0 : i ≤ y := h0
      refine pm_blk hK zmm192 [] 2 45 [(2, 205), (0, y), (0, w), (0, c), (0, i)] [(0, i), (2, 205)] μ [] rfl trivial ?_
      refine pm_call hK zmm192 (492, 0, 210, 1) zM210 (2, 44) [(2, 205), (0, i)] [] rfl rfl rfl rfl ⟨by omega, by rw [zn210]; omega⟩ (zx_year hK (y := i) ⟨by omega, by omega⟩ hT hb205 hb240 ⟨Nat.le_refl _, Nat.le_refl _⟩) (fun st1 μc1 hp1 => ?_)
      obtain ⟨rfl, hTc1, hAc1⟩ := hp1
      have hl1 : μc1 205 62 = zxk 4 i := by rw [hAc1.1, (zxk_len (by omega) (by omega)).1]
      have f1 := zT_get hTc1 zs205_62 (i := 62) (by omega) (by omega)
      refine pm_blk hK zmm192 [] 5 56 [(2, 205), (0, y), (0, w), (0, c), (0, i)] [(0, w - 100), (0, μc1 205 62)] μc1 [pm_in (w - 100)] rfl ⟨pm_in_mk (by omega) (by omega), trivial⟩ ?_
      refine pm_icmp hK zmm192 .ne 7 63 rfl rfl (fun h1 => ?_) (fun h1 => ?_)
      · have h1 : μc1 205 62 ≠ w - 100 := h1
        refine pm_blk hK zmm192 [] 2 36 [(2, 205), (0, y), (0, w), (0, c), (0, i + 1)] [] μc1 [pm_in (i + 1)] rfl ⟨pm_in_mk (by omega) (by omega), trivial⟩ ?_
        first
        | (rw [if_pos (by omega)] at cp; exact ih _ (by omega) rfl ⟨by omega, by omega⟩ (by rw [show i + 1 - 1 = i by omega, cp, hc]) hTc1)
        | (rw [if_neg (by omega)] at cp; exact ih _ (by omega) rfl ⟨by omega, by omega⟩ (by rw [show i + 1 - 1 = i by omega, cp, hc, Int.add_zero]) hTc1)
      · have h1 : μc1 205 62 = w - 100 := h1
        refine pm_blk hK zmm192 [] 6 36 [(2, 205), (0, y), (0, w), (0, c + 1), (0, i + 1)] [] μc1 [pm_in (c + 1), pm_in (i + 1)] rfl ⟨pm_in_mk (by omega) (by omega), pm_in_mk (by omega) (by omega), trivial⟩ ?_
        first
        | (rw [if_pos (by omega)] at cp; exact ih _ (by omega) rfl ⟨by omega, by omega⟩ (by rw [show i + 1 - 1 = i by omega, cp, hc]) hTc1)
        | (rw [if_neg (by omega)] at cp; exact ih _ (by omega) rfl ⟨by omega, by omega⟩ (by rw [show i + 1 - 1 = i by omega, cp, hc, Int.add_zero]) hTc1)
set_option maxRecDepth 100000 in
theorem zh_yearm (hK : zKK ST) {y w : Int} (hw : pm_in w) (hT : zTJ μ) (hb205 : sx_bit Wm 205 = true) (hb240 : sx_bit Wm 240 = true) (hbd : 3 ≤ bud.1 ∧ 65 ≤ bud.2.1) : zC D Wm ST b0 l Sg zM192 bud [(2, 205), (0, y), (0, w)] μ (fun st' μ' => zTJ μ' ∧ st' = [(0, zyz y w)]) := by
  refine pm_blk hK zmm192 [] 3 5 [(2, 205), (0, y), (0, w), (9, 0), (9, 0)] [] (pm_up μ 205 0 0) [sx_bit Wm 205 = true] rfl ⟨hb205, trivial⟩ ?_
  obtain ⟨μ1, eμ1⟩ : ∃ μ', μ' = pm_up μ 205 0 0 := ⟨_, rfl⟩
  rw [← eμ1]
  have hTμ1 : zTJ μ1 := by rw [eμ1]; exact zT_up hT zs205_0 rfl (i := 0) (by omega) (by omega) (by omega) (by omega)
  refine pm_blk hK zmm192 [] 4 11 [(2, 205), (0, y), (0, w), (9, 0), (9, 0)] [(0, 3999), (0, 1), (0, y), (2, 205)] μ1 [] rfl trivial ?_
  refine pm_call hK zmm192 (158, 0, 129, 3) zM129 (0, 0) [(2, 205), (0, y), (0, 1), (0, 3999)] [] rfl rfl rfl rfl ⟨by omega, by rw [zn129]; omega⟩ (zh_isIn hK ⟨by omega, by omega⟩) (fun st1 μc1 hp1 => ?_)
  obtain ⟨rfl, rfl⟩ := hp1
  refine pm_if hK zmm192 .ne 5 19 rfl rfl (fun h0 => ?_) (fun h0 => ?_)
  · have h0 : (if 1 ≤ y ∧ y ≤ 3999 then 1 else 0 : Int) ≠ (0 : Int) := h0
    have h0 := zif1 h0
    refine pm_blk hK zmm192 [] 4 25 [(2, 205), (0, y), (0, w), (9, 0), (9, 0)] [(0, 115), (0, 101), (0, w), (2, 205)] μ1 [] rfl trivial ?_
    refine pm_call hK zmm192 (158, 0, 129, 3) zM129 (0, 0) [(2, 205), (0, w), (0, 101), (0, 115)] [] rfl rfl rfl rfl ⟨by omega, by rw [zn129]; omega⟩ (zh_isIn hK ⟨by omega, by omega⟩) (fun st2 μc2 hp2 => ?_)
    obtain ⟨rfl, rfl⟩ := hp2
    refine pm_if hK zmm192 .eq 43 71 rfl rfl (fun h1 => ?_) (fun h1 => ?_)
    · have h1 : (if 101 ≤ w ∧ w ≤ 115 then 1 else 0 : Int) = (0 : Int) := h1
      have h1 := zif0 h1
      refine pm_blk hK zmm192 [] 2 73 [(2, 205), (0, y), (0, w), (9, 0), (9, 0)] [(0, y), (2, 205)] μ1 [] rfl trivial ?_
      refine pm_call hK zmm192 (492, 0, 210, 1) zM210 (2, 44) [(2, 205), (0, y)] [] rfl rfl rfl rfl ⟨by omega, by rw [zn210]; omega⟩ (zx_year hK (y := y) ⟨by omega, by omega⟩ hTμ1 hb205 hb240 ⟨Nat.le_refl _, Nat.le_refl _⟩) (fun st3 μc3 hp3 => ?_)
      obtain ⟨rfl, hTc3, hAc3⟩ := hp3
      have hl3 : μc3 205 62 = zxk 4 y := by rw [hAc3.1, (zxk_len (by omega) (by omega)).1]
      refine pm_blk hK zmm192 [] 1 77 [(2, 205), (0, y), (0, w), (9, 0), (9, 0)] [(0, w)] μc3 [] rfl trivial ?_
      refine pm_if hK zmm192 .ne 10 87 rfl rfl (fun h2 => ?_) (fun h2 => ?_)
      · have h2 : w ≠ (0 : Int) := h2
        have f1 := zT_get hTc3 zs205_62 (i := 62) (by omega) (by omega)
        refine pm_blk hK zmm192 [] 5 94 [(2, 205), (0, y), (0, w), (9, 0), (9, 0)] [(0, μc3 205 62), (0, 1), (0, w), (2, 205)] μc3 [] rfl trivial ?_
        refine pm_call hK zmm192 (158, 0, 129, 3) zM129 (0, 0) [(2, 205), (0, w), (0, 1), (0, μc3 205 62)] [] rfl rfl rfl rfl ⟨by omega, by rw [zn129]; omega⟩ (zh_isIn hK ⟨by omega, by omega⟩) (fun st4 μc4 hp4 => ?_)
        obtain ⟨rfl, rfl⟩ := hp4
        refine pm_if hK zmm192 .eq 14 111 rfl rfl (fun h3 => ?_) (fun h3 => ?_)
        · have h3 : (if 1 ≤ w ∧ w ≤ (μc3 205 62) then 1 else 0 : Int) = (0 : Int) := h3
          have h3 := zif0 h3
          refine pm_blk hK zmm192 [] 1 112 [(2, 205), (0, y), (0, w), (9, 0), (9, 0)] [(0, (-1))] μc3 [] rfl trivial ?_
          first
          | exact pm_iret rfl rfl ⟨hTc3, by rw [zyz_out (by omega)]⟩
          | exact pm_iret rfl rfl ⟨hTc3, by rw [zyz_0 ⟨by omega, by omega⟩ (by omega), hl3]⟩
          | exact pm_iret rfl rfl ⟨hTc3, by rw [zyz_2 ⟨by omega, by omega⟩ (by omega) (by omega), hAt]⟩
          | exact pm_iret rfl rfl ⟨hTc3, by rw [zyz_2 ⟨by omega, by omega⟩ (by omega) (by omega), zxA_no hAc3 (by omega)]⟩
        · have h3 : (if 1 ≤ w ∧ w ≤ (μc3 205 62) then 1 else 0 : Int) ≠ (0 : Int) := h3
          have h3 := zif1 h3
          refine pm_blk hK zmm192 [] 5 107 [(2, 205), (0, y), (0, w), (9, 0), (9, 0)] [(0, w - 1), (2, 240)] μc3 [pm_in (w - 1)] rfl ⟨pm_in_mk (by omega) (by omega), trivial⟩ ?_
          have hAt := zxA_at hAc3 (w := w) (by omega) (by omega)
          have f2 := zT_get hTc3 zs240_0 (i := w - 1) (by omega) (by omega)
          refine pm_blk hK zmm192 [] 2 112 [(2, 205), (0, y), (0, w), (9, 0), (9, 0)] [(0, μc3 240 (w - 1))] μc3 [0 ≤ w - 1 ∧ w - 1 < 20] rfl ⟨⟨by omega, by omega⟩, trivial⟩ ?_
          first
          | exact pm_iret rfl rfl ⟨hTc3, by rw [zyz_out (by omega)]⟩
          | exact pm_iret rfl rfl ⟨hTc3, by rw [zyz_0 ⟨by omega, by omega⟩ (by omega), hl3]⟩
          | exact pm_iret rfl rfl ⟨hTc3, by rw [zyz_2 ⟨by omega, by omega⟩ (by omega) (by omega), hAt]⟩
          | exact pm_iret rfl rfl ⟨hTc3, by rw [zyz_2 ⟨by omega, by omega⟩ (by omega) (by omega), zxA_no hAc3 (by omega)]⟩
      · have h2 : w = (0 : Int) := h2
        have f3 := zT_get hTc3 zs205_62 (i := 62) (by omega) (by omega)
        refine pm_blk hK zmm192 [] 3 112 [(2, 205), (0, y), (0, w), (9, 0), (9, 0)] [(0, μc3 205 62)] μc3 [] rfl trivial ?_
        first
        | exact pm_iret rfl rfl ⟨hTc3, by rw [zyz_out (by omega)]⟩
        | exact pm_iret rfl rfl ⟨hTc3, by rw [zyz_0 ⟨by omega, by omega⟩ (by omega), hl3]⟩
        | exact pm_iret rfl rfl ⟨hTc3, by rw [zyz_2 ⟨by omega, by omega⟩ (by omega) (by omega), hAt]⟩
        | exact pm_iret rfl rfl ⟨hTc3, by rw [zyz_2 ⟨by omega, by omega⟩ (by omega) (by omega), zxA_no hAc3 (by omega)]⟩
    · have h1 : (if 101 ≤ w ∧ w ≤ 115 then 1 else 0 : Int) ≠ (0 : Int) := h1
      have h1 := zif1 h1
      refine pm_blk hK zmm192 [] 4 36 [(2, 205), (0, y), (0, w), (0, 0), (0, 1)] [] μ1 [] rfl trivial ?_
      exact zx_ym hK (y := y) (w := w) ⟨by omega, by omega⟩ ⟨by omega, by omega⟩ (zyz_1 ⟨by omega, by omega⟩ (by omega) ⟨by omega, by omega⟩).symm hb205 hb240 hbd _ (c := 0) (i := 1) rfl ⟨by omega, by omega⟩ rfl hTμ1
  · have h0 : (if 1 ≤ y ∧ y ≤ 3999 then 1 else 0 : Int) = (0 : Int) := h0
    have h0 := zif0 h0
    refine pm_blk hK zmm192 [] 1 18 [(2, 205), (0, y), (0, w), (9, 0), (9, 0)] [(0, (-1))] μ1 [] rfl trivial ?_
    first
    | exact pm_iret rfl rfl ⟨hTμ1, by rw [zyz_out (by omega)]⟩
    | exact pm_iret rfl rfl ⟨hTμ1, by rw [zyz_0 ⟨by omega, by omega⟩ (by omega), hl3]⟩
    | exact pm_iret rfl rfl ⟨hTμ1, by rw [zyz_2 ⟨by omega, by omega⟩ (by omega) (by omega), hAt]⟩
    | exact pm_iret rfl rfl ⟨hTμ1, by rw [zyz_2 ⟨by omega, by omega⟩ (by omega) (by omega), zxA_no hAc3 (by omega)]⟩
end ZHW
