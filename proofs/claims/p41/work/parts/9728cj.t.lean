/-! F: the reference: GOES; walks printed by program (wip/p30/pmgen.py) and filled by hand -/
section ZHW
variable {D : va_G} {Wm : Nat} {ST : List (String × String × String × Nat)} {b0 : sx_B} {l : Launch} {Sg : Nat → Option Nat} {bud : sx_Bu} {μ : pm_Mem} {B0 : Nat → Prop} {J : (Nat → Option Nat) → Heap → Prop}
set_option maxRecDepth 100000 in
theorem fs_suml (hK : zKK ST)  {μ : pm_Mem} {b c : Int} (hT : zTJ none μ) (hb : 0 ≤ b) (hbc : b + c ≤ 160) (hbd : 0 ≤ bud.1 ∧ 0 ≤ bud.2.1) : ∀ (nM : Nat) {z i : Int}, (c - i).toNat = nM → ∀ (hi : 0 ≤ i ∧ i ≤ c) (hz : z = fa_add (μ 206) b i.toNat), zW D Wm ST b0 l Sg zM164 bud (pm_X zM164 (fun st' μ' => μ = μ' ∧ st' = [(0, fa_add (μ 206) b c.toNat)])) 5 [(2, 205), (0, b), (0, c), (0, z), (0, i)] [] μ := by
  intro nM
  induction nM using Nat.strongRecOn with
  | ind nM ih =>
    intro z i hn hi hz
    have ei : ((i.toNat : Nat) : Int) = i := by omega
    have e1 : (i + 1).toNat = i.toNat + 1 := by omega
    have hzr := fa_add_in (N := μ 206) (b := b) i.toNat
    rw [← hz] at hzr
    refine pm_blk hK zmm164 [21] 2 8 [(2, 205), (0, b), (0, c), (0, z), (0, i)] [(0, c), (0, i)] μ [] rfl trivial ?_
    refine pm_icmp hK zmm164 .ge 21 29 rfl rfl (fun h0 => ?_) (fun h0 => ?_)
    · have h0 : c ≤ i := h0
      refine pm_blk hK zmm164 [21] 1 30 [(2, 205), (0, b), (0, c), (0, z), (0, i)] [(0, z)] μ [] rfl trivial ?_
      have ek : i.toNat = c.toNat := by omega
      exact pm_iret rfl rfl ⟨rfl, by rw [hz, ek]⟩
    · have h0 : i < c := h0
      have w1 := zw32 (z + (μ 206 (b + i)))
      refine pm_blk hK zmm164 [21] 11 5 [(2, 205), (0, b), (0, c), (0, pm_w32 (z + (μ 206 (b + i)))), (0, i + 1)] [] μ [pm_in (b + i), 0 ≤ b + i ∧ b + i < 160, pm_in (i + 1)] rfl ⟨pm_in_mk (by omega) (by omega), ⟨by omega, by omega⟩, pm_in_mk (by omega) (by omega), trivial⟩ ?_
      exact ih _ (by omega) rfl ⟨by omega, by omega⟩ (by rw [e1, fa_add_s, ei, ← hz])
set_option maxRecDepth 100000 in
theorem fs_sum (hK : zKK ST) {b c : Int} (hT : zTJ none μ) (hb : 0 ≤ b) (hc : 0 ≤ c) (hbc : b + c ≤ 160) (hbd : 0 ≤ bud.1 ∧ 0 ≤ bud.2.1) : zC D Wm ST b0 l Sg zM164 bud [(2, 205), (0, b), (0, c)] μ (fun st' μ' => μ = μ' ∧ st' = [(0, fa_add (μ 206) b c.toNat)]) := by
  refine pm_blk hK zmm164 [] 4 5 [(2, 205), (0, b), (0, c), (0, 0), (0, 0)] [] μ [] rfl trivial ?_
  exact fs_suml hK hT hb hbc hbd _ rfl ⟨by omega, by omega⟩ rfl
set_option maxRecDepth 100000 in
theorem fs_gol (hK : zKK ST) {X : Nat → List pm_V → List pm_V → pm_Mem → Prop} {μ0 : pm_Mem} {n w : Int} (hn60 : n ≤ 60) (h5 : μ0 205 5 = 1) {ls : List (Int × List zIw × List zIw)} (hL : fr_L μ0 0 ls) (hb206 : sx_bit Wm 206 = true) (hb210 : sx_bit Wm 210 = true) (hb224 : sx_bit Wm 224 = true) (hb225 : sx_bit Wm 225 = true) (K : ∀ (k : Int) (μ : pm_Mem), zTJ none μ → (μ 206, μ 210) = fa_tho (fr_law ls) (μ0 221) (μ0 222) (μ0 209) (μ0 205 33) (μ0 205 35) (μ0 205 6) (μ0 205 7) n.toNat (μ0 206, μ0 210) → (∀ r, r ≠ 206 → r ≠ 210 → r ≠ 224 → r ≠ 225 → μ r = μ0 r) → zW D Wm ST b0 l Sg zM162 bud X 50 [(2, 205), (0, n), (0, w), (0, k)] [] μ) (hbd : 8 ≤ bud.1 ∧ 194 ≤ bud.2.1) : ∀ (nM : Nat) {k : Int} {μ : pm_Mem}, (n - k).toNat = nM → ∀ (hk : 0 ≤ k ∧ k ≤ n) (hT : zTJ none μ) (hS : (μ 206, μ 210) = fa_tho (fr_law ls) (μ0 221) (μ0 222) (μ0 209) (μ0 205 33) (μ0 205 35) (μ0 205 6) (μ0 205 7) k.toNat (μ0 206, μ0 210)) (hf : (∀ r, r ≠ 206 → r ≠ 210 → r ≠ 224 → r ≠ 225 → μ r = μ0 r)), zW D Wm ST b0 l Sg zM162 bud X 34 [(2, 205), (0, n), (0, w), (0, k)] [] μ := by
  intro nM
  induction nM using Nat.strongRecOn with
  | ind nM ih =>
    intro k μ hn hk hT hS hf
    have e21 := hf 221 (by decide) (by decide) (by decide) (by decide)
    have e22 := hf 222 (by decide) (by decide) (by decide) (by decide)
    have e9 := hf 209 (by decide) (by decide) (by decide) (by decide)
    have e205 := hf 205 (by decide) (by decide) (by decide) (by decide)
    have hLk := fr_L_fr (fun r a b => hf r (by omega) (by omega) (by omega) (by omega)) hL
    have ek : (k + 1).toNat = k.toNat + 1 := by omega
    refine pm_blk hK zmm162 [] 2 36 [(2, 205), (0, n), (0, w), (0, k)] [(0, n), (0, k)] μ [] rfl trivial ?_
    refine pm_icmp hK zmm162 .ge 14 50 rfl rfl (fun h0 => ?_) (fun h0 => ?_)
    · have h0 : n ≤ k := h0
      have e9k : k.toNat = n.toNat := by omega
      exact K _ _ hT (by rw [hS, e9k]) hf
    · have h0 : k < n := h0
      refine pm_blk hK zmm162 [] 1 40 [(2, 205), (0, n), (0, w), (0, k)] [(2, 205)] μ [] rfl trivial ?_
      refine pm_call hK zmm162 (404, 0, 155, 0) zM155 (7, 170) [(2, 205)] [] rfl rfl rfl rfl ⟨by omega, by rw [zn155]; omega⟩ (fr_goesBy hK (th := true) (ls := ls) (fa_th_t (by rw [hf 205 (by decide) (by decide) (by decide) (by decide)]; exact h5)) hLk hT hb206 hb210 hb224 hb225 ⟨Nat.le_refl _, Nat.le_refl _⟩) (fun st1 μc1 hp1 => ?_)
      obtain ⟨rfl, hTc1, hn1, hf1⟩ := hp1
      have hnx := hn1
      rw [e21, e22, e9, e205, hS] at hnx
      have hff := hf1
      refine pm_blk hK zmm162 [] 3 34 [(2, 205), (0, n), (0, w), (0, k + 1)] [] μc1 [pm_in (k + 1)] rfl ⟨pm_in_mk (by omega) (by omega), trivial⟩ ?_
      exact ih _ (by omega) rfl ⟨by omega, by omega⟩ hTc1 (by rw [ek, fa_tho_s]; exact hnx) (fun r a b c d => (hff r a b c d).trans (hf r a b c d))
set_option maxRecDepth 100000 in
theorem fs_goes (hK : zKK ST) {n w : Int} (hT : zTJ none μ) {ls : List (Int × List zIw × List zIw)} (hL : fr_L μ 0 ls) (h5 : μ 205 5 = 0) (hb205 : sx_bit Wm 205 = true) (hb206 : sx_bit Wm 206 = true) (hb208 : sx_bit Wm 208 = true) (hb210 : sx_bit Wm 210 = true) (hb224 : sx_bit Wm 224 = true) (hb225 : sx_bit Wm 225 = true) (hbd : 8 ≤ bud.1 ∧ 194 ≤ bud.2.1) : zC D Wm ST b0 l Sg zM162 bud [(2, 205), (0, n), (0, w)] μ (fun st' μ' => zTJ none μ' ∧ st' = [(0, if ((1 ≤ n ∧ n ≤ 60) ∧ 0 ≤ w ∧ w ≤ 3) then fa_tog (μ 205 6) (μ 205 7) (fa_tho (fr_law ls) (μ 221) (μ 222) (μ 209) (μ 205 33) (μ 205 35) (μ 205 6) (μ 205 7) n.toNat (μ 206, μ 210)).1 w else -1)] ∧ (∀ i : Int, 0 ≤ i → i < 160 → μ' 206 i = μ 206 i) ∧ (∀ k : Int, k ≠ 0 → μ' 205 k = μ 205 k) ∧ ∀ r, r ≠ 205 → r ≠ 206 → r ≠ 208 → r ≠ 224 → r ≠ 225 → μ' r = μ r) := by
  have f6 := zT_get hT zs205_6 (i := 6) (by omega) (by omega)
  have f7 := zT_get hT zs205_7 (i := 7) (by omega) (by omega)
  refine pm_blk hK zmm162 [] 3 5 [(2, 205), (0, n), (0, w), (9, 0)] [] (pm_up μ 205 0 0) [sx_bit Wm 205 = true] rfl ⟨hb205, trivial⟩ ?_
  obtain ⟨μ1, eμ1⟩ : ∃ μ', μ' = pm_up μ 205 0 0 := ⟨_, rfl⟩
  rw [← eμ1]
  have hTμ1 : zTJ none μ1 := by rw [eμ1]; exact zT_upn hT zs205_0 rfl (i := 0) (by omega) (by omega) (by omega) (by omega)
  have b1 : ∀ k : Int, k ≠ 0 → μ1 205 k = μ 205 k := fun k hk => by rw [eμ1, pm_up_ne hk]
  have b2 : ∀ r, r ≠ 205 → μ1 r = μ r := fun r hr => by rw [eμ1, pm_up_row hr]
  refine pm_blk hK zmm162 [] 4 10 [(2, 205), (0, n), (0, w), (9, 0)] [(0, 60), (0, 1), (0, n), (2, 205)] μ1 [] rfl trivial ?_
  refine pm_call hK zmm162 (158, 0, 129, 3) zM129 (0, 0) [(2, 205), (0, n), (0, 1), (0, 60)] [] rfl rfl rfl rfl ⟨by omega, by rw [zn129]; omega⟩ (zh_isIn hK ⟨by omega, by omega⟩) (fun st1 μc1 hp1 => ?_)
  obtain ⟨rfl, rfl⟩ := hp1
  refine pm_if hK zmm162 .eq 13 26 rfl rfl (fun h0 => ?_) (fun h0 => ?_)
  · have h0 : (if 1 ≤ n ∧ n ≤ 60 then 1 else 0 : Int) = (0 : Int) := h0
    have h0 := zif0 h0
    refine pm_blk hK zmm162 [] 1 27 [(2, 205), (0, n), (0, w), (9, 0)] [(0, (-1))] μ1 [] rfl trivial ?_
    exact pm_iret rfl rfl ⟨hTμ1, by rw [if_neg (fun q => by omega)], fun i _ _ => by rw [b2 206 (by decide)], b1, fun r r5 _ _ _ _ => b2 r r5⟩
  · have h0 : (if 1 ≤ n ∧ n ≤ 60 then 1 else 0 : Int) ≠ (0 : Int) := h0
    have h0 := zif1 h0
    refine pm_blk hK zmm162 [] 4 20 [(2, 205), (0, n), (0, w), (9, 0)] [(0, 3), (0, 0), (0, w), (2, 205)] μ1 [] rfl trivial ?_
    refine pm_call hK zmm162 (158, 0, 129, 3) zM129 (0, 0) [(2, 205), (0, w), (0, 0), (0, 3)] [] rfl rfl rfl rfl ⟨by omega, by rw [zn129]; omega⟩ (zh_isIn hK ⟨by omega, by omega⟩) (fun st2 μc2 hp2 => ?_)
    obtain ⟨rfl, rfl⟩ := hp2
    refine pm_if hK zmm162 .ne 5 28 rfl rfl (fun h1 => ?_) (fun h1 => ?_)
    · have h1 : (if 0 ≤ w ∧ w ≤ 3 then 1 else 0 : Int) ≠ (0 : Int) := h1
      have h1 := zif1 h1
      refine pm_blk hK zmm162 [] 1 29 [(2, 205), (0, n), (0, w), (9, 0)] [(2, 205)] μ1 [] rfl trivial ?_
      refine pm_call hK zmm162 (407, 0, 163, 0) zM163 (0, 0) [(2, 205)] [] rfl rfl rfl rfl ⟨by omega, by rw [zn163]; omega⟩ (fs_think hK hTμ1 hb205 hb208 ⟨Nat.le_refl _, Nat.le_refl _⟩) (fun st3 μc3 hp3 => ?_)
      obtain ⟨rfl, hTc3, t8, t5, tk, tr⟩ := hp3
      have d5 : ∀ k : Int, k ≠ 0 → k ≠ 5 → μc3 205 k = μ 205 k := fun k h0 h5 => (tk k h5).trans (b1 k h0)
      have dr : ∀ r, r ≠ 205 → r ≠ 208 → μc3 r = μ r := fun r r5 r8 => (tr r r5 r8).trans (b2 r r5)
      have hL1 := fr_L_fr (fun r a b => dr r (by omega) (by omega)) hL
      refine pm_blk hK zmm162 [] 2 34 [(2, 205), (0, n), (0, w), (0, 0)] [] μc3 [] rfl trivial ?_
      refine fs_gol hK (μ0 := μc3) (n := n) (w := w) (by omega) t5 hL1 hb206 hb210 hb224 hb225 (fun k1 μ2 hT2 hS2 hf2 => ?_) ⟨by omega, by omega⟩ _ (k := 0) rfl ⟨by omega, by omega⟩ hTc3 rfl (fun _ _ _ _ _ => rfl)
      have q205 := hf2 205 (by decide) (by decide) (by decide) (by decide)
      have q6 : μ2 205 6 = μ 205 6 := by rw [q205]; exact d5 6 (by decide) (by decide)
      have q7 : μ2 205 7 = μ 205 7 := by rw [q205]; exact d5 7 (by decide) (by decide)
      have hS3 : (μ2 206, μ2 210) = fa_tho (fr_law ls) (μ 221) (μ 222) (μ 209) (μ 205 33) (μ 205 35) (μ 205 6) (μ 205 7) n.toNat (μ 206, μ 210) := by rw [hS2, dr 221 (by decide) (by decide), dr 222 (by decide) (by decide), dr 209 (by decide) (by decide), d5 33 (by decide) (by decide), d5 35 (by decide) (by decide), d5 6 (by decide) (by decide), d5 7 (by decide) (by decide), dr 206 (by decide) (by decide), dr 210 (by decide) (by decide)]
      have s1 : μ2 206 = (fa_tho (fr_law ls) (μ 221) (μ 222) (μ 209) (μ 205 33) (μ 205 35) (μ 205 6) (μ 205 7) n.toNat (μ 206, μ 210)).1 := congrArg Prod.fst hS3
      have q210 : μ2 210 = μ 210 := (congrArg Prod.snd hS3).trans (fa_tho_t _)
      refine pm_blk hK zmm162 [] 1 51 [(2, 205), (0, n), (0, w), (0, k1)] [(0, w)] μ2 [] rfl trivial ?_
      refine pm_if hK zmm162 .ne 16 67 rfl rfl (fun hy0 => ?_) (fun hy0 => ?_)
      · have hy0 : w ≠ (0 : Int) := hy0
        refine pm_blk hK zmm162 [] 2 69 [(2, 205), (0, n), (0, w), (0, k1)] [(0, 1), (0, w)] μ2 [] rfl trivial ?_
        refine pm_icmp hK zmm162 .ne 15 84 rfl rfl (fun hy1 => ?_) (fun hy1 => ?_)
        · have hy1 : w ≠ (1 : Int) := hy1
          refine pm_blk hK zmm162 [] 2 86 [(2, 205), (0, n), (0, w), (0, k1)] [(0, 2), (0, w)] μ2 [] rfl trivial ?_
          refine pm_icmp hK zmm162 .ne 16 102 rfl rfl (fun hy2 => ?_) (fun hy2 => ?_)
          · have hy2 : w ≠ (2 : Int) := hy2
            have f1 := zT_get hT2 zs205_6 (i := 6) (by omega) (by omega)
            refine pm_blk hK zmm162 [] 4 109 [(2, 205), (0, n), (0, w), (0, k1)] [(0, μ2 205 6), (0, 40), (2, 205)] μ2 [] rfl trivial ?_
            refine pm_call hK zmm162 (410, 0, 164, 2) zM164 (0, 0) [(2, 205), (0, 40), (0, μ2 205 6)] [] rfl rfl rfl rfl ⟨by omega, by rw [zn164]; omega⟩ (fs_sum hK (b := 40) (c := (μ2 205 6)) hT2 (by omega) (by omega) (by omega) ⟨Nat.le_refl _, Nat.le_refl _⟩) (fun sty1 μcy1 hpy1 => ?_)
            obtain ⟨rfl, rfl⟩ := hpy1
            refine pm_blk hK zmm162 [] 2 114 [(2, 205), (0, n), (0, w), (0, fa_add (μ2 206) (40) ((μ2 205 6)).toNat)] [(2, 205)] μ2 [] rfl trivial ?_
            refine pm_call hK zmm162 (413, 0, 165, 0) zM165 (0, 0) [(2, 205)] [] rfl rfl rfl rfl ⟨by omega, by rw [zn165]; omega⟩ (fs_ends hK hT2 hb205 hb206 ⟨Nat.le_refl _, Nat.le_refl _⟩) (fun sty2 μcy2 hpy2 => ?_)
            obtain ⟨rfl, hTcy2, u6, u5, uk, ur⟩ := hpy2
            refine pm_blk hK zmm162 [] 1 118 [(2, 205), (0, n), (0, w), (0, fa_add (μ2 206) (40) ((μ2 205 6)).toNat)] [(0, fa_add (μ2 206) (40) ((μ2 205 6)).toNat)] μcy2 [] rfl trivial ?_
            have hw9 : w = 0 ∨ w = 1 ∨ w = 2 ∨ w = 3 := by omega
            refine pm_iret rfl rfl ⟨hTcy2, by rw [if_pos ⟨⟨by omega, by omega⟩, by omega, by omega⟩]; exact (congrArg (fun x : Int => [((0 : Nat), x)]) (show _ = _ by rcases hw9 with hw9 | hw9 | hw9 | hw9 <;> (subst hw9; first | (exfalso; omega) | (rw [fa_tog_0, ← s1, q6]) | (rw [fa_tog_1, ← s1, q6]) | (rw [fa_tog_2, ← s1, q7]) | (rw [fa_tog_3, ← s1, q6])))), fun i i0 i1 => by rw [u6 i i0 i1, hf2 208 (by decide) (by decide) (by decide) (by decide), t8 i i0 i1, b2 206 (by decide)], fun k h0 => ?_, fun r r5 r6 r8 r24 r25 => ?_⟩
            · by_cases hk5 : k = 5
              · rw [hk5, u5]; exact h5.symm
              · rw [uk k hk5, q205]; exact d5 k h0 hk5
            · by_cases hr : r = 210
              · rw [hr, ur 210 (by decide) (by decide)]; exact q210
              · rw [ur r r5 r6, hf2 r r6 hr r24 r25]; exact dr r r5 r8
          · have hy2 : w = (2 : Int) := hy2
            have f2 := zT_get hT2 zs205_7 (i := 7) (by omega) (by omega)
            refine pm_blk hK zmm162 [] 4 96 [(2, 205), (0, n), (0, w), (0, k1)] [(0, μ2 205 7), (0, 124), (2, 205)] μ2 [] rfl trivial ?_
            refine pm_call hK zmm162 (410, 0, 164, 2) zM164 (0, 0) [(2, 205), (0, 124), (0, μ2 205 7)] [] rfl rfl rfl rfl ⟨by omega, by rw [zn164]; omega⟩ (fs_sum hK (b := 124) (c := (μ2 205 7)) hT2 (by omega) (by omega) (by omega) ⟨Nat.le_refl _, Nat.le_refl _⟩) (fun sty3 μcy3 hpy3 => ?_)
            obtain ⟨rfl, rfl⟩ := hpy3
            refine pm_blk hK zmm162 [] 3 114 [(2, 205), (0, n), (0, w), (0, fa_add (μ2 206) (124) ((μ2 205 7)).toNat)] [(2, 205)] μ2 [] rfl trivial ?_
            refine pm_call hK zmm162 (413, 0, 165, 0) zM165 (0, 0) [(2, 205)] [] rfl rfl rfl rfl ⟨by omega, by rw [zn165]; omega⟩ (fs_ends hK hT2 hb205 hb206 ⟨Nat.le_refl _, Nat.le_refl _⟩) (fun sty4 μcy4 hpy4 => ?_)
            obtain ⟨rfl, hTcy4, u6, u5, uk, ur⟩ := hpy4
            refine pm_blk hK zmm162 [] 1 118 [(2, 205), (0, n), (0, w), (0, fa_add (μ2 206) (124) ((μ2 205 7)).toNat)] [(0, fa_add (μ2 206) (124) ((μ2 205 7)).toNat)] μcy4 [] rfl trivial ?_
            have hw9 : w = 0 ∨ w = 1 ∨ w = 2 ∨ w = 3 := by omega
            refine pm_iret rfl rfl ⟨hTcy4, by rw [if_pos ⟨⟨by omega, by omega⟩, by omega, by omega⟩]; exact (congrArg (fun x : Int => [((0 : Nat), x)]) (show _ = _ by rcases hw9 with hw9 | hw9 | hw9 | hw9 <;> (subst hw9; first | (exfalso; omega) | (rw [fa_tog_0, ← s1, q6]) | (rw [fa_tog_1, ← s1, q6]) | (rw [fa_tog_2, ← s1, q7]) | (rw [fa_tog_3, ← s1, q6])))), fun i i0 i1 => by rw [u6 i i0 i1, hf2 208 (by decide) (by decide) (by decide) (by decide), t8 i i0 i1, b2 206 (by decide)], fun k h0 => ?_, fun r r5 r6 r8 r24 r25 => ?_⟩
            · by_cases hk5 : k = 5
              · rw [hk5, u5]; exact h5.symm
              · rw [uk k hk5, q205]; exact d5 k h0 hk5
            · by_cases hr : r = 210
              · rw [hr, ur 210 (by decide) (by decide)]; exact q210
              · rw [ur r r5 r6, hf2 r r6 hr r24 r25]; exact dr r r5 r8
        · have hy1 : w = (1 : Int) := hy1
          have f3 := zT_get hT2 zs205_6 (i := 6) (by omega) (by omega)
          refine pm_blk hK zmm162 [] 4 78 [(2, 205), (0, n), (0, w), (0, k1)] [(0, μ2 205 6), (0, 4), (2, 205)] μ2 [] rfl trivial ?_
          refine pm_call hK zmm162 (410, 0, 164, 2) zM164 (0, 0) [(2, 205), (0, 4), (0, μ2 205 6)] [] rfl rfl rfl rfl ⟨by omega, by rw [zn164]; omega⟩ (fs_sum hK (b := 4) (c := (μ2 205 6)) hT2 (by omega) (by omega) (by omega) ⟨Nat.le_refl _, Nat.le_refl _⟩) (fun sty5 μcy5 hpy5 => ?_)
          obtain ⟨rfl, rfl⟩ := hpy5
          refine pm_blk hK zmm162 [] 3 114 [(2, 205), (0, n), (0, w), (0, fa_add (μ2 206) (4) ((μ2 205 6)).toNat)] [(2, 205)] μ2 [] rfl trivial ?_
          refine pm_call hK zmm162 (413, 0, 165, 0) zM165 (0, 0) [(2, 205)] [] rfl rfl rfl rfl ⟨by omega, by rw [zn165]; omega⟩ (fs_ends hK hT2 hb205 hb206 ⟨Nat.le_refl _, Nat.le_refl _⟩) (fun sty6 μcy6 hpy6 => ?_)
          obtain ⟨rfl, hTcy6, u6, u5, uk, ur⟩ := hpy6
          refine pm_blk hK zmm162 [] 1 118 [(2, 205), (0, n), (0, w), (0, fa_add (μ2 206) (4) ((μ2 205 6)).toNat)] [(0, fa_add (μ2 206) (4) ((μ2 205 6)).toNat)] μcy6 [] rfl trivial ?_
          have hw9 : w = 0 ∨ w = 1 ∨ w = 2 ∨ w = 3 := by omega
          refine pm_iret rfl rfl ⟨hTcy6, by rw [if_pos ⟨⟨by omega, by omega⟩, by omega, by omega⟩]; exact (congrArg (fun x : Int => [((0 : Nat), x)]) (show _ = _ by rcases hw9 with hw9 | hw9 | hw9 | hw9 <;> (subst hw9; first | (exfalso; omega) | (rw [fa_tog_0, ← s1, q6]) | (rw [fa_tog_1, ← s1, q6]) | (rw [fa_tog_2, ← s1, q7]) | (rw [fa_tog_3, ← s1, q6])))), fun i i0 i1 => by rw [u6 i i0 i1, hf2 208 (by decide) (by decide) (by decide) (by decide), t8 i i0 i1, b2 206 (by decide)], fun k h0 => ?_, fun r r5 r6 r8 r24 r25 => ?_⟩
          · by_cases hk5 : k = 5
            · rw [hk5, u5]; exact h5.symm
            · rw [uk k hk5, q205]; exact d5 k h0 hk5
          · by_cases hr : r = 210
            · rw [hr, ur 210 (by decide) (by decide)]; exact q210
            · rw [ur r r5 r6, hf2 r r6 hr r24 r25]; exact dr r r5 r8
      · have hy0 : w = (0 : Int) := hy0
        have f4 := zT_get hT2 zs205_6 (i := 6) (by omega) (by omega)
        refine pm_blk hK zmm162 [] 4 61 [(2, 205), (0, n), (0, w), (0, k1)] [(0, μ2 205 6), (0, 28), (2, 205)] μ2 [] rfl trivial ?_
        refine pm_call hK zmm162 (410, 0, 164, 2) zM164 (0, 0) [(2, 205), (0, 28), (0, μ2 205 6)] [] rfl rfl rfl rfl ⟨by omega, by rw [zn164]; omega⟩ (fs_sum hK (b := 28) (c := (μ2 205 6)) hT2 (by omega) (by omega) (by omega) ⟨Nat.le_refl _, Nat.le_refl _⟩) (fun sty7 μcy7 hpy7 => ?_)
        obtain ⟨rfl, rfl⟩ := hpy7
        refine pm_blk hK zmm162 [] 3 114 [(2, 205), (0, n), (0, w), (0, fa_add (μ2 206) (28) ((μ2 205 6)).toNat)] [(2, 205)] μ2 [] rfl trivial ?_
        refine pm_call hK zmm162 (413, 0, 165, 0) zM165 (0, 0) [(2, 205)] [] rfl rfl rfl rfl ⟨by omega, by rw [zn165]; omega⟩ (fs_ends hK hT2 hb205 hb206 ⟨Nat.le_refl _, Nat.le_refl _⟩) (fun sty8 μcy8 hpy8 => ?_)
        obtain ⟨rfl, hTcy8, u6, u5, uk, ur⟩ := hpy8
        refine pm_blk hK zmm162 [] 1 118 [(2, 205), (0, n), (0, w), (0, fa_add (μ2 206) (28) ((μ2 205 6)).toNat)] [(0, fa_add (μ2 206) (28) ((μ2 205 6)).toNat)] μcy8 [] rfl trivial ?_
        have hw9 : w = 0 ∨ w = 1 ∨ w = 2 ∨ w = 3 := by omega
        refine pm_iret rfl rfl ⟨hTcy8, by rw [if_pos ⟨⟨by omega, by omega⟩, by omega, by omega⟩]; exact (congrArg (fun x : Int => [((0 : Nat), x)]) (show _ = _ by rcases hw9 with hw9 | hw9 | hw9 | hw9 <;> (subst hw9; first | (exfalso; omega) | (rw [fa_tog_0, ← s1, q6]) | (rw [fa_tog_1, ← s1, q6]) | (rw [fa_tog_2, ← s1, q7]) | (rw [fa_tog_3, ← s1, q6])))), fun i i0 i1 => by rw [u6 i i0 i1, hf2 208 (by decide) (by decide) (by decide) (by decide), t8 i i0 i1, b2 206 (by decide)], fun k h0 => ?_, fun r r5 r6 r8 r24 r25 => ?_⟩
        · by_cases hk5 : k = 5
          · rw [hk5, u5]; exact h5.symm
          · rw [uk k hk5, q205]; exact d5 k h0 hk5
        · by_cases hr : r = 210
          · rw [hr, ur 210 (by decide) (by decide)]; exact q210
          · rw [ur r r5 r6, hf2 r r6 hr r24 r25]; exact dr r r5 r8
    · have h1 : (if 0 ≤ w ∧ w ≤ 3 then 1 else 0 : Int) = (0 : Int) := h1
      have h1 := zif0 h1
      refine pm_blk hK zmm162 [] 1 27 [(2, 205), (0, n), (0, w), (9, 0)] [(0, (-1))] μ1 [] rfl trivial ?_
      exact pm_iret rfl rfl ⟨hTμ1, by rw [if_neg (fun q => by omega)], fun i _ _ => by rw [b2 206 (by decide)], b1, fun r r5 _ _ _ _ => b2 r r5⟩
end ZHW
