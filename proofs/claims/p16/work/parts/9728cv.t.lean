/-! F: CHEAPLY, the class: which shops, one customer more; walks printed by program (wip/p30/pmgen.py) and filled by hand -/
section ZHW
variable {φ : Option pm_Mem}
variable {D : va_G} {Wm : Nat} {ST : List (String × String × String × Nat)} {b0 : sx_B} {l : Launch} {Sg : Nat → Option Nat} {bud : sx_Bu} {μ : pm_Mem} {B0 : Nat → Prop} {J : (Nat → Option Nat) → Heap → Prop}
set_option maxRecDepth 100000 in
theorem ch_minJ (hK : zKK ST) {x y : Int} (hbd : 0 ≤ bud.1 ∧ 0 ≤ bud.2.1) : zW D Wm ST b0 l Sg zM262 bud (zg_X zM262 (fun st' μ' => μ = μ' ∧ st' = [(1, min x y)])) 0 [(1, x), (9, 0), (1, y), (9, 0)] [] μ := by
  refine zg_lload hK zmm262 (i := 0) rfl rfl ?_
  refine zg_lload hK zmm262 (i := 2) rfl rfl ?_
  refine zg_lcmp hK zmm262 (x := x) (y := y) rfl (fun z1 hz1 => ?_)
  refine pm_if hK zmm262 .gt 7 10 rfl rfl (fun h0 => ?_) (fun h0 => ?_)
  · have h0 : (0 : Int) < z1 := h0
    refine zg_lload hK zmm262 (i := 2) rfl rfl ?_
    first
    | exact zg_lret rfl rfl ⟨rfl, by rw [show min x y = x by omega]⟩
    | exact zg_lret rfl rfl ⟨rfl, by rw [show min x y = y by omega]⟩
    | (exfalso; omega)
  · have h0 : z1 ≤ (0 : Int) := h0
    refine zg_lload hK zmm262 (i := 0) rfl rfl ?_
    refine pm_blk hK zmm262 [] 1 11 [(1, x), (9, 0), (1, y), (9, 0)] [(1, x)] μ [] rfl trivial ?_
    first
    | exact zg_lret rfl rfl ⟨rfl, by rw [show min x y = x by omega]⟩
    | exact zg_lret rfl rfl ⟨rfl, by rw [show min x y = y by omega]⟩
    | (exfalso; omega)
set_option maxRecDepth 100000 in
theorem ch_fl (hK : zKK ST)  {μ0 : pm_Mem} {v : Int} (hv9 : zg_in v) (hb196 : sx_bit Wm 196 = true) (hbd : 0 ≤ bud.1 ∧ 0 ≤ bud.2.1) : ∀ (nM : Nat) {i : Int} {μ : pm_Mem}, (256 - i).toNat = nM → ∀ (hi : 0 ≤ i ∧ i ≤ 256) (hT : zTJ φ μ) (hf : ∀ r, r ≠ 196 → μ r = μ0 r) (hv : ∀ j : Int, 0 ≤ j → j < i → μ 196 j = v), zW D Wm ST b0 l Sg zM65 bud (zg_X zM65 (fun st' μ' => st' = [] ∧ zTJ φ μ' ∧ (∀ r, r ≠ 196 → μ' r = μ0 r) ∧ ∀ j : Int, 0 ≤ j → j < 256 → μ' 196 j = v)) 6 [(2, 196), (1, v), (9, 0), (0, i), (0, 256)] [] μ := by
  intro nM
  induction nM using Nat.strongRecOn with
  | ind nM ih =>
    intro i μ hn hi hT hf hv
    have hv8 : -9223372036854775808 ≤ v ∧ v ≤ 9223372036854775807 := hv9
    refine pm_blk hK zmm65 [] 2 9 [(2, 196), (1, v), (9, 0), (0, i), (0, 256)] [(0, 256), (0, i)] μ [] rfl trivial ?_
    refine pm_icmp hK zmm65 .ge 13 22 rfl rfl (fun h0 => ?_) (fun h0 => ?_)
    · have h0 : (256 : Int) ≤ i := h0
      exact zg_vret rfl rfl ⟨rfl, hT, hf, fun j j0 j1 => hv j j0 (by omega)⟩
    · have h0 : i < (256 : Int) := h0
      refine pm_blk hK zmm65 [] 2 14 [(2, 196), (1, v), (9, 0), (0, i), (0, 256)] [(0, i), (2, 196)] μ [] rfl trivial ?_
      refine zg_lload hK zmm65 (i := 1) rfl rfl ?_
      refine zg_last hK zmm65 (r := 196) (i := i) (x := v) (g := zG196) rfl rfl rfl (zg_ft (by decide) (by decide)) hb196 (Nn := 256) rfl ⟨by omega, by omega⟩ rfl ?_
      obtain ⟨μ1, eμ1⟩ : ∃ μ', μ' = pm_up μ 196 i v := ⟨_, rfl⟩
      rw [← eμ1]
      have hTμ1 : zTJ φ μ1 := by rw [eμ1]; exact zgT_up hT zs196_0 rfl (i := i) (by omega) (by omega) (by omega) (by omega)
      refine pm_blk hK zmm65 [] 2 6 [(2, 196), (1, v), (9, 0), (0, i + 1), (0, 256)] [] μ1 [pm_in (i + 1)] rfl ⟨pm_in_mk (by omega) (by omega), trivial⟩ ?_
      refine ih _ (by omega) rfl ⟨by omega, by omega⟩ hTμ1 (fun r hr => by rw [eμ1, pm_up_row hr]; exact hf r hr) (fun j j0 j1 => ?_)
      by_cases hj : j = i
      · rw [hj, eμ1, pm_up_eq]
      · rw [eμ1, pm_up_ne hj]; exact hv j j0 (by omega)
set_option maxRecDepth 100000 in
theorem ch_fill (hK : zKK ST) {v : Int} (hv9 : zg_in v) (hT : zTJ φ μ) (hb196 : sx_bit Wm 196 = true) (hbd : 0 ≤ bud.1 ∧ 0 ≤ bud.2.1) : zW D Wm ST b0 l Sg zM65 bud (zg_X zM65 (fun st' μ' => st' = [] ∧ zTJ φ μ' ∧ (∀ r, r ≠ 196 → μ' r = μ r) ∧ ∀ j : Int, 0 ≤ j → j < 256 → μ' 196 j = v)) 0 [(2, 196), (1, v), (9, 0), (9, 0), (9, 0)] [] μ := by
  refine pm_blk hK zmm65 [] 3 3 [(2, 196), (1, v), (9, 0), (0, 0), (9, 0)] [(2, 196)] μ [] rfl trivial ?_
  refine zg_alen hK zmm65 (r := 196) (g := zG196) rfl rfl (Nn := 256) rfl (by decide) rfl ?_
  refine pm_blk hK zmm65 [] 1 6 [(2, 196), (1, v), (9, 0), (0, 0), (0, 256)] [] μ [] rfl trivial ?_
  exact ch_fl hK (μ0 := μ) hv9 hb196 hbd _ rfl ⟨by omega, by omega⟩ hT (fun _ _ => rfl) (fun j j0 j1 => absurd j1 (by omega))
set_option maxRecDepth 100000 in
theorem ch_wl (hK : zKK ST)  (hT : zTJ φ μ) {N pol : Int → Int} {n m : Int} (hA : fa_A 3 n m N pol μ) (hn0 : 0 ≤ n) (hm0 : 0 ≤ m) (hq : n ≤ 12 ∧ m ≤ 18) (hI : fa_I n m N)  (hbd : 2 ≤ bud.1 ∧ 42 ≤ bud.2.1) : ∀ (nM : Nat) {f s : Int}, (8 - s).toNat = nM → ∀ (hs : 0 ≤ s ∧ s ≤ 8) (hf : f = ((ch_wt n N s.toNat : Nat) : Int)), zW D Wm ST b0 l Sg zM64 bud (pm_X zM64 (fun st' μ' => μ = μ' ∧ st' = [(0, ((ch_wt n N 8 : Nat) : Int))])) 4 [(2, 3), (0, f), (0, s)] [] μ := by
  intro nM
  induction nM using Nat.strongRecOn with
  | ind nM ih =>
    intro f s hn hs hf
    have a0 : μ 3 0 = n := hA.1.1
    have es : ((s.toNat : Nat) : Int) = s := by omega
    have e1 : (s + 1).toNat = s.toNat + 1 := by omega
    have hlt := ch_wt_b (n := n) (N := N) (k := s.toNat) (by omega)
    have ro : s < n → μ 7 s = 1 - N (40 + s) ∧ μ 4 s = N (4 + s) ∧ 0 ≤ N (4 + s) := fun h => ⟨fa_r_open hA hs.1 h, fa_r_goods hA hs.1 h, (fa_I_s hI (s := s) hs.1 h).1.1⟩
    refine pm_blk hK zmm64 [] 2 7 [(2, 3), (0, f), (0, s)] [(0, 8), (0, s)] μ [] rfl trivial ?_
    refine pm_icmp hK zmm64 .ge 32 39 rfl rfl (fun h0 => ?_) (fun h0 => ?_)
    · have h0 : (8 : Int) ≤ s := h0
      refine pm_blk hK zmm64 [] 1 40 [(2, 3), (0, f), (0, s)] [(0, f)] μ [] rfl trivial ?_
      have ek : s.toNat = 8 := by omega
      exact pm_iret rfl rfl ⟨rfl, by rw [hf, ek]⟩
    · have h0 : s < (8 : Int) := h0
      refine pm_blk hK zmm64 [] 2 12 [(2, 3), (0, f), (0, s)] [(0, s), (2, 3)] μ [] rfl trivial ?_
      refine pm_call hK zmm64 (57, 0, 26, 1) zM26 (1, 21) [(2, 3), (0, s)] [] rfl rfl rfl rfl ⟨by omega, by rw [zn26]; omega⟩ (fc_isOpen3 hK (s := s) hT ⟨Nat.le_refl _, Nat.le_refl _⟩) (fun st1 μc1 hp1 => ?_)
      obtain ⟨rfl, rfl⟩ := hp1
      refine pm_if hK zmm64 .eq 18 33 rfl rfl (fun h1 => ?_) (fun h1 => ?_)
      · have h1 : (if (0 ≤ (s) ∧ (s) < μ 3 0) ∧ μ 7 (s) = 1 then 1 else 0 : Int) = (0 : Int) := h1
        have h1 := zif0 h1
        refine pm_blk hK zmm64 [] 2 4 [(2, 3), (0, f), (0, s + 1)] [] μ [pm_in (s + 1)] rfl ⟨pm_in_mk (by omega) (by omega), trivial⟩ ?_
        refine ih _ (by omega) rfl ⟨by omega, by omega⟩ ?_
        rw [e1]
        first
        | (rw [ch_wt_y (by rw [es]; have r9 := ro (by omega); omega)]; exact hz2)
        | (rw [ch_wt_n (by rw [es]; intro q9; have r9 := ro q9.1.1; omega)]; exact hf)
        | (exfalso; omega)
      · have h1 : (if (0 ≤ (s) ∧ (s) < μ 3 0) ∧ μ 7 (s) = 1 then 1 else 0 : Int) ≠ (0 : Int) := h1
        have h1 := zif1 h1
        have f1 := zT_get hT zs4_0 (i := s) (by omega) (by omega)
        refine pm_blk hK zmm64 [] 4 24 [(2, 3), (0, f), (0, s)] [(0, μ 4 s)] μ [0 ≤ s ∧ s < 12] rfl ⟨⟨by omega, by omega⟩, trivial⟩ ?_
        refine pm_if hK zmm64 .le 9 33 rfl rfl (fun h2 => ?_) (fun h2 => ?_)
        · have h2 : μ 4 s ≤ (0 : Int) := h2
          refine pm_blk hK zmm64 [] 2 4 [(2, 3), (0, f), (0, s + 1)] [] μ [pm_in (s + 1)] rfl ⟨pm_in_mk (by omega) (by omega), trivial⟩ ?_
          refine ih _ (by omega) rfl ⟨by omega, by omega⟩ ?_
          rw [e1]
          first
          | (rw [ch_wt_y (by rw [es]; have r9 := ro (by omega); omega)]; exact hz2)
          | (rw [ch_wt_n (by rw [es]; intro q9; have r9 := ro q9.1.1; omega)]; exact hf)
          | (exfalso; omega)
        · have h2 : (0 : Int) < μ 4 s := h2
          have hp8 : 2 ^ s.toNat ≤ 256 := Nat.le_trans (Nat.pow_le_pow_right (by decide) (by omega)) (show (2 : Nat) ^ 8 ≤ 256 by decide)
          have hz := zshl1 s.toNat (by omega)
          rw [es] at hz
          have hz2 : pm_or f (pm_shl 1 s) = ((ch_wt n N s.toNat ||| 2 ^ s.toNat : Nat) : Int) := by
            obtain ⟨p9, hp9⟩ : ∃ p : Nat, p = 2 ^ s.toNat := ⟨_, rfl⟩
            rw [← hp9] at hz hp8 ⊢
            rw [hz, hf, zor (by omega) (by omega) (by omega) (by omega), Int.toNat_natCast, Int.toNat_natCast]
          refine pm_blk hK zmm64 [] 8 4 [(2, 3), (0, pm_or f (pm_shl 1 s)), (0, s + 1)] [] μ [pm_in (s + 1)] rfl ⟨pm_in_mk (by omega) (by omega), trivial⟩ ?_
          refine ih _ (by omega) rfl ⟨by omega, by omega⟩ ?_
          rw [e1]
          first
          | (rw [ch_wt_y (by rw [es]; have r9 := ro (by omega); omega)]; exact hz2)
          | (rw [ch_wt_n (by rw [es]; intro q9; have r9 := ro q9.1.1; omega)]; exact hf)
          | (exfalso; omega)
set_option maxRecDepth 100000 in
theorem ch_wanted (hK : zKK ST) (hT : zTJ φ μ) {N pol : Int → Int} {n m : Int} (hA : fa_A 3 n m N pol μ) (hn0 : 0 ≤ n) (hm0 : 0 ≤ m) (hq : n ≤ 12 ∧ m ≤ 18) (hI : fa_I n m N) (hbd : 2 ≤ bud.1 ∧ 42 ≤ bud.2.1) : zC D Wm ST b0 l Sg zM64 bud [(2, 3)] μ (fun st' μ' => μ = μ' ∧ st' = [(0, ((ch_wt n N 8 : Nat) : Int))]) := by
  refine pm_blk hK zmm64 [] 4 4 [(2, 3), (0, 0), (0, 0)] [] μ [] rfl trivial ?_
  exact ch_wl hK hT hA hn0 hm0 hq hI hbd _ rfl ⟨by omega, by omega⟩ rfl
set_option maxRecDepth 100000 in
theorem ch_lc2 (hK : zKK ST) {X : Nat → List pm_V → List pm_V → pm_Mem → Prop} {S : Int} (hS : 1 ≤ S ∧ S ≤ 255) {μ0 : pm_Mem} {W : Nat} (hW : W < 256) (hw2 : μ0 195 2 = (W : Int)) (hwv : ∀ s : Nat, s < 8 → 0 ≤ μ0 197 (s : Int) ∧ μ0 197 (s : Int) ≤ 1000000000000000) (hb196 : sx_bit Wm 196 = true) (K : ∀ (μ : pm_Mem), μ 196 S = ch_row (fun q : Nat => μ0 196 (q : Int)) (fun s : Nat => μ0 197 (s : Int)) S.toNat 8 → (∀ q : Nat, q < 256 → 0 ≤ μ 196 (q : Int) ∧ μ 196 (q : Int) ≤ 1000000000000000) → (∀ q : Nat, (q : Int) < S → μ 196 (q : Int) = μ0 196 (q : Int)) → (∀ q : Nat, S < (q : Int) → q < 256 → ch_sub q W → μ 196 (q : Int) = ch_row (fun q : Nat => μ0 196 (q : Int)) (fun s : Nat => μ0 197 (s : Int)) q 8) → (∀ r, r ≠ 196 → μ r = μ0 r) → zTJ φ μ → zW D Wm ST b0 l Sg zM261 bud X 80 [(2, 195), (0, S), (9, 0)] [] μ) (hbd : 1 ≤ bud.1 ∧ 23 ≤ bud.2.1) : ∀ (nM : Nat) {s : Int} {μ : pm_Mem}, (8 - s).toNat = nM → ∀ (hs : 0 ≤ s ∧ s ≤ 8) (hrow : μ 196 S = ch_row (fun q : Nat => μ0 196 (q : Int)) (fun s : Nat => μ0 197 (s : Int)) S.toNat s.toNat) (hb : ∀ q : Nat, q < 256 → 0 ≤ μ 196 (q : Int) ∧ μ 196 (q : Int) ≤ 1000000000000000) (hlo : ∀ q : Nat, (q : Int) < S → μ 196 (q : Int) = μ0 196 (q : Int)) (hup : ∀ q : Nat, S < (q : Int) → q < 256 → ch_sub q W → μ 196 (q : Int) = ch_row (fun q : Nat => μ0 196 (q : Int)) (fun s : Nat => μ0 197 (s : Int)) q 8) (hf : ∀ r, r ≠ 196 → μ r = μ0 r) (hT : zTJ φ μ), zW D Wm ST b0 l Sg zM261 bud X 27 [(2, 195), (0, S), (0, s)] [] μ := by
  intro nM
  induction nM using Nat.strongRecOn with
  | ind nM ih =>
    intro s μ hn hs hrow hb hlo hup hf hT
    have es : ((s.toNat : Nat) : Int) = s := by omega
    have eS : ((S.toNat : Nat) : Int) = S := by omega
    have e1 : (s + 1).toNat = s.toNat + 1 := by omega
    refine pm_blk hK zmm261 [] 2 30 [(2, 195), (0, S), (0, s)] [(0, 8), (0, s)] μ [] rfl trivial ?_
    refine pm_icmp hK zmm261 .ge 50 80 rfl rfl (fun h0 => ?_) (fun h0 => ?_)
    · have h0 : (8 : Int) ≤ s := h0
      refine pm_hide [2] ?_
      have ek : s.toNat = 8 := by omega
      exact K _ (by rw [hrow, ek]) hb hlo hup hf hT
    · have h0 : s < (8 : Int) := h0
      have hbt : pm_and (pm_shr S s) 1 = if S.toNat.testBit s.toNat = true then 1 else 0 := by
        have h9 := zhas (s := S) (k := s.toNat) (by omega) (by omega) (by omega)
        rw [es] at h9
        exact h9
      refine pm_blk hK zmm261 [] 6 39 [(2, 195), (0, S), (0, s)] [(0, 1), (0, pm_and (pm_shr S s) 1)] μ [] rfl trivial ?_
      refine pm_icmp hK zmm261 .ne 35 74 rfl rfl (fun h1 => ?_) (fun h1 => ?_)
      · have h1 : pm_and (pm_shr S s) 1 ≠ (1 : Int) := h1
        refine pm_blk hK zmm261 [] 2 27 [(2, 195), (0, S), (0, s + 1)] [] μ [pm_in (s + 1)] rfl ⟨pm_in_mk (by omega) (by omega), trivial⟩ ?_
        first
        | (refine ih _ (by omega) rfl ⟨by omega, by omega⟩ (by rw [e1, ch_row_y hb9, eμ, pm_up_eq, hrow, v1, v2]) (fun q hq => ?_) (fun q hq => by rw [eμ, pm_up_ne (by omega)]; exact hlo q hq) (fun q h1 h2 h3 => by rw [eμ, pm_up_ne (by omega)]; exact hup q h1 h2 h3) (fun r hr => by rw [eμ, pm_up_row hr]; exact hf r hr) hT
           by_cases hqS : (q : Int) = S
           · rw [hqS, eμ, pm_up_eq]; omega
           · rw [eμ, pm_up_ne hqS]; exact hb q hq)
        | exact ih _ (by omega) rfl ⟨by omega, by omega⟩ (by rw [e1, ch_row_n (fun q9 => by rw [if_pos q9] at hbt; omega)]; exact hrow) hb hlo hup hf hT
        | (exfalso; omega)
      · have h1 : pm_and (pm_shr S s) 1 = (1 : Int) := h1
        have hb9 : S.toNat.testBit s.toNat = true := by
          by_cases q9 : S.toNat.testBit s.toNat = true
          · exact q9
          · rw [if_neg q9] at hbt; omega
        have ex : pm_xor S (pm_shl 1 s) = ((S.toNat ^^^ 2 ^ s.toNat : Nat) : Int) := by
          have h9 := ch_xs S.toNat (by omega) s.toNat (by omega)
          rw [eS, es] at h9
          exact h9
        have hx8 := ch_r8 (S := S.toNat) (s := s.toNat) (by omega) (by omega)
        have hxl := ch_x_lt hb9
        have v1 : μ 196 (pm_xor S (pm_shl 1 s)) = μ0 196 ((S.toNat ^^^ 2 ^ s.toNat : Nat) : Int) := by rw [ex]; exact hlo _ (by omega)
        have v2 : μ 197 s = μ0 197 ((s.toNat : Nat) : Int) := by rw [hf 197 (by decide), es]
        have b1 := hb _ hx8
        rw [← ex] at b1
        have b2 := hwv s.toNat (by omega)
        have b0 := hb S.toNat (by omega)
        rw [eS] at b0
        refine pm_blk hK zmm261 [] 6 52 [(2, 195), (0, S), (0, s)] [(0, S), (2, 196), (0, S), (2, 196)] μ [] rfl trivial ?_
        refine zg_lald hK zmm261 (r := 196) (i := S) (g := zG196) rfl rfl (zg_ft (by decide) (by decide)) (Nn := 256) rfl ⟨by omega, by omega⟩ rfl ?_
        refine pm_blk hK zmm261 [] 7 62 [(2, 195), (0, S), (0, s)] [(0, pm_xor S (pm_shl 1 s)), (2, 196), (1, μ 196 S), (0, S), (2, 196)] μ [] rfl trivial ?_
        refine zg_lald hK zmm261 (r := 196) (i := pm_xor S (pm_shl 1 s)) (g := zG196) rfl rfl (zg_ft (by decide) (by decide)) (Nn := 256) rfl ⟨by omega, by omega⟩ rfl ?_
        refine pm_blk hK zmm261 [] 3 68 [(2, 195), (0, S), (0, s)] [(0, s), (2, 197), (1, μ 196 (pm_xor S (pm_shl 1 s))), (1, μ 196 S), (0, S), (2, 196)] μ [] rfl trivial ?_
        refine zg_lald hK zmm261 (r := 197) (i := s) (g := zG197) rfl rfl (zg_ft (by decide) (by decide)) (Nn := 8) rfl ⟨by omega, by omega⟩ rfl ?_
        refine zg_ladd hK zmm261 (x := μ 196 (pm_xor S (pm_shl 1 s))) (y := μ 197 s) (zg_mkin (by omega) (by omega)) rfl ?_
        refine zg_call hK zmm261 (64, 1, 262, 2) zM262 (0, 0) [(1, μ 196 S), (1, (μ 196 (pm_xor S (pm_shl 1 s))) + (μ 197 s))] [(0, S), (2, 196)] rfl rfl rfl rfl ⟨by omega, by rw [zn262]; omega⟩ (ch_minJ hK (x := (μ 196 S)) (y := ((μ 196 (pm_xor S (pm_shl 1 s))) + (μ 197 s))) ⟨Nat.le_refl _, Nat.le_refl _⟩) (fun st1 μc1 hp1 => ?_)
        obtain ⟨rfl, rfl⟩ := hp1
        refine zg_last hK zmm261 (r := 196) (i := S) (x := min ((μ 196 S)) (((μ 196 (pm_xor S (pm_shl 1 s))) + (μ 197 s)))) (g := zG196) rfl rfl rfl (zg_ft (by decide) (by decide)) hb196 (Nn := 256) rfl ⟨by omega, by omega⟩ rfl ?_
        obtain ⟨μ1, eμ1⟩ : ∃ μ', μ' = pm_up μ 196 S (min ((μ 196 S)) (((μ 196 (pm_xor S (pm_shl 1 s))) + (μ 197 s)))) := ⟨_, rfl⟩
        rw [← eμ1]
        have hTμ1 : zTJ φ μ1 := by rw [eμ1]; exact zgT_up hT zs196_0 rfl (i := S) (by omega) (by omega) (by omega) (by omega)
        refine pm_blk hK zmm261 [] 2 27 [(2, 195), (0, S), (0, s + 1)] [] μ1 [pm_in (s + 1)] rfl ⟨pm_in_mk (by omega) (by omega), trivial⟩ ?_
        first
        | (refine ih _ (by omega) rfl ⟨by omega, by omega⟩ (by rw [e1, ch_row_y hb9, eμ1, pm_up_eq, hrow, v1, v2]) (fun q hq => ?_) (fun q hq => by rw [eμ1, pm_up_ne (by omega)]; exact hlo q hq) (fun q h1 h2 h3 => by rw [eμ1, pm_up_ne (by omega)]; exact hup q h1 h2 h3) (fun r hr => by rw [eμ1, pm_up_row hr]; exact hf r hr) hTμ1
           by_cases hqS : (q : Int) = S
           · rw [hqS, eμ1, pm_up_eq]; omega
           · rw [eμ1, pm_up_ne hqS]; exact hb q hq)
        | exact ih _ (by omega) rfl ⟨by omega, by omega⟩ (by rw [e1, ch_row_n (fun q9 => by rw [if_pos q9] at hbt; omega)]; exact hrow) hb hlo hup hf hTμ1
        | (exfalso; omega)
set_option maxRecDepth 100000 in
theorem ch_lc1 (hK : zKK ST)  {μ0 : pm_Mem} {W : Nat} (hW : W < 256) (hw2 : μ0 195 2 = (W : Int)) (hwv : ∀ s : Nat, s < 8 → 0 ≤ μ0 197 (s : Int) ∧ μ0 197 (s : Int) ≤ 1000000000000000) (hb196 : sx_bit Wm 196 = true) (hbd : 1 ≤ bud.1 ∧ 23 ≤ bud.2.1) : ∀ (nM : Nat) {S : Int} {μ : pm_Mem}, S.toNat = nM → ∀ (hS : 0 ≤ S ∧ S ≤ 255) (hb : ∀ q : Nat, q < 256 → 0 ≤ μ 196 (q : Int) ∧ μ 196 (q : Int) ≤ 1000000000000000) (hlo : ∀ q : Nat, (q : Int) ≤ S → μ 196 (q : Int) = μ0 196 (q : Int)) (hup : ∀ q : Nat, S < (q : Int) → q < 256 → ch_sub q W → μ 196 (q : Int) = ch_row (fun q : Nat => μ0 196 (q : Int)) (fun s : Nat => μ0 197 (s : Int)) q 8) (hf : ∀ r, r ≠ 196 → μ r = μ0 r) (hT : zTJ φ μ), zW D Wm ST b0 l Sg zM261 bud (pm_X zM261 (fun st' μ' => st' = [] ∧ zTJ φ μ' ∧ (∀ q : Nat, q < 256 → 0 ≤ μ' 196 (q : Int) ∧ μ' 196 (q : Int) ≤ 1000000000000000) ∧ (∀ q : Nat, q < 256 → ch_sub q W → μ' 196 (q : Int) = ch_row (fun q : Nat => μ0 196 (q : Int)) (fun s : Nat => μ0 197 (s : Int)) q 8) ∧ ∀ r, r ≠ 196 → μ' r = μ0 r)) 8 [(2, 195), (0, S), (9, 0)] [] μ := by
  intro nM
  induction nM using Nat.strongRecOn with
  | ind nM ih =>
    intro S μ hn hS hb hlo hup hf hT
    have eS : ((S.toNat : Nat) : Int) = S := by omega
    have e195 : μ 195 2 = (W : Int) := by rw [hf 195 (by decide)]; exact hw2
    refine pm_blk hK zmm261 [] 1 9 [(2, 195), (0, S), (9, 0)] [(0, S)] μ [] rfl trivial ?_
    refine pm_if hK zmm261 .le 77 86 rfl rfl (fun h0 => ?_) (fun h0 => ?_)
    · have h0 : S ≤ (0 : Int) := h0
      refine pm_vret rfl rfl ⟨rfl, hT, hb, fun q q1 q2 => ?_, hf⟩
      by_cases h0 : q = 0
      · subst h0; rw [hlo 0 (by omega)]; exact (ch_row_00 (D := fun q : Nat => μ0 196 (q : Int)) (w := fun s : Nat => μ0 197 (s : Int)) 8).symm
      · exact hup q (by omega) q1 q2
    · have h0 : (0 : Int) < S := h0
      have hand : pm_and S (μ 195 2) = ((S.toNat &&& W : Nat) : Int) := by rw [e195, zand (by omega) (by omega) (by omega) (by omega), Int.toNat_natCast]
      have f1 := zT_get hT zs195_2 (i := 2) (by omega) (by omega)
      refine pm_blk hK zmm261 [] 5 19 [(2, 195), (0, S), (9, 0)] [(0, S), (0, pm_and S (μ 195 2))] μ [] rfl trivial ?_
      refine pm_icmp hK zmm261 .eq 6 25 rfl rfl (fun h1 => ?_) (fun h1 => ?_)
      · have h1 : pm_and S (μ 195 2) = S := h1
        refine pm_blk hK zmm261 [] 2 27 [(2, 195), (0, S), (0, 0)] [] μ [] rfl trivial ?_
        refine ch_lc2 hK ⟨by omega, by omega⟩ hW hw2 hwv hb196 (fun μ2 k1 k2 k3 k4 k5 k6 => ?_) hbd _ rfl ⟨by omega, by omega⟩ (by have h9 := hlo S.toNat (by omega); rw [eS] at h9; rw [h9]; show _ = μ0 196 ((S.toNat : Nat) : Int); rw [eS]) hb (fun q hq => hlo q (by omega)) hup hf hT
        refine pm_blk hK zmm261 [] 2 8 [(2, 195), (0, S + (-1)), (9, 0)] [] μ2 [pm_in (S + (-1))] rfl ⟨pm_in_mk (by omega) (by omega), trivial⟩ ?_
        exact ih _ (by omega) rfl ⟨by omega, by omega⟩ k2 (fun q hq => k3 q (by omega)) (fun q h1 h2 h3 => by
          by_cases hqS : (q : Int) = S
          · rw [hqS, k1, show S.toNat = q by omega]
          · exact k4 q (by omega) h2 h3) k5 k6
      · have h1 : pm_and S (μ 195 2) ≠ S := h1
        refine pm_blk hK zmm261 [] 3 8 [(2, 195), (0, S + (-1)), (9, 0)] [] μ [pm_in (S + (-1))] rfl ⟨pm_in_mk (by omega) (by omega), trivial⟩ ?_
        exact ih _ (by omega) rfl ⟨by omega, by omega⟩ hb (fun q hq => hlo q (by omega)) (fun q h1 h2 h3 => by
          by_cases hqS : (q : Int) = S
          · have hs9 : S.toNat &&& W = S.toNat := by rw [show S.toNat = q by omega]; exact h3
            omega
          · exact hup q (by omega) h2 h3) hf hT
set_option maxRecDepth 100000 in
theorem ch_choose (hK : zKK ST) (hT : zTJ φ μ) {W : Nat} (hW : W < 256) (hw2 : μ 195 2 = (W : Int)) (hwv : ∀ s : Nat, s < 8 → 0 ≤ μ 197 (s : Int) ∧ μ 197 (s : Int) ≤ 1000000000000000) (hb : ∀ q : Nat, q < 256 → 0 ≤ μ 196 (q : Int) ∧ μ 196 (q : Int) ≤ 1000000000000000) (hb196 : sx_bit Wm 196 = true) (hbd : 1 ≤ bud.1 ∧ 23 ≤ bud.2.1) : zC D Wm ST b0 l Sg zM261 bud [(2, 195)] μ (fun st' μ' => st' = [] ∧ zTJ φ μ' ∧ (∀ q : Nat, q < 256 → 0 ≤ μ' 196 (q : Int) ∧ μ' 196 (q : Int) ≤ 1000000000000000) ∧ (∀ q : Nat, q < 256 → ch_sub q W → μ' 196 (q : Int) = ch_row (fun q : Nat => μ 196 (q : Int)) (fun s : Nat => μ 197 (s : Int)) q 8) ∧ ∀ r, r ≠ 196 → μ' r = μ r) := by
  refine pm_blk hK zmm261 [] 2 4 [(2, 195), (9, 0), (9, 0)] [(2, 196)] μ [] rfl trivial ?_
  refine zg_alen hK zmm261 (r := 196) (g := zG196) rfl rfl (Nn := 256) rfl (by decide) rfl ?_
  refine pm_blk hK zmm261 [] 3 8 [(2, 195), (0, 256 - 1), (9, 0)] [] μ [pm_in (256 - 1)] rfl ⟨pm_in_mk (by omega) (by omega), trivial⟩ ?_
  exact ch_lc1 hK (μ0 := μ) hW hw2 hwv hb196 hbd _ rfl ⟨by omega, by omega⟩ hb (fun _ _ => rfl) (fun q h1 h2 h3 => absurd h1 (by omega)) (fun _ _ => rfl) hT
end ZHW
