/-! F: the reference: the evening; walks printed by program (wip/p30/pmgen.py) and filled by hand -/
section ZHW
variable {φ : Option pm_Mem}
variable {D : va_G} {Wm : Nat} {ST : List (String × String × String × Nat)} {b0 : sx_B} {l : Launch} {Sg : Nat → Option Nat} {bud : sx_Bu} {μ : pm_Mem} {B0 : Nat → Prop} {J : (Nat → Option Nat) → Heap → Prop}
set_option maxRecDepth 100000 in
theorem fr_ev1 (hK : zKK ST) {X : Nat → List pm_V → List pm_V → pm_Mem → Prop} {μ0 : pm_Mem} {th : Bool} (hth : fa_th th μ0) {ls : List (Int × List zIw × List zIw)} (hL : fr_L μ0 0 ls) (hb206 : sx_bit Wm 206 = true) (hb210 : sx_bit Wm 210 = true) (hb224 : sx_bit Wm 224 = true) (hb225 : sx_bit Wm 225 = true) (K : ∀ (s : Int) (μ : pm_Mem), zTJ φ μ → (μ 206, μ 210) = fa_shuts th (fr_law ls) (μ0 209) (μ0 205 7) (μ0 205 6).toNat (μ0 206, μ0 210) → (∀ r, r ≠ 206 → r ≠ 210 → r ≠ 224 → r ≠ 225 → μ r = μ0 r) → zW D Wm ST b0 l Sg zM158 bud X 21 [(2, 205), (0, s)] [] μ) (hbd : 6 ≤ bud.1 ∧ 141 ≤ bud.2.1) : ∀ (n : Nat) {s : Int} {μ : pm_Mem}, (12 - s).toNat = n → ∀ (hs : 0 ≤ s ∧ s ≤ μ0 205 6) (hT : zTJ φ μ) (hn : (μ 206, μ 210) = fa_shuts th (fr_law ls) (μ0 209) (μ0 205 7) s.toNat (μ0 206, μ0 210)) (hf0 : (∀ r, r ≠ 206 → r ≠ 210 → r ≠ 224 → r ≠ 225 → μ r = μ0 r)), zW D Wm ST b0 l Sg zM158 bud X 2 [(2, 205), (0, s)] [] μ := by
  intro n
  induction n using Nat.strongRecOn with
  | ind n ih =>
    intro s μ hn hs hT hn hf0
    have f6 := zT_get hT zs205_6 (i := 6) (by omega) (by omega)
    have g6 : μ 205 6 = μ0 205 6 := by rw [hf0 205 (by decide) (by decide) (by decide) (by decide)]
    have es : ((s.toNat : Nat) : Int) = s := by omega
    have g209 := hf0 209 (by decide) (by decide) (by decide) (by decide)
    have g7 : μ 205 7 = μ0 205 7 := by rw [hf0 205 (by decide) (by decide) (by decide) (by decide)]
    have f1 := zT_get hT zs205_6 (i := 6) (by omega) (by omega)
    refine pm_blk hK zmm158 [] 3 7 [(2, 205), (0, s)] [(0, μ 205 6), (0, s)] μ [] rfl trivial ?_
    refine pm_icmp hK zmm158 .ge 14 21 rfl rfl (fun h0 => ?_) (fun h0 => ?_)
    · have h0 : μ 205 6 ≤ s := h0
      have ek : s.toNat = (μ0 205 6).toNat := by omega
      exact K _ _ hT (by rw [hn, ek]) hf0
    · have h0 : s < μ 205 6 := h0
      refine pm_blk hK zmm158 [] 2 12 [(2, 205), (0, s)] [(0, s), (2, 205)] μ [] rfl trivial ?_
      have hthc := fa_th_r hth (hf0 205 (by decide) (by decide) (by decide) (by decide))
      have hLc := fr_L_fr (fun r a b => hf0 r (by omega) (by omega) (by omega) (by omega)) hL
      refine pm_call hK zmm158 (392, 0, 315, 1) zM315 (5, 118) [(2, 205), (0, s)] [] rfl rfl rfl rfl ⟨by omega, by rw [zn315]; omega⟩ (fr_isShut hK (th := th) (ls := ls) (s := s) hthc hLc hT ⟨by omega, by omega⟩ hb206 hb210 hb224 hb225 ⟨Nat.le_refl _, Nat.le_refl _⟩) (fun st1 μc1 hp1 => ?_)
      obtain ⟨rfl, hTc1, hn1, hf1⟩ := hp1
      have hnn := hn1
      have hff := hf1
      refine pm_blk hK zmm158 [] 2 2 [(2, 205), (0, s + 1)] [] μc1 [pm_in (s + 1)] rfl ⟨pm_in_mk (by omega) (by omega), trivial⟩ ?_
      exact ih _ (by omega) rfl ⟨by omega, by omega⟩ hTc1 (by rw [show (s + 1).toNat = s.toNat + 1 by omega, fa_shuts_s, es, ← hn, ← g209, ← g7]; exact hnn) (fun r a b c d => (hff r a b c d).trans (hf0 r a b c d))
set_option maxRecDepth 100000 in
theorem fr_ev2 (hK : zKK ST)  {μ0 : pm_Mem} {N B : Int → Int} {th : Bool} {ls : List (Int × List zIw × List zIw)} (hS : (N, B) = fa_shuts th (fr_law ls) (μ0 209) (μ0 205 7) (μ0 205 6).toNat (μ0 206, μ0 210)) (hb206 : sx_bit Wm 206 = true) (hbd : 6 ≤ bud.1 ∧ 141 ≤ bud.2.1) : ∀ (n : Nat) {c : Int} {μ : pm_Mem}, (18 - c).toNat = n → ∀ (hc : 0 ≤ c ∧ c ≤ μ0 205 7) (hT : zTJ φ μ) (hn : μ 206 = fa_outs N c.toNat) (hB : μ 210 = B) (hf0 : (∀ r, r ≠ 206 → r ≠ 210 → r ≠ 224 → r ≠ 225 → μ r = μ0 r)), zW D Wm ST b0 l Sg zM158 bud (pm_X zM158 (fun st' μ' => st' = [] ∧ zTJ φ μ' ∧ (μ' 206, μ' 210) = fa_eve th (fr_law ls) (μ0 209) (μ0 205 6) (μ0 205 7) (μ0 206, μ0 210) ∧ (∀ r, r ≠ 206 → r ≠ 210 → r ≠ 224 → r ≠ 225 → μ' r = μ0 r))) 23 [(2, 205), (0, c)] [] μ := by
  intro n
  induction n using Nat.strongRecOn with
  | ind n ih =>
    intro c μ hn hc hT hn hB hf0
    have f7 := zT_get hT zs205_7 (i := 7) (by omega) (by omega)
    have g7 : μ 205 7 = μ0 205 7 := by rw [hf0 205 (by decide) (by decide) (by decide) (by decide)]
    have ec : ((c.toNat : Nat) : Int) = c := by omega
    have f1 := zT_get hT zs205_7 (i := 7) (by omega) (by omega)
    refine pm_blk hK zmm158 [66] 3 28 [(2, 205), (0, c)] [(0, μ 205 7), (0, c)] μ [] rfl trivial ?_
    refine pm_icmp hK zmm158 .ge 19 47 rfl rfl (fun h0 => ?_) (fun h0 => ?_)
    · have h0 : μ 205 7 ≤ c := h0
      refine pm_blk hK zmm158 [66] 5 54 [(2, 205), (0, c)] [] (pm_up μ 206 1 0) [sx_bit Wm 206 = true, 0 ≤ 1 ∧ 1 < 160] rfl ⟨hb206, ⟨by omega, by omega⟩, trivial⟩ ?_
      obtain ⟨μ1, eμ1⟩ : ∃ μ', μ' = pm_up μ 206 1 0 := ⟨_, rfl⟩
      rw [← eμ1]
      have hTμ1 : zTJ φ μ1 := by rw [eμ1]; exact zT_up hT zs206_1 rfl (i := 1) (by omega) (by omega) (by omega) (by omega)
      have n2 : μ1 206 = fa_up (fa_outs N c.toNat) 1 0 := by rw [eμ1, fa_pm, hn]
      have v0 : μ1 206 0 = fa_outs N c.toNat 0 := by rw [n2, fa_up_ne (by decide)]
      have b2 : μ1 210 = B := by rw [eμ1, pm_up_row (by decide), hB]
      have h2 : (∀ r, r ≠ 206 → r ≠ 210 → r ≠ 224 → r ≠ 225 → μ1 r = μ0 r) := fun r a b c d => (by rw [eμ1, pm_up_row a] : μ1 r = μ r).trans (hf0 r a b c d)
      have f2 := zT_get hTμ1 zs206_0 (i := 0) (by omega) (by omega)
      have w3 := zw32 ((μ1 206 0) + 1)
      refine pm_blk hK zmm158 [66] 10 68 [(2, 205), (0, c)] [] (pm_up μ1 206 0 (pm_w32 ((μ1 206 0) + 1))) [0 ≤ 0 ∧ 0 < 160, sx_bit Wm 206 = true, 0 ≤ 0 ∧ 0 < 160] rfl ⟨⟨by omega, by omega⟩, hb206, ⟨by omega, by omega⟩, trivial⟩ ?_
      obtain ⟨μ2, eμ2⟩ : ∃ μ', μ' = pm_up μ1 206 0 (pm_w32 ((μ1 206 0) + 1)) := ⟨_, rfl⟩
      rw [← eμ2]
      have hTμ2 : zTJ φ μ2 := by rw [eμ2]; exact zT_up hTμ1 zs206_0 rfl (i := 0) (by omega) (by omega) (by omega) (by omega)
      have n3 : μ2 206 = fa_up (fa_up (fa_outs N c.toNat) 1 0) 0 (pm_w32 (fa_outs N c.toNat 0 + 1)) := by rw [eμ2, fa_pm, v0, n2]
      have b3 : μ2 210 = B := by rw [eμ2, pm_up_row (by decide), b2]
      have h3 : (∀ r, r ≠ 206 → r ≠ 210 → r ≠ 224 → r ≠ 225 → μ2 r = μ0 r) := fun r a b c d => (by rw [eμ2, pm_up_row a] : μ2 r = μ1 r).trans (h2 r a b c d)
      have ek : c.toNat = (μ0 205 7).toNat := by omega
      exact pm_vret rfl rfl ⟨rfl, hTμ2, by rw [n3, b3, ek]; exact (fa_eve_e hS).symm, h3⟩
    · have h0 : c < μ 205 7 := h0
      refine pm_blk hK zmm158 [66] 7 41 [(2, 205), (0, c)] [] (pm_up μ 206 (106 + c) 0) [pm_in (106 + c), sx_bit Wm 206 = true, 0 ≤ 106 + c ∧ 106 + c < 160] rfl ⟨pm_in_mk (by omega) (by omega), hb206, ⟨by omega, by omega⟩, trivial⟩ ?_
      obtain ⟨μ3, eμ3⟩ : ∃ μ', μ' = pm_up μ 206 (106 + c) 0 := ⟨_, rfl⟩
      rw [← eμ3]
      have hTμ3 : zTJ φ μ3 := by rw [eμ3]; exact zT_up hT zs206_106 rfl (i := 106 + c) (by omega) (by omega) (by omega) (by omega)
      have n1 : μ3 206 = fa_outs N (c + 1).toNat := by
        rw [eμ3, fa_pm, hn, show (c + 1).toNat = c.toNat + 1 by omega, fa_outs_s, ec]
      have b1 : μ3 210 = B := by rw [eμ3, pm_up_row (by decide), hB]
      have h1 : (∀ r, r ≠ 206 → r ≠ 210 → r ≠ 224 → r ≠ 225 → μ3 r = μ0 r) := fun r a b c d => (by rw [eμ3, pm_up_row a] : μ3 r = μ r).trans (hf0 r a b c d)
      refine pm_blk hK zmm158 [66] 2 23 [(2, 205), (0, c + 1)] [] μ3 [pm_in (c + 1)] rfl ⟨pm_in_mk (by omega) (by omega), trivial⟩ ?_
      exact ih _ (by omega) rfl ⟨by omega, by omega⟩ hTμ3 n1 b1 h1
set_option maxRecDepth 100000 in
theorem fr_evening (hK : zKK ST) {th : Bool} (hth : fa_th th μ) {ls : List (Int × List zIw × List zIw)} (hL : fr_L μ 0 ls) (hT : zTJ φ μ) (hb206 : sx_bit Wm 206 = true) (hb210 : sx_bit Wm 210 = true) (hb224 : sx_bit Wm 224 = true) (hb225 : sx_bit Wm 225 = true) (hbd : 6 ≤ bud.1 ∧ 141 ≤ bud.2.1) : zC D Wm ST b0 l Sg zM158 bud [(2, 205)] μ (fun st' μ' => st' = [] ∧ zTJ φ μ' ∧ (μ' 206, μ' 210) = fa_eve th (fr_law ls) (μ 209) (μ 205 6) (μ 205 7) (μ 206, μ 210) ∧ (∀ r, r ≠ 206 → r ≠ 210 → r ≠ 224 → r ≠ 225 → μ' r = μ r)) := by
  have f6 := zT_get hT zs205_6 (i := 6) (by omega) (by omega)
  have f7 := zT_get hT zs205_7 (i := 7) (by omega) (by omega)
  refine pm_blk hK zmm158 [] 2 2 [(2, 205), (0, 0)] [] μ [] rfl trivial ?_
  refine fr_ev1 hK (μ0 := μ) hth hL hb206 hb210 hb224 hb225 (fun s μ1 hT1 hn1 hf1 => ?_) hbd _ rfl ⟨by omega, by omega⟩ hT rfl (fun _ _ _ _ _ => rfl)
  refine pm_blk hK zmm158 [] 2 23 [(2, 205), (0, 0)] [] μ1 [] rfl trivial ?_
  exact fr_ev2 hK (μ0 := μ) (N := μ1 206) (B := μ1 210) (th := th) (ls := ls) hn1 hb206 hbd _ (c := 0) rfl ⟨by omega, by omega⟩ hT1 rfl rfl hf1
end ZHW
