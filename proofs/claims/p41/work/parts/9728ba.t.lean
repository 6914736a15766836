/-! F: the reference runs steps of THE LAW; walks printed by program (wip/p30/pmgen.py) and filled by hand -/
section ZHW
variable {φ : Option pm_Mem}
variable {D : va_G} {Wm : Nat} {ST : List (String × String × String × Nat)} {b0 : sx_B} {l : Launch} {Sg : Nat → Option Nat} {bud : sx_Bu} {μ : pm_Mem} {B0 : Nat → Prop} {J : (Nat → Option Nat) → Heap → Prop}
set_option maxRecDepth 100000 in
theorem fr_in (hK : zKK ST) {c : Int} (hT : zTJ φ μ) (hc : 0 ≤ c ∧ c ≤ 17) (hbd : 0 ≤ bud.1 ∧ 0 ≤ bud.2.1) : zC D Wm ST b0 l Sg zM298 bud [(2, 205), (0, c)] μ (fun st' μ' => μ = μ' ∧ st' = [(0, μ 206 (106 + c) - 1)]) := by
  have f1 := zT_get hT zs206_106 (i := 106 + c) (by omega) (by omega)
  refine pm_blk hK zmm298 [] 8 11 [(2, 205), (0, c)] [(0, (μ 206 (106 + c)) - 1)] μ [pm_in (106 + c), 0 ≤ 106 + c ∧ 106 + c < 160, pm_in ((μ 206 (106 + c)) - 1)] rfl ⟨pm_in_mk (by omega) (by omega), ⟨by omega, by omega⟩, pm_in_mk (by omega) (by omega), trivial⟩ ?_
  exact pm_iret rfl rfl ⟨rfl, rfl⟩
set_option maxRecDepth 100000 in
theorem fr_thl (hK : zKK ST)  {μ : pm_Mem} {s : Int} (hT : zTJ φ μ) (hbd : 1 ≤ bud.1 ∧ 22 ≤ bud.2.1) : ∀ (n : Nat) {z c : Int}, (μ 205 7 - c).toNat = n → ∀ (hc : 0 ≤ c ∧ c ≤ μ 205 7) (hz : z = ((fq_set (μ 206) s c.toNat : Nat) : Int)), zW D Wm ST b0 l Sg zM302 bud (pm_X zM302 (fun st' μ' => μ = μ' ∧ st' = [(0, ((fq_set (μ 206) s (μ 205 7).toNat : Nat) : Int))])) 4 [(2, 205), (0, s), (0, z), (0, c)] [] μ := by
  intro n
  induction n using Nat.strongRecOn with
  | ind n ih =>
    intro z c hn hc hz
    have f7 := zT_get hT zs205_7 (i := 7) (by omega) (by omega)
    have hlt := fq_set_lt (μ 206) s c.toNat
    have hp : 2 ^ c.toNat ≤ 2 ^ 18 := Nat.pow_le_pow_right (by decide) (by omega)
    have ec : ((c.toNat : Nat) : Int) = c := by omega
    have es := fq_set_s (μ 206) s c.toNat
    rw [ec] at es
    refine pm_blk hK zmm302 [] 3 9 [(2, 205), (0, s), (0, z), (0, c)] [(0, μ 205 7), (0, c)] μ [] rfl trivial ?_
    refine pm_icmp hK zmm302 .ge 24 33 rfl rfl (fun h0 => ?_) (fun h0 => ?_)
    · have h0 : μ 205 7 ≤ c := h0
      refine pm_blk hK zmm302 [] 1 34 [(2, 205), (0, s), (0, z), (0, c)] [(0, z)] μ [] rfl trivial ?_
      have ek : c = μ 205 7 := by omega
      exact pm_iret rfl rfl ⟨rfl, by rw [hz, ek]⟩
    · have h0 : c < μ 205 7 := h0
      refine pm_blk hK zmm302 [] 2 14 [(2, 205), (0, s), (0, z), (0, c)] [(0, c), (2, 205)] μ [] rfl trivial ?_
      refine pm_call hK zmm302 (154, 0, 298, 1) zM298 (0, 0) [(2, 205), (0, c)] [] rfl rfl rfl rfl ⟨by omega, by rw [zn298]; omega⟩ (fr_in hK hT ⟨by omega, by omega⟩ ⟨Nat.le_refl _, Nat.le_refl _⟩) (fun st1 μc1 hp1 => ?_)
      obtain ⟨rfl, rfl⟩ := hp1
      refine pm_blk hK zmm302 [] 1 18 [(2, 205), (0, s), (0, z), (0, c)] [(0, s), (0, μ 206 (106 + (c)) - 1)] μ [] rfl trivial ?_
      refine pm_icmp hK zmm302 .ne 9 27 rfl rfl (fun h1 => ?_) (fun h1 => ?_)
      · have h1 : μ 206 (106 + (c)) - 1 ≠ s := h1
        refine pm_blk hK zmm302 [] 2 4 [(2, 205), (0, s), (0, z), (0, c + 1)] [] μ [pm_in (c + 1)] rfl ⟨pm_in_mk (by omega) (by omega), trivial⟩ ?_
        refine ih _ (by omega) rfl ⟨by omega, by omega⟩ ?_
        rw [show (c + 1).toNat = c.toNat + 1 by omega]
        first
        | (rw [es, e1, hz]; exact eo)
        | (rw [es, if_neg (by omega)]; exact hz)
        | (exfalso; omega)
      · have h1 : μ 206 (106 + (c)) - 1 = s := h1
        have hin : μ 206 (106 + c) = s + 1 := by omega
        have e1 := zshl1 c.toNat (by omega)
        rw [ec] at e1
        have eo := zor (x := z) (y := ((2 ^ c.toNat : Nat) : Int)) (by omega) (by omega) (by omega) (by omega)
        rw [Int.toNat_natCast, hz, Int.toNat_natCast] at eo
        rw [if_pos hin] at es
        refine pm_blk hK zmm302 [] 8 4 [(2, 205), (0, s), (0, pm_or z (pm_shl 1 c)), (0, c + 1)] [] μ [pm_in (c + 1)] rfl ⟨pm_in_mk (by omega) (by omega), trivial⟩ ?_
        refine ih _ (by omega) rfl ⟨by omega, by omega⟩ ?_
        rw [show (c + 1).toNat = c.toNat + 1 by omega]
        first
        | (rw [es, e1, hz]; exact eo)
        | (rw [es, if_neg (by omega)]; exact hz)
        | (exfalso; omega)
set_option maxRecDepth 100000 in
theorem fr_those (hK : zKK ST) {s : Int} (hT : zTJ φ μ) (hbd : 1 ≤ bud.1 ∧ 22 ≤ bud.2.1) : zC D Wm ST b0 l Sg zM302 bud [(2, 205), (0, s)] μ (fun st' μ' => μ = μ' ∧ st' = [(0, ((fq_set (μ 206) s (μ 205 7).toNat : Nat) : Int))]) := by
  refine pm_blk hK zmm302 [] 4 4 [(2, 205), (0, s), (0, 0), (0, 0)] [] μ [] rfl trivial ?_
  have f7 := zT_get hT zs205_7 (i := 7) (by omega) (by omega)
  exact fr_thl hK hT hbd _ rfl ⟨by omega, by omega⟩ rfl
set_option maxRecDepth 100000 in
theorem fr_onl (hK : zKK ST)  {μ : pm_Mem} {s T : Int} (hT : T ≤ 18) (hbd : 0 ≤ bud.1 ∧ 0 ≤ bud.2.1) : ∀ (n : Nat) {c v : Int}, v.toNat = n → ∀ (hv : 0 ≤ v ∧ v ≤ 262143) (hn0 : 0 ≤ c) (hz : c + ((fq v.toNat 18 : Nat) : Int) = T), zW D Wm ST b0 l Sg zM152 bud (pm_X zM152 (fun st' μ' => μ = μ' ∧ st' = [(0, T)])) 4 [(2, 205), (0, s), (0, c), (0, v)] [] μ := by
  intro n
  induction n using Nat.strongRecOn with
  | ind n ih =>
    intro c v hn hv hn0 hz
    refine pm_blk hK zmm152 [] 1 5 [(2, 205), (0, s), (0, c), (0, v)] [(0, v)] μ [] rfl trivial ?_
    refine pm_if hK zmm152 .eq 16 21 rfl rfl (fun h0 => ?_) (fun h0 => ?_)
    · have h0 : v = (0 : Int) := h0
      refine pm_blk hK zmm152 [] 1 22 [(2, 205), (0, s), (0, c), (0, v)] [(0, c)] μ [] rfl trivial ?_
      have e0 : v = 0 := by omega
      subst e0
      have ez : fq (0 : Int).toNat 18 = 0 := fq_0 18
      exact pm_iret rfl rfl ⟨rfl, by rw [show c = T by omega]⟩
    · have h0 : v ≠ (0 : Int) := h0
      have ea := zand (x := v) (y := v - 1) (by omega) (by omega) (by omega) (by omega)
      have es := fq_clear 18 (v := v.toNat) (by omega) (by omega)
      rw [show (v - 1).toNat = v.toNat - 1 by omega] at ea
      have el : v.toNat &&& (v.toNat - 1) ≤ v.toNat - 1 := Nat.and_le_right
      refine pm_blk hK zmm152 [] 11 4 [(2, 205), (0, s), (0, c + 1), (0, pm_and v (v - 1))] [] μ [pm_in (c + 1), pm_in (v - 1)] rfl ⟨pm_in_mk (by omega) (by omega), pm_in_mk (by omega) (by omega), trivial⟩ ?_
      have ev : (pm_and v (v - 1)).toNat = v.toNat &&& (v.toNat - 1) := by rw [ea, Int.toNat_natCast]
      exact ih _ (by rw [ev]; omega) rfl ⟨by rw [ea]; omega, by rw [ea]; omega⟩ (by omega) (by rw [ev]; omega)
set_option maxRecDepth 100000 in
theorem fr_ones (hK : zKK ST) {s : Int} (hs : 0 ≤ s ∧ s ≤ 262143) (hbd : 0 ≤ bud.1 ∧ 0 ≤ bud.2.1) : zC D Wm ST b0 l Sg zM152 bud [(2, 205), (0, s)] μ (fun st' μ' => μ = μ' ∧ st' = [(0, ((fq s.toNat 18 : Nat) : Int))]) := by
  refine pm_blk hK zmm152 [] 4 4 [(2, 205), (0, s), (0, 0), (0, s)] [] μ [] rfl trivial ?_
  exact fr_onl hK (by have := fq_le s.toNat 18; omega) hbd _ rfl hs (by omega) (by omega)
set_option maxRecDepth 100000 in
theorem fr_asks (hK : zKK ST) {c s : Int} (hT : zTJ φ μ) (hc : 0 ≤ c ∧ c ≤ 17) (hs : 0 ≤ s ∧ s ≤ 11) (hb224 : sx_bit Wm 224 = true) (hbd : 2 ≤ bud.1 ∧ 46 ≤ bud.2.1) : zC D Wm ST b0 l Sg zM301 bud [(2, 205), (0, c), (0, s)] μ (fun st' μ' => st' = [] ∧ zTJ φ μ' ∧ (∀ i : Int, 0 ≤ i → i ≤ 10 → μ' 224 i = fa_W (μ 206) (μ 209) (μ 205 7) c s i) ∧ (∀ r, r ≠ 224 → μ' r = μ r)) := by
  have o0 : ∀ r, r ≠ 224 → μ r = μ r := fun _ _ => rfl
  have fm := zT_get hT zs205_7 (i := 7) (by omega) (by omega)
  have f1 := zT_get hT zs206_88 (i := 88 + c) (by omega) (by omega)
  refine pm_blk hK zmm301 [] 10 15 [(2, 205), (0, c), (0, s)] [] (pm_up μ 224 0 (μ 206 (88 + c))) [pm_in (88 + c), 0 ≤ 88 + c ∧ 88 + c < 160, sx_bit Wm 224 = true, 0 ≤ 0 ∧ 0 < 11] rfl ⟨pm_in_mk (by omega) (by omega), ⟨by omega, by omega⟩, hb224, ⟨by omega, by omega⟩, trivial⟩ ?_
  obtain ⟨μ1, eμ1⟩ : ∃ μ', μ' = pm_up μ 224 0 (μ 206 (88 + c)) := ⟨_, rfl⟩
  rw [← eμ1]
  have hTμ1 : zTJ φ μ1 := by rw [eμ1]; exact zT_up hT zs224_0 rfl (i := 0) (by omega) (by omega) (by omega) (by omega)
  have o1 : ∀ r, r ≠ 224 → μ1 r = μ r := fun r hr => by rw [eμ1, pm_up_row hr]
  have w0 : μ1 224 0 = μ 206 (88 + c) := by rw [eμ1, pm_up_eq, o0 206 (by decide)]
  have g2 : μ1 209 c = μ 209 c := by rw [eμ1, pm_up_off (by decide)]
  have f3 := zT_get hTμ1 zs209_0 (i := c) (by omega) (by omega)
  refine pm_blk hK zmm301 [] 8 27 [(2, 205), (0, c), (0, s)] [] (pm_up μ1 224 1 (μ1 209 c)) [0 ≤ c ∧ c < 18, sx_bit Wm 224 = true, 0 ≤ 1 ∧ 1 < 11] rfl ⟨⟨by omega, by omega⟩, hb224, ⟨by omega, by omega⟩, trivial⟩ ?_
  obtain ⟨μ2, eμ2⟩ : ∃ μ', μ' = pm_up μ1 224 1 (μ1 209 c) := ⟨_, rfl⟩
  rw [← eμ2]
  have hTμ2 : zTJ φ μ2 := by rw [eμ2]; exact zT_up hTμ1 zs224_1 rfl (i := 1) (by omega) (by omega) (by omega) (by omega)
  have o2 : ∀ r, r ≠ 224 → μ2 r = μ r := fun r hr => by rw [eμ2, pm_up_row hr]; exact o1 r hr
  have w0 : μ2 224 0 = μ 206 (88 + c) := by rw [eμ2, pm_up_ne (by decide)]; exact w0
  have w1 : μ2 224 1 = μ 209 c := by rw [eμ2, pm_up_eq, o1 209 (by decide)]
  have g4 : μ2 206 (4 + s) = μ 206 (4 + s) := by rw [eμ2, pm_up_off (by decide), eμ1, pm_up_off (by decide)]
  have f5 := zT_get hTμ2 zs206_4 (i := 4 + s) (by omega) (by omega)
  refine pm_blk hK zmm301 [] 10 41 [(2, 205), (0, c), (0, s)] [] (pm_up μ2 224 2 (μ2 206 (4 + s))) [pm_in (4 + s), 0 ≤ 4 + s ∧ 4 + s < 160, sx_bit Wm 224 = true, 0 ≤ 2 ∧ 2 < 11] rfl ⟨pm_in_mk (by omega) (by omega), ⟨by omega, by omega⟩, hb224, ⟨by omega, by omega⟩, trivial⟩ ?_
  obtain ⟨μ3, eμ3⟩ : ∃ μ', μ' = pm_up μ2 224 2 (μ2 206 (4 + s)) := ⟨_, rfl⟩
  rw [← eμ3]
  have hTμ3 : zTJ φ μ3 := by rw [eμ3]; exact zT_up hTμ2 zs224_2 rfl (i := 2) (by omega) (by omega) (by omega) (by omega)
  have o3 : ∀ r, r ≠ 224 → μ3 r = μ r := fun r hr => by rw [eμ3, pm_up_row hr]; exact o2 r hr
  have w0 : μ3 224 0 = μ 206 (88 + c) := by rw [eμ3, pm_up_ne (by decide)]; exact w0
  have w1 : μ3 224 1 = μ 209 c := by rw [eμ3, pm_up_ne (by decide)]; exact w1
  have w2 : μ3 224 2 = μ 206 (4 + s) := by rw [eμ3, pm_up_eq, o2 206 (by decide)]
  have g6 : μ3 206 (16 + s) = μ 206 (16 + s) := by rw [eμ3, pm_up_off (by decide), eμ2, pm_up_off (by decide), eμ1, pm_up_off (by decide)]
  have f7 := zT_get hTμ3 zs206_4 (i := 16 + s) (by omega) (by omega)
  refine pm_blk hK zmm301 [] 10 56 [(2, 205), (0, c), (0, s)] [] (pm_up μ3 224 3 (μ3 206 (16 + s))) [pm_in (16 + s), 0 ≤ 16 + s ∧ 16 + s < 160, sx_bit Wm 224 = true, 0 ≤ 3 ∧ 3 < 11] rfl ⟨pm_in_mk (by omega) (by omega), ⟨by omega, by omega⟩, hb224, ⟨by omega, by omega⟩, trivial⟩ ?_
  obtain ⟨μ4, eμ4⟩ : ∃ μ', μ' = pm_up μ3 224 3 (μ3 206 (16 + s)) := ⟨_, rfl⟩
  rw [← eμ4]
  have hTμ4 : zTJ φ μ4 := by rw [eμ4]; exact zT_up hTμ3 zs224_2 rfl (i := 3) (by omega) (by omega) (by omega) (by omega)
  have o4 : ∀ r, r ≠ 224 → μ4 r = μ r := fun r hr => by rw [eμ4, pm_up_row hr]; exact o3 r hr
  have w0 : μ4 224 0 = μ 206 (88 + c) := by rw [eμ4, pm_up_ne (by decide)]; exact w0
  have w1 : μ4 224 1 = μ 209 c := by rw [eμ4, pm_up_ne (by decide)]; exact w1
  have w2 : μ4 224 2 = μ 206 (4 + s) := by rw [eμ4, pm_up_ne (by decide)]; exact w2
  have w3 : μ4 224 3 = μ 206 (16 + s) := by rw [eμ4, pm_up_eq, o3 206 (by decide)]
  have g8 : μ4 206 (28 + s) = μ 206 (28 + s) := by rw [eμ4, pm_up_off (by decide), eμ3, pm_up_off (by decide), eμ2, pm_up_off (by decide), eμ1, pm_up_off (by decide)]
  have f9 := zT_get hTμ4 zs206_28 (i := 28 + s) (by omega) (by omega)
  refine pm_blk hK zmm301 [] 10 71 [(2, 205), (0, c), (0, s)] [] (pm_up μ4 224 4 (μ4 206 (28 + s))) [pm_in (28 + s), 0 ≤ 28 + s ∧ 28 + s < 160, sx_bit Wm 224 = true, 0 ≤ 4 ∧ 4 < 11] rfl ⟨pm_in_mk (by omega) (by omega), ⟨by omega, by omega⟩, hb224, ⟨by omega, by omega⟩, trivial⟩ ?_
  obtain ⟨μ5, eμ5⟩ : ∃ μ', μ' = pm_up μ4 224 4 (μ4 206 (28 + s)) := ⟨_, rfl⟩
  rw [← eμ5]
  have hTμ5 : zTJ φ μ5 := by rw [eμ5]; exact zT_up hTμ4 zs224_4 rfl (i := 4) (by omega) (by omega) (by omega) (by omega)
  have o5 : ∀ r, r ≠ 224 → μ5 r = μ r := fun r hr => by rw [eμ5, pm_up_row hr]; exact o4 r hr
  have w0 : μ5 224 0 = μ 206 (88 + c) := by rw [eμ5, pm_up_ne (by decide)]; exact w0
  have w1 : μ5 224 1 = μ 209 c := by rw [eμ5, pm_up_ne (by decide)]; exact w1
  have w2 : μ5 224 2 = μ 206 (4 + s) := by rw [eμ5, pm_up_ne (by decide)]; exact w2
  have w3 : μ5 224 3 = μ 206 (16 + s) := by rw [eμ5, pm_up_ne (by decide)]; exact w3
  have w4 : μ5 224 4 = μ 206 (28 + s) := by rw [eμ5, pm_up_eq, o4 206 (by decide)]
  have g10 : μ5 206 (76 + s) = μ 206 (76 + s) := by rw [eμ5, pm_up_off (by decide), eμ4, pm_up_off (by decide), eμ3, pm_up_off (by decide), eμ2, pm_up_off (by decide), eμ1, pm_up_off (by decide)]
  have f11 := zT_get hTμ5 zs206_76 (i := 76 + s) (by omega) (by omega)
  refine pm_blk hK zmm301 [] 10 86 [(2, 205), (0, c), (0, s)] [] (pm_up μ5 224 5 (μ5 206 (76 + s))) [pm_in (76 + s), 0 ≤ 76 + s ∧ 76 + s < 160, sx_bit Wm 224 = true, 0 ≤ 5 ∧ 5 < 11] rfl ⟨pm_in_mk (by omega) (by omega), ⟨by omega, by omega⟩, hb224, ⟨by omega, by omega⟩, trivial⟩ ?_
  obtain ⟨μ6, eμ6⟩ : ∃ μ', μ' = pm_up μ5 224 5 (μ5 206 (76 + s)) := ⟨_, rfl⟩
  rw [← eμ6]
  have hTμ6 : zTJ φ μ6 := by rw [eμ6]; exact zT_up hTμ5 zs224_4 rfl (i := 5) (by omega) (by omega) (by omega) (by omega)
  have o6 : ∀ r, r ≠ 224 → μ6 r = μ r := fun r hr => by rw [eμ6, pm_up_row hr]; exact o5 r hr
  have w0 : μ6 224 0 = μ 206 (88 + c) := by rw [eμ6, pm_up_ne (by decide)]; exact w0
  have w1 : μ6 224 1 = μ 209 c := by rw [eμ6, pm_up_ne (by decide)]; exact w1
  have w2 : μ6 224 2 = μ 206 (4 + s) := by rw [eμ6, pm_up_ne (by decide)]; exact w2
  have w3 : μ6 224 3 = μ 206 (16 + s) := by rw [eμ6, pm_up_ne (by decide)]; exact w3
  have w4 : μ6 224 4 = μ 206 (28 + s) := by rw [eμ6, pm_up_ne (by decide)]; exact w4
  have w5 : μ6 224 5 = μ 206 (76 + s) := by rw [eμ6, pm_up_eq, o5 206 (by decide)]
  have g12 : μ6 206 (124 + c) = μ 206 (124 + c) := by rw [eμ6, pm_up_off (by decide), eμ5, pm_up_off (by decide), eμ4, pm_up_off (by decide), eμ3, pm_up_off (by decide), eμ2, pm_up_off (by decide), eμ1, pm_up_off (by decide)]
  have f13 := zT_get hTμ6 zs206_124 (i := 124 + c) (by omega) (by omega)
  refine pm_blk hK zmm301 [] 10 102 [(2, 205), (0, c), (0, s)] [] (pm_up μ6 224 6 (μ6 206 (124 + c))) [pm_in (124 + c), 0 ≤ 124 + c ∧ 124 + c < 160, sx_bit Wm 224 = true, 0 ≤ 6 ∧ 6 < 11] rfl ⟨pm_in_mk (by omega) (by omega), ⟨by omega, by omega⟩, hb224, ⟨by omega, by omega⟩, trivial⟩ ?_
  obtain ⟨μ7, eμ7⟩ : ∃ μ', μ' = pm_up μ6 224 6 (μ6 206 (124 + c)) := ⟨_, rfl⟩
  rw [← eμ7]
  have hTμ7 : zTJ φ μ7 := by rw [eμ7]; exact zT_up hTμ6 zs224_4 rfl (i := 6) (by omega) (by omega) (by omega) (by omega)
  have o7 : ∀ r, r ≠ 224 → μ7 r = μ r := fun r hr => by rw [eμ7, pm_up_row hr]; exact o6 r hr
  have w0 : μ7 224 0 = μ 206 (88 + c) := by rw [eμ7, pm_up_ne (by decide)]; exact w0
  have w1 : μ7 224 1 = μ 209 c := by rw [eμ7, pm_up_ne (by decide)]; exact w1
  have w2 : μ7 224 2 = μ 206 (4 + s) := by rw [eμ7, pm_up_ne (by decide)]; exact w2
  have w3 : μ7 224 3 = μ 206 (16 + s) := by rw [eμ7, pm_up_ne (by decide)]; exact w3
  have w4 : μ7 224 4 = μ 206 (28 + s) := by rw [eμ7, pm_up_ne (by decide)]; exact w4
  have w5 : μ7 224 5 = μ 206 (76 + s) := by rw [eμ7, pm_up_ne (by decide)]; exact w5
  have w6 : μ7 224 6 = μ 206 (124 + c) := by rw [eμ7, pm_up_eq, o6 206 (by decide)]
  refine pm_blk hK zmm301 [] 6 111 [(2, 205), (0, c), (0, s)] [(0, s), (2, 205), (2, 205), (0, 7), (2, 224)] μ7 [] rfl trivial ?_
  have f7 := zT_get hTμ7 zs205_7 (i := 7) (by omega) (by omega)
  refine pm_call hK zmm301 (331, 0, 302, 1) zM302 (1, 22) [(2, 205), (0, s)] [(2, 205), (0, 7), (2, 224)] rfl rfl rfl rfl ⟨by omega, by rw [zn302]; omega⟩ (fr_those hK (s := s) hTμ7 ⟨Nat.le_refl _, Nat.le_refl _⟩) (fun st1 μc1 hp1 => ?_)
  obtain ⟨rfl, rfl⟩ := hp1
  have hbs : ((fq_set (μ7 206) s (μ7 205 7).toNat : Nat) : Int) ≤ 262143 := by
    have h1 := fq_set_lt (μ7 206) s (μ7 205 7).toNat
    have h2 : 2 ^ (μ7 205 7).toNat ≤ 2 ^ 18 := Nat.pow_le_pow_right (by decide) (by omega)
    omega
  refine pm_call hK zmm301 (334, 0, 152, 1) zM152 (0, 0) [(2, 205), (0, ((fq_set (μ7 206) (s) (μ7 205 7).toNat : Nat) : Int))] [(0, 7), (2, 224)] rfl rfl rfl rfl ⟨by omega, by rw [zn152]; omega⟩ (fr_ones hK (s := (((fq_set (μ7 206) (s) (μ7 205 7).toNat : Nat) : Int))) ⟨by omega, hbs⟩ ⟨Nat.le_refl _, Nat.le_refl _⟩) (fun st2 μc2 hp2 => ?_)
  obtain ⟨rfl, rfl⟩ := hp2
  have hq9 := fq_le (((((fq_set (μ7 206) (s) (μ7 205 7).toNat : Nat) : Int))).toNat) 18
  refine pm_blk hK zmm301 [] 1 118 [(2, 205), (0, c), (0, s)] [] (pm_up μ7 224 7 (((fq ((((fq_set (μ7 206) (s) (μ7 205 7).toNat : Nat) : Int))).toNat 18 : Nat) : Int))) [sx_bit Wm 224 = true, 0 ≤ 7 ∧ 7 < 11] rfl ⟨hb224, ⟨by omega, by omega⟩, trivial⟩ ?_
  obtain ⟨μ8, eμ8⟩ : ∃ μ', μ' = pm_up μ7 224 7 (((fq ((((fq_set (μ7 206) (s) (μ7 205 7).toNat : Nat) : Int))).toNat 18 : Nat) : Int)) := ⟨_, rfl⟩
  rw [← eμ8]
  have hTμ8 : zTJ φ μ8 := by rw [eμ8]; exact zT_up hTμ7 zs224_4 rfl (i := 7) (by omega) (by omega) (by omega) (by omega)
  have o8 : ∀ r, r ≠ 224 → μ8 r = μ r := fun r hr => by rw [eμ8, pm_up_row hr]; exact o7 r hr
  have w0 : μ8 224 0 = μ 206 (88 + c) := by rw [eμ8, pm_up_ne (by decide)]; exact w0
  have w1 : μ8 224 1 = μ 209 c := by rw [eμ8, pm_up_ne (by decide)]; exact w1
  have w2 : μ8 224 2 = μ 206 (4 + s) := by rw [eμ8, pm_up_ne (by decide)]; exact w2
  have w3 : μ8 224 3 = μ 206 (16 + s) := by rw [eμ8, pm_up_ne (by decide)]; exact w3
  have w4 : μ8 224 4 = μ 206 (28 + s) := by rw [eμ8, pm_up_ne (by decide)]; exact w4
  have w5 : μ8 224 5 = μ 206 (76 + s) := by rw [eμ8, pm_up_ne (by decide)]; exact w5
  have w6 : μ8 224 6 = μ 206 (124 + c) := by rw [eμ8, pm_up_ne (by decide)]; exact w6
  have w7 : μ8 224 7 = fa_crowd (μ 206) s (μ 205 7).toNat := by rw [eμ8, pm_up_eq, o7 206 (by decide), o7 205 (by decide), Int.toNat_natCast]; exact fr_crowd (by omega)
  have g14 : μ8 206 1 = μ 206 1 := by rw [eμ8, pm_up_off (by decide), eμ7, pm_up_off (by decide), eμ6, pm_up_off (by decide), eμ5, pm_up_off (by decide), eμ4, pm_up_off (by decide), eμ3, pm_up_off (by decide), eμ2, pm_up_off (by decide), eμ1, pm_up_off (by decide)]
  have f15 := zT_get hTμ8 zs206_1 (i := 1) (by omega) (by omega)
  refine pm_blk hK zmm301 [] 8 131 [(2, 205), (0, c), (0, s)] [] (pm_up μ8 224 8 (μ8 206 1)) [0 ≤ 1 ∧ 1 < 160, sx_bit Wm 224 = true, 0 ≤ 8 ∧ 8 < 11] rfl ⟨⟨by omega, by omega⟩, hb224, ⟨by omega, by omega⟩, trivial⟩ ?_
  obtain ⟨μ9, eμ9⟩ : ∃ μ', μ' = pm_up μ8 224 8 (μ8 206 1) := ⟨_, rfl⟩
  rw [← eμ9]
  have hTμ9 : zTJ φ μ9 := by rw [eμ9]; exact zT_up hTμ8 zs224_8 rfl (i := 8) (by omega) (by omega) (by omega) (by omega)
  have o9 : ∀ r, r ≠ 224 → μ9 r = μ r := fun r hr => by rw [eμ9, pm_up_row hr]; exact o8 r hr
  have w0 : μ9 224 0 = μ 206 (88 + c) := by rw [eμ9, pm_up_ne (by decide)]; exact w0
  have w1 : μ9 224 1 = μ 209 c := by rw [eμ9, pm_up_ne (by decide)]; exact w1
  have w2 : μ9 224 2 = μ 206 (4 + s) := by rw [eμ9, pm_up_ne (by decide)]; exact w2
  have w3 : μ9 224 3 = μ 206 (16 + s) := by rw [eμ9, pm_up_ne (by decide)]; exact w3
  have w4 : μ9 224 4 = μ 206 (28 + s) := by rw [eμ9, pm_up_ne (by decide)]; exact w4
  have w5 : μ9 224 5 = μ 206 (76 + s) := by rw [eμ9, pm_up_ne (by decide)]; exact w5
  have w6 : μ9 224 6 = μ 206 (124 + c) := by rw [eμ9, pm_up_ne (by decide)]; exact w6
  have w7 : μ9 224 7 = fa_crowd (μ 206) s (μ 205 7).toNat := by rw [eμ9, pm_up_ne (by decide)]; exact w7
  have w8 : μ9 224 8 = μ 206 1 := by rw [eμ9, pm_up_eq, o8 206 (by decide)]
  have g16 : μ9 206 (142 + c) = μ 206 (142 + c) := by rw [eμ9, pm_up_off (by decide), eμ8, pm_up_off (by decide), eμ7, pm_up_off (by decide), eμ6, pm_up_off (by decide), eμ5, pm_up_off (by decide), eμ4, pm_up_off (by decide), eμ3, pm_up_off (by decide), eμ2, pm_up_off (by decide), eμ1, pm_up_off (by decide)]
  have f17 := zT_get hTμ9 zs206_124 (i := 142 + c) (by omega) (by omega)
  refine pm_blk hK zmm301 [] 10 148 [(2, 205), (0, c), (0, s)] [] (pm_up μ9 224 9 (μ9 206 (142 + c))) [pm_in (142 + c), 0 ≤ 142 + c ∧ 142 + c < 160, sx_bit Wm 224 = true, 0 ≤ 9 ∧ 9 < 11] rfl ⟨pm_in_mk (by omega) (by omega), ⟨by omega, by omega⟩, hb224, ⟨by omega, by omega⟩, trivial⟩ ?_
  obtain ⟨μ10, eμ10⟩ : ∃ μ', μ' = pm_up μ9 224 9 (μ9 206 (142 + c)) := ⟨_, rfl⟩
  rw [← eμ10]
  have hTμ10 : zTJ φ μ10 := by rw [eμ10]; exact zT_up hTμ9 zs224_9 rfl (i := 9) (by omega) (by omega) (by omega) (by omega)
  have o10 : ∀ r, r ≠ 224 → μ10 r = μ r := fun r hr => by rw [eμ10, pm_up_row hr]; exact o9 r hr
  have w0 : μ10 224 0 = μ 206 (88 + c) := by rw [eμ10, pm_up_ne (by decide)]; exact w0
  have w1 : μ10 224 1 = μ 209 c := by rw [eμ10, pm_up_ne (by decide)]; exact w1
  have w2 : μ10 224 2 = μ 206 (4 + s) := by rw [eμ10, pm_up_ne (by decide)]; exact w2
  have w3 : μ10 224 3 = μ 206 (16 + s) := by rw [eμ10, pm_up_ne (by decide)]; exact w3
  have w4 : μ10 224 4 = μ 206 (28 + s) := by rw [eμ10, pm_up_ne (by decide)]; exact w4
  have w5 : μ10 224 5 = μ 206 (76 + s) := by rw [eμ10, pm_up_ne (by decide)]; exact w5
  have w6 : μ10 224 6 = μ 206 (124 + c) := by rw [eμ10, pm_up_ne (by decide)]; exact w6
  have w7 : μ10 224 7 = fa_crowd (μ 206) s (μ 205 7).toNat := by rw [eμ10, pm_up_ne (by decide)]; exact w7
  have w8 : μ10 224 8 = μ 206 1 := by rw [eμ10, pm_up_ne (by decide)]; exact w8
  have w9 : μ10 224 9 = μ 206 (142 + c) := by rw [eμ10, pm_up_eq, o9 206 (by decide)]
  have g18 : μ10 206 0 = μ 206 0 := by rw [eμ10, pm_up_off (by decide), eμ9, pm_up_off (by decide), eμ8, pm_up_off (by decide), eμ7, pm_up_off (by decide), eμ6, pm_up_off (by decide), eμ5, pm_up_off (by decide), eμ4, pm_up_off (by decide), eμ3, pm_up_off (by decide), eμ2, pm_up_off (by decide), eμ1, pm_up_off (by decide)]
  have f19 := zT_get hTμ10 zs206_0 (i := 0) (by omega) (by omega)
  refine pm_blk hK zmm301 [] 8 161 [(2, 205), (0, c), (0, s)] [] (pm_up μ10 224 10 (μ10 206 0)) [0 ≤ 0 ∧ 0 < 160, sx_bit Wm 224 = true, 0 ≤ 10 ∧ 10 < 11] rfl ⟨⟨by omega, by omega⟩, hb224, ⟨by omega, by omega⟩, trivial⟩ ?_
  obtain ⟨μ11, eμ11⟩ : ∃ μ', μ' = pm_up μ10 224 10 (μ10 206 0) := ⟨_, rfl⟩
  rw [← eμ11]
  have hTμ11 : zTJ φ μ11 := by rw [eμ11]; exact zT_up hTμ10 zs224_9 rfl (i := 10) (by omega) (by omega) (by omega) (by omega)
  have o11 : ∀ r, r ≠ 224 → μ11 r = μ r := fun r hr => by rw [eμ11, pm_up_row hr]; exact o10 r hr
  have w0 : μ11 224 0 = μ 206 (88 + c) := by rw [eμ11, pm_up_ne (by decide)]; exact w0
  have w1 : μ11 224 1 = μ 209 c := by rw [eμ11, pm_up_ne (by decide)]; exact w1
  have w2 : μ11 224 2 = μ 206 (4 + s) := by rw [eμ11, pm_up_ne (by decide)]; exact w2
  have w3 : μ11 224 3 = μ 206 (16 + s) := by rw [eμ11, pm_up_ne (by decide)]; exact w3
  have w4 : μ11 224 4 = μ 206 (28 + s) := by rw [eμ11, pm_up_ne (by decide)]; exact w4
  have w5 : μ11 224 5 = μ 206 (76 + s) := by rw [eμ11, pm_up_ne (by decide)]; exact w5
  have w6 : μ11 224 6 = μ 206 (124 + c) := by rw [eμ11, pm_up_ne (by decide)]; exact w6
  have w7 : μ11 224 7 = fa_crowd (μ 206) s (μ 205 7).toNat := by rw [eμ11, pm_up_ne (by decide)]; exact w7
  have w8 : μ11 224 8 = μ 206 1 := by rw [eμ11, pm_up_ne (by decide)]; exact w8
  have w9 : μ11 224 9 = μ 206 (142 + c) := by rw [eμ11, pm_up_ne (by decide)]; exact w9
  have w10 : μ11 224 10 = μ 206 0 := by rw [eμ11, pm_up_eq, o10 206 (by decide)]
  refine pm_vret rfl rfl ⟨rfl, hTμ11, fun i i0 i1 => ?_, o11⟩
  have hh : i = 0 ∨ i = 1 ∨ i = 2 ∨ i = 3 ∨ i = 4 ∨ i = 5 ∨ i = 6 ∨ i = 7 ∨ i = 8 ∨ i = 9 ∨ i = 10 := by omega
  rcases hh with rfl | rfl | rfl | rfl | rfl | rfl | rfl | rfl | rfl | rfl | rfl
  · exact w0
  · exact w1
  · exact w2
  · exact w3
  · exact w4
  · exact w5
  · exact w6
  · exact w7
  · exact w8
  · exact w9
  · exact w10
set_option maxRecDepth 100000 in
theorem fr_twoOf (hK : zKK ST) {o x y : Int} (hx : pm_in x) (hy : pm_in y) (h5 : o = 5 → 1 ≤ y) (hbd : 0 ≤ bud.1 ∧ 0 ≤ bud.2.1) : zC D Wm ST b0 l Sg zM306 bud [(2, 205), (0, o), (0, x), (0, y)] μ (fun st' μ' => μ = μ' ∧ st' = [(0, fv_twoR o x y)] ∧ pm_in (fv_twoR o x y)) := by
  refine pm_blk hK zmm306 [7, 16, 25, 95, 101] 2 2 [(2, 205), (0, o), (0, x), (0, y)] [(0, 2), (0, o)] μ [] rfl trivial ?_
  refine pm_icmp hK zmm306 .ne 7 9 rfl rfl (fun h0 => ?_) (fun h0 => ?_)
  · have h0 : o ≠ (2 : Int) := h0
    refine pm_blk hK zmm306 [7, 16, 25, 95, 101] 2 11 [(2, 205), (0, o), (0, x), (0, y)] [(0, 3), (0, o)] μ [] rfl trivial ?_
    refine pm_icmp hK zmm306 .ne 7 18 rfl rfl (fun h1 => ?_) (fun h1 => ?_)
    · have h1 : o ≠ (3 : Int) := h1
      refine pm_blk hK zmm306 [7, 16, 25, 95, 101] 2 20 [(2, 205), (0, o), (0, x), (0, y)] [(0, 4), (0, o)] μ [] rfl trivial ?_
      refine pm_icmp hK zmm306 .ne 7 27 rfl rfl (fun h2 => ?_) (fun h2 => ?_)
      · have h2 : o ≠ (4 : Int) := h2
        refine pm_blk hK zmm306 [7, 16, 25, 95, 101] 2 29 [(2, 205), (0, o), (0, x), (0, y)] [(0, 5), (0, o)] μ [] rfl trivial ?_
        refine pm_icmp hK zmm306 .ne 7 36 rfl rfl (fun h3 => ?_) (fun h3 => ?_)
        · have h3 : o ≠ (5 : Int) := h3
          refine pm_blk hK zmm306 [7, 16, 25, 95, 101] 2 39 [(2, 205), (0, o), (0, x), (0, y)] [(0, 6), (0, o)] μ [] rfl trivial ?_
          refine pm_icmp hK zmm306 .ne 14 53 rfl rfl (fun h4 => ?_) (fun h4 => ?_)
          · have h4 : o ≠ (6 : Int) := h4
            refine pm_blk hK zmm306 [7, 16, 25, 95, 101] 2 56 [(2, 205), (0, o), (0, x), (0, y)] [(0, 7), (0, o)] μ [] rfl trivial ?_
            refine pm_icmp hK zmm306 .ne 14 70 rfl rfl (fun h5 => ?_) (fun h5 => ?_)
            · have h5 : o ≠ (7 : Int) := h5
              refine pm_blk hK zmm306 [7, 16, 25, 95, 101] 2 73 [(2, 205), (0, o), (0, x), (0, y)] [(0, 8), (0, o)] μ [] rfl trivial ?_
              refine pm_icmp hK zmm306 .ne 14 87 rfl rfl (fun h6 => ?_) (fun h6 => ?_)
              · have h6 : o ≠ (8 : Int) := h6
                refine pm_blk hK zmm306 [7, 16, 25, 95, 101] 2 90 [(2, 205), (0, o), (0, x), (0, y)] [(0, 10), (0, o)] μ [] rfl trivial ?_
                refine pm_icmp hK zmm306 .ne 9 99 rfl rfl (fun h7 => ?_) (fun h7 => ?_)
                · have h7 : o ≠ (10 : Int) := h7
                  have w1 := zw32 (x + y)
                  refine pm_blk hK zmm306 [7, 16, 25, 95, 101] 3 102 [(2, 205), (0, o), (0, x), (0, y)] [(0, pm_w32 (x + y))] μ [] rfl trivial ?_
                  refine pm_if hK zmm306 .le 7 109 rfl rfl (fun h8 => ?_) (fun h8 => ?_)
                  · have h8 : pm_w32 (x + y) ≤ (0 : Int) := h8
                    refine pm_blk hK zmm306 [7, 16, 25, 95, 101] 1 110 [(2, 205), (0, o), (0, x), (0, y)] [(0, 0)] μ [] rfl trivial ?_
                    first
                    | exact pm_iret rfl rfl ⟨rfl, by rw [fv_R10 (by omega)], by rw [fv_R10 (by omega)]; exact zw32 _⟩
                    | (have h9 := fv_R11 (o := o) (x := x) (y := y) (by omega) (by omega) (by omega) (by omega) (by omega) (by omega) (by omega) (by omega)
                       rw [if_pos (by omega)] at h9
                       exact pm_iret rfl rfl ⟨rfl, by rw [h9], by rw [h9]; exact ⟨by omega, by omega⟩⟩)
                    | (have h9 := fv_R11 (o := o) (x := x) (y := y) (by omega) (by omega) (by omega) (by omega) (by omega) (by omega) (by omega) (by omega)
                       rw [if_neg (by omega)] at h9
                       exact pm_iret rfl rfl ⟨rfl, by rw [h9], by rw [h9]; exact ⟨by omega, by omega⟩⟩)
                    | (exfalso; omega)
                  · have h8 : (0 : Int) < pm_w32 (x + y) := h8
                    refine pm_blk hK zmm306 [7, 16, 25, 95, 101] 2 110 [(2, 205), (0, o), (0, x), (0, y)] [(0, 1)] μ [] rfl trivial ?_
                    first
                    | exact pm_iret rfl rfl ⟨rfl, by rw [fv_R10 (by omega)], by rw [fv_R10 (by omega)]; exact zw32 _⟩
                    | (have h9 := fv_R11 (o := o) (x := x) (y := y) (by omega) (by omega) (by omega) (by omega) (by omega) (by omega) (by omega) (by omega)
                       rw [if_pos (by omega)] at h9
                       exact pm_iret rfl rfl ⟨rfl, by rw [h9], by rw [h9]; exact ⟨by omega, by omega⟩⟩)
                    | (have h9 := fv_R11 (o := o) (x := x) (y := y) (by omega) (by omega) (by omega) (by omega) (by omega) (by omega) (by omega) (by omega)
                       rw [if_neg (by omega)] at h9
                       exact pm_iret rfl rfl ⟨rfl, by rw [h9], by rw [h9]; exact ⟨by omega, by omega⟩⟩)
                    | (exfalso; omega)
                · have h7 : o = (10 : Int) := h7
                  have w2 := zw32 (x * y)
                  refine pm_blk hK zmm306 [7, 16, 25, 95, 101] 4 110 [(2, 205), (0, o), (0, x), (0, y)] [(0, pm_w32 (x * y))] μ [] rfl trivial ?_
                  first
                  | exact pm_iret rfl rfl ⟨rfl, by rw [fv_R10 (by omega)], by rw [fv_R10 (by omega)]; exact zw32 _⟩
                  | (have h9 := fv_R11 (o := o) (x := x) (y := y) (by omega) (by omega) (by omega) (by omega) (by omega) (by omega) (by omega) (by omega)
                     rw [if_pos (by omega)] at h9
                     exact pm_iret rfl rfl ⟨rfl, by rw [h9], by rw [h9]; exact ⟨by omega, by omega⟩⟩)
                  | (have h9 := fv_R11 (o := o) (x := x) (y := y) (by omega) (by omega) (by omega) (by omega) (by omega) (by omega) (by omega) (by omega)
                     rw [if_neg (by omega)] at h9
                     exact pm_iret rfl rfl ⟨rfl, by rw [h9], by rw [h9]; exact ⟨by omega, by omega⟩⟩)
                  | (exfalso; omega)
              · have h6 : o = (8 : Int) := h6
                refine pm_blk hK zmm306 [7, 16, 25, 95, 101] 2 78 [(2, 205), (0, o), (0, x), (0, y)] [(0, y), (0, x)] μ [] rfl trivial ?_
                refine pm_icmp hK zmm306 .le 7 85 rfl rfl (fun h9 => ?_) (fun h9 => ?_)
                · have h9 : x ≤ y := h9
                  refine pm_blk hK zmm306 [7, 16, 25, 95, 101] 1 86 [(2, 205), (0, o), (0, x), (0, y)] [(0, 0)] μ [] rfl trivial ?_
                  have h9 := fv_R8 (x := x) (y := y) (show o = 8 by omega)
                  first
                  | (rw [if_pos (by omega)] at h9; exact pm_iret rfl rfl ⟨rfl, by rw [h9], by rw [h9]; exact ⟨by omega, by omega⟩⟩)
                  | (rw [if_neg (by omega)] at h9; exact pm_iret rfl rfl ⟨rfl, by rw [h9], by rw [h9]; exact ⟨by omega, by omega⟩⟩)
                  | (exfalso; omega)
                · have h9 : y < x := h9
                  refine pm_blk hK zmm306 [7, 16, 25, 95, 101] 2 86 [(2, 205), (0, o), (0, x), (0, y)] [(0, 1)] μ [] rfl trivial ?_
                  have h9 := fv_R8 (x := x) (y := y) (show o = 8 by omega)
                  first
                  | (rw [if_pos (by omega)] at h9; exact pm_iret rfl rfl ⟨rfl, by rw [h9], by rw [h9]; exact ⟨by omega, by omega⟩⟩)
                  | (rw [if_neg (by omega)] at h9; exact pm_iret rfl rfl ⟨rfl, by rw [h9], by rw [h9]; exact ⟨by omega, by omega⟩⟩)
                  | (exfalso; omega)
            · have h5 : o = (7 : Int) := h5
              refine pm_blk hK zmm306 [7, 16, 25, 95, 101] 2 61 [(2, 205), (0, o), (0, x), (0, y)] [(0, y), (0, x)] μ [] rfl trivial ?_
              refine pm_icmp hK zmm306 .ne 7 68 rfl rfl (fun h10 => ?_) (fun h10 => ?_)
              · have h10 : x ≠ y := h10
                refine pm_blk hK zmm306 [7, 16, 25, 95, 101] 1 69 [(2, 205), (0, o), (0, x), (0, y)] [(0, 0)] μ [] rfl trivial ?_
                have h9 := fv_R7 (x := x) (y := y) (show o = 7 by omega)
                first
                | (rw [if_pos (by omega)] at h9; exact pm_iret rfl rfl ⟨rfl, by rw [h9], by rw [h9]; exact ⟨by omega, by omega⟩⟩)
                | (rw [if_neg (by omega)] at h9; exact pm_iret rfl rfl ⟨rfl, by rw [h9], by rw [h9]; exact ⟨by omega, by omega⟩⟩)
                | (exfalso; omega)
              · have h10 : x = y := h10
                refine pm_blk hK zmm306 [7, 16, 25, 95, 101] 2 69 [(2, 205), (0, o), (0, x), (0, y)] [(0, 1)] μ [] rfl trivial ?_
                have h9 := fv_R7 (x := x) (y := y) (show o = 7 by omega)
                first
                | (rw [if_pos (by omega)] at h9; exact pm_iret rfl rfl ⟨rfl, by rw [h9], by rw [h9]; exact ⟨by omega, by omega⟩⟩)
                | (rw [if_neg (by omega)] at h9; exact pm_iret rfl rfl ⟨rfl, by rw [h9], by rw [h9]; exact ⟨by omega, by omega⟩⟩)
                | (exfalso; omega)
          · have h4 : o = (6 : Int) := h4
            refine pm_blk hK zmm306 [7, 16, 25, 95, 101] 2 44 [(2, 205), (0, o), (0, x), (0, y)] [(0, y), (0, x)] μ [] rfl trivial ?_
            refine pm_icmp hK zmm306 .ge 7 51 rfl rfl (fun h11 => ?_) (fun h11 => ?_)
            · have h11 : y ≤ x := h11
              refine pm_blk hK zmm306 [7, 16, 25, 95, 101] 1 52 [(2, 205), (0, o), (0, x), (0, y)] [(0, 0)] μ [] rfl trivial ?_
              have h9 := fv_R6 (x := x) (y := y) (show o = 6 by omega)
              first
              | (rw [if_pos (by omega)] at h9; exact pm_iret rfl rfl ⟨rfl, by rw [h9], by rw [h9]; exact ⟨by omega, by omega⟩⟩)
              | (rw [if_neg (by omega)] at h9; exact pm_iret rfl rfl ⟨rfl, by rw [h9], by rw [h9]; exact ⟨by omega, by omega⟩⟩)
              | (exfalso; omega)
            · have h11 : x < y := h11
              refine pm_blk hK zmm306 [7, 16, 25, 95, 101] 2 52 [(2, 205), (0, o), (0, x), (0, y)] [(0, 1)] μ [] rfl trivial ?_
              have h9 := fv_R6 (x := x) (y := y) (show o = 6 by omega)
              first
              | (rw [if_pos (by omega)] at h9; exact pm_iret rfl rfl ⟨rfl, by rw [h9], by rw [h9]; exact ⟨by omega, by omega⟩⟩)
              | (rw [if_neg (by omega)] at h9; exact pm_iret rfl rfl ⟨rfl, by rw [h9], by rw [h9]; exact ⟨by omega, by omega⟩⟩)
              | (exfalso; omega)
        · have h3 : o = (5 : Int) := h3
          refine pm_blk hK zmm306 [7, 16, 25, 95, 101] 2 34 [(2, 205), (0, o), (0, x), (0, y)] [(0, y), (0, x)] μ [] rfl trivial ?_
          have hq := ztdiv (x := x) (y := y) (by omega) hx
          have hq2 : -2147483648 ≤ x.tdiv y ∧ x.tdiv y ≤ 2147483647 := hq
          refine pm_blk hK zmm306 [7, 16, 25, 95, 101] 1 35 [(2, 205), (0, o), (0, x), (0, y)] [(0, Int.tdiv x y)] μ [y ≠ 0, pm_in (Int.tdiv x y)] rfl ⟨by omega, pm_in_mk (by omega) (by omega), trivial⟩ ?_
          exact pm_iret rfl rfl ⟨rfl, by rw [fv_R5 (by omega)], by rw [fv_R5 (by omega)]; exact hq⟩
      · have h2 : o = (4 : Int) := h2
        have w3 := zw32 (x * y)
        refine pm_blk hK zmm306 [7, 16, 25, 95, 101] 3 26 [(2, 205), (0, o), (0, x), (0, y)] [(0, pm_w32 (x * y))] μ [] rfl trivial ?_
        exact pm_iret rfl rfl ⟨rfl, by rw [fv_R4 (by omega)], by rw [fv_R4 (by omega)]; exact zw32 _⟩
    · have h1 : o = (3 : Int) := h1
      have w4 := zw32 (x - y)
      refine pm_blk hK zmm306 [7, 16, 25, 95, 101] 3 17 [(2, 205), (0, o), (0, x), (0, y)] [(0, pm_w32 (x - y))] μ [] rfl trivial ?_
      exact pm_iret rfl rfl ⟨rfl, by rw [fv_R3 (by omega)], by rw [fv_R3 (by omega)]; exact zw32 _⟩
  · have h0 : o = (2 : Int) := h0
    have w5 := zw32 (x + y)
    refine pm_blk hK zmm306 [7, 16, 25, 95, 101] 3 8 [(2, 205), (0, o), (0, x), (0, y)] [(0, pm_w32 (x + y))] μ [] rfl trivial ?_
    exact pm_iret rfl rfl ⟨rfl, by rw [fv_R2 (by omega)], by rw [fv_R2 (by omega)]; exact zw32 _⟩
set_option maxRecDepth 100000 in
theorem fr_runs (hK : zKK ST)  {μ0 : pm_Mem} {a b v : Int} (ha : 0 ≤ a) (hb : b ≤ 400) (hb225 : sx_bit Wm 225 = true) (hbd : 1 ≤ bud.1 ∧ 23 ≤ bud.2.1) : ∀ (n : Nat) {top k : Int} {μ : pm_Mem}, (b - k).toNat = n → ∀ (hak : a ≤ k) (hkb : k ≤ b) (ht0 : 0 ≤ top) (htk : top ≤ k - a) (hs : zSafe (μ0 218) (μ0 219) n k top) (hl : a < k → μ0 218 (k - 1) = 0 → μ 225 (top - 1) = μ0 219 (k - 1)) (hfr : ∀ r, r ≠ 225 → μ r = μ0 r) (hok : fr_ok μ0 μ top k b v) (hT : zTJ φ μ), zW D Wm ST b0 l Sg zM305 bud (pm_X zM305 (fun st' μ' => st' = [(0, v)] ∧ zTJ φ μ' ∧ ∀ r, r ≠ 225 → μ' r = μ0 r)) 12 [(2, 205), (0, 0), (0, a), (0, b), (0, top), (0, k)] [] μ := by
  intro n
  induction n using Nat.strongRecOn with
  | ind n ih =>
    intro top k μ hn hak hkb ht0 htk hs hl hfr hok hT
    have eop : μ 218 k = μ0 218 k := by rw [hfr 218 (by decide)]
    have earg : μ 219 k = μ0 219 k := by rw [hfr 219 (by decide)]
    refine pm_blk hK zmm305 [123] 6 21 [(2, 205), (0, 0), (0, a), (0, b), (0, top), (0, k)] [(0, (400 * 0) + b), (0, k)] μ [pm_in (400 * 0), pm_in ((400 * 0) + b)] rfl ⟨pm_in_mk (by omega) (by omega), pm_in_mk (by omega) (by omega), trivial⟩ ?_
    refine pm_icmp hK zmm305 .ge 155 176 rfl rfl (fun h0 => ?_) (fun h0 => ?_)
    · have h0 : (400 * 0) + b ≤ k := h0
      refine pm_blk hK zmm305 [123] 1 177 [(2, 205), (0, 0), (0, a), (0, b), (0, top), (0, k)] [(2, 205)] μ [] rfl trivial ?_
      have fz := zT_get hT zs225_0 (i := 0) (by omega) (by omega)
      have f1 := zT_get hT zs225_0 (i := 0) (by omega) (by omega)
      refine pm_blk hK zmm305 [123] 3 182 [(2, 205), (0, 0), (0, a), (0, b), (0, top), (0, k)] [(0, μ 225 0)] μ [0 ≤ 0 ∧ 0 < 420] rfl ⟨⟨by omega, by omega⟩, trivial⟩ ?_
      exact pm_iret rfl rfl ⟨by rw [fr_ok_end hok (by omega)], hT, hfr⟩
    · have h0 : k < (400 * 0) + b := h0
      obtain ⟨n', hn'⟩ : ∃ n', n = n' + 1 := ⟨n - 1, by omega⟩
      subst hn'
      have f2 := zT_get hT zs218_0 (i := k) (by omega) (by omega)
      refine pm_blk hK zmm305 [123] 4 31 [(2, 205), (0, 0), (0, a), (0, b), (0, top), (0, k)] [(0, μ 218 k)] μ [0 ≤ k ∧ k < 1200] rfl ⟨⟨by omega, by omega⟩, trivial⟩ ?_
      refine pm_if hK zmm305 .eq 14 45 rfl rfl (fun h1 => ?_) (fun h1 => ?_)
      · have h1 : μ 218 k = (0 : Int) := h1
        have hs2 := zSafe_push hs (by omega)
        refine pm_blk hK zmm305 [123] 7 58 [(2, 205), (0, 0), (0, a), (0, b), (0, top), (0, k)] [(0, μ 218 k), (0, top), (2, 225)] μ [0 ≤ k ∧ k < 1200] rfl ⟨⟨by omega, by omega⟩, trivial⟩ ?_
        refine pm_if hK zmm305 .ne 13 71 rfl rfl (fun h2 => ?_) (fun h2 => ?_)
        · have h2 : μ 218 k ≠ (0 : Int) := h2
          have f3 := zT_get hT zs219_0 (i := k) (by omega) (by omega)
          refine pm_blk hK zmm305 [123] 6 82 [(2, 205), (0, 0), (0, a), (0, b), (0, top), (0, k)] [(0, μ 219 k), (2, 224), (0, top), (2, 225)] μ [0 ≤ k ∧ k < 1200] rfl ⟨⟨by omega, by omega⟩, trivial⟩ ?_
          have fa := zT_rng hT zr224 (i := (μ 219 k)) (by omega) (by omega)
          refine pm_blk hK zmm305 [123] 2 84 [(2, 205), (0, 0), (0, a), (0, b), (0, top), (0, k)] [] (pm_up μ 225 top (μ 224 (μ 219 k))) [0 ≤ μ 219 k ∧ μ 219 k < 11, sx_bit Wm 225 = true, 0 ≤ top ∧ top < 420] rfl ⟨⟨by omega, by omega⟩, hb225, ⟨by omega, by omega⟩, trivial⟩ ?_
          obtain ⟨μ1, eμ1⟩ : ∃ μ', μ' = pm_up μ 225 top (μ 224 (μ 219 k)) := ⟨_, rfl⟩
          rw [← eμ1]
          have hTμ1 : zTJ φ μ1 := by rw [eμ1]; exact zT_up hT zs225_0 rfl (i := top) (by omega) (by omega) (by omega) (by omega)
          refine pm_blk hK zmm305 [123] 7 12 [(2, 205), (0, 0), (0, a), (0, b), (0, top + 1), (0, k + 1)] [] μ1 [pm_in (top + 1), pm_in (k + 1)] rfl ⟨pm_in_mk (by omega) (by omega), pm_in_mk (by omega) (by omega), trivial⟩ ?_
          refine ih ((b - (k + 1)).toNat) (by omega) (top := (top + 1)) (k := (k + 1)) rfl (by omega) (by omega) (by omega) (by omega) ?_ ?_ ?_ ?_ hTμ1
          · have e1 : (b - (k + 1)).toNat = n' := by omega
            rw [e1]
            first | exact hs2.2 | exact hs2.2.2
          · intro _ h0
            have e1 : k + 1 - 1 = k := by omega
            rw [e1] at h0 ⊢
            first | (exfalso; omega) | (rw [eμ1, show top + 1 - 1 = top by omega, pm_up_eq]; exact earg)
          · intro r hr
            rw [eμ1, pm_up_row hr]
            exact hfr r hr
          · have e9 : (k + 1) = k + 1 := by omega
            rw [e9]
            first
            | exact fr_ok_push hok (by omega) ht0 (by omega) (by omega) eμ1
            | exact fr_ok_ask hok (by omega) ht0 (by omega) (by rw [← earg, hfr 224 (by decide)]) eμ1
            | exact fr_ok_not hok (by omega) (by omega) (by omega) rfl eμ1
            | exact fr_ok_two hok (by omega) (by omega) (by omega) (by omega) (by omega) (by rw [← eop]) eμ1
            | (exfalso; omega)
        · have h2 : μ 218 k = (0 : Int) := h2
          have f4 := zT_get hT zs219_0 (i := k) (by omega) (by omega)
          refine pm_blk hK zmm305 [123] 6 84 [(2, 205), (0, 0), (0, a), (0, b), (0, top), (0, k)] [] (pm_up μ 225 top (μ 219 k)) [0 ≤ k ∧ k < 1200, sx_bit Wm 225 = true, 0 ≤ top ∧ top < 420] rfl ⟨⟨by omega, by omega⟩, hb225, ⟨by omega, by omega⟩, trivial⟩ ?_
          obtain ⟨μ2, eμ2⟩ : ∃ μ', μ' = pm_up μ 225 top (μ 219 k) := ⟨_, rfl⟩
          rw [← eμ2]
          have hTμ2 : zTJ φ μ2 := by rw [eμ2]; exact zT_up hT zs225_0 rfl (i := top) (by omega) (by omega) (by omega) (by omega)
          refine pm_blk hK zmm305 [123] 7 12 [(2, 205), (0, 0), (0, a), (0, b), (0, top + 1), (0, k + 1)] [] μ2 [pm_in (top + 1), pm_in (k + 1)] rfl ⟨pm_in_mk (by omega) (by omega), pm_in_mk (by omega) (by omega), trivial⟩ ?_
          refine ih ((b - (k + 1)).toNat) (by omega) (top := (top + 1)) (k := (k + 1)) rfl (by omega) (by omega) (by omega) (by omega) ?_ ?_ ?_ ?_ hTμ2
          · have e1 : (b - (k + 1)).toNat = n' := by omega
            rw [e1]
            first | exact hs2.2 | exact hs2.2.2
          · intro _ h0
            have e1 : k + 1 - 1 = k := by omega
            rw [e1] at h0 ⊢
            first | (exfalso; omega) | (rw [eμ2, show top + 1 - 1 = top by omega, pm_up_eq]; exact earg)
          · intro r hr
            rw [eμ2, pm_up_row hr]
            exact hfr r hr
          · have e9 : (k + 1) = k + 1 := by omega
            rw [e9]
            first
            | exact fr_ok_push hok (by omega) ht0 (by omega) (by omega) eμ2
            | exact fr_ok_ask hok (by omega) ht0 (by omega) (by rw [← earg, hfr 224 (by decide)]) eμ2
            | exact fr_ok_not hok (by omega) (by omega) (by omega) rfl eμ2
            | exact fr_ok_two hok (by omega) (by omega) (by omega) (by omega) (by omega) (by rw [← eop]) eμ2
            | (exfalso; omega)
      · have h1 : μ 218 k ≠ (0 : Int) := h1
        refine pm_blk hK zmm305 [123] 5 42 [(2, 205), (0, 0), (0, a), (0, b), (0, top), (0, k)] [(0, 1), (0, μ 218 k)] μ [0 ≤ k ∧ k < 1200] rfl ⟨⟨by omega, by omega⟩, trivial⟩ ?_
        refine pm_icmp hK zmm305 .ne 51 93 rfl rfl (fun h3 => ?_) (fun h3 => ?_)
        · have h3 : μ 218 k ≠ (1 : Int) := h3
          refine pm_blk hK zmm305 [123] 5 102 [(2, 205), (0, 0), (0, a), (0, b), (0, top), (0, k)] [(0, 9), (0, μ 218 k)] μ [0 ≤ k ∧ k < 1200] rfl ⟨⟨by omega, by omega⟩, trivial⟩ ?_
          refine pm_icmp hK zmm305 .ne 26 128 rfl rfl (fun h4 => ?_) (fun h4 => ?_)
          · have h4 : μ 218 k ≠ (9 : Int) := h4
            have hs2 := zSafe_two hs (by omega) (by omega) (by omega)
            have f5 := zT_get hT zs225_0 (i := (top - 1) - 1) (by omega) (by omega)
            have f6 := zT_get hT zs225_0 (i := top - 1) (by omega) (by omega)
            refine pm_blk hK zmm305 [123] 24 166 [(2, 205), (0, 0), (0, a), (0, b), (0, top - 1), (0, k)] [(0, μ 225 (top - 1)), (0, μ 225 ((top - 1) - 1)), (0, μ 218 k), (2, 205), (0, (top - 1) - 1), (2, 225)] μ [pm_in (top - 1), pm_in ((top - 1) - 1), 0 ≤ k ∧ k < 1200, pm_in ((top - 1) - 1), 0 ≤ (top - 1) - 1 ∧ (top - 1) - 1 < 420, 0 ≤ top - 1 ∧ top - 1 < 420] rfl ⟨pm_in_mk (by omega) (by omega), pm_in_mk (by omega) (by omega), ⟨by omega, by omega⟩, pm_in_mk (by omega) (by omega), ⟨by omega, by omega⟩, ⟨by omega, by omega⟩, trivial⟩ ?_
            refine pm_call hK zmm305 (325, 0, 306, 3) zM306 (0, 0) [(2, 205), (0, μ 218 k), (0, μ 225 ((top - 1) - 1)), (0, μ 225 (top - 1))] [(0, (top - 1) - 1), (2, 225)] rfl rfl rfl rfl ⟨by omega, by rw [zn306]; omega⟩ (fr_twoOf hK (o := (μ 218 k)) (x := (μ 225 ((top - 1) - 1))) (y := (μ 225 (top - 1))) ⟨by omega, by omega⟩ ⟨by omega, by omega⟩ (by omega) ⟨Nat.le_refl _, Nat.le_refl _⟩) (fun st1 μc1 hp1 => ?_)
            obtain ⟨rfl, rfl, hx1⟩ := hp1
            have hx1 : -2147483648 ≤ fv_twoR ((μ 218 k)) ((μ 225 ((top - 1) - 1))) ((μ 225 (top - 1))) ∧ fv_twoR ((μ 218 k)) ((μ 225 ((top - 1) - 1))) ((μ 225 (top - 1))) ≤ 2147483647 := hx1
            refine pm_blk hK zmm305 [123] 1 170 [(2, 205), (0, 0), (0, a), (0, b), (0, top - 1), (0, k)] [] (pm_up μ 225 ((top - 1) - 1) (fv_twoR ((μ 218 k)) ((μ 225 ((top - 1) - 1))) ((μ 225 (top - 1))))) [sx_bit Wm 225 = true, 0 ≤ (top - 1) - 1 ∧ (top - 1) - 1 < 420] rfl ⟨hb225, ⟨by omega, by omega⟩, trivial⟩ ?_
            obtain ⟨μ3, eμ3⟩ : ∃ μ', μ' = pm_up μ 225 ((top - 1) - 1) (fv_twoR ((μ 218 k)) ((μ 225 ((top - 1) - 1))) ((μ 225 (top - 1)))) := ⟨_, rfl⟩
            rw [← eμ3]
            have hTμ3 : zTJ φ μ3 := by rw [eμ3]; exact zT_up hT zs225_0 rfl (i := (top - 1) - 1) (by omega) (by omega) (by omega) (by omega)
            refine pm_blk hK zmm305 [123] 2 12 [(2, 205), (0, 0), (0, a), (0, b), (0, top - 1), (0, k + 1)] [] μ3 [pm_in (k + 1)] rfl ⟨pm_in_mk (by omega) (by omega), trivial⟩ ?_
            refine ih ((b - (k + 1)).toNat) (by omega) (top := (top - 1)) (k := (k + 1)) rfl (by omega) (by omega) (by omega) (by omega) ?_ ?_ ?_ ?_ hTμ3
            · have e1 : (b - (k + 1)).toNat = n' := by omega
              rw [e1]
              first | exact hs2.2 | exact hs2.2.2
            · intro _ h0
              have e1 : k + 1 - 1 = k := by omega
              rw [e1] at h0 ⊢
              first | (exfalso; omega) | (rw [eμ3, show top + 1 - 1 = top by omega, pm_up_eq]; exact earg)
            · intro r hr
              rw [eμ3, pm_up_row hr]
              exact hfr r hr
            · have e9 : (k + 1) = k + 1 := by omega
              rw [e9]
              first
              | exact fr_ok_push hok (by omega) ht0 (by omega) (by omega) eμ3
              | exact fr_ok_ask hok (by omega) ht0 (by omega) (by rw [← earg, hfr 224 (by decide)]) eμ3
              | exact fr_ok_not hok (by omega) (by omega) (by omega) rfl eμ3
              | exact fr_ok_two hok (by omega) (by omega) (by omega) (by omega) (by omega) (by rw [← eop]) eμ3
              | (exfalso; omega)
          · have h4 : μ 218 k = (9 : Int) := h4
            have hs2 := zSafe_not hs (by omega)
            have f7 := zT_get hT zs225_0 (i := top - 1) (by omega) (by omega)
            have w8 := zw32 (1 - (μ 225 (top - 1)))
            refine pm_blk hK zmm305 [123] 14 125 [(2, 205), (0, 0), (0, a), (0, b), (0, top), (0, k)] [] (pm_up μ 225 (top - 1) (pm_w32 (1 - (μ 225 (top - 1))))) [pm_in (top - 1), pm_in (top - 1), 0 ≤ top - 1 ∧ top - 1 < 420, sx_bit Wm 225 = true, 0 ≤ top - 1 ∧ top - 1 < 420] rfl ⟨pm_in_mk (by omega) (by omega), pm_in_mk (by omega) (by omega), ⟨by omega, by omega⟩, hb225, ⟨by omega, by omega⟩, trivial⟩ ?_
            obtain ⟨μ4, eμ4⟩ : ∃ μ', μ' = pm_up μ 225 (top - 1) (pm_w32 (1 - (μ 225 (top - 1)))) := ⟨_, rfl⟩
            rw [← eμ4]
            have hTμ4 : zTJ φ μ4 := by rw [eμ4]; exact zT_up hT zs225_0 rfl (i := top - 1) (by omega) (by omega) (by omega) (by omega)
            refine pm_blk hK zmm305 [123] 3 12 [(2, 205), (0, 0), (0, a), (0, b), (0, top), (0, k + 1)] [] μ4 [pm_in (k + 1)] rfl ⟨pm_in_mk (by omega) (by omega), trivial⟩ ?_
            refine ih ((b - (k + 1)).toNat) (by omega) (top := top) (k := (k + 1)) rfl (by omega) (by omega) (by omega) (by omega) ?_ ?_ ?_ ?_ hTμ4
            · have e1 : (b - (k + 1)).toNat = n' := by omega
              rw [e1]
              first | exact hs2.2 | exact hs2.2.2
            · intro _ h0
              have e1 : k + 1 - 1 = k := by omega
              rw [e1] at h0 ⊢
              first | (exfalso; omega) | (rw [eμ4, show top + 1 - 1 = top by omega, pm_up_eq]; exact earg)
            · intro r hr
              rw [eμ4, pm_up_row hr]
              exact hfr r hr
            · have e9 : (k + 1) = k + 1 := by omega
              rw [e9]
              first
              | exact fr_ok_push hok (by omega) ht0 (by omega) (by omega) eμ4
              | exact fr_ok_ask hok (by omega) ht0 (by omega) (by rw [← earg, hfr 224 (by decide)]) eμ4
              | exact fr_ok_not hok (by omega) (by omega) (by omega) rfl eμ4
              | exact fr_ok_two hok (by omega) (by omega) (by omega) (by omega) (by omega) (by rw [← eop]) eμ4
              | (exfalso; omega)
        · have h3 : μ 218 k = (1 : Int) := h3
          have hs2 := zSafe_push hs (by omega)
          refine pm_blk hK zmm305 [123] 7 58 [(2, 205), (0, 0), (0, a), (0, b), (0, top), (0, k)] [(0, μ 218 k), (0, top), (2, 225)] μ [0 ≤ k ∧ k < 1200] rfl ⟨⟨by omega, by omega⟩, trivial⟩ ?_
          refine pm_if hK zmm305 .ne 13 71 rfl rfl (fun h5 => ?_) (fun h5 => ?_)
          · have h5 : μ 218 k ≠ (0 : Int) := h5
            have f9 := zT_get hT zs219_0 (i := k) (by omega) (by omega)
            refine pm_blk hK zmm305 [123] 6 82 [(2, 205), (0, 0), (0, a), (0, b), (0, top), (0, k)] [(0, μ 219 k), (2, 224), (0, top), (2, 225)] μ [0 ≤ k ∧ k < 1200] rfl ⟨⟨by omega, by omega⟩, trivial⟩ ?_
            have fa := zT_rng hT zr224 (i := (μ 219 k)) (by omega) (by omega)
            refine pm_blk hK zmm305 [123] 2 84 [(2, 205), (0, 0), (0, a), (0, b), (0, top), (0, k)] [] (pm_up μ 225 top (μ 224 (μ 219 k))) [0 ≤ μ 219 k ∧ μ 219 k < 11, sx_bit Wm 225 = true, 0 ≤ top ∧ top < 420] rfl ⟨⟨by omega, by omega⟩, hb225, ⟨by omega, by omega⟩, trivial⟩ ?_
            obtain ⟨μ5, eμ5⟩ : ∃ μ', μ' = pm_up μ 225 top (μ 224 (μ 219 k)) := ⟨_, rfl⟩
            rw [← eμ5]
            have hTμ5 : zTJ φ μ5 := by rw [eμ5]; exact zT_up hT zs225_0 rfl (i := top) (by omega) (by omega) (by omega) (by omega)
            refine pm_blk hK zmm305 [123] 7 12 [(2, 205), (0, 0), (0, a), (0, b), (0, top + 1), (0, k + 1)] [] μ5 [pm_in (top + 1), pm_in (k + 1)] rfl ⟨pm_in_mk (by omega) (by omega), pm_in_mk (by omega) (by omega), trivial⟩ ?_
            refine ih ((b - (k + 1)).toNat) (by omega) (top := (top + 1)) (k := (k + 1)) rfl (by omega) (by omega) (by omega) (by omega) ?_ ?_ ?_ ?_ hTμ5
            · have e1 : (b - (k + 1)).toNat = n' := by omega
              rw [e1]
              first | exact hs2.2 | exact hs2.2.2
            · intro _ h0
              have e1 : k + 1 - 1 = k := by omega
              rw [e1] at h0 ⊢
              first | (exfalso; omega) | (rw [eμ5, show top + 1 - 1 = top by omega, pm_up_eq]; exact earg)
            · intro r hr
              rw [eμ5, pm_up_row hr]
              exact hfr r hr
            · have e9 : (k + 1) = k + 1 := by omega
              rw [e9]
              first
              | exact fr_ok_push hok (by omega) ht0 (by omega) (by omega) eμ5
              | exact fr_ok_ask hok (by omega) ht0 (by omega) (by rw [← earg, hfr 224 (by decide)]) eμ5
              | exact fr_ok_not hok (by omega) (by omega) (by omega) rfl eμ5
              | exact fr_ok_two hok (by omega) (by omega) (by omega) (by omega) (by omega) (by rw [← eop]) eμ5
              | (exfalso; omega)
          · have h5 : μ 218 k = (0 : Int) := h5
            have f10 := zT_get hT zs219_0 (i := k) (by omega) (by omega)
            refine pm_blk hK zmm305 [123] 6 84 [(2, 205), (0, 0), (0, a), (0, b), (0, top), (0, k)] [] (pm_up μ 225 top (μ 219 k)) [0 ≤ k ∧ k < 1200, sx_bit Wm 225 = true, 0 ≤ top ∧ top < 420] rfl ⟨⟨by omega, by omega⟩, hb225, ⟨by omega, by omega⟩, trivial⟩ ?_
            obtain ⟨μ6, eμ6⟩ : ∃ μ', μ' = pm_up μ 225 top (μ 219 k) := ⟨_, rfl⟩
            rw [← eμ6]
            have hTμ6 : zTJ φ μ6 := by rw [eμ6]; exact zT_up hT zs225_0 rfl (i := top) (by omega) (by omega) (by omega) (by omega)
            refine pm_blk hK zmm305 [123] 7 12 [(2, 205), (0, 0), (0, a), (0, b), (0, top + 1), (0, k + 1)] [] μ6 [pm_in (top + 1), pm_in (k + 1)] rfl ⟨pm_in_mk (by omega) (by omega), pm_in_mk (by omega) (by omega), trivial⟩ ?_
            refine ih ((b - (k + 1)).toNat) (by omega) (top := (top + 1)) (k := (k + 1)) rfl (by omega) (by omega) (by omega) (by omega) ?_ ?_ ?_ ?_ hTμ6
            · have e1 : (b - (k + 1)).toNat = n' := by omega
              rw [e1]
              first | exact hs2.2 | exact hs2.2.2
            · intro _ h0
              have e1 : k + 1 - 1 = k := by omega
              rw [e1] at h0 ⊢
              first | (exfalso; omega) | (rw [eμ6, show top + 1 - 1 = top by omega, pm_up_eq]; exact earg)
            · intro r hr
              rw [eμ6, pm_up_row hr]
              exact hfr r hr
            · have e9 : (k + 1) = k + 1 := by omega
              rw [e9]
              first
              | exact fr_ok_push hok (by omega) ht0 (by omega) (by omega) eμ6
              | exact fr_ok_ask hok (by omega) ht0 (by omega) (by rw [← earg, hfr 224 (by decide)]) eμ6
              | exact fr_ok_not hok (by omega) (by omega) (by omega) rfl eμ6
              | exact fr_ok_two hok (by omega) (by omega) (by omega) (by omega) (by omega) (by rw [← eop]) eμ6
              | (exfalso; omega)
set_option maxRecDepth 100000 in
theorem fr_rung (hK : zKK ST) {a b v : Int} (ha : 0 ≤ a) (hab : a ≤ b) (hb : b ≤ 400) (hs : zSeg (μ 218) (μ 219) a b) (hok : fr_ok μ μ 0 a b v) (hT : zTJ φ μ) (hb225 : sx_bit Wm 225 = true) (hbd : 1 ≤ bud.1 ∧ 23 ≤ bud.2.1) : zC D Wm ST b0 l Sg zM305 bud [(2, 205), (0, 0), (0, a), (0, b)] μ (fun st' μ' => st' = [(0, v)] ∧ zTJ φ μ' ∧ ∀ r, r ≠ 225 → μ' r = μ r) := by
  refine pm_blk hK zmm305 [] 8 12 [(2, 205), (0, 0), (0, a), (0, b), (0, 0), (0, (400 * 0) + a)] [] μ [pm_in (400 * 0), pm_in ((400 * 0) + a)] rfl ⟨pm_in_mk (by omega) (by omega), pm_in_mk (by omega) (by omega), trivial⟩ ?_
  have e1 : ((400 * 0) + a) = a := by omega
  rw [e1]
  exact fr_runs hK (μ0 := μ) ha hb hb225 hbd _ (top := 0) (k := a) rfl (by omega) hab (by omega) (by omega) hs (fun h _ => absurd h (by omega)) (fun r _ => rfl) hok hT
end ZHW
