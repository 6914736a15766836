/-! F: the class: the evening, the hour; walks printed by program (wip/p30/pmgen.py) and filled by hand -/
section ZHW
variable {φ : Option pm_Mem}
variable {D : va_G} {Wm : Nat} {ST : List (String × String × String × Nat)} {b0 : sx_B} {l : Launch} {Sg : Nat → Option Nat} {bud : sx_Bu} {μ : pm_Mem} {B0 : Nat → Prop} {J : (Nat → Option Nat) → Heap → Prop}
set_option maxRecDepth 100000 in
theorem fc_ev1_3 (hK : zKK ST) {X : Nat → List pm_V → List pm_V → pm_Mem → Prop} {μ0 : pm_Mem} {S : fa_St} {pol : Int → Int} {n m : Int} (hn0 : 0 ≤ n) (hm0 : 0 ≤ m) (hq : n ≤ 12 ∧ m ≤ 18) (hIS : fa_I n m S.1) {ls : List (Int × List zIw × List zIw)} {rn dn : Int} {RR DD : Int → Int} (hX : fa_X ls n m rn dn RR DD μ0) (hb2 : sx_bit Wm 2 = true) (hb3 : sx_bit Wm 3 = true) (hb4 : sx_bit Wm 4 = true) (hb5 : sx_bit Wm 5 = true) (hb6 : sx_bit Wm 6 = true) (hb7 : sx_bit Wm 7 = true) (hb8 : sx_bit Wm 8 = true) (hb9 : sx_bit Wm 9 = true) (hb10 : sx_bit Wm 10 = true) (hb11 : sx_bit Wm 11 = true) (hb12 : sx_bit Wm 12 = true) (hb13 : sx_bit Wm 13 = true) (hb14 : sx_bit Wm 14 = true) (hb15 : sx_bit Wm 15 = true) (hb16 : sx_bit Wm 16 = true) (hb178 : sx_bit Wm 178 = true) (hb179 : sx_bit Wm 179 = true) (K : ∀ (s : Int) (μ : pm_Mem), zTJ φ μ → fa_C false 3 n m (fa_shuts false (fr_law ls) pol m n.toNat S) pol μ → fa_fr fc_L3 μ0 μ → zW D Wm ST b0 l Sg zM41 bud X 22 [(2, 180), (2, 3), (0, s)] [] μ) (hbd : 5 ≤ bud.1 ∧ 119 ≤ bud.2.1) : ∀ (nM : Nat) {s : Int} {μ : pm_Mem}, (n - s).toNat = nM → ∀ (hs : 0 ≤ s ∧ s ≤ n) (hT : zTJ φ μ) (hC : fa_C false 3 n m (fa_shuts false (fr_law ls) pol m s.toNat S) pol μ) (hF : fa_fr fc_L3 μ0 μ), zW D Wm ST b0 l Sg zM41 bud X 2 [(2, 180), (2, 3), (0, s)] [] μ := by
  intro nM
  induction nM using Nat.strongRecOn with
  | ind nM ih =>
    intro s μ hn hs hT hC hF
    obtain ⟨⟨N1, B1⟩, eS⟩ : ∃ S1 : fa_St, S1 = fa_shuts false (fr_law ls) pol m s.toNat S := ⟨_, rfl⟩
    rw [← eS] at hC
    have hXc := fa_X_frL hX hF rfl
    have hI1 : fa_I n m N1 := by have hh := fa_I_shuts (th := false) (t := (fr_law ls)) (pol := pol) hq s.toNat (S := S) (by omega) hIS; rw [← eS] at hh; exact hh
    have a0 : μ 3 0 = n := hC.1.1.1
    have es : ((s.toNat : Nat) : Int) = s := by omega
    have e1 : (s + 1).toNat = s.toNat + 1 := by omega
    have f1 := zT_get hT zs3_0 (i := 0) (by omega) (by omega)
    refine pm_blk hK zmm41 [] 3 7 [(2, 180), (2, 3), (0, s)] [(0, μ 3 0), (0, s)] μ [] rfl trivial ?_
    refine pm_icmp hK zmm41 .ge 15 22 rfl rfl (fun h0 => ?_) (fun h0 => ?_)
    · have h0 : μ 3 0 ≤ s := h0
      have ek : s.toNat = n.toNat := by omega
      exact K _ _ hT (by rw [← ek, ← eS]; exact hC) hF
    · have h0 : s < μ 3 0 := h0
      refine pm_blk hK zmm41 [] 3 13 [(2, 180), (2, 3), (0, s)] [(0, s), (2, 3), (2, 180)] μ [] rfl trivial ?_
      refine pm_call hK zmm41 (147, 0, 232, 2) zM232 (4, 96) [(2, 180), (2, 3), (0, s)] [] rfl rfl rfl rfl ⟨by omega, by rw [zn232]; omega⟩ (fc_shut3 hK (s := s) hT hC hn0 hm0 hq hI1 hXc ⟨by omega, by omega⟩ hb2 hb3 hb4 hb5 hb6 hb7 hb8 hb9 hb10 hb11 hb12 hb13 hb14 hb15 hb16 hb178 hb179 ⟨Nat.le_refl _, Nat.le_refl _⟩) (fun st1 μc1 hp1 => ?_)
      obtain ⟨rfl, hTc1, hCc1, hFk1⟩ := hp1
      have hC1 := hCc1
      have hF1 := fa_fr_t hF hFk1
      refine pm_blk hK zmm41 [] 2 2 [(2, 180), (2, 3), (0, s + 1)] [] μc1 [pm_in (s + 1)] rfl ⟨pm_in_mk (by omega) (by omega), trivial⟩ ?_
      exact ih _ (by omega) rfl ⟨by omega, by omega⟩ hTc1 (by rw [e1, fa_shuts_s, es, ← eS]; exact hC1) hF1
set_option maxRecDepth 100000 in
theorem fc_ev2_3 (hK : zKK ST)  {μ0 : pm_Mem} {S : fa_St} {N1 B1 pol : Int → Int} {n m : Int} {ls : List (Int × List zIw × List zIw)} (hn0 : 0 ≤ n) (hm0 : 0 ≤ m) (hq : n ≤ 12 ∧ m ≤ 18) (hS : (N1, B1) = fa_shuts false (fr_law ls) pol m n.toNat S) (hb3 : sx_bit Wm 3 = true) (hb13 : sx_bit Wm 13 = true) (hbd : 5 ≤ bud.1 ∧ 119 ≤ bud.2.1) : ∀ (nM : Nat) {c : Int} {μ : pm_Mem}, (m - c).toNat = nM → ∀ (hc : 0 ≤ c ∧ c ≤ m) (hT : zTJ φ μ) (hC : fa_C false 3 n m (fa_outs N1 c.toNat, B1) pol μ) (hF : fa_fr fc_L3 μ0 μ), zW D Wm ST b0 l Sg zM41 bud (pm_X zM41 (fun st' μ' => st' = [] ∧ zTJ φ μ' ∧ fa_C false 3 n m (fa_eve false (fr_law ls) pol n m S) pol μ' ∧ fa_fr fc_L3 μ0 μ')) 24 [(2, 180), (2, 3), (0, c)] [] μ := by
  intro nM
  induction nM using Nat.strongRecOn with
  | ind nM ih =>
    intro c μ hn hc hT hC hF
    have a1 : μ 3 1 = m := hC.1.1.2.1
    have a3 : μ 3 3 = fa_outs N1 c.toNat 0 := hC.1.1.2.2.2.1
    have ec : ((c.toNat : Nat) : Int) = c := by omega
    have e1 : (c + 1).toNat = c.toNat + 1 := by omega
    have f1 := zT_get hT zs3_1 (i := 1) (by omega) (by omega)
    refine pm_blk hK zmm41 [56] 3 29 [(2, 180), (2, 3), (0, c)] [(0, μ 3 1), (0, c)] μ [] rfl trivial ?_
    refine pm_icmp hK zmm41 .ge 16 45 rfl rfl (fun h0 => ?_) (fun h0 => ?_)
    · have h0 : μ 3 1 ≤ c := h0
      refine pm_blk hK zmm41 [56] 3 50 [(2, 180), (2, 3), (0, c)] [] (pm_up μ 3 2 0) [sx_bit Wm 3 = true] rfl ⟨hb3, trivial⟩ ?_
      obtain ⟨μ1, eμ1⟩ : ∃ μ', μ' = pm_up μ 3 2 0 := ⟨_, rfl⟩
      rw [← eμ1]
      have hTμ1 : zTJ φ μ1 := by rw [eμ1]; exact zT_up hT zs3_2 rfl (i := 2) (by omega) (by omega) (by omega) (by omega)
      have hC2 : fa_C false 3 n m (fa_up (fa_outs N1 c.toNat) 1 0, B1) pol μ1 := by rw [eμ1]; exact fa_C_w hC (fa_A_f (k := 2) (j := 1) (Or.inl ⟨rfl, rfl⟩) hC.1) ⟨by decide, by decide⟩ (fa_up_ne (by omega))
      have hF2 := fa_fr_st hF eμ1 rfl
      have g3 : μ1 3 3 = fa_outs N1 c.toNat 0 := by rw [eμ1, pm_up_ne (by decide)]; exact a3
      have f2 := zT_get hTμ1 zs3_3 (i := 3) (by omega) (by omega)
      have w3 := zw32 ((μ1 3 3) + 1)
      refine pm_blk hK zmm41 [56] 6 60 [(2, 180), (2, 3), (0, c)] [] (pm_up μ1 3 3 (pm_w32 ((μ1 3 3) + 1))) [sx_bit Wm 3 = true] rfl ⟨hb3, trivial⟩ ?_
      obtain ⟨μ2, eμ2⟩ : ∃ μ', μ' = pm_up μ1 3 3 (pm_w32 ((μ1 3 3) + 1)) := ⟨_, rfl⟩
      rw [← eμ2]
      have hTμ2 : zTJ φ μ2 := by rw [eμ2]; exact zT_up hTμ1 zs3_3 rfl (i := 3) (by omega) (by omega) (by omega) (by omega)
      have hC3 : fa_C false 3 n m (fa_up (fa_up (fa_outs N1 c.toNat) 1 0) 0 (pm_w32 (fa_outs N1 c.toNat 0 + 1)), B1) pol μ2 := by rw [eμ2, g3]; exact fa_C_w hC2 (fa_A_f (k := 3) (j := 0) (Or.inr (Or.inl ⟨rfl, rfl⟩)) hC2.1) ⟨by decide, by decide⟩ (fa_up_ne (by omega))
      have hF3 := fa_fr_st hF2 eμ2 rfl
      have ek : c.toNat = m.toNat := by omega
      exact pm_vret rfl rfl ⟨rfl, hTμ2, by rw [fa_eve_e hS, ← ek]; exact hC3, hF3⟩
    · have h0 : c < μ 3 1 := h0
      refine pm_blk hK zmm41 [56] 5 39 [(2, 180), (2, 3), (0, c)] [] (pm_up μ 13 c ((-1))) [sx_bit Wm 13 = true, 0 ≤ c ∧ c < 18] rfl ⟨hb13, ⟨by omega, by omega⟩, trivial⟩ ?_
      obtain ⟨μ3, eμ3⟩ : ∃ μ', μ' = pm_up μ 13 c ((-1)) := ⟨_, rfl⟩
      rw [← eμ3]
      have hTμ3 : zTJ φ μ3 := by rw [eμ3]; exact zT_up hT zs13_0 rfl (i := c) (by omega) (by omega) (by omega) (by omega)
      have hC1 : fa_C false 3 n m (fa_outs N1 (c + 1).toNat, B1) pol μ3 := by rw [eμ3, e1, fa_outs_s, ec]; exact fa_C_w hC (fa_w_in hC.1 hq (by omega) (by omega) (by omega)) ⟨by decide, by decide⟩ (fa_up_ne (by omega))
      have hF1 := fa_fr_st hF eμ3 rfl
      refine pm_blk hK zmm41 [56] 2 24 [(2, 180), (2, 3), (0, c + 1)] [] μ3 [pm_in (c + 1)] rfl ⟨pm_in_mk (by omega) (by omega), trivial⟩ ?_
      exact ih _ (by omega) rfl ⟨by omega, by omega⟩ hTμ3 hC1 hF1
set_option maxRecDepth 100000 in
theorem fc_eve3 (hK : zKK ST) (hT : zTJ φ μ) {N B pol : Int → Int} {n m : Int} (hC : fa_C false 3 n m (N, B) pol μ) (hn0 : 0 ≤ n) (hm0 : 0 ≤ m) (hq : n ≤ 12 ∧ m ≤ 18) (hI : fa_I n m N) {ls : List (Int × List zIw × List zIw)} {rn dn : Int} {RR DD : Int → Int} (hX : fa_X ls n m rn dn RR DD μ) (hb2 : sx_bit Wm 2 = true) (hb3 : sx_bit Wm 3 = true) (hb4 : sx_bit Wm 4 = true) (hb5 : sx_bit Wm 5 = true) (hb6 : sx_bit Wm 6 = true) (hb7 : sx_bit Wm 7 = true) (hb8 : sx_bit Wm 8 = true) (hb9 : sx_bit Wm 9 = true) (hb10 : sx_bit Wm 10 = true) (hb11 : sx_bit Wm 11 = true) (hb12 : sx_bit Wm 12 = true) (hb13 : sx_bit Wm 13 = true) (hb14 : sx_bit Wm 14 = true) (hb15 : sx_bit Wm 15 = true) (hb16 : sx_bit Wm 16 = true) (hb178 : sx_bit Wm 178 = true) (hb179 : sx_bit Wm 179 = true) (hbd : 5 ≤ bud.1 ∧ 119 ≤ bud.2.1) : zC D Wm ST b0 l Sg zM41 bud [(2, 180), (2, 3)] μ (fun st' μ' => st' = [] ∧ zTJ φ μ' ∧ fa_C false 3 n m (fa_eve false (fr_law ls) pol n m (N, B)) pol μ' ∧ fa_fr fc_L3 μ μ') := by
  refine pm_blk hK zmm41 [] 2 2 [(2, 180), (2, 3), (0, 0)] [] μ [] rfl trivial ?_
  refine fc_ev1_3 hK (μ0 := μ) (S := (N, B)) hn0 hm0 hq hI hX hb2 hb3 hb4 hb5 hb6 hb7 hb8 hb9 hb10 hb11 hb12 hb13 hb14 hb15 hb16 hb178 hb179 (fun s1 μ1 hT1 hC1 hF1 => ?_) hbd _ (s := 0) rfl ⟨by omega, by omega⟩ hT hC fa_fr_0
  refine pm_blk hK zmm41 [] 2 24 [(2, 180), (2, 3), (0, 0)] [] μ1 [] rfl trivial ?_
  obtain ⟨⟨N1, B1⟩, eS⟩ : ∃ S1 : fa_St, S1 = fa_shuts false (fr_law ls) pol m n.toNat (N, B) := ⟨_, rfl⟩
  rw [← eS] at hC1
  exact fc_ev2_3 hK (μ0 := μ) (S := (N, B)) hn0 hm0 hq eS hb3 hb13 hbd _ (c := 0) rfl ⟨by omega, by omega⟩ hT1 hC1 hF1
set_option maxRecDepth 100000 in
theorem fc_pass3 (hK : zKK ST) (hT : zTJ φ μ) {N B pol : Int → Int} {n m : Int} (hC : fa_C false 3 n m (N, B) pol μ) (hn0 : 0 ≤ n) (hm0 : 0 ≤ m) (hq : n ≤ 12 ∧ m ≤ 18) (hI : fa_I n m N) (hO : fa_O m N) {ls : List (Int × List zIw × List zIw)} {rn dn : Int} {RR DD : Int → Int} (hX : fa_X ls n m rn dn RR DD μ) (hb2 : sx_bit Wm 2 = true) (hb3 : sx_bit Wm 3 = true) (hb4 : sx_bit Wm 4 = true) (hb5 : sx_bit Wm 5 = true) (hb6 : sx_bit Wm 6 = true) (hb7 : sx_bit Wm 7 = true) (hb8 : sx_bit Wm 8 = true) (hb9 : sx_bit Wm 9 = true) (hb10 : sx_bit Wm 10 = true) (hb11 : sx_bit Wm 11 = true) (hb12 : sx_bit Wm 12 = true) (hb13 : sx_bit Wm 13 = true) (hb14 : sx_bit Wm 14 = true) (hb15 : sx_bit Wm 15 = true) (hb16 : sx_bit Wm 16 = true) (hb178 : sx_bit Wm 178 = true) (hb179 : sx_bit Wm 179 = true) (hbd : 6 ≤ bud.1 ∧ 144 ≤ bud.2.1) : zC D Wm ST b0 l Sg zM37 bud [(2, 180), (2, 3)] μ (fun st' μ' => st' = [(0, fa_many false (fr_law ls) RR DD pol rn dn n m (N, B))] ∧ zTJ φ μ' ∧ fa_C false 3 n m (fa_hour false (fr_law ls) RR DD pol rn dn n m (N, B)) pol μ' ∧ fa_fr fc_L3 μ μ') := by
  have a2 : μ 3 2 = N 1 := hC.1.1.2.2.1
  have hdn := hX.2.2.2.1.1
  have f1 := zT_get hT zs3_2 (i := 2) (by omega) (by omega)
  refine pm_blk hK zmm37 [] 2 4 [(2, 180), (2, 3), (9, 0)] [(0, μ 3 2)] μ [] rfl trivial ?_
  refine pm_if hK zmm37 .ne 8 12 rfl rfl (fun h0 => ?_) (fun h0 => ?_)
  · have h0 : μ 3 2 ≠ (0 : Int) := h0
    obtain ⟨N1, B1, hC1, hI1, hO1, hF1, e1⟩ : ∃ N1 B1 : Int → Int, fa_C false 3 n m (N1, B1) pol μ ∧ fa_I n m N1 ∧ fa_O m N1 ∧ fa_fr fc_L3 μ μ ∧ (N1, B1) = fa_morn false DD dn n (N, B) := by
      have hmi := fa_I_morn (th := false) (D := DD) (B := B) hq hn0 hm0 hdn hX.2.2.2.2.2 hI hO
      first
      | exact ⟨N, B, hC, hI, hO, fa_fr_0, (fa_morn_n (by omega)).symm⟩
      | exact ⟨_, _, ((fa_morn_y (th := false) (D := DD) (dn := dn) (n := n) (B := B) (show N 1 = 0 by omega)).symm ▸ hCm : fa_C false 3 n m ((fa_morn false DD dn n (N, B)).1, (fa_morn false DD dn n (N, B)).2) pol μ), hmi.1, hmi.2, hFm, rfl⟩
      | (exfalso; omega)
    have hX1 := fa_X_frL hX hF1 rfl
    have et : fa_to false RR DD rn dn n (N, B) = (fa_rounds RR N1 rn.toNat, B1) := congrArg (fun S1 : fa_St => ((fa_rounds RR S1.1 rn.toNat, S1.2) : fa_St)) e1.symm
    refine pm_blk hK zmm37 [] 2 14 [(2, 180), (2, 3), (9, 0)] [(2, 3), (2, 180)] μ [] rfl trivial ?_
    refine pm_call hK zmm37 (33, 0, 39, 1) zM39 (2, 45) [(2, 180), (2, 3)] [] rfl rfl rfl rfl ⟨by omega, by rw [zn39]; omega⟩ (fc_rnds3 hK hT hC1 hn0 hm0 hq hI1 hX1 hb13 ⟨Nat.le_refl _, Nat.le_refl _⟩) (fun st1 μc1 hp1 => ?_)
    obtain ⟨rfl, hTc1, hCc1, hFk1⟩ := hp1
    have hC2 := hCc1
    have hF2 := fa_fr_t hF1 hFk1
    have hX2 := fa_X_frL hX hF2 rfl
    have hK2 := fa_K_rounds (N := N1) hq hX.2.1.2.2.2 rn.toNat (by have := hX.2.1.2.1; omega) hI1
    refine pm_blk hK zmm37 [] 2 19 [(2, 180), (2, 3), (9, 0)] [(2, 3), (2, 180)] μc1 [] rfl trivial ?_
    refine pm_call hK zmm37 (36, 0, 40, 1) zM40 (5, 120) [(2, 180), (2, 3)] [] rfl rfl rfl rfl ⟨by omega, by rw [zn40]; omega⟩ (fc_turns3 hK hTc1 hC2 hn0 hm0 hq hK2.1 (hK2.2 hO1) hX2 hb2 hb3 hb4 hb5 hb6 hb7 hb8 hb9 hb10 hb11 hb12 hb13 hb14 hb15 hb16 hb178 hb179 ⟨Nat.le_refl _, Nat.le_refl _⟩) (fun st2 μc2 hp2 => ?_)
    obtain ⟨rfl, hTc2, hCc2, hFk2⟩ := hp2
    have hC3 := hCc2
    have hF3 := fa_fr_t hF2 hFk2
    have hX3 := fa_X_frL hX hF3 rfl
    have hK3 := fa_K_turns (th := false) (t := (fr_law ls)) (pol := pol) hq m.toNat (S := (fa_rounds RR N1 rn.toNat, B1)) (by omega) hK2.1
    obtain ⟨⟨N3, B3⟩, e3⟩ : ∃ S3 : fa_St, S3 = fa_turns false (fr_law ls) pol m m.toNat (fa_rounds RR N1 rn.toNat, B1) := ⟨_, rfl⟩
    rw [← e3] at hC3 hK3
    have hI3 : fa_I n m N3 := hK3.1
    have h3 : μc2 3 2 = N3 1 := hC3.1.1.2.2.1
    have f2 := zT_get hTc2 zs3_2 (i := 2) (by omega) (by omega)
    refine pm_blk hK zmm37 [] 4 29 [(2, 180), (2, 3), (0, fa_dids false (fr_law ls) pol m m.toNat (fa_rounds RR N1 rn.toNat, B1))] [(0, 11), (0, μc2 3 2)] μc2 [] rfl trivial ?_
    refine pm_icmp hK zmm37 .ne 11 40 rfl rfl (fun h1 => ?_) (fun h1 => ?_)
    · have h1 : μc2 3 2 ≠ (11 : Int) := h1
      refine pm_blk hK zmm37 [] 6 50 [(2, 180), (2, 3), (0, fa_dids false (fr_law ls) pol m m.toNat (fa_rounds RR N1 rn.toNat, B1))] [] (pm_up μc2 3 2 ((μc2 3 2) + 1)) [pm_in ((μc2 3 2) + 1), sx_bit Wm 3 = true] rfl ⟨pm_in_mk (by omega) (by omega), hb3, trivial⟩ ?_
      obtain ⟨μ1, eμ1⟩ : ∃ μ', μ' = pm_up μc2 3 2 ((μc2 3 2) + 1) := ⟨_, rfl⟩
      rw [← eμ1]
      have hTμ1 : zTJ φ μ1 := by rw [eμ1]; exact zT_up hTc2 zs3_2 rfl (i := 2) (by omega) (by omega) (by omega) (by omega)
      have hF5 := fa_fr_st hF3 eμ1 rfl
      have hC5 : fa_C false 3 n m (fa_up N3 1 (N3 1 + 1), B3) pol μ1 := by rw [eμ1, h3]; exact fa_C_w hC3 (fa_A_f (k := 2) (j := 1) (Or.inl ⟨rfl, rfl⟩) hC3.1) ⟨by decide, by decide⟩ (fa_up_ne (by omega))
      refine pm_blk hK zmm37 [] 1 51 [(2, 180), (2, 3), (0, fa_dids false (fr_law ls) pol m m.toNat (fa_rounds RR N1 rn.toNat, B1))] [(0, fa_dids false (fr_law ls) pol m m.toNat (fa_rounds RR N1 rn.toNat, B1))] μ1 [] rfl trivial ?_
      have hm2 : fa_many false (fr_law ls) RR DD pol rn dn n m (N, B) = fa_dids false (fr_law ls) pol m m.toNat (fa_rounds RR N1 rn.toNat, B1) := by unfold fa_many; rw [et]
      have hh2 : fa_hour false (fr_law ls) RR DD pol rn dn n m (N, B) = fa_end false (fr_law ls) pol n m (N3, B3) := by rw [fa_hour_e, et, ← e3]
      first
      | exact pm_iret rfl rfl ⟨by rw [hm2], hTμ1, by rw [hh2, fa_end_y (by omega)]; exact hC4, hF4⟩
      | exact pm_iret rfl rfl ⟨by rw [hm2], hTμ1, by rw [hh2, fa_end_n (by omega)]; exact hC5, hF5⟩
      | (exfalso; omega)
    · have h1 : μc2 3 2 = (11 : Int) := h1
      refine pm_blk hK zmm37 [] 2 34 [(2, 180), (2, 3), (0, fa_dids false (fr_law ls) pol m m.toNat (fa_rounds RR N1 rn.toNat, B1))] [(2, 3), (2, 180)] μc2 [] rfl trivial ?_
      refine pm_call hK zmm37 (40, 0, 41, 1) zM41 (5, 119) [(2, 180), (2, 3)] [] rfl rfl rfl rfl ⟨by omega, by rw [zn41]; omega⟩ (fc_eve3 hK hTc2 hC3 hn0 hm0 hq hI3 hX3 hb2 hb3 hb4 hb5 hb6 hb7 hb8 hb9 hb10 hb11 hb12 hb13 hb14 hb15 hb16 hb178 hb179 ⟨Nat.le_refl _, Nat.le_refl _⟩) (fun st3 μc3 hp3 => ?_)
      obtain ⟨rfl, hTc3, hCc3, hFk3⟩ := hp3
      have hC4 := hCc3
      have hF4 := fa_fr_t hF3 hFk3
      refine pm_blk hK zmm37 [] 2 51 [(2, 180), (2, 3), (0, fa_dids false (fr_law ls) pol m m.toNat (fa_rounds RR N1 rn.toNat, B1))] [(0, fa_dids false (fr_law ls) pol m m.toNat (fa_rounds RR N1 rn.toNat, B1))] μc3 [] rfl trivial ?_
      have hm2 : fa_many false (fr_law ls) RR DD pol rn dn n m (N, B) = fa_dids false (fr_law ls) pol m m.toNat (fa_rounds RR N1 rn.toNat, B1) := by unfold fa_many; rw [et]
      have hh2 : fa_hour false (fr_law ls) RR DD pol rn dn n m (N, B) = fa_end false (fr_law ls) pol n m (N3, B3) := by rw [fa_hour_e, et, ← e3]
      first
      | exact pm_iret rfl rfl ⟨by rw [hm2], hTc3, by rw [hh2, fa_end_y (by omega)]; exact hC4, hF4⟩
      | exact pm_iret rfl rfl ⟨by rw [hm2], hTc3, by rw [hh2, fa_end_n (by omega)]; exact hC5, hF5⟩
      | (exfalso; omega)
  · have h0 : μ 3 2 = (0 : Int) := h0
    refine pm_blk hK zmm37 [] 2 9 [(2, 180), (2, 3), (9, 0)] [(2, 3), (2, 180)] μ [] rfl trivial ?_
    refine pm_call hK zmm37 (29, 0, 38, 1) zM38 (5, 116) [(2, 180), (2, 3)] [] rfl rfl rfl rfl ⟨by omega, by rw [zn38]; omega⟩ (fc_morn3 hK hT hC hn0 hm0 hq hI hX hb2 hb3 hb4 hb5 hb6 hb7 hb8 hb9 hb10 hb11 hb12 hb13 hb14 hb15 hb16 hb178 hb179 ⟨Nat.le_refl _, Nat.le_refl _⟩) (fun st4 μc4 hp4 => ?_)
    obtain ⟨rfl, hTc4, hCc4, hFk4⟩ := hp4
    have hCm := hCc4
    have hFm := hFk4
    obtain ⟨N1, B1, hC1, hI1, hO1, hF1, e1⟩ : ∃ N1 B1 : Int → Int, fa_C false 3 n m (N1, B1) pol μc4 ∧ fa_I n m N1 ∧ fa_O m N1 ∧ fa_fr fc_L3 μ μc4 ∧ (N1, B1) = fa_morn false DD dn n (N, B) := by
      have hmi := fa_I_morn (th := false) (D := DD) (B := B) hq hn0 hm0 hdn hX.2.2.2.2.2 hI hO
      first
      | exact ⟨N, B, hC, hI, hO, fa_fr_0, (fa_morn_n (by omega)).symm⟩
      | exact ⟨_, _, ((fa_morn_y (th := false) (D := DD) (dn := dn) (n := n) (B := B) (show N 1 = 0 by omega)).symm ▸ hCm : fa_C false 3 n m ((fa_morn false DD dn n (N, B)).1, (fa_morn false DD dn n (N, B)).2) pol μc4), hmi.1, hmi.2, hFm, rfl⟩
      | (exfalso; omega)
    have hX1 := fa_X_frL hX hF1 rfl
    have et : fa_to false RR DD rn dn n (N, B) = (fa_rounds RR N1 rn.toNat, B1) := congrArg (fun S1 : fa_St => ((fa_rounds RR S1.1 rn.toNat, S1.2) : fa_St)) e1.symm
    refine pm_blk hK zmm37 [] 2 14 [(2, 180), (2, 3), (9, 0)] [(2, 3), (2, 180)] μc4 [] rfl trivial ?_
    refine pm_call hK zmm37 (33, 0, 39, 1) zM39 (2, 45) [(2, 180), (2, 3)] [] rfl rfl rfl rfl ⟨by omega, by rw [zn39]; omega⟩ (fc_rnds3 hK hTc4 hC1 hn0 hm0 hq hI1 hX1 hb13 ⟨Nat.le_refl _, Nat.le_refl _⟩) (fun st5 μc5 hp5 => ?_)
    obtain ⟨rfl, hTc5, hCc5, hFk5⟩ := hp5
    have hC2 := hCc5
    have hF2 := fa_fr_t hF1 hFk5
    have hX2 := fa_X_frL hX hF2 rfl
    have hK2 := fa_K_rounds (N := N1) hq hX.2.1.2.2.2 rn.toNat (by have := hX.2.1.2.1; omega) hI1
    refine pm_blk hK zmm37 [] 2 19 [(2, 180), (2, 3), (9, 0)] [(2, 3), (2, 180)] μc5 [] rfl trivial ?_
    refine pm_call hK zmm37 (36, 0, 40, 1) zM40 (5, 120) [(2, 180), (2, 3)] [] rfl rfl rfl rfl ⟨by omega, by rw [zn40]; omega⟩ (fc_turns3 hK hTc5 hC2 hn0 hm0 hq hK2.1 (hK2.2 hO1) hX2 hb2 hb3 hb4 hb5 hb6 hb7 hb8 hb9 hb10 hb11 hb12 hb13 hb14 hb15 hb16 hb178 hb179 ⟨Nat.le_refl _, Nat.le_refl _⟩) (fun st6 μc6 hp6 => ?_)
    obtain ⟨rfl, hTc6, hCc6, hFk6⟩ := hp6
    have hC3 := hCc6
    have hF3 := fa_fr_t hF2 hFk6
    have hX3 := fa_X_frL hX hF3 rfl
    have hK3 := fa_K_turns (th := false) (t := (fr_law ls)) (pol := pol) hq m.toNat (S := (fa_rounds RR N1 rn.toNat, B1)) (by omega) hK2.1
    obtain ⟨⟨N3, B3⟩, e3⟩ : ∃ S3 : fa_St, S3 = fa_turns false (fr_law ls) pol m m.toNat (fa_rounds RR N1 rn.toNat, B1) := ⟨_, rfl⟩
    rw [← e3] at hC3 hK3
    have hI3 : fa_I n m N3 := hK3.1
    have h3 : μc6 3 2 = N3 1 := hC3.1.1.2.2.1
    have f3 := zT_get hTc6 zs3_2 (i := 2) (by omega) (by omega)
    refine pm_blk hK zmm37 [] 4 29 [(2, 180), (2, 3), (0, fa_dids false (fr_law ls) pol m m.toNat (fa_rounds RR N1 rn.toNat, B1))] [(0, 11), (0, μc6 3 2)] μc6 [] rfl trivial ?_
    refine pm_icmp hK zmm37 .ne 11 40 rfl rfl (fun h2 => ?_) (fun h2 => ?_)
    · have h2 : μc6 3 2 ≠ (11 : Int) := h2
      refine pm_blk hK zmm37 [] 6 50 [(2, 180), (2, 3), (0, fa_dids false (fr_law ls) pol m m.toNat (fa_rounds RR N1 rn.toNat, B1))] [] (pm_up μc6 3 2 ((μc6 3 2) + 1)) [pm_in ((μc6 3 2) + 1), sx_bit Wm 3 = true] rfl ⟨pm_in_mk (by omega) (by omega), hb3, trivial⟩ ?_
      obtain ⟨μ2, eμ2⟩ : ∃ μ', μ' = pm_up μc6 3 2 ((μc6 3 2) + 1) := ⟨_, rfl⟩
      rw [← eμ2]
      have hTμ2 : zTJ φ μ2 := by rw [eμ2]; exact zT_up hTc6 zs3_2 rfl (i := 2) (by omega) (by omega) (by omega) (by omega)
      have hF5 := fa_fr_st hF3 eμ2 rfl
      have hC5 : fa_C false 3 n m (fa_up N3 1 (N3 1 + 1), B3) pol μ2 := by rw [eμ2, h3]; exact fa_C_w hC3 (fa_A_f (k := 2) (j := 1) (Or.inl ⟨rfl, rfl⟩) hC3.1) ⟨by decide, by decide⟩ (fa_up_ne (by omega))
      refine pm_blk hK zmm37 [] 1 51 [(2, 180), (2, 3), (0, fa_dids false (fr_law ls) pol m m.toNat (fa_rounds RR N1 rn.toNat, B1))] [(0, fa_dids false (fr_law ls) pol m m.toNat (fa_rounds RR N1 rn.toNat, B1))] μ2 [] rfl trivial ?_
      have hm2 : fa_many false (fr_law ls) RR DD pol rn dn n m (N, B) = fa_dids false (fr_law ls) pol m m.toNat (fa_rounds RR N1 rn.toNat, B1) := by unfold fa_many; rw [et]
      have hh2 : fa_hour false (fr_law ls) RR DD pol rn dn n m (N, B) = fa_end false (fr_law ls) pol n m (N3, B3) := by rw [fa_hour_e, et, ← e3]
      first
      | exact pm_iret rfl rfl ⟨by rw [hm2], hTμ2, by rw [hh2, fa_end_y (by omega)]; exact hC4, hF4⟩
      | exact pm_iret rfl rfl ⟨by rw [hm2], hTμ2, by rw [hh2, fa_end_n (by omega)]; exact hC5, hF5⟩
      | (exfalso; omega)
    · have h2 : μc6 3 2 = (11 : Int) := h2
      refine pm_blk hK zmm37 [] 2 34 [(2, 180), (2, 3), (0, fa_dids false (fr_law ls) pol m m.toNat (fa_rounds RR N1 rn.toNat, B1))] [(2, 3), (2, 180)] μc6 [] rfl trivial ?_
      refine pm_call hK zmm37 (40, 0, 41, 1) zM41 (5, 119) [(2, 180), (2, 3)] [] rfl rfl rfl rfl ⟨by omega, by rw [zn41]; omega⟩ (fc_eve3 hK hTc6 hC3 hn0 hm0 hq hI3 hX3 hb2 hb3 hb4 hb5 hb6 hb7 hb8 hb9 hb10 hb11 hb12 hb13 hb14 hb15 hb16 hb178 hb179 ⟨Nat.le_refl _, Nat.le_refl _⟩) (fun st7 μc7 hp7 => ?_)
      obtain ⟨rfl, hTc7, hCc7, hFk7⟩ := hp7
      have hC4 := hCc7
      have hF4 := fa_fr_t hF3 hFk7
      refine pm_blk hK zmm37 [] 2 51 [(2, 180), (2, 3), (0, fa_dids false (fr_law ls) pol m m.toNat (fa_rounds RR N1 rn.toNat, B1))] [(0, fa_dids false (fr_law ls) pol m m.toNat (fa_rounds RR N1 rn.toNat, B1))] μc7 [] rfl trivial ?_
      have hm2 : fa_many false (fr_law ls) RR DD pol rn dn n m (N, B) = fa_dids false (fr_law ls) pol m m.toNat (fa_rounds RR N1 rn.toNat, B1) := by unfold fa_many; rw [et]
      have hh2 : fa_hour false (fr_law ls) RR DD pol rn dn n m (N, B) = fa_end false (fr_law ls) pol n m (N3, B3) := by rw [fa_hour_e, et, ← e3]
      first
      | exact pm_iret rfl rfl ⟨by rw [hm2], hTc7, by rw [hh2, fa_end_y (by omega)]; exact hC4, hF4⟩
      | exact pm_iret rfl rfl ⟨by rw [hm2], hTc7, by rw [hh2, fa_end_n (by omega)]; exact hC5, hF5⟩
      | (exfalso; omega)
end ZHW
