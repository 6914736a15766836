/-! F: the class: the morning, the rounds; walks printed by program (wip/p30/pmgen.py) and filled by hand -/
section ZHW
variable {φ : Option pm_Mem}
variable {D : va_G} {Wm : Nat} {ST : List (String × String × String × Nat)} {b0 : sx_B} {l : Launch} {Sg : Nat → Option Nat} {bud : sx_Bu} {μ : pm_Mem} {B0 : Nat → Prop} {J : (Nat → Option Nat) → Heap → Prop}
set_option maxRecDepth 100000 in
theorem fc_mo1_182 (hK : zKK ST) {X : Nat → List pm_V → List pm_V → pm_Mem → Prop} {μ0 : pm_Mem} {N B pol : Int → Int} {n m : Int} (hn0 : 0 ≤ n) (hm0 : 0 ≤ m) (hq : n ≤ 12 ∧ m ≤ 18) (hb186 : sx_bit Wm 186 = true) (hb187 : sx_bit Wm 187 = true) (hb188 : sx_bit Wm 188 = true) (K : ∀ (μ : pm_Mem), zTJ φ μ → fa_C true 182 n m (fa_opens N n.toNat, B) pol μ → fa_fr fc_L182 μ0 μ → zW D Wm ST b0 l Sg zM38 bud X 21 [(2, 181), (2, 182), (9, 0), (9, 0)] [] μ) (hbd : 3 ≤ bud.1 ∧ 70 ≤ bud.2.1) : ∀ (nM : Nat) {s : Int} {μ : pm_Mem}, (n - s).toNat = nM → ∀ (hs : 0 ≤ s ∧ s ≤ n) (hT : zTJ φ μ) (hC : fa_C true 182 n m (fa_opens N s.toNat, B) pol μ) (hF : fa_fr fc_L182 μ0 μ), zW D Wm ST b0 l Sg zM38 bud X 2 [(2, 181), (2, 182), (0, s), (9, 0)] [] μ := by
  intro nM
  induction nM using Nat.strongRecOn with
  | ind nM ih =>
    intro s μ hn hs hT hC hF
    have a0 := hC.1.1.1
    have es : ((s.toNat : Nat) : Int) = s := by omega
    have f1 := zT_get hT zs182_0 (i := 0) (by omega) (by omega)
    refine pm_blk hK zmm38 [] 3 7 [(2, 181), (2, 182), (0, s), (9, 0)] [(0, μ 182 0), (0, s)] μ [] rfl trivial ?_
    refine pm_icmp hK zmm38 .ge 14 21 rfl rfl (fun h0 => ?_) (fun h0 => ?_)
    · have h0 : μ 182 0 ≤ s := h0
      refine pm_hide [2] ?_
      have ek : s.toNat = n.toNat := by omega
      exact K _ hT (by rw [← ek]; exact hC) hF
    · have h0 : s < μ 182 0 := h0
      refine pm_blk hK zmm38 [] 2 12 [(2, 181), (2, 182), (0, s), (9, 0)] [(0, s), (2, 182)] μ [] rfl trivial ?_
      refine pm_call hK zmm38 (46, 0, 18, 1) zM18 (0, 0) [(2, 182), (0, s)] [] rfl rfl rfl rfl ⟨by omega, by rw [zn18]; omega⟩ (fc_opens182 hK (s := s) hT hC.1 hn0 hm0 hq ⟨by omega, by omega⟩ hb186 hb187 hb188 ⟨Nat.le_refl _, Nat.le_refl _⟩) (fun st1 μc1 hp1 => ?_)
      obtain ⟨rfl, hTc1, hAo1, hfo1⟩ := hp1
      have hA1 : fa_A 182 n m (fa_opens N (s + 1).toNat) pol μc1 := by rw [show (s + 1).toNat = s.toNat + 1 by omega, fa_opens_s, es]; exact hAo1
      have hC1 := fa_C_m hC hA1 (hfo1 2 (by decide) (by decide) (by decide)) (hfo1 16 (by decide) (by decide) (by decide)) (by rw [fa_opens_lo _ (by decide), fa_opens_lo _ (by decide)])
      have hF1 := fa_fr_t hF (fa_fr_3 hfo1 rfl rfl rfl)
      refine pm_blk hK zmm38 [] 2 2 [(2, 181), (2, 182), (0, s + 1), (9, 0)] [] μc1 [pm_in (s + 1)] rfl ⟨pm_in_mk (by omega) (by omega), trivial⟩ ?_
      exact ih _ (by omega) rfl ⟨by omega, by omega⟩ hTc1 hC1 hF1
set_option maxRecDepth 100000 in
theorem fc_mo2_182 (hK : zKK ST)  {μ0 : pm_Mem} {S : fa_St} {pol : Int → Int} {n m : Int} (hn0 : 0 ≤ n) (hm0 : 0 ≤ m) (hq : n ≤ 12 ∧ m ≤ 18) (hIS : fa_I n m S.1) {ls : List (Int × List zIw × List zIw)} {rn dn : Int} {RR DD : Int → Int} (hX : fa_X ls n m rn dn RR DD μ0) (hb178 : sx_bit Wm 178 = true) (hb179 : sx_bit Wm 179 = true) (hb182 : sx_bit Wm 182 = true) (hb183 : sx_bit Wm 183 = true) (hb184 : sx_bit Wm 184 = true) (hb185 : sx_bit Wm 185 = true) (hb186 : sx_bit Wm 186 = true) (hb187 : sx_bit Wm 187 = true) (hb188 : sx_bit Wm 188 = true) (hb189 : sx_bit Wm 189 = true) (hb190 : sx_bit Wm 190 = true) (hb191 : sx_bit Wm 191 = true) (hb192 : sx_bit Wm 192 = true) (hb193 : sx_bit Wm 193 = true) (hb194 : sx_bit Wm 194 = true) (hbd : 3 ≤ bud.1 ∧ 70 ≤ bud.2.1) : ∀ (nM : Nat) {k : Int} {μ : pm_Mem}, (dn - k).toNat = nM → ∀ (hk : 0 ≤ k ∧ k ≤ dn) (hT : zTJ φ μ) (hC : fa_C true 182 n m (fa_deeds true DD k.toNat S) pol μ) (hF : fa_fr fc_L182 μ0 μ), zW D Wm ST b0 l Sg zM38 bud (pm_X zM38 (fun st' μ' => st' = [] ∧ zTJ φ μ' ∧ fa_C true 182 n m (fa_deeds true DD dn.toNat S) pol μ' ∧ fa_fr fc_L182 μ0 μ')) 31 [(2, 181), (2, 182), (2, 23), (0, k)] [] μ := by
  intro nM
  induction nM using Nat.strongRecOn with
  | ind nM ih =>
    intro k μ hn hk hT hC hF
    obtain ⟨⟨N1, B1⟩, eS⟩ : ∃ S1 : fa_St, S1 = fa_deeds true DD k.toNat S := ⟨_, rfl⟩
    rw [← eS] at hC
    have hXc := fa_X_frL hX hF rfl
    have hDc := hXc.2.2
    have e23 := hDc.1
    have hd16 := hDc.2.1
    have hI1 : fa_I n m N1 := by have hh := (fa_K_deeds (th := true) (D := DD) hq hDc.2.2.2 k.toNat (S := S) (by omega) hIS).1; rw [← eS] at hh; exact hh
    have a3 : μ 182 3 = N1 0 := hC.1.1.2.2.2.1
    have ek : ((k.toNat : Nat) : Int) = k := by omega
    have e1 : (k + 1).toNat = k.toNat + 1 := by omega
    have f1 := zT_get hT zs23_2 (i := 2) (by omega) (by omega)
    refine pm_blk hK zmm38 [] 3 36 [(2, 181), (2, 182), (2, 23), (0, k)] [(0, μ 23 2), (0, k)] μ [] rfl trivial ?_
    refine pm_icmp hK zmm38 .ge 45 81 rfl rfl (fun h0 => ?_) (fun h0 => ?_)
    · have h0 : μ 23 2 ≤ k := h0
      have ek2 : k.toNat = dn.toNat := by omega
      exact pm_vret rfl rfl ⟨rfl, hT, by rw [eS, ek2] at hC; exact hC, hF⟩
    · have h0 : k < μ 23 2 := h0
      obtain ⟨c0, c1, c2, c3, c4⟩ := fc_cD hDc (k := k) (by omega) (by omega)
      refine pm_blk hK zmm38 [] 3 42 [(2, 181), (2, 182), (2, 23), (0, k)] [(0, 0), (0, k), (2, 23)] μ [] rfl trivial ?_
      refine pm_call hK zmm38 (61, 0, 219, 2) zM219 (1, 22) [(2, 23), (0, k), (0, 0)] [] rfl rfl rfl rfl ⟨by omega, by rw [zn219]; omega⟩ (fc_cell23 hK (a := k) (c := 0) ⟨by omega, by omega⟩ ⟨by omega, by omega⟩ ⟨Nat.le_refl _, Nat.le_refl _⟩) (fun st1 μc1 hp1 => ?_)
      obtain ⟨rfl, rfl⟩ := hp1
      have f2 := zT_get hT zs182_3 (i := 3) (by omega) (by omega)
      refine pm_blk hK zmm38 [] 2 49 [(2, 181), (2, 182), (2, 23), (0, k)] [(0, μ 182 3), (0, μ 24 (k * 4 + 0))] μ [] rfl trivial ?_
      refine pm_icmp hK zmm38 .ne 26 75 rfl rfl (fun h1 => ?_) (fun h1 => ?_)
      · have h1 : μ 24 (k * 4 + 0) ≠ μ 182 3 := h1
        refine pm_blk hK zmm38 [] 2 31 [(2, 181), (2, 182), (2, 23), (0, k + 1)] [] μ [pm_in (k + 1)] rfl ⟨pm_in_mk (by omega) (by omega), trivial⟩ ?_
        first
        | (have hy := fa_deeds_m (k := k.toNat) eS (by rw [ek]; show _ = N1 0; omega); rw [ek] at hy; exact ih _ (by omega) rfl ⟨by omega, by omega⟩ hT (by rw [e1, hy]; exact hCc) hF1)
        | (have hz := fa_deeds_z (k := k.toNat) eS (by rw [ek]; show ¬ _ = N1 0; omega); exact ih _ (by omega) rfl ⟨by omega, by omega⟩ hT (by rw [e1, hz]; exact hC) hF)
        | (exfalso; omega)
      · have h1 : μ 24 (k * 4 + 0) = μ 182 3 := h1
        refine pm_blk hK zmm38 [] 5 57 [(2, 181), (2, 182), (2, 23), (0, k)] [(0, 1), (0, k), (2, 23), (2, 182), (2, 181)] μ [] rfl trivial ?_
        refine pm_call hK zmm38 (61, 0, 219, 2) zM219 (1, 22) [(2, 23), (0, k), (0, 1)] [(2, 182), (2, 181)] rfl rfl rfl rfl ⟨by omega, by rw [zn219]; omega⟩ (fc_cell23 hK (a := k) (c := 1) ⟨by omega, by omega⟩ ⟨by omega, by omega⟩ ⟨Nat.le_refl _, Nat.le_refl _⟩) (fun st2 μc2 hp2 => ?_)
        obtain ⟨rfl, rfl⟩ := hp2
        refine pm_blk hK zmm38 [] 3 63 [(2, 181), (2, 182), (2, 23), (0, k)] [(0, 2), (0, k), (2, 23), (0, μ 24 (k * 4 + 1)), (2, 182), (2, 181)] μ [] rfl trivial ?_
        refine pm_call hK zmm38 (61, 0, 219, 2) zM219 (1, 22) [(2, 23), (0, k), (0, 2)] [(0, μ 24 (k * 4 + 1)), (2, 182), (2, 181)] rfl rfl rfl rfl ⟨by omega, by rw [zn219]; omega⟩ (fc_cell23 hK (a := k) (c := 2) ⟨by omega, by omega⟩ ⟨by omega, by omega⟩ ⟨Nat.le_refl _, Nat.le_refl _⟩) (fun st3 μc3 hp3 => ?_)
        obtain ⟨rfl, rfl⟩ := hp3
        refine pm_blk hK zmm38 [] 3 69 [(2, 181), (2, 182), (2, 23), (0, k)] [(0, 3), (0, k), (2, 23), (0, μ 24 (k * 4 + 2)), (0, μ 24 (k * 4 + 1)), (2, 182), (2, 181)] μ [] rfl trivial ?_
        refine pm_call hK zmm38 (61, 0, 219, 2) zM219 (1, 22) [(2, 23), (0, k), (0, 3)] [(0, μ 24 (k * 4 + 2)), (0, μ 24 (k * 4 + 1)), (2, 182), (2, 181)] rfl rfl rfl rfl ⟨by omega, by rw [zn219]; omega⟩ (fc_cell23 hK (a := k) (c := 3) ⟨by omega, by omega⟩ ⟨by omega, by omega⟩ ⟨Nat.le_refl _, Nat.le_refl _⟩) (fun st4 μc4 hp4 => ?_)
        obtain ⟨rfl, rfl⟩ := hp4
        refine pm_call hK zmm38 (68, 0, 228, 4) zM228 (2, 46) [(2, 181), (2, 182), (0, μ 24 (k * 4 + 1)), (0, μ 24 (k * 4 + 2)), (0, μ 24 (k * 4 + 3))] [] rfl rfl rfl rfl ⟨by omega, by rw [zn228]; omega⟩ (fc_cal182 hK (k := (μ 24 (k * 4 + 1))) (x := (μ 24 (k * 4 + 2))) (y := (μ 24 (k * 4 + 3))) (o := DD (4 * k + 1)) hT hC hn0 hm0 hq hI1 c1 (by rw [c2, c3]; exact c4) hb178 hb179 hb182 hb183 hb184 hb185 hb186 hb187 hb188 hb189 hb190 hb191 hb192 hb193 hb194 ⟨Nat.le_refl _, Nat.le_refl _⟩) (fun st5 μc5 hp5 => ?_)
        obtain ⟨rfl, hTc5, hCc5, hFk5⟩ := hp5
        have hCc := hCc5
        rw [c2, c3] at hCc
        have hF1 := fa_fr_t hF hFk5
        refine pm_blk hK zmm38 [] 2 31 [(2, 181), (2, 182), (2, 23), (0, k + 1)] [] μc5 [pm_in (k + 1)] rfl ⟨pm_in_mk (by omega) (by omega), trivial⟩ ?_
        first
        | (have hy := fa_deeds_m (k := k.toNat) eS (by rw [ek]; show _ = N1 0; omega); rw [ek] at hy; exact ih _ (by omega) rfl ⟨by omega, by omega⟩ hTc5 (by rw [e1, hy]; exact hCc) hF1)
        | (have hz := fa_deeds_z (k := k.toNat) eS (by rw [ek]; show ¬ _ = N1 0; omega); exact ih _ (by omega) rfl ⟨by omega, by omega⟩ hTc5 (by rw [e1, hz]; exact hC) hF)
        | (exfalso; omega)
set_option maxRecDepth 100000 in
theorem fc_morn182 (hK : zKK ST) (hT : zTJ φ μ) {N B pol : Int → Int} {n m : Int} (hC : fa_C true 182 n m (N, B) pol μ) (hn0 : 0 ≤ n) (hm0 : 0 ≤ m) (hq : n ≤ 12 ∧ m ≤ 18) (hI : fa_I n m N) {ls : List (Int × List zIw × List zIw)} {rn dn : Int} {RR DD : Int → Int} (hX : fa_X ls n m rn dn RR DD μ) (hb178 : sx_bit Wm 178 = true) (hb179 : sx_bit Wm 179 = true) (hb182 : sx_bit Wm 182 = true) (hb183 : sx_bit Wm 183 = true) (hb184 : sx_bit Wm 184 = true) (hb185 : sx_bit Wm 185 = true) (hb186 : sx_bit Wm 186 = true) (hb187 : sx_bit Wm 187 = true) (hb188 : sx_bit Wm 188 = true) (hb189 : sx_bit Wm 189 = true) (hb190 : sx_bit Wm 190 = true) (hb191 : sx_bit Wm 191 = true) (hb192 : sx_bit Wm 192 = true) (hb193 : sx_bit Wm 193 = true) (hb194 : sx_bit Wm 194 = true) (hbd : 3 ≤ bud.1 ∧ 70 ≤ bud.2.1) : zC D Wm ST b0 l Sg zM38 bud [(2, 181), (2, 182)] μ (fun st' μ' => st' = [] ∧ zTJ φ μ' ∧ fa_C true 182 n m (fa_deeds true DD dn.toNat (fa_opens N n.toNat, B)) pol μ' ∧ fa_fr fc_L182 μ μ') := by
  have hdn := hX.2.2.2.1
  refine pm_blk hK zmm38 [] 2 2 [(2, 181), (2, 182), (0, 0), (9, 0)] [] μ [] rfl trivial ?_
  refine fc_mo1_182 hK (μ0 := μ) hn0 hm0 hq hb186 hb187 hb188 (fun μ1 hT1 hC1 hF1 => ?_) hbd _ (s := 0) rfl ⟨by omega, by omega⟩ hT hC fa_fr_0
  refine pm_blk hK zmm38 [] 6 31 [(2, 181), (2, 182), (2, 23), (0, 0)] [] μ1 [] rfl trivial ?_
  exact fc_mo2_182 hK (μ0 := μ) (S := (fa_opens N n.toNat, B)) hn0 hm0 hq (fa_opens_I hq hm0 hI n.toNat (by omega)).1 hX hb178 hb179 hb182 hb183 hb184 hb185 hb186 hb187 hb188 hb189 hb190 hb191 hb192 hb193 hb194 hbd _ (k := 0) rfl ⟨by omega, by omega⟩ hT1 hC1 hF1
set_option maxRecDepth 100000 in
theorem fc_rn182 (hK : zKK ST)  {μ0 : pm_Mem} {N B pol : Int → Int} {n m : Int} (hn0 : 0 ≤ n) (hm0 : 0 ≤ m) (hq : n ≤ 12 ∧ m ≤ 18) (hI : fa_I n m N) {ls : List (Int × List zIw × List zIw)} {rn dn : Int} {RR DD : Int → Int} (hX : fa_X ls n m rn dn RR DD μ0) (hb192 : sx_bit Wm 192 = true) (hbd : 2 ≤ bud.1 ∧ 45 ≤ bud.2.1) : ∀ (nM : Nat) {k : Int} {μ : pm_Mem}, (rn - k).toNat = nM → ∀ (hk : 0 ≤ k ∧ k ≤ rn) (hT : zTJ φ μ) (hC : fa_C true 182 n m (fa_rounds RR N k.toNat, B) pol μ) (hF : fa_fr fc_L182 μ0 μ), zW D Wm ST b0 l Sg zM39 bud (pm_X zM39 (fun st' μ' => st' = [] ∧ zTJ φ μ' ∧ fa_C true 182 n m (fa_rounds RR N rn.toNat, B) pol μ' ∧ fa_fr fc_L182 μ0 μ')) 10 [(2, 181), (2, 182), (2, 20), (0, k), (9, 0), (9, 0), (9, 0)] [] μ := by
  intro nM
  induction nM using Nat.strongRecOn with
  | ind nM ih =>
    intro k μ hn hk hT hC hF
    obtain ⟨N1, eN⟩ : ∃ N1, N1 = fa_rounds RR N k.toNat := ⟨_, rfl⟩
    rw [← eN] at hC
    have hXc := fa_X_frL hX hF rfl
    have hRc := hXc.2.1
    have e20 := hRc.1
    have hr16 := hRc.2.1
    have hI1 : fa_I n m N1 := by rw [eN]; exact (fa_K_rounds hq hRc.2.2.2 k.toNat (by omega) hI).1
    have a0 : μ 182 0 = n := hC.1.1.1
    have a1 : μ 182 1 = m := hC.1.1.2.1
    have a2 : μ 182 2 = N1 1 := hC.1.1.2.2.1
    have ek : ((k.toNat : Nat) : Int) = k := by omega
    have e1 : (k + 1).toNat = k.toNat + 1 := by omega
    have f1 := zT_get hT zs20_2 (i := 2) (by omega) (by omega)
    refine pm_blk hK zmm39 [] 3 15 [(2, 181), (2, 182), (2, 20), (0, k), (9, 0), (9, 0), (9, 0)] [(0, μ 20 2), (0, k)] μ [] rfl trivial ?_
    refine pm_icmp hK zmm39 .ge 83 98 rfl rfl (fun h0 => ?_) (fun h0 => ?_)
    · have h0 : μ 20 2 ≤ k := h0
      have ek2 : k.toNat = rn.toNat := by omega
      exact pm_vret rfl rfl ⟨rfl, hT, by rw [eN, ek2] at hC; exact hC, hF⟩
    · have h0 : k < μ 20 2 := h0
      refine pm_blk hK zmm39 [] 3 21 [(2, 181), (2, 182), (2, 20), (0, k), (9, 0), (9, 0), (9, 0)] [(0, 0), (0, k), (2, 20)] μ [] rfl trivial ?_
      refine pm_call hK zmm39 (61, 0, 219, 2) zM219 (1, 22) [(2, 20), (0, k), (0, 0)] [] rfl rfl rfl rfl ⟨by omega, by rw [zn219]; omega⟩ (fc_cell20 hK (a := k) (c := 0) ⟨by omega, by omega⟩ ⟨by omega, by omega⟩ ⟨Nat.le_refl _, Nat.le_refl _⟩) (fun st1 μc1 hp1 => ?_)
      obtain ⟨rfl, rfl⟩ := hp1
      refine pm_blk hK zmm39 [] 4 29 [(2, 181), (2, 182), (2, 20), (0, k), (0, μ 21 (k * 4 + 0)), (9, 0), (9, 0)] [(0, 2), (0, k), (2, 20)] μ [] rfl trivial ?_
      refine pm_call hK zmm39 (61, 0, 219, 2) zM219 (1, 22) [(2, 20), (0, k), (0, 2)] [] rfl rfl rfl rfl ⟨by omega, by rw [zn219]; omega⟩ (fc_cell20 hK (a := k) (c := 2) ⟨by omega, by omega⟩ ⟨by omega, by omega⟩ ⟨Nat.le_refl _, Nat.le_refl _⟩) (fun st2 μc2 hp2 => ?_)
      obtain ⟨rfl, rfl⟩ := hp2
      refine pm_blk hK zmm39 [] 1 34 [(2, 181), (2, 182), (2, 20), (0, k), (0, μ 21 (k * 4 + 0)), (0, μ 21 (k * 4 + 2)), (9, 0)] [] μ [] rfl trivial ?_
      obtain ⟨c0, c1, c2, c3, c4, c5⟩ := fc_cR hRc (k := k) (by omega) (by omega)
      have ro : 1 ≤ RR (3 * k + 2) → μ 186 (μ 21 (k * 4 + 2)) = 1 - N1 (40 + (RR (3 * k + 2) - 1)) := fun hh => by
        have this : μ 186 (μ 21 (k * 4 + 2)) = 1 - N1 (40 + μ 21 (k * 4 + 2)) := fa_r_open hC.1 (by omega) (by omega)
        rw [this, c2]
      refine pm_blk hK zmm39 [] 2 37 [(2, 181), (2, 182), (2, 20), (0, k), (0, μ 21 (k * 4 + 0)), (0, μ 21 (k * 4 + 2)), (9, 0)] [(0, (-1)), (0, μ 21 (k * 4 + 2))] μ [] rfl trivial ?_
      refine pm_icmp hK zmm39 .eq 12 49 rfl rfl (fun h1 => ?_) (fun h1 => ?_)
      · have h1 : μ 21 (k * 4 + 2) = ((-1) : Int) := h1
        refine pm_blk hK zmm39 [] 6 59 [(2, 181), (2, 182), (2, 20), (0, k), (0, μ 21 (k * 4 + 0)), (0, μ 21 (k * 4 + 2)), (0, 1)] [(0, 1), (0, k), (2, 20)] μ [] rfl trivial ?_
        refine pm_call hK zmm39 (61, 0, 219, 2) zM219 (1, 22) [(2, 20), (0, k), (0, 1)] [] rfl rfl rfl rfl ⟨by omega, by rw [zn219]; omega⟩ (fc_cell20 hK (a := k) (c := 1) ⟨by omega, by omega⟩ ⟨by omega, by omega⟩ ⟨Nat.le_refl _, Nat.le_refl _⟩) (fun st3 μc3 hp3 => ?_)
        obtain ⟨rfl, rfl⟩ := hp3
        have f2 := zT_get hT zs182_2 (i := 2) (by omega) (by omega)
        refine pm_blk hK zmm39 [] 2 66 [(2, 181), (2, 182), (2, 20), (0, k), (0, μ 21 (k * 4 + 0)), (0, μ 21 (k * 4 + 2)), (0, 1)] [(0, μ 182 2), (0, μ 21 (k * 4 + 1))] μ [] rfl trivial ?_
        refine pm_icmp hK zmm39 .ne 26 92 rfl rfl (fun h2 => ?_) (fun h2 => ?_)
        · have h2 : μ 21 (k * 4 + 1) ≠ μ 182 2 := h2
          refine pm_blk hK zmm39 [] 2 10 [(2, 181), (2, 182), (2, 20), (0, k + 1), (0, μ 21 (k * 4 + 0)), (0, μ 21 (k * 4 + 2)), (0, 1)] [] μ [pm_in (k + 1)] rfl ⟨pm_in_mk (by omega) (by omega), trivial⟩ ?_
          refine pm_hide [4, 5, 6] ?_
          first
          | (have hy := fa_rounds_y (R := RR) (N := N) (k := k.toNat) (by rw [ek, ← eN]; first | omega | (have r1 := ro (by omega); omega)); rw [ek, ← eN] at hy; exact ih _ (by omega) rfl ⟨by omega, by omega⟩ hT (by rw [e1, hy]; exact hC1) hF1)
          | (have hz := fa_rounds_n (R := RR) (N := N) (k := k.toNat) (by rw [ek, ← eN]; first | omega | (have r1 := ro (by omega); omega)); rw [← eN] at hz; exact ih _ (by omega) rfl ⟨by omega, by omega⟩ hT (by rw [e1, hz]; exact hC) hF)
          | (exfalso; omega)
        · have h2 : μ 21 (k * 4 + 1) = μ 182 2 := h2
          refine pm_blk hK zmm39 [] 1 71 [(2, 181), (2, 182), (2, 20), (0, k), (0, μ 21 (k * 4 + 0)), (0, μ 21 (k * 4 + 2)), (0, 1)] [(0, 1)] μ [] rfl trivial ?_
          refine pm_if hK zmm39 .eq 21 92 rfl rfl (fun h3 => ?_) (fun h3 => ?_)
          · have h3 : (1 : Int) = (0 : Int) := h3
            exact absurd h3 (by decide)
          · have h3 : (1 : Int) ≠ (0 : Int) := h3
            refine pm_blk hK zmm39 [] 2 77 [(2, 181), (2, 182), (2, 20), (0, k), (0, μ 21 (k * 4 + 0)), (0, μ 21 (k * 4 + 2)), (0, 1)] [(0, μ 21 (k * 4 + 0)), (2, 182)] μ [] rfl trivial ?_
            refine pm_call hK zmm39 (72, 0, 23, 1) zM23 (0, 0) [(2, 182), (0, μ 21 (k * 4 + 0))] [] rfl rfl rfl rfl ⟨by omega, by rw [zn23]; omega⟩ (fc_isCustomer182 hK (s := (μ 21 (k * 4 + 0))) ⟨Nat.le_refl _, Nat.le_refl _⟩) (fun st4 μc4 hp4 => ?_)
            obtain ⟨rfl, rfl⟩ := hp4
            refine pm_if hK zmm39 .eq 12 92 rfl rfl (fun h4 => ?_) (fun h4 => ?_)
            · have h4 : (if 0 ≤ ((μ 21 (k * 4 + 0))) ∧ ((μ 21 (k * 4 + 0))) < μ 182 1 then 1 else 0 : Int) = (0 : Int) := h4
              have h4 := zif0 h4
              refine pm_blk hK zmm39 [] 2 10 [(2, 181), (2, 182), (2, 20), (0, k + 1), (0, μ 21 (k * 4 + 0)), (0, μ 21 (k * 4 + 2)), (0, 1)] [] μ [pm_in (k + 1)] rfl ⟨pm_in_mk (by omega) (by omega), trivial⟩ ?_
              refine pm_hide [4, 5, 6] ?_
              first
              | (have hy := fa_rounds_y (R := RR) (N := N) (k := k.toNat) (by rw [ek, ← eN]; first | omega | (have r1 := ro (by omega); omega)); rw [ek, ← eN] at hy; exact ih _ (by omega) rfl ⟨by omega, by omega⟩ hT (by rw [e1, hy]; exact hC1) hF1)
              | (have hz := fa_rounds_n (R := RR) (N := N) (k := k.toNat) (by rw [ek, ← eN]; first | omega | (have r1 := ro (by omega); omega)); rw [← eN] at hz; exact ih _ (by omega) rfl ⟨by omega, by omega⟩ hT (by rw [e1, hz]; exact hC) hF)
              | (exfalso; omega)
            · have h4 : (if 0 ≤ ((μ 21 (k * 4 + 0))) ∧ ((μ 21 (k * 4 + 0))) < μ 182 1 then 1 else 0 : Int) ≠ (0 : Int) := h4
              have h4 := zif1 h4
              refine pm_blk hK zmm39 [] 5 92 [(2, 181), (2, 182), (2, 20), (0, k), (0, μ 21 (k * 4 + 0)), (0, μ 21 (k * 4 + 2)), (0, 1)] [] (pm_up μ 192 (μ 21 (k * 4 + 0)) (μ 21 (k * 4 + 2))) [sx_bit Wm 192 = true, 0 ≤ μ 21 (k * 4 + 0) ∧ μ 21 (k * 4 + 0) < 18] rfl ⟨hb192, ⟨by omega, by omega⟩, trivial⟩ ?_
              obtain ⟨μ1, eμ1⟩ : ∃ μ', μ' = pm_up μ 192 (μ 21 (k * 4 + 0)) (μ 21 (k * 4 + 2)) := ⟨_, rfl⟩
              rw [← eμ1]
              have hTμ1 : zTJ φ μ1 := by rw [eμ1]; exact zT_up hT zs192_0 rfl (i := μ 21 (k * 4 + 0)) (by omega) (by omega) (by omega) (by omega)
              have hC1 : fa_C true 182 n m (fa_up N1 (106 + RR (3 * k)) (RR (3 * k + 2)), B) pol μ1 := by rw [eμ1, c0]; exact fa_C_w hC (fa_w_in hC.1 hq c3.1 c3.2 (by omega)) ⟨by decide, by decide⟩ (fa_up_ne (by omega))
              have hF1 := fa_fr_st hF eμ1 rfl
              refine pm_blk hK zmm39 [] 2 10 [(2, 181), (2, 182), (2, 20), (0, k + 1), (0, μ 21 (k * 4 + 0)), (0, μ 21 (k * 4 + 2)), (0, 1)] [] μ1 [pm_in (k + 1)] rfl ⟨pm_in_mk (by omega) (by omega), trivial⟩ ?_
              refine pm_hide [4, 5, 6] ?_
              first
              | (have hy := fa_rounds_y (R := RR) (N := N) (k := k.toNat) (by rw [ek, ← eN]; first | omega | (have r1 := ro (by omega); omega)); rw [ek, ← eN] at hy; exact ih _ (by omega) rfl ⟨by omega, by omega⟩ hTμ1 (by rw [e1, hy]; exact hC1) hF1)
              | (have hz := fa_rounds_n (R := RR) (N := N) (k := k.toNat) (by rw [ek, ← eN]; first | omega | (have r1 := ro (by omega); omega)); rw [← eN] at hz; exact ih _ (by omega) rfl ⟨by omega, by omega⟩ hTμ1 (by rw [e1, hz]; exact hC) hF)
              | (exfalso; omega)
      · have h1 : μ 21 (k * 4 + 2) ≠ ((-1) : Int) := h1
        refine pm_blk hK zmm39 [] 2 43 [(2, 181), (2, 182), (2, 20), (0, k), (0, μ 21 (k * 4 + 0)), (0, μ 21 (k * 4 + 2)), (9, 0)] [(0, μ 21 (k * 4 + 2)), (2, 182)] μ [] rfl trivial ?_
        refine pm_call hK zmm39 (112, 0, 26, 1) zM26 (1, 21) [(2, 182), (0, μ 21 (k * 4 + 2))] [] rfl rfl rfl rfl ⟨by omega, by rw [zn26]; omega⟩ (fc_isOpen182 hK (s := (μ 21 (k * 4 + 2))) hT ⟨Nat.le_refl _, Nat.le_refl _⟩) (fun st5 μc5 hp5 => ?_)
        obtain ⟨rfl, rfl⟩ := hp5
        refine pm_if hK zmm39 .eq 7 53 rfl rfl (fun h5 => ?_) (fun h5 => ?_)
        · have h5 : (if (0 ≤ ((μ 21 (k * 4 + 2))) ∧ ((μ 21 (k * 4 + 2))) < μ 182 0) ∧ μ 186 ((μ 21 (k * 4 + 2))) = 1 then 1 else 0 : Int) = (0 : Int) := h5
          have h5 := zif0 h5
          refine pm_blk hK zmm39 [] 5 59 [(2, 181), (2, 182), (2, 20), (0, k), (0, μ 21 (k * 4 + 0)), (0, μ 21 (k * 4 + 2)), (0, 0)] [(0, 1), (0, k), (2, 20)] μ [] rfl trivial ?_
          refine pm_call hK zmm39 (61, 0, 219, 2) zM219 (1, 22) [(2, 20), (0, k), (0, 1)] [] rfl rfl rfl rfl ⟨by omega, by rw [zn219]; omega⟩ (fc_cell20 hK (a := k) (c := 1) ⟨by omega, by omega⟩ ⟨by omega, by omega⟩ ⟨Nat.le_refl _, Nat.le_refl _⟩) (fun st6 μc6 hp6 => ?_)
          obtain ⟨rfl, rfl⟩ := hp6
          have f3 := zT_get hT zs182_2 (i := 2) (by omega) (by omega)
          refine pm_blk hK zmm39 [] 2 66 [(2, 181), (2, 182), (2, 20), (0, k), (0, μ 21 (k * 4 + 0)), (0, μ 21 (k * 4 + 2)), (0, 0)] [(0, μ 182 2), (0, μ 21 (k * 4 + 1))] μ [] rfl trivial ?_
          refine pm_icmp hK zmm39 .ne 26 92 rfl rfl (fun h6 => ?_) (fun h6 => ?_)
          · have h6 : μ 21 (k * 4 + 1) ≠ μ 182 2 := h6
            refine pm_blk hK zmm39 [] 2 10 [(2, 181), (2, 182), (2, 20), (0, k + 1), (0, μ 21 (k * 4 + 0)), (0, μ 21 (k * 4 + 2)), (0, 0)] [] μ [pm_in (k + 1)] rfl ⟨pm_in_mk (by omega) (by omega), trivial⟩ ?_
            refine pm_hide [4, 5, 6] ?_
            first
            | (have hy := fa_rounds_y (R := RR) (N := N) (k := k.toNat) (by rw [ek, ← eN]; first | omega | (have r1 := ro (by omega); omega)); rw [ek, ← eN] at hy; exact ih _ (by omega) rfl ⟨by omega, by omega⟩ hT (by rw [e1, hy]; exact hC1) hF1)
            | (have hz := fa_rounds_n (R := RR) (N := N) (k := k.toNat) (by rw [ek, ← eN]; first | omega | (have r1 := ro (by omega); omega)); rw [← eN] at hz; exact ih _ (by omega) rfl ⟨by omega, by omega⟩ hT (by rw [e1, hz]; exact hC) hF)
            | (exfalso; omega)
          · have h6 : μ 21 (k * 4 + 1) = μ 182 2 := h6
            refine pm_blk hK zmm39 [] 1 71 [(2, 181), (2, 182), (2, 20), (0, k), (0, μ 21 (k * 4 + 0)), (0, μ 21 (k * 4 + 2)), (0, 0)] [(0, 0)] μ [] rfl trivial ?_
            refine pm_if hK zmm39 .eq 21 92 rfl rfl (fun h7 => ?_) (fun h7 => ?_)
            · have h7 : (0 : Int) = (0 : Int) := h7
              refine pm_blk hK zmm39 [] 2 10 [(2, 181), (2, 182), (2, 20), (0, k + 1), (0, μ 21 (k * 4 + 0)), (0, μ 21 (k * 4 + 2)), (0, 0)] [] μ [pm_in (k + 1)] rfl ⟨pm_in_mk (by omega) (by omega), trivial⟩ ?_
              refine pm_hide [4, 5, 6] ?_
              first
              | (have hy := fa_rounds_y (R := RR) (N := N) (k := k.toNat) (by rw [ek, ← eN]; first | omega | (have r1 := ro (by omega); omega)); rw [ek, ← eN] at hy; exact ih _ (by omega) rfl ⟨by omega, by omega⟩ hT (by rw [e1, hy]; exact hC1) hF1)
              | (have hz := fa_rounds_n (R := RR) (N := N) (k := k.toNat) (by rw [ek, ← eN]; first | omega | (have r1 := ro (by omega); omega)); rw [← eN] at hz; exact ih _ (by omega) rfl ⟨by omega, by omega⟩ hT (by rw [e1, hz]; exact hC) hF)
              | (exfalso; omega)
            · have h7 : (0 : Int) ≠ (0 : Int) := h7
              exact absurd h7 (by decide)
        · have h5 : (if (0 ≤ ((μ 21 (k * 4 + 2))) ∧ ((μ 21 (k * 4 + 2))) < μ 182 0) ∧ μ 186 ((μ 21 (k * 4 + 2))) = 1 then 1 else 0 : Int) ≠ (0 : Int) := h5
          have h5 := zif1 h5
          refine pm_blk hK zmm39 [] 6 59 [(2, 181), (2, 182), (2, 20), (0, k), (0, μ 21 (k * 4 + 0)), (0, μ 21 (k * 4 + 2)), (0, 1)] [(0, 1), (0, k), (2, 20)] μ [] rfl trivial ?_
          refine pm_call hK zmm39 (61, 0, 219, 2) zM219 (1, 22) [(2, 20), (0, k), (0, 1)] [] rfl rfl rfl rfl ⟨by omega, by rw [zn219]; omega⟩ (fc_cell20 hK (a := k) (c := 1) ⟨by omega, by omega⟩ ⟨by omega, by omega⟩ ⟨Nat.le_refl _, Nat.le_refl _⟩) (fun st7 μc7 hp7 => ?_)
          obtain ⟨rfl, rfl⟩ := hp7
          have f4 := zT_get hT zs182_2 (i := 2) (by omega) (by omega)
          refine pm_blk hK zmm39 [] 2 66 [(2, 181), (2, 182), (2, 20), (0, k), (0, μ 21 (k * 4 + 0)), (0, μ 21 (k * 4 + 2)), (0, 1)] [(0, μ 182 2), (0, μ 21 (k * 4 + 1))] μ [] rfl trivial ?_
          refine pm_icmp hK zmm39 .ne 26 92 rfl rfl (fun h8 => ?_) (fun h8 => ?_)
          · have h8 : μ 21 (k * 4 + 1) ≠ μ 182 2 := h8
            refine pm_blk hK zmm39 [] 2 10 [(2, 181), (2, 182), (2, 20), (0, k + 1), (0, μ 21 (k * 4 + 0)), (0, μ 21 (k * 4 + 2)), (0, 1)] [] μ [pm_in (k + 1)] rfl ⟨pm_in_mk (by omega) (by omega), trivial⟩ ?_
            refine pm_hide [4, 5, 6] ?_
            first
            | (have hy := fa_rounds_y (R := RR) (N := N) (k := k.toNat) (by rw [ek, ← eN]; first | omega | (have r1 := ro (by omega); omega)); rw [ek, ← eN] at hy; exact ih _ (by omega) rfl ⟨by omega, by omega⟩ hT (by rw [e1, hy]; exact hC1) hF1)
            | (have hz := fa_rounds_n (R := RR) (N := N) (k := k.toNat) (by rw [ek, ← eN]; first | omega | (have r1 := ro (by omega); omega)); rw [← eN] at hz; exact ih _ (by omega) rfl ⟨by omega, by omega⟩ hT (by rw [e1, hz]; exact hC) hF)
            | (exfalso; omega)
          · have h8 : μ 21 (k * 4 + 1) = μ 182 2 := h8
            refine pm_blk hK zmm39 [] 1 71 [(2, 181), (2, 182), (2, 20), (0, k), (0, μ 21 (k * 4 + 0)), (0, μ 21 (k * 4 + 2)), (0, 1)] [(0, 1)] μ [] rfl trivial ?_
            refine pm_if hK zmm39 .eq 21 92 rfl rfl (fun h9 => ?_) (fun h9 => ?_)
            · have h9 : (1 : Int) = (0 : Int) := h9
              exact absurd h9 (by decide)
            · have h9 : (1 : Int) ≠ (0 : Int) := h9
              refine pm_blk hK zmm39 [] 2 77 [(2, 181), (2, 182), (2, 20), (0, k), (0, μ 21 (k * 4 + 0)), (0, μ 21 (k * 4 + 2)), (0, 1)] [(0, μ 21 (k * 4 + 0)), (2, 182)] μ [] rfl trivial ?_
              refine pm_call hK zmm39 (72, 0, 23, 1) zM23 (0, 0) [(2, 182), (0, μ 21 (k * 4 + 0))] [] rfl rfl rfl rfl ⟨by omega, by rw [zn23]; omega⟩ (fc_isCustomer182 hK (s := (μ 21 (k * 4 + 0))) ⟨Nat.le_refl _, Nat.le_refl _⟩) (fun st8 μc8 hp8 => ?_)
              obtain ⟨rfl, rfl⟩ := hp8
              refine pm_if hK zmm39 .eq 12 92 rfl rfl (fun h10 => ?_) (fun h10 => ?_)
              · have h10 : (if 0 ≤ ((μ 21 (k * 4 + 0))) ∧ ((μ 21 (k * 4 + 0))) < μ 182 1 then 1 else 0 : Int) = (0 : Int) := h10
                have h10 := zif0 h10
                refine pm_blk hK zmm39 [] 2 10 [(2, 181), (2, 182), (2, 20), (0, k + 1), (0, μ 21 (k * 4 + 0)), (0, μ 21 (k * 4 + 2)), (0, 1)] [] μ [pm_in (k + 1)] rfl ⟨pm_in_mk (by omega) (by omega), trivial⟩ ?_
                refine pm_hide [4, 5, 6] ?_
                first
                | (have hy := fa_rounds_y (R := RR) (N := N) (k := k.toNat) (by rw [ek, ← eN]; first | omega | (have r1 := ro (by omega); omega)); rw [ek, ← eN] at hy; exact ih _ (by omega) rfl ⟨by omega, by omega⟩ hT (by rw [e1, hy]; exact hC1) hF1)
                | (have hz := fa_rounds_n (R := RR) (N := N) (k := k.toNat) (by rw [ek, ← eN]; first | omega | (have r1 := ro (by omega); omega)); rw [← eN] at hz; exact ih _ (by omega) rfl ⟨by omega, by omega⟩ hT (by rw [e1, hz]; exact hC) hF)
                | (exfalso; omega)
              · have h10 : (if 0 ≤ ((μ 21 (k * 4 + 0))) ∧ ((μ 21 (k * 4 + 0))) < μ 182 1 then 1 else 0 : Int) ≠ (0 : Int) := h10
                have h10 := zif1 h10
                refine pm_blk hK zmm39 [] 5 92 [(2, 181), (2, 182), (2, 20), (0, k), (0, μ 21 (k * 4 + 0)), (0, μ 21 (k * 4 + 2)), (0, 1)] [] (pm_up μ 192 (μ 21 (k * 4 + 0)) (μ 21 (k * 4 + 2))) [sx_bit Wm 192 = true, 0 ≤ μ 21 (k * 4 + 0) ∧ μ 21 (k * 4 + 0) < 18] rfl ⟨hb192, ⟨by omega, by omega⟩, trivial⟩ ?_
                obtain ⟨μ2, eμ2⟩ : ∃ μ', μ' = pm_up μ 192 (μ 21 (k * 4 + 0)) (μ 21 (k * 4 + 2)) := ⟨_, rfl⟩
                rw [← eμ2]
                have hTμ2 : zTJ φ μ2 := by rw [eμ2]; exact zT_up hT zs192_0 rfl (i := μ 21 (k * 4 + 0)) (by omega) (by omega) (by omega) (by omega)
                have hC1 : fa_C true 182 n m (fa_up N1 (106 + RR (3 * k)) (RR (3 * k + 2)), B) pol μ2 := by rw [eμ2, c0]; exact fa_C_w hC (fa_w_in hC.1 hq c3.1 c3.2 (by omega)) ⟨by decide, by decide⟩ (fa_up_ne (by omega))
                have hF1 := fa_fr_st hF eμ2 rfl
                refine pm_blk hK zmm39 [] 2 10 [(2, 181), (2, 182), (2, 20), (0, k + 1), (0, μ 21 (k * 4 + 0)), (0, μ 21 (k * 4 + 2)), (0, 1)] [] μ2 [pm_in (k + 1)] rfl ⟨pm_in_mk (by omega) (by omega), trivial⟩ ?_
                refine pm_hide [4, 5, 6] ?_
                first
                | (have hy := fa_rounds_y (R := RR) (N := N) (k := k.toNat) (by rw [ek, ← eN]; first | omega | (have r1 := ro (by omega); omega)); rw [ek, ← eN] at hy; exact ih _ (by omega) rfl ⟨by omega, by omega⟩ hTμ2 (by rw [e1, hy]; exact hC1) hF1)
                | (have hz := fa_rounds_n (R := RR) (N := N) (k := k.toNat) (by rw [ek, ← eN]; first | omega | (have r1 := ro (by omega); omega)); rw [← eN] at hz; exact ih _ (by omega) rfl ⟨by omega, by omega⟩ hTμ2 (by rw [e1, hz]; exact hC) hF)
                | (exfalso; omega)
set_option maxRecDepth 100000 in
theorem fc_rnds182 (hK : zKK ST) (hT : zTJ φ μ) {N B pol : Int → Int} {n m : Int} (hC : fa_C true 182 n m (N, B) pol μ) (hn0 : 0 ≤ n) (hm0 : 0 ≤ m) (hq : n ≤ 12 ∧ m ≤ 18) (hI : fa_I n m N) {ls : List (Int × List zIw × List zIw)} {rn dn : Int} {RR DD : Int → Int} (hX : fa_X ls n m rn dn RR DD μ) (hb192 : sx_bit Wm 192 = true) (hbd : 2 ≤ bud.1 ∧ 45 ≤ bud.2.1) : zC D Wm ST b0 l Sg zM39 bud [(2, 181), (2, 182)] μ (fun st' μ' => st' = [] ∧ zTJ φ μ' ∧ fa_C true 182 n m (fa_rounds RR N rn.toNat, B) pol μ' ∧ fa_fr fc_L182 μ μ') := by
  have hrn := hX.2.1.2.1
  refine pm_blk hK zmm39 [] 6 10 [(2, 181), (2, 182), (2, 20), (0, 0), (9, 0), (9, 0), (9, 0)] [] μ [] rfl trivial ?_
  exact fc_rn182 hK (μ0 := μ) hn0 hm0 hq hI hX hb192 hbd _ (k := 0) rfl ⟨by omega, by omega⟩ hT hC fa_fr_0
end ZHW
