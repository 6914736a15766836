/-! F: the class: the turns, a shop's evening; walks printed by program (wip/p30/pmgen.py) and filled by hand -/
section ZHW
variable {φ : Option pm_Mem}
variable {D : va_G} {Wm : Nat} {ST : List (String × String × String × Nat)} {b0 : sx_B} {l : Launch} {Sg : Nat → Option Nat} {bud : sx_Bu} {μ : pm_Mem} {B0 : Nat → Prop} {J : (Nat → Option Nat) → Heap → Prop}
set_option maxRecDepth 100000 in
theorem fc_tu182 (hK : zKK ST)  {μ0 : pm_Mem} {S : fa_St} {pol : Int → Int} {n m : Int} (hn0 : 0 ≤ n) (hm0 : 0 ≤ m) (hq : n ≤ 12 ∧ m ≤ 18) (hIS : fa_I n m S.1) (hOS : fa_O m S.1) {ls : List (Int × List zIw × List zIw)} {rn dn : Int} {RR DD : Int → Int} (hX : fa_X ls n m rn dn RR DD μ0) (hb178 : sx_bit Wm 178 = true) (hb179 : sx_bit Wm 179 = true) (hb182 : sx_bit Wm 182 = true) (hb183 : sx_bit Wm 183 = true) (hb184 : sx_bit Wm 184 = true) (hb185 : sx_bit Wm 185 = true) (hb186 : sx_bit Wm 186 = true) (hb187 : sx_bit Wm 187 = true) (hb188 : sx_bit Wm 188 = true) (hb189 : sx_bit Wm 189 = true) (hb190 : sx_bit Wm 190 = true) (hb191 : sx_bit Wm 191 = true) (hb192 : sx_bit Wm 192 = true) (hb193 : sx_bit Wm 193 = true) (hb194 : sx_bit Wm 194 = true) (hbd : 5 ≤ bud.1 ∧ 120 ≤ bud.2.1) : ∀ (nM : Nat) {q c : Int} {μ : pm_Mem}, (m - c).toNat = nM → ∀ (hc : 0 ≤ c ∧ c ≤ m) (hqb : 0 ≤ q ∧ q ≤ c) (hT : zTJ φ μ) (hqd : q = fa_dids true (fr_law ls) pol m c.toNat S) (hC : fa_C true 182 n m (fa_turns true (fr_law ls) pol m c.toNat S) pol μ) (hF : fa_fr fc_L182 μ0 μ), zW D Wm ST b0 l Sg zM40 bud (pm_X zM40 (fun st' μ' => st' = [(0, fa_dids true (fr_law ls) pol m m.toNat S)] ∧ zTJ φ μ' ∧ fa_C true 182 n m (fa_turns true (fr_law ls) pol m m.toNat S) pol μ' ∧ fa_fr fc_L182 μ0 μ')) 4 [(2, 181), (2, 182), (0, q), (0, c), (9, 0)] [] μ := by
  intro nM
  induction nM using Nat.strongRecOn with
  | ind nM ih =>
    intro q c μ hn hc hqb hT hqd hC hF
    obtain ⟨⟨N1, B1⟩, eS⟩ : ∃ S1 : fa_St, S1 = fa_turns true (fr_law ls) pol m c.toNat S := ⟨_, rfl⟩
    rw [← eS] at hC
    have hXc := fa_X_frL hX hF rfl
    have hL1 := hXc.1.1
    have hl1 := hXc.1.2
    have hKt := fa_K_turns (th := true) (t := (fr_law ls)) (pol := pol) hq c.toNat (S := S) (by omega) hIS
    rw [← eS] at hKt
    have hI1 : fa_I n m N1 := hKt.1
    have hO1 : fa_O m N1 := hKt.2 hOS
    have a1 : μ 182 1 = m := hC.1.1.2.1
    have f1 := zT_get hT zs182_1 (i := 1) (by omega) (by omega)
    refine pm_blk hK zmm40 [] 3 9 [(2, 181), (2, 182), (0, q), (0, c), (9, 0)] [(0, μ 182 1), (0, c)] μ [] rfl trivial ?_
    refine pm_icmp hK zmm40 .ge 67 76 rfl rfl (fun h0 => ?_) (fun h0 => ?_)
    · have h0 : μ 182 1 ≤ c := h0
      refine pm_blk hK zmm40 [] 1 77 [(2, 181), (2, 182), (0, q), (0, c), (9, 0)] [(0, q)] μ [] rfl trivial ?_
      have ek2 : c.toNat = m.toNat := by omega
      exact pm_iret rfl rfl ⟨by rw [hqd, ek2], hT, by rw [eS, ek2] at hC; exact hC, hF⟩
    · have h0 : c < μ 182 1 := h0
      refine pm_blk hK zmm40 [] 3 15 [(2, 181), (2, 182), (0, q), (0, c), (9, 0)] [(0, c), (2, 182), (2, 181)] μ [] rfl trivial ?_
      refine pm_call hK zmm40 (121, 0, 33, 2) zM33 (4, 96) [(2, 181), (2, 182), (0, c)] [] rfl rfl rfl rfl ⟨by omega, by rw [zn33]; omega⟩ (fc_pay182 hK (c := c) hT hC.1 hn0 hm0 hq hI1 hL1 hl1 hb178 hb179 ⟨Nat.le_refl _, Nat.le_refl _⟩) (fun st1 μc1 hp1 => ?_)
      obtain ⟨rfl, hTc1, hfp1⟩ := hp1
      have hC2 := fa_C_78 hC hfp1 (by decide)
      have hF2 := fa_fr_t hF (fa_fr_78 hfp1 rfl rfl)
      have hX2 := fa_X_frL hX hF2 rfl
      have hL2 := hX2.1.1
      have hl2 := hX2.1.2
      have hpc := fa_pay_can (t := (fr_law ls)) (pol := pol) hO1 ⟨hc.1, (by omega : c < m)⟩
      have hcb := fa_costs_b (t := (fr_law ls)) (N := N1) (pol := pol) (m := m) (c := c) (s := N1 (106 + c) - 1)
      refine pm_blk hK zmm40 [] 3 23 [(2, 181), (2, 182), (0, q), (0, c), (0, fa_pay (fr_law ls) pol m c N1)] [(0, (-1)), (0, fa_pay (fr_law ls) pol m c N1)] μc1 [] rfl trivial ?_
      refine pm_icmp hK zmm40 .eq 47 70 rfl rfl (fun h1 => ?_) (fun h1 => ?_)
      · have h1 : fa_pay (fr_law ls) pol m c N1 = ((-1) : Int) := h1
        refine pm_blk hK zmm40 [] 2 4 [(2, 181), (2, 182), (0, q), (0, c + 1), (0, fa_pay (fr_law ls) pol m c N1)] [] μc1 [pm_in (c + 1)] rfl ⟨pm_in_mk (by omega) (by omega), trivial⟩ ?_
        refine pm_hide [4] ?_
        first
        | (have hu := fr_tu hqd hc.1 eS (fa_turn_0 (by rcases hpc with ⟨-, p⟩ | ⟨p, -⟩; exact p; exact absurd p (by omega))); exact ih _ (by omega) rfl ⟨by omega, by omega⟩ ⟨by omega, by omega⟩ hTc1 (by have := hu.1; omega) (by rw [← hu.2]; exact hC2) hF2)
        | (have hu := fr_tu hqd hc.1 eS (fa_turn_y hcan (by assumption)); exact ih _ (by omega) rfl ⟨by omega, by omega⟩ ⟨by omega, by omega⟩ hTc1 (by have := hu.1; omega) (by rw [← hu.2]; exact hC5) hF5)
        | (have hu := fr_tu hqd hc.1 eS (fa_turn_n hcan (by assumption)); exact ih _ (by omega) rfl ⟨by omega, by omega⟩ ⟨by omega, by omega⟩ hTc1 (by have := hu.1; omega) (by rw [← hu.2]; exact hC4) hF4)
        | (exfalso; omega)
      · have h1 : fa_pay (fr_law ls) pol m c N1 ≠ ((-1) : Int) := h1
        have hpe : fa_pay (fr_law ls) pol m c N1 = (fa_costs (fr_law ls) N1 pol m c (N1 (106 + c) - 1)) ∧ fa_can (fr_law ls) pol m c N1 = true := by
          rcases hpc with ⟨p, -⟩ | p
          · exact absurd p (by omega)
          · exact p
        have hcan := hpe.2
        have hpe := hpe.1
        obtain ⟨k1, k2, k3⟩ := fa_can_e hcan
        have hbi := (fa_I_c hI1 (c := c) (by omega) (by omega)).2
        have hgb := (fa_I_s hI1 (s := N1 (106 + c) - 1) (by omega) (by omega)).1
        have rin : μc1 192 c = N1 (106 + c) - 1 := fa_r_in hC2.1 (by omega) (by omega)
        have f2 := zT_get hTc1 zs192_0 (i := c) (by omega) (by omega)
        refine pm_blk hK zmm40 [] 14 50 [(2, 181), (2, 182), (0, q), (0, c), (0, fa_pay (fr_law ls) pol m c N1)] [(0, μc1 192 c), (0, c), (0, 300), (2, 182), (2, 17), (2, 177), (2, 182), (2, 181)] μc1 [0 ≤ c ∧ c < 18] rfl ⟨⟨by omega, by omega⟩, trivial⟩ ?_
        refine pm_call hK zmm40 (127, 0, 213, 5) zM213 (3, 67) [(2, 177), (2, 17), (2, 182), (0, 300), (0, c), (0, μc1 192 c)] [(2, 182), (2, 181)] rfl rfl rfl rfl ⟨by omega, by rw [zn213]; omega⟩ (fc_asked182 hK (w := 300) (c := c) (s := (μc1 192 c)) hTc1 hC2.1 hn0 hm0 hq hL2 hl2 (by omega) ⟨by omega, by omega⟩ ⟨by omega, by omega⟩ hb178 hb179 ⟨Nat.le_refl _, Nat.le_refl _⟩) (fun st2 μc2 hp2 => ?_)
        obtain ⟨rfl, hTc2, hfa2⟩ := hp2
        have hC3 := fa_C_78 hC2 hfa2 (by decide)
        have hF3 := fa_fr_t hF2 (fa_fr_78 hfa2 rfl rfl)
        rw [fa_ask_0, rin]
        refine pm_call hK zmm40 (133, 0, 230, 2) zM230 (0, 0) [(2, 181), (2, 182), (0, fa_buys (fr_law ls) N1 pol m c (N1 (106 + c) - 1))] [] rfl rfl rfl rfl ⟨by omega, by rw [zn230]; omega⟩ (fc_so182 hK (o := (fa_buys (fr_law ls) N1 pol m c (N1 (106 + c) - 1))) hTc2 hC3.1 hn0 hm0 hq ⟨Nat.le_refl _, Nat.le_refl _⟩) (fun st3 μc3 hp3 => ?_)
        obtain ⟨rfl, hTc3, hAs3, hfs3⟩ := hp3
        have hC4 := fa_C_m hC3 hAs3 (hfs3 2 (by decide)) (hfs3 16 (by decide)) fa_soN_3
        have hF4 := fa_fr_t hF3 (fa_fr_1 hfs3 rfl)
        refine pm_if hK zmm40 .eq 14 70 rfl rfl (fun h2 => ?_) (fun h2 => ?_)
        · have h2 : (if fa_so true ((fa_buys (fr_law ls) N1 pol m c (N1 (106 + c) - 1))) N1 = true then 1 else 0 : Int) = (0 : Int) := h2
          have h2 := zif0 h2
          refine pm_blk hK zmm40 [] 2 4 [(2, 181), (2, 182), (0, q), (0, c + 1), (0, fa_pay (fr_law ls) pol m c N1)] [] μc3 [pm_in (c + 1)] rfl ⟨pm_in_mk (by omega) (by omega), trivial⟩ ?_
          refine pm_hide [4] ?_
          first
          | (have hu := fr_tu hqd hc.1 eS (fa_turn_0 (by rcases hpc with ⟨-, p⟩ | ⟨p, -⟩; exact p; exact absurd p (by omega))); exact ih _ (by omega) rfl ⟨by omega, by omega⟩ ⟨by omega, by omega⟩ hTc3 (by have := hu.1; omega) (by rw [← hu.2]; exact hC2) hF2)
          | (have hu := fr_tu hqd hc.1 eS (fa_turn_y hcan (by assumption)); exact ih _ (by omega) rfl ⟨by omega, by omega⟩ ⟨by omega, by omega⟩ hTc3 (by have := hu.1; omega) (by rw [← hu.2]; exact hC5) hF5)
          | (have hu := fr_tu hqd hc.1 eS (fa_turn_n hcan (by assumption)); exact ih _ (by omega) rfl ⟨by omega, by omega⟩ ⟨by omega, by omega⟩ hTc3 (by have := hu.1; omega) (by rw [← hu.2]; exact hC4) hF4)
          | (exfalso; omega)
        · have h2 : (if fa_so true ((fa_buys (fr_law ls) N1 pol m c (N1 (106 + c) - 1))) N1 = true then 1 else 0 : Int) ≠ (0 : Int) := h2
          have h2 := zif1 h2
          refine pm_blk hK zmm40 [] 4 64 [(2, 181), (2, 182), (0, q), (0, c), (0, fa_pay (fr_law ls) pol m c N1)] [(0, fa_pay (fr_law ls) pol m c N1), (0, c), (2, 182), (2, 181)] μc3 [] rfl trivial ?_
          refine pm_call hK zmm40 (137, 0, 224, 3) zM224 (1, 23) [(2, 181), (2, 182), (0, c), (0, fa_pay (fr_law ls) pol m c N1)] [] rfl rfl rfl rfl ⟨by omega, by rw [zn224]; omega⟩ (fc_sell182 hK (c := c) (v := (fa_pay (fr_law ls) pol m c N1)) (s := N1 (106 + c) - 1) hTc3 hC4 hn0 hm0 hq (fa_K_soN hq hI1).1 ⟨by omega, by omega⟩ ⟨by omega, by omega⟩ (by rw [fa_soN_ne (by omega)]) (by rw [fa_soN_ne (by omega)]; show 1 ≤ N1 (4 + (N1 (106 + c) - 1)); omega) ⟨by omega, by rw [fa_soN_ne (by omega)]; show _ ≤ N1 (88 + c); omega⟩ hb178 hb179 hb182 hb183 hb184 hb185 hb186 hb187 hb188 hb189 hb190 hb191 hb192 hb193 hb194 ⟨Nat.le_refl _, Nat.le_refl _⟩) (fun st4 μc4 hp4 => ?_)
          obtain ⟨rfl, hTc4, hCs4, hFs4⟩ := hp4
          have hC5 := hCs4
          rw [hpe] at hC5
          have hF5 := fa_fr_t hF4 hFs4
          refine pm_blk hK zmm40 [] 3 4 [(2, 181), (2, 182), (0, q + 1), (0, c + 1), (0, fa_pay (fr_law ls) pol m c N1)] [] μc4 [pm_in (q + 1), pm_in (c + 1)] rfl ⟨pm_in_mk (by omega) (by omega), pm_in_mk (by omega) (by omega), trivial⟩ ?_
          refine pm_hide [4] ?_
          first
          | (have hu := fr_tu hqd hc.1 eS (fa_turn_0 (by rcases hpc with ⟨-, p⟩ | ⟨p, -⟩; exact p; exact absurd p (by omega))); exact ih _ (by omega) rfl ⟨by omega, by omega⟩ ⟨by omega, by omega⟩ hTc4 (by have := hu.1; omega) (by rw [← hu.2]; exact hC2) hF2)
          | (have hu := fr_tu hqd hc.1 eS (fa_turn_y hcan (by assumption)); exact ih _ (by omega) rfl ⟨by omega, by omega⟩ ⟨by omega, by omega⟩ hTc4 (by have := hu.1; omega) (by rw [← hu.2]; exact hC5) hF5)
          | (have hu := fr_tu hqd hc.1 eS (fa_turn_n hcan (by assumption)); exact ih _ (by omega) rfl ⟨by omega, by omega⟩ ⟨by omega, by omega⟩ hTc4 (by have := hu.1; omega) (by rw [← hu.2]; exact hC4) hF4)
          | (exfalso; omega)
set_option maxRecDepth 100000 in
theorem fc_turns182 (hK : zKK ST) (hT : zTJ φ μ) {N B pol : Int → Int} {n m : Int} (hC : fa_C true 182 n m (N, B) pol μ) (hn0 : 0 ≤ n) (hm0 : 0 ≤ m) (hq : n ≤ 12 ∧ m ≤ 18) (hI : fa_I n m N) (hO : fa_O m N) {ls : List (Int × List zIw × List zIw)} {rn dn : Int} {RR DD : Int → Int} (hX : fa_X ls n m rn dn RR DD μ) (hb178 : sx_bit Wm 178 = true) (hb179 : sx_bit Wm 179 = true) (hb182 : sx_bit Wm 182 = true) (hb183 : sx_bit Wm 183 = true) (hb184 : sx_bit Wm 184 = true) (hb185 : sx_bit Wm 185 = true) (hb186 : sx_bit Wm 186 = true) (hb187 : sx_bit Wm 187 = true) (hb188 : sx_bit Wm 188 = true) (hb189 : sx_bit Wm 189 = true) (hb190 : sx_bit Wm 190 = true) (hb191 : sx_bit Wm 191 = true) (hb192 : sx_bit Wm 192 = true) (hb193 : sx_bit Wm 193 = true) (hb194 : sx_bit Wm 194 = true) (hbd : 5 ≤ bud.1 ∧ 120 ≤ bud.2.1) : zC D Wm ST b0 l Sg zM40 bud [(2, 181), (2, 182)] μ (fun st' μ' => st' = [(0, fa_dids true (fr_law ls) pol m m.toNat (N, B))] ∧ zTJ φ μ' ∧ fa_C true 182 n m (fa_turns true (fr_law ls) pol m m.toNat (N, B)) pol μ' ∧ fa_fr fc_L182 μ μ') := by
  refine pm_blk hK zmm40 [] 4 4 [(2, 181), (2, 182), (0, 0), (0, 0), (9, 0)] [] μ [] rfl trivial ?_
  exact fc_tu182 hK (μ0 := μ) (S := (N, B)) hn0 hm0 hq hI hO hX hb178 hb179 hb182 hb183 hb184 hb185 hb186 hb187 hb188 hb189 hb190 hb191 hb192 hb193 hb194 hbd _ (q := 0) (c := 0) rfl ⟨by omega, by omega⟩ ⟨by omega, by omega⟩ hT rfl hC fa_fr_0
set_option maxRecDepth 100000 in
theorem fc_shut182 (hK : zKK ST) {s : Int} (hT : zTJ φ μ) {N B pol : Int → Int} {n m : Int} (hC : fa_C true 182 n m (N, B) pol μ) (hn0 : 0 ≤ n) (hm0 : 0 ≤ m) (hq : n ≤ 12 ∧ m ≤ 18) (hI : fa_I n m N) {ls : List (Int × List zIw × List zIw)} {rn dn : Int} {RR DD : Int → Int} (hX : fa_X ls n m rn dn RR DD μ) (hs : 0 ≤ s ∧ s < n) (hb178 : sx_bit Wm 178 = true) (hb179 : sx_bit Wm 179 = true) (hb182 : sx_bit Wm 182 = true) (hb183 : sx_bit Wm 183 = true) (hb184 : sx_bit Wm 184 = true) (hb185 : sx_bit Wm 185 = true) (hb186 : sx_bit Wm 186 = true) (hb187 : sx_bit Wm 187 = true) (hb188 : sx_bit Wm 188 = true) (hb189 : sx_bit Wm 189 = true) (hb190 : sx_bit Wm 190 = true) (hb191 : sx_bit Wm 191 = true) (hb192 : sx_bit Wm 192 = true) (hb193 : sx_bit Wm 193 = true) (hb194 : sx_bit Wm 194 = true) (hbd : 4 ≤ bud.1 ∧ 96 ≤ bud.2.1) : zC D Wm ST b0 l Sg zM232 bud [(2, 181), (2, 182), (0, s)] μ (fun st' μ' => st' = [] ∧ zTJ φ μ' ∧ fa_C true 182 n m (fa_shut true (fr_law ls) pol m s (N, B)) pol μ' ∧ fa_fr fc_L182 μ μ') := by
  have hA : fa_A 182 n m N pol μ := hC.1
  have a1 := hA.1.2.1
  have hL1 := hX.1.1
  have hl1 := hX.1.2
  have rl : μ 187 s = N (52 + s) - 1 := fa_r_last hA hs.1 hs.2
  have hbl := (fa_I_s hI hs.1 hs.2).2.2.2.1
  have f1 := zT_get hT zs187_0 (i := s) (by omega) (by omega)
  refine pm_blk hK zmm232 [70, 104] 7 9 [(2, 181), (2, 182), (0, s), (0, μ 187 s)] [(0, (-1)), (0, μ 187 s)] μ [0 ≤ s ∧ s < 12] rfl ⟨⟨by omega, by omega⟩, trivial⟩ ?_
  refine pm_icmp hK zmm232 .eq 45 54 rfl rfl (fun h0 => ?_) (fun h0 => ?_)
  · have h0 : μ 187 s = ((-1) : Int) := h0
    obtain ⟨N9, B9, hC9, hI9, hF9, hone, hfin⟩ : ∃ (N9 B9 : Int → Int), fa_C true 182 n m (N9, B9) pol μ ∧ fa_I n m N9 ∧ fa_fr fc_L182 μ μ ∧ (-1 ≤ (μ 187 s) ∧ (μ 187 s) < m) ∧ fa_shut true (fr_law ls) pol m s (N, B) = fa_one true ((μ 187 s)) s (N9, B9) := by
      first
      | exact ⟨_, _, hC, hI, fa_fr_0, ⟨by omega, by omega⟩, fa_shut_o0 (by omega) (by omega)⟩
      | exact ⟨_, _, hC5, hI5, hF5, ⟨by omega, by omega⟩, fa_shut_o2 (by omega) (by assumption) e5 rbf⟩
      | exact ⟨_, _, hC4, hI4, hF4, ⟨by omega, by omega⟩, fa_shut_o1 (by omega) (by assumption) rl⟩
      | (exfalso; omega)
    have a19 : μ 182 1 = m := hC9.1.1.2.1
    refine pm_blk hK zmm232 [70, 104] 2 56 [(2, 181), (2, 182), (0, s), (0, μ 187 s)] [(0, μ 187 s), (2, 182)] μ [] rfl trivial ?_
    refine pm_call hK zmm232 (72, 0, 23, 1) zM23 (0, 0) [(2, 182), (0, μ 187 s)] [] rfl rfl rfl rfl ⟨by omega, by rw [zn23]; omega⟩ (fc_isCustomer182 hK (s := (μ 187 s)) ⟨Nat.le_refl _, Nat.le_refl _⟩) (fun st1 μc1 hp1 => ?_)
    obtain ⟨rfl, rfl⟩ := hp1
    refine pm_if hK zmm232 .eq 37 96 rfl rfl (fun h1 => ?_) (fun h1 => ?_)
    · have h1 : (if 0 ≤ ((μ 187 s)) ∧ ((μ 187 s)) < μ 182 1 then 1 else 0 : Int) = (0 : Int) := h1
      have h1 := zif0 h1
      have rni : μ 189 s = N9 (76 + s) := fa_r_nights hC9.1 hs.1 hs.2
      refine pm_blk hK zmm232 [70, 104] 3 101 [(2, 181), (2, 182), (0, s), (0, μ 187 s)] [(0, s), (2, 189)] μ [] rfl trivial ?_
      refine zp_dup2 hK zmm232 rfl ?_
      have f2 := zT_get hT zs189_0 (i := s) (by omega) (by omega)
      have w3 := zw32 ((μ 189 s) + 1)
      refine pm_blk hK zmm232 [70, 104] 4 106 [(2, 181), (2, 182), (0, s), (0, μ 187 s)] [] (pm_up μ 189 s (pm_w32 ((μ 189 s) + 1))) [0 ≤ s ∧ s < 12, sx_bit Wm 189 = true, 0 ≤ s ∧ s < 12] rfl ⟨⟨by omega, by omega⟩, hb189, ⟨by omega, by omega⟩, trivial⟩ ?_
      obtain ⟨μ1, eμ1⟩ : ∃ μ', μ' = pm_up μ 189 s (pm_w32 ((μ 189 s) + 1)) := ⟨_, rfl⟩
      rw [← eμ1]
      have hTμ1 : zTJ φ μ1 := by rw [eμ1]; exact zT_up hT zs189_0 rfl (i := s) (by omega) (by omega) (by omega) (by omega)
      have hF13 := fa_fr_st hF9 eμ1 rfl
      have hC13 : fa_C true 182 n m ((fa_up N9 (76 + s) (pm_w32 (N9 (76 + s) + 1))), B9) pol μ1 := by rw [eμ1, rni]; exact fa_C_w hC9 (fa_w_nights hC9.1 hq hs.1 hs.2 rfl) ⟨by decide, by decide⟩ (fa_up_ne (by omega))
      have v13 : μ1 189 s = pm_w32 (N9 (76 + s) + 1) := by rw [eμ1, pm_up_eq, rni]
      have f4 := zT_get hTμ1 zs189_0 (i := s) (by omega) (by omega)
      refine pm_blk hK zmm232 [70, 104] 7 115 [(2, 181), (2, 182), (0, s), (0, μ 187 s)] [(0, μ1 189 s), (0, s), (0, 4), (2, 181)] μ1 [0 ≤ s ∧ s < 12] rfl ⟨⟨by omega, by omega⟩, trivial⟩ ?_
      refine pm_call hK zmm232 (105, 0, 226, 3) zM226 (0, 0) [(2, 181), (0, 4), (0, s), (0, μ1 189 s)] [] rfl rfl rfl rfl ⟨by omega, by rw [zn226]; omega⟩ (fc_note182 hK (k := 4) (w := s) (v := (μ1 189 s)) hTμ1 hC13 hn0 hm0 hq ⟨Nat.le_refl _, Nat.le_refl _⟩) (fun st2 μc2 hp2 => ?_)
      obtain ⟨rfl, hTc2, hCc2, hFk2⟩ := hp2
      have hCs := hCc2
      have hFs := fa_fr_t hF13 hFk2
      rw [v13] at hCs
      first
      | exact pm_vret rfl rfl ⟨rfl, hTc2, by rw [hfin, fa_one_n (by omega)]; exact hCp, hFp⟩
      | exact pm_vret rfl rfl ⟨rfl, hTc2, by rw [hfin, fa_one_y (by omega)]; exact hCs, hFs⟩
      | (exfalso; omega)
    · have h1 : (if 0 ≤ ((μ 187 s)) ∧ ((μ 187 s)) < μ 182 1 then 1 else 0 : Int) ≠ (0 : Int) := h1
      have h1 := zif1 h1
      have rpo : μ 193 ((μ 187 s)) = N9 (124 + (μ 187 s)) := fa_r_poles hC9.1 (by omega) (by omega)
      refine pm_blk hK zmm232 [70, 104] 3 67 [(2, 181), (2, 182), (0, s), (0, μ 187 s)] [(0, μ 187 s), (2, 193)] μ [] rfl trivial ?_
      refine zp_dup2 hK zmm232 rfl ?_
      have f5 := zT_get hT zs193_0 (i := μ 187 s) (by omega) (by omega)
      have w6 := zw32 ((μ 193 (μ 187 s)) + 1)
      refine pm_blk hK zmm232 [70, 104] 4 72 [(2, 181), (2, 182), (0, s), (0, μ 187 s)] [] (pm_up μ 193 (μ 187 s) (pm_w32 ((μ 193 (μ 187 s)) + 1))) [0 ≤ μ 187 s ∧ μ 187 s < 18, sx_bit Wm 193 = true, 0 ≤ μ 187 s ∧ μ 187 s < 18] rfl ⟨⟨by omega, by omega⟩, hb193, ⟨by omega, by omega⟩, trivial⟩ ?_
      obtain ⟨μ2, eμ2⟩ : ∃ μ', μ' = pm_up μ 193 (μ 187 s) (pm_w32 ((μ 193 (μ 187 s)) + 1)) := ⟨_, rfl⟩
      rw [← eμ2]
      have hTμ2 : zTJ φ μ2 := by rw [eμ2]; exact zT_up hT zs193_0 rfl (i := μ 187 s) (by omega) (by omega) (by omega) (by omega)
      have hF10 := fa_fr_st hF9 eμ2 rfl
      have hC10 : fa_C true 182 n m ((fa_up N9 (124 + (μ 187 s)) (pm_w32 (N9 (124 + (μ 187 s)) + 1))), B9) pol μ2 := by rw [eμ2, rpo]; exact fa_C_w hC9 (fa_w_poles hC9.1 hq (by omega) (by omega) rfl) ⟨by decide, by decide⟩ (fa_up_ne (by omega))
      refine pm_blk hK zmm232 [70, 104] 5 79 [(2, 181), (2, 182), (0, s), (0, μ 187 s)] [] (pm_up μ2 186 s 0) [sx_bit Wm 186 = true, 0 ≤ s ∧ s < 12] rfl ⟨hb186, ⟨by omega, by omega⟩, trivial⟩ ?_
      obtain ⟨μ3, eμ3⟩ : ∃ μ', μ' = pm_up μ2 186 s 0 := ⟨_, rfl⟩
      rw [← eμ3]
      have hTμ3 : zTJ φ μ3 := by rw [eμ3]; exact zT_up hTμ2 zs186_0 rfl (i := s) (by omega) (by omega) (by omega) (by omega)
      have hF11 := fa_fr_st hF10 eμ3 rfl
      have hC11 : fa_C true 182 n m ((fa_up (fa_up N9 (124 + (μ 187 s)) (pm_w32 (N9 (124 + (μ 187 s)) + 1))) (40 + s) 1), B9) pol μ3 := by rw [eμ3]; exact fa_C_w hC10 (fa_w_open hC10.1 hq hs.1 hs.2 (by omega)) ⟨by decide, by decide⟩ (fa_up_ne (by omega))
      refine pm_blk hK zmm232 [70, 104] 5 86 [(2, 181), (2, 182), (0, s), (0, μ 187 s)] [] (pm_up μ3 189 s 0) [sx_bit Wm 189 = true, 0 ≤ s ∧ s < 12] rfl ⟨hb189, ⟨by omega, by omega⟩, trivial⟩ ?_
      obtain ⟨μ4, eμ4⟩ : ∃ μ', μ' = pm_up μ3 189 s 0 := ⟨_, rfl⟩
      rw [← eμ4]
      have hTμ4 : zTJ φ μ4 := by rw [eμ4]; exact zT_up hTμ3 zs189_0 rfl (i := s) (by omega) (by omega) (by omega) (by omega)
      have hF12 := fa_fr_st hF11 eμ4 rfl
      have hC12 : fa_C true 182 n m ((fa_up (fa_up (fa_up N9 (124 + (μ 187 s)) (pm_w32 (N9 (124 + (μ 187 s)) + 1))) (40 + s) 1) (76 + s) 0), B9) pol μ4 := by rw [eμ4]; exact fa_C_w hC11 (fa_w_nights hC11.1 hq hs.1 hs.2 rfl) ⟨by decide, by decide⟩ (fa_up_ne (by omega))
      refine pm_blk hK zmm232 [70, 104] 4 90 [(2, 181), (2, 182), (0, s), (0, μ 187 s)] [(0, s), (0, μ 187 s), (0, 3), (2, 181)] μ4 [] rfl trivial ?_
      refine pm_call hK zmm232 (105, 0, 226, 3) zM226 (0, 0) [(2, 181), (0, 3), (0, μ 187 s), (0, s)] [] rfl rfl rfl rfl ⟨by omega, by rw [zn226]; omega⟩ (fc_note182 hK (k := 3) (w := (μ 187 s)) (v := s) hTμ4 hC12 hn0 hm0 hq ⟨Nat.le_refl _, Nat.le_refl _⟩) (fun st3 μc3 hp3 => ?_)
      obtain ⟨rfl, hTc3, hCc3, hFk3⟩ := hp3
      have hCp := hCc3
      have hFp := fa_fr_t hF12 hFk3
      refine pm_blk hK zmm232 [70, 104] 1 118 [(2, 181), (2, 182), (0, s), (0, μ 187 s)] [] μc3 [] rfl trivial ?_
      first
      | exact pm_vret rfl rfl ⟨rfl, hTc3, by rw [hfin, fa_one_n (by omega)]; exact hCp, hFp⟩
      | exact pm_vret rfl rfl ⟨rfl, hTc3, by rw [hfin, fa_one_y (by omega)]; exact hCs, hFs⟩
      | (exfalso; omega)
  · have h0 : μ 187 s ≠ ((-1) : Int) := h0
    refine pm_blk hK zmm232 [70, 104] 11 31 [(2, 181), (2, 182), (0, s), (0, μ 187 s)] [(0, s), (0, μ 187 s), (0, 301), (2, 182), (2, 17), (2, 177), (2, 182), (2, 181)] μ [] rfl trivial ?_
    refine pm_call hK zmm232 (127, 0, 213, 5) zM213 (3, 67) [(2, 177), (2, 17), (2, 182), (0, 301), (0, μ 187 s), (0, s)] [(2, 182), (2, 181)] rfl rfl rfl rfl ⟨by omega, by rw [zn213]; omega⟩ (fc_asked182 hK (w := 301) (c := (μ 187 s)) (s := s) hT hC.1 hn0 hm0 hq hL1 hl1 (by omega) ⟨by omega, by omega⟩ ⟨by omega, by omega⟩ hb178 hb179 ⟨Nat.le_refl _, Nat.le_refl _⟩) (fun st4 μc4 hp4 => ?_)
    obtain ⟨rfl, hTc4, hfa4⟩ := hp4
    have hC3 := fa_C_78 hC hfa4 (by decide)
    have hF3 : fa_fr fc_L182 μ μc4 := fa_fr_78 hfa4 rfl rfl
    rw [fa_ask_1, show fa_yields (fr_law ls) N pol m (μ 187 s) s = (fa_yields (fr_law ls) N pol m (N (52 + s) - 1) s) by rw [rl]]
    refine pm_call hK zmm232 (133, 0, 230, 2) zM230 (0, 0) [(2, 181), (2, 182), (0, fa_yields (fr_law ls) N pol m (N (52 + s) - 1) s)] [] rfl rfl rfl rfl ⟨by omega, by rw [zn230]; omega⟩ (fc_so182 hK (o := (fa_yields (fr_law ls) N pol m (N (52 + s) - 1) s)) hTc4 hC3.1 hn0 hm0 hq ⟨Nat.le_refl _, Nat.le_refl _⟩) (fun st5 μc5 hp5 => ?_)
    obtain ⟨rfl, hTc5, hAs5, hfs5⟩ := hp5
    have hC4 := fa_C_m hC3 hAs5 (hfs5 2 (by decide)) (hfs5 16 (by decide)) fa_soN_3
    have hF4 := fa_fr_t hF3 (fa_fr_1 hfs5 rfl)
    have hI4 := (fa_K_soN (th := true) (o := (fa_yields (fr_law ls) N pol m (N (52 + s) - 1) s)) hq hI).1
    refine pm_if hK zmm232 .eq 17 54 rfl rfl (fun h2 => ?_) (fun h2 => ?_)
    · have h2 : (if fa_so true ((fa_yields (fr_law ls) N pol m (N (52 + s) - 1) s)) N = true then 1 else 0 : Int) = (0 : Int) := h2
      have h2 := zif0 h2
      obtain ⟨N9, B9, hC9, hI9, hF9, hone, hfin⟩ : ∃ (N9 B9 : Int → Int), fa_C true 182 n m (N9, B9) pol μc5 ∧ fa_I n m N9 ∧ fa_fr fc_L182 μ μc5 ∧ (-1 ≤ (μ 187 s) ∧ (μ 187 s) < m) ∧ fa_shut true (fr_law ls) pol m s (N, B) = fa_one true ((μ 187 s)) s (N9, B9) := by
        first
        | exact ⟨_, _, hC, hI, fa_fr_0, ⟨by omega, by omega⟩, fa_shut_o0 (by omega) (by omega)⟩
        | exact ⟨_, _, hC5, hI5, hF5, ⟨by omega, by omega⟩, fa_shut_o2 (by omega) (by assumption) e5 rbf⟩
        | exact ⟨_, _, hC4, hI4, hF4, ⟨by omega, by omega⟩, fa_shut_o1 (by omega) (by assumption) rl⟩
        | (exfalso; omega)
      have a19 : μc5 182 1 = m := hC9.1.1.2.1
      refine pm_blk hK zmm232 [70, 104] 2 56 [(2, 181), (2, 182), (0, s), (0, μ 187 s)] [(0, μ 187 s), (2, 182)] μc5 [] rfl trivial ?_
      refine pm_call hK zmm232 (72, 0, 23, 1) zM23 (0, 0) [(2, 182), (0, μ 187 s)] [] rfl rfl rfl rfl ⟨by omega, by rw [zn23]; omega⟩ (fc_isCustomer182 hK (s := (μ 187 s)) ⟨Nat.le_refl _, Nat.le_refl _⟩) (fun st6 μc6 hp6 => ?_)
      obtain ⟨rfl, rfl⟩ := hp6
      refine pm_if hK zmm232 .eq 37 96 rfl rfl (fun h3 => ?_) (fun h3 => ?_)
      · have h3 : (if 0 ≤ ((μ 187 s)) ∧ ((μ 187 s)) < μc5 182 1 then 1 else 0 : Int) = (0 : Int) := h3
        have h3 := zif0 h3
        have rni : μc5 189 s = N9 (76 + s) := fa_r_nights hC9.1 hs.1 hs.2
        refine pm_blk hK zmm232 [70, 104] 3 101 [(2, 181), (2, 182), (0, s), (0, μ 187 s)] [(0, s), (2, 189)] μc5 [] rfl trivial ?_
        refine zp_dup2 hK zmm232 rfl ?_
        have f7 := zT_get hTc5 zs189_0 (i := s) (by omega) (by omega)
        have w8 := zw32 ((μc5 189 s) + 1)
        refine pm_blk hK zmm232 [70, 104] 4 106 [(2, 181), (2, 182), (0, s), (0, μ 187 s)] [] (pm_up μc5 189 s (pm_w32 ((μc5 189 s) + 1))) [0 ≤ s ∧ s < 12, sx_bit Wm 189 = true, 0 ≤ s ∧ s < 12] rfl ⟨⟨by omega, by omega⟩, hb189, ⟨by omega, by omega⟩, trivial⟩ ?_
        obtain ⟨μ5, eμ5⟩ : ∃ μ', μ' = pm_up μc5 189 s (pm_w32 ((μc5 189 s) + 1)) := ⟨_, rfl⟩
        rw [← eμ5]
        have hTμ5 : zTJ φ μ5 := by rw [eμ5]; exact zT_up hTc5 zs189_0 rfl (i := s) (by omega) (by omega) (by omega) (by omega)
        have hF13 := fa_fr_st hF9 eμ5 rfl
        have hC13 : fa_C true 182 n m ((fa_up N9 (76 + s) (pm_w32 (N9 (76 + s) + 1))), B9) pol μ5 := by rw [eμ5, rni]; exact fa_C_w hC9 (fa_w_nights hC9.1 hq hs.1 hs.2 rfl) ⟨by decide, by decide⟩ (fa_up_ne (by omega))
        have v13 : μ5 189 s = pm_w32 (N9 (76 + s) + 1) := by rw [eμ5, pm_up_eq, rni]
        have f9 := zT_get hTμ5 zs189_0 (i := s) (by omega) (by omega)
        refine pm_blk hK zmm232 [70, 104] 7 115 [(2, 181), (2, 182), (0, s), (0, μ 187 s)] [(0, μ5 189 s), (0, s), (0, 4), (2, 181)] μ5 [0 ≤ s ∧ s < 12] rfl ⟨⟨by omega, by omega⟩, trivial⟩ ?_
        refine pm_call hK zmm232 (105, 0, 226, 3) zM226 (0, 0) [(2, 181), (0, 4), (0, s), (0, μ5 189 s)] [] rfl rfl rfl rfl ⟨by omega, by rw [zn226]; omega⟩ (fc_note182 hK (k := 4) (w := s) (v := (μ5 189 s)) hTμ5 hC13 hn0 hm0 hq ⟨Nat.le_refl _, Nat.le_refl _⟩) (fun st7 μc7 hp7 => ?_)
        obtain ⟨rfl, hTc7, hCc7, hFk7⟩ := hp7
        have hCs := hCc7
        have hFs := fa_fr_t hF13 hFk7
        rw [v13] at hCs
        first
        | exact pm_vret rfl rfl ⟨rfl, hTc7, by rw [hfin, fa_one_n (by omega)]; exact hCp, hFp⟩
        | exact pm_vret rfl rfl ⟨rfl, hTc7, by rw [hfin, fa_one_y (by omega)]; exact hCs, hFs⟩
        | (exfalso; omega)
      · have h3 : (if 0 ≤ ((μ 187 s)) ∧ ((μ 187 s)) < μc5 182 1 then 1 else 0 : Int) ≠ (0 : Int) := h3
        have h3 := zif1 h3
        have rpo : μc5 193 ((μ 187 s)) = N9 (124 + (μ 187 s)) := fa_r_poles hC9.1 (by omega) (by omega)
        refine pm_blk hK zmm232 [70, 104] 3 67 [(2, 181), (2, 182), (0, s), (0, μ 187 s)] [(0, μ 187 s), (2, 193)] μc5 [] rfl trivial ?_
        refine zp_dup2 hK zmm232 rfl ?_
        have f10 := zT_get hTc5 zs193_0 (i := μ 187 s) (by omega) (by omega)
        have w11 := zw32 ((μc5 193 (μ 187 s)) + 1)
        refine pm_blk hK zmm232 [70, 104] 4 72 [(2, 181), (2, 182), (0, s), (0, μ 187 s)] [] (pm_up μc5 193 (μ 187 s) (pm_w32 ((μc5 193 (μ 187 s)) + 1))) [0 ≤ μ 187 s ∧ μ 187 s < 18, sx_bit Wm 193 = true, 0 ≤ μ 187 s ∧ μ 187 s < 18] rfl ⟨⟨by omega, by omega⟩, hb193, ⟨by omega, by omega⟩, trivial⟩ ?_
        obtain ⟨μ6, eμ6⟩ : ∃ μ', μ' = pm_up μc5 193 (μ 187 s) (pm_w32 ((μc5 193 (μ 187 s)) + 1)) := ⟨_, rfl⟩
        rw [← eμ6]
        have hTμ6 : zTJ φ μ6 := by rw [eμ6]; exact zT_up hTc5 zs193_0 rfl (i := μ 187 s) (by omega) (by omega) (by omega) (by omega)
        have hF10 := fa_fr_st hF9 eμ6 rfl
        have hC10 : fa_C true 182 n m ((fa_up N9 (124 + (μ 187 s)) (pm_w32 (N9 (124 + (μ 187 s)) + 1))), B9) pol μ6 := by rw [eμ6, rpo]; exact fa_C_w hC9 (fa_w_poles hC9.1 hq (by omega) (by omega) rfl) ⟨by decide, by decide⟩ (fa_up_ne (by omega))
        refine pm_blk hK zmm232 [70, 104] 5 79 [(2, 181), (2, 182), (0, s), (0, μ 187 s)] [] (pm_up μ6 186 s 0) [sx_bit Wm 186 = true, 0 ≤ s ∧ s < 12] rfl ⟨hb186, ⟨by omega, by omega⟩, trivial⟩ ?_
        obtain ⟨μ7, eμ7⟩ : ∃ μ', μ' = pm_up μ6 186 s 0 := ⟨_, rfl⟩
        rw [← eμ7]
        have hTμ7 : zTJ φ μ7 := by rw [eμ7]; exact zT_up hTμ6 zs186_0 rfl (i := s) (by omega) (by omega) (by omega) (by omega)
        have hF11 := fa_fr_st hF10 eμ7 rfl
        have hC11 : fa_C true 182 n m ((fa_up (fa_up N9 (124 + (μ 187 s)) (pm_w32 (N9 (124 + (μ 187 s)) + 1))) (40 + s) 1), B9) pol μ7 := by rw [eμ7]; exact fa_C_w hC10 (fa_w_open hC10.1 hq hs.1 hs.2 (by omega)) ⟨by decide, by decide⟩ (fa_up_ne (by omega))
        refine pm_blk hK zmm232 [70, 104] 5 86 [(2, 181), (2, 182), (0, s), (0, μ 187 s)] [] (pm_up μ7 189 s 0) [sx_bit Wm 189 = true, 0 ≤ s ∧ s < 12] rfl ⟨hb189, ⟨by omega, by omega⟩, trivial⟩ ?_
        obtain ⟨μ8, eμ8⟩ : ∃ μ', μ' = pm_up μ7 189 s 0 := ⟨_, rfl⟩
        rw [← eμ8]
        have hTμ8 : zTJ φ μ8 := by rw [eμ8]; exact zT_up hTμ7 zs189_0 rfl (i := s) (by omega) (by omega) (by omega) (by omega)
        have hF12 := fa_fr_st hF11 eμ8 rfl
        have hC12 : fa_C true 182 n m ((fa_up (fa_up (fa_up N9 (124 + (μ 187 s)) (pm_w32 (N9 (124 + (μ 187 s)) + 1))) (40 + s) 1) (76 + s) 0), B9) pol μ8 := by rw [eμ8]; exact fa_C_w hC11 (fa_w_nights hC11.1 hq hs.1 hs.2 rfl) ⟨by decide, by decide⟩ (fa_up_ne (by omega))
        refine pm_blk hK zmm232 [70, 104] 4 90 [(2, 181), (2, 182), (0, s), (0, μ 187 s)] [(0, s), (0, μ 187 s), (0, 3), (2, 181)] μ8 [] rfl trivial ?_
        refine pm_call hK zmm232 (105, 0, 226, 3) zM226 (0, 0) [(2, 181), (0, 3), (0, μ 187 s), (0, s)] [] rfl rfl rfl rfl ⟨by omega, by rw [zn226]; omega⟩ (fc_note182 hK (k := 3) (w := (μ 187 s)) (v := s) hTμ8 hC12 hn0 hm0 hq ⟨Nat.le_refl _, Nat.le_refl _⟩) (fun st8 μc8 hp8 => ?_)
        obtain ⟨rfl, hTc8, hCc8, hFk8⟩ := hp8
        have hCp := hCc8
        have hFp := fa_fr_t hF12 hFk8
        refine pm_blk hK zmm232 [70, 104] 1 118 [(2, 181), (2, 182), (0, s), (0, μ 187 s)] [] μc8 [] rfl trivial ?_
        first
        | exact pm_vret rfl rfl ⟨rfl, hTc8, by rw [hfin, fa_one_n (by omega)]; exact hCp, hFp⟩
        | exact pm_vret rfl rfl ⟨rfl, hTc8, by rw [hfin, fa_one_y (by omega)]; exact hCs, hFs⟩
        | (exfalso; omega)
    · have h2 : (if fa_so true ((fa_yields (fr_law ls) N pol m (N (52 + s) - 1) s)) N = true then 1 else 0 : Int) ≠ (0 : Int) := h2
      have h2 := zif1 h2
      refine pm_blk hK zmm232 [70, 104] 4 44 [(2, 181), (2, 182), (0, s), (0, μ 187 s)] [(0, s), (0, μ 187 s), (0, 2), (2, 181)] μc5 [] rfl trivial ?_
      refine pm_call hK zmm232 (105, 0, 226, 3) zM226 (0, 0) [(2, 181), (0, 2), (0, μ 187 s), (0, s)] [] rfl rfl rfl rfl ⟨by omega, by rw [zn226]; omega⟩ (fc_note182 hK (k := 2) (w := (μ 187 s)) (v := s) hTc5 hC4 hn0 hm0 hq ⟨Nat.le_refl _, Nat.le_refl _⟩) (fun st9 μc9 hp9 => ?_)
      obtain ⟨rfl, hTc9, hCc9, hFk9⟩ := hp9
      have hC5 := hCc9
      have hF5 := fa_fr_t hF4 hFk9
      have hK5 := (fa_K_noteS (th := true) (k := 2) (w := (μ 187 s)) (v := s) (S := (fa_soN true (fa_yields (fr_law ls) N pol m (N (52 + s) - 1) s) N, B)) hq hI4).1
      obtain ⟨⟨N5, B5⟩, e5⟩ : ∃ S5 : fa_St, S5 = fa_note true 2 ((μ 187 s)) s (fa_soN true (fa_yields (fr_law ls) N pol m (N (52 + s) - 1) s) N, B) := ⟨_, rfl⟩
      rw [← e5] at hC5 hK5
      have hI5 : fa_I n m N5 := hK5
      rw [rl] at e5
      have rbf : μc9 188 s = N5 (64 + s) - 1 := fa_r_before hC5.1 hs.1 hs.2
      have hb5 := (fa_I_s hI5 hs.1 hs.2).2.2.2.2
      have f12 := zT_get hTc9 zs188_0 (i := s) (by omega) (by omega)
      refine pm_blk hK zmm232 [70, 104] 5 54 [(2, 181), (2, 182), (0, s), (0, μc9 188 s)] [] μc9 [0 ≤ s ∧ s < 12] rfl ⟨⟨by omega, by omega⟩, trivial⟩ ?_
      obtain ⟨N9, B9, hC9, hI9, hF9, hone, hfin⟩ : ∃ (N9 B9 : Int → Int), fa_C true 182 n m (N9, B9) pol μc9 ∧ fa_I n m N9 ∧ fa_fr fc_L182 μ μc9 ∧ (-1 ≤ (μc9 188 s) ∧ (μc9 188 s) < m) ∧ fa_shut true (fr_law ls) pol m s (N, B) = fa_one true ((μc9 188 s)) s (N9, B9) := by
        first
        | exact ⟨_, _, hC, hI, fa_fr_0, ⟨by omega, by omega⟩, fa_shut_o0 (by omega) (by omega)⟩
        | exact ⟨_, _, hC5, hI5, hF5, ⟨by omega, by omega⟩, fa_shut_o2 (by omega) (by assumption) e5 rbf⟩
        | exact ⟨_, _, hC4, hI4, hF4, ⟨by omega, by omega⟩, fa_shut_o1 (by omega) (by assumption) rl⟩
        | (exfalso; omega)
      have a19 : μc9 182 1 = m := hC9.1.1.2.1
      refine pm_blk hK zmm232 [70, 104] 2 56 [(2, 181), (2, 182), (0, s), (0, μc9 188 s)] [(0, μc9 188 s), (2, 182)] μc9 [] rfl trivial ?_
      refine pm_call hK zmm232 (72, 0, 23, 1) zM23 (0, 0) [(2, 182), (0, μc9 188 s)] [] rfl rfl rfl rfl ⟨by omega, by rw [zn23]; omega⟩ (fc_isCustomer182 hK (s := (μc9 188 s)) ⟨Nat.le_refl _, Nat.le_refl _⟩) (fun st10 μc10 hp10 => ?_)
      obtain ⟨rfl, rfl⟩ := hp10
      refine pm_if hK zmm232 .eq 37 96 rfl rfl (fun h4 => ?_) (fun h4 => ?_)
      · have h4 : (if 0 ≤ ((μc9 188 s)) ∧ ((μc9 188 s)) < μc9 182 1 then 1 else 0 : Int) = (0 : Int) := h4
        have h4 := zif0 h4
        have rni : μc9 189 s = N9 (76 + s) := fa_r_nights hC9.1 hs.1 hs.2
        refine pm_blk hK zmm232 [70, 104] 3 101 [(2, 181), (2, 182), (0, s), (0, μc9 188 s)] [(0, s), (2, 189)] μc9 [] rfl trivial ?_
        refine zp_dup2 hK zmm232 rfl ?_
        have f13 := zT_get hTc9 zs189_0 (i := s) (by omega) (by omega)
        have w14 := zw32 ((μc9 189 s) + 1)
        refine pm_blk hK zmm232 [70, 104] 4 106 [(2, 181), (2, 182), (0, s), (0, μc9 188 s)] [] (pm_up μc9 189 s (pm_w32 ((μc9 189 s) + 1))) [0 ≤ s ∧ s < 12, sx_bit Wm 189 = true, 0 ≤ s ∧ s < 12] rfl ⟨⟨by omega, by omega⟩, hb189, ⟨by omega, by omega⟩, trivial⟩ ?_
        obtain ⟨μ9, eμ9⟩ : ∃ μ', μ' = pm_up μc9 189 s (pm_w32 ((μc9 189 s) + 1)) := ⟨_, rfl⟩
        rw [← eμ9]
        have hTμ9 : zTJ φ μ9 := by rw [eμ9]; exact zT_up hTc9 zs189_0 rfl (i := s) (by omega) (by omega) (by omega) (by omega)
        have hF13 := fa_fr_st hF9 eμ9 rfl
        have hC13 : fa_C true 182 n m ((fa_up N9 (76 + s) (pm_w32 (N9 (76 + s) + 1))), B9) pol μ9 := by rw [eμ9, rni]; exact fa_C_w hC9 (fa_w_nights hC9.1 hq hs.1 hs.2 rfl) ⟨by decide, by decide⟩ (fa_up_ne (by omega))
        have v13 : μ9 189 s = pm_w32 (N9 (76 + s) + 1) := by rw [eμ9, pm_up_eq, rni]
        have f15 := zT_get hTμ9 zs189_0 (i := s) (by omega) (by omega)
        refine pm_blk hK zmm232 [70, 104] 7 115 [(2, 181), (2, 182), (0, s), (0, μc9 188 s)] [(0, μ9 189 s), (0, s), (0, 4), (2, 181)] μ9 [0 ≤ s ∧ s < 12] rfl ⟨⟨by omega, by omega⟩, trivial⟩ ?_
        refine pm_call hK zmm232 (105, 0, 226, 3) zM226 (0, 0) [(2, 181), (0, 4), (0, s), (0, μ9 189 s)] [] rfl rfl rfl rfl ⟨by omega, by rw [zn226]; omega⟩ (fc_note182 hK (k := 4) (w := s) (v := (μ9 189 s)) hTμ9 hC13 hn0 hm0 hq ⟨Nat.le_refl _, Nat.le_refl _⟩) (fun st11 μc11 hp11 => ?_)
        obtain ⟨rfl, hTc11, hCc11, hFk11⟩ := hp11
        have hCs := hCc11
        have hFs := fa_fr_t hF13 hFk11
        rw [v13] at hCs
        first
        | exact pm_vret rfl rfl ⟨rfl, hTc11, by rw [hfin, fa_one_n (by omega)]; exact hCp, hFp⟩
        | exact pm_vret rfl rfl ⟨rfl, hTc11, by rw [hfin, fa_one_y (by omega)]; exact hCs, hFs⟩
        | (exfalso; omega)
      · have h4 : (if 0 ≤ ((μc9 188 s)) ∧ ((μc9 188 s)) < μc9 182 1 then 1 else 0 : Int) ≠ (0 : Int) := h4
        have h4 := zif1 h4
        have rpo : μc9 193 ((μc9 188 s)) = N9 (124 + (μc9 188 s)) := fa_r_poles hC9.1 (by omega) (by omega)
        refine pm_blk hK zmm232 [70, 104] 3 67 [(2, 181), (2, 182), (0, s), (0, μc9 188 s)] [(0, μc9 188 s), (2, 193)] μc9 [] rfl trivial ?_
        refine zp_dup2 hK zmm232 rfl ?_
        have f16 := zT_get hTc9 zs193_0 (i := μc9 188 s) (by omega) (by omega)
        have w17 := zw32 ((μc9 193 (μc9 188 s)) + 1)
        refine pm_blk hK zmm232 [70, 104] 4 72 [(2, 181), (2, 182), (0, s), (0, μc9 188 s)] [] (pm_up μc9 193 (μc9 188 s) (pm_w32 ((μc9 193 (μc9 188 s)) + 1))) [0 ≤ μc9 188 s ∧ μc9 188 s < 18, sx_bit Wm 193 = true, 0 ≤ μc9 188 s ∧ μc9 188 s < 18] rfl ⟨⟨by omega, by omega⟩, hb193, ⟨by omega, by omega⟩, trivial⟩ ?_
        obtain ⟨μ10, eμ10⟩ : ∃ μ', μ' = pm_up μc9 193 (μc9 188 s) (pm_w32 ((μc9 193 (μc9 188 s)) + 1)) := ⟨_, rfl⟩
        rw [← eμ10]
        have hTμ10 : zTJ φ μ10 := by rw [eμ10]; exact zT_up hTc9 zs193_0 rfl (i := μc9 188 s) (by omega) (by omega) (by omega) (by omega)
        have hF10 := fa_fr_st hF9 eμ10 rfl
        have hC10 : fa_C true 182 n m ((fa_up N9 (124 + (μc9 188 s)) (pm_w32 (N9 (124 + (μc9 188 s)) + 1))), B9) pol μ10 := by rw [eμ10, rpo]; exact fa_C_w hC9 (fa_w_poles hC9.1 hq (by omega) (by omega) rfl) ⟨by decide, by decide⟩ (fa_up_ne (by omega))
        refine pm_blk hK zmm232 [70, 104] 5 79 [(2, 181), (2, 182), (0, s), (0, μc9 188 s)] [] (pm_up μ10 186 s 0) [sx_bit Wm 186 = true, 0 ≤ s ∧ s < 12] rfl ⟨hb186, ⟨by omega, by omega⟩, trivial⟩ ?_
        obtain ⟨μ11, eμ11⟩ : ∃ μ', μ' = pm_up μ10 186 s 0 := ⟨_, rfl⟩
        rw [← eμ11]
        have hTμ11 : zTJ φ μ11 := by rw [eμ11]; exact zT_up hTμ10 zs186_0 rfl (i := s) (by omega) (by omega) (by omega) (by omega)
        have hF11 := fa_fr_st hF10 eμ11 rfl
        have hC11 : fa_C true 182 n m ((fa_up (fa_up N9 (124 + (μc9 188 s)) (pm_w32 (N9 (124 + (μc9 188 s)) + 1))) (40 + s) 1), B9) pol μ11 := by rw [eμ11]; exact fa_C_w hC10 (fa_w_open hC10.1 hq hs.1 hs.2 (by omega)) ⟨by decide, by decide⟩ (fa_up_ne (by omega))
        refine pm_blk hK zmm232 [70, 104] 5 86 [(2, 181), (2, 182), (0, s), (0, μc9 188 s)] [] (pm_up μ11 189 s 0) [sx_bit Wm 189 = true, 0 ≤ s ∧ s < 12] rfl ⟨hb189, ⟨by omega, by omega⟩, trivial⟩ ?_
        obtain ⟨μ12, eμ12⟩ : ∃ μ', μ' = pm_up μ11 189 s 0 := ⟨_, rfl⟩
        rw [← eμ12]
        have hTμ12 : zTJ φ μ12 := by rw [eμ12]; exact zT_up hTμ11 zs189_0 rfl (i := s) (by omega) (by omega) (by omega) (by omega)
        have hF12 := fa_fr_st hF11 eμ12 rfl
        have hC12 : fa_C true 182 n m ((fa_up (fa_up (fa_up N9 (124 + (μc9 188 s)) (pm_w32 (N9 (124 + (μc9 188 s)) + 1))) (40 + s) 1) (76 + s) 0), B9) pol μ12 := by rw [eμ12]; exact fa_C_w hC11 (fa_w_nights hC11.1 hq hs.1 hs.2 rfl) ⟨by decide, by decide⟩ (fa_up_ne (by omega))
        refine pm_blk hK zmm232 [70, 104] 4 90 [(2, 181), (2, 182), (0, s), (0, μc9 188 s)] [(0, s), (0, μc9 188 s), (0, 3), (2, 181)] μ12 [] rfl trivial ?_
        refine pm_call hK zmm232 (105, 0, 226, 3) zM226 (0, 0) [(2, 181), (0, 3), (0, μc9 188 s), (0, s)] [] rfl rfl rfl rfl ⟨by omega, by rw [zn226]; omega⟩ (fc_note182 hK (k := 3) (w := (μc9 188 s)) (v := s) hTμ12 hC12 hn0 hm0 hq ⟨Nat.le_refl _, Nat.le_refl _⟩) (fun st12 μc12 hp12 => ?_)
        obtain ⟨rfl, hTc12, hCc12, hFk12⟩ := hp12
        have hCp := hCc12
        have hFp := fa_fr_t hF12 hFk12
        refine pm_blk hK zmm232 [70, 104] 1 118 [(2, 181), (2, 182), (0, s), (0, μc9 188 s)] [] μc12 [] rfl trivial ?_
        first
        | exact pm_vret rfl rfl ⟨rfl, hTc12, by rw [hfin, fa_one_n (by omega)]; exact hCp, hFp⟩
        | exact pm_vret rfl rfl ⟨rfl, hTc12, by rw [hfin, fa_one_y (by omega)]; exact hCs, hFs⟩
        | (exfalso; omega)
end ZHW
