/-! ARCADE: the reference; walks printed by program (wip/p30/pmgen.py) and filled by hand -/
section ZHW
variable {φ : Option pm_Mem}
variable {D : va_G} {Wm : Nat} {ST : List (String × String × String × Nat)} {b0 : sx_B} {l : Launch} {Sg : Nat → Option Nat} {bud : sx_Bu} {μ : pm_Mem} {B0 : Nat → Prop} {J : (Nat → Option Nat) → Heap → Prop}
set_option maxRecDepth 100000 in
theorem zm_ra2 (hK : zKK ST)  {μ0 : pm_Mem} {sh cu : Int} {T : Int → Int} {L : Int} {K S V : Int → Int} {N : Int} {P : Nat → Int} (hsh0 : μ0 205 6 = sh) (hcu0 : μ0 205 7 = cu) (hb205 : sx_bit Wm 205 = true) (hb223 : sx_bit Wm 223 = true) (hbd : 6 ≤ bud.1 ∧ 134 ≤ bud.2.1) : ∀ (n : Nat) {i : Int} {μ : pm_Mem}, (16 - i).toNat = n → ∀ (hi : 0 ≤ i ∧ i ≤ 16) (hS : zQs (zLi0 (zPa3 K V sh cu) K 326) zcA T L K S V N P μ0 i μ) (hT : zTJ φ μ), zW D Wm ST b0 l Sg zM144 bud (pm_X zM144 (fun st' μ' => ∃ x, st' = [(0, x)] ∧ zTJ φ μ' ∧ zQo (zLi0 (zPa3 K V sh cu) K 326) zcA K S V μ0 x μ')) 28 [(2, 205), (0, i)] [] μ := by
  intro n
  induction n using Nat.strongRecOn with
  | ind n ih =>
    intro i μ hn hi hS hT
    obtain ⟨hF, hx, J, hch, hm, hce⟩ := id hS
    have hk := zMs_k hx hm
    obtain ⟨t1, t2, t3, t4⟩ := id hm
    obtain ⟨v1, v2, v3, v4, v5⟩ := id t3
    have hsh : μ 205 6 = sh := (hF.2.1 6 (by decide) (by decide) (by decide) (by decide) (by decide) (by decide) (by decide) (by decide) (by decide)).trans hsh0
    have hcu : μ 205 7 = cu := (hF.2.1 7 (by decide) (by decide) (by decide) (by decide) (by decide) (by decide) (by decide) (by decide) (by decide)).trans hcu0
    refine pm_blk hK zmm144 [] 2 31 [(2, 205), (0, i)] [(0, 26), (2, 205)] μ [] rfl trivial ?_
    refine pm_call hK zmm144 (245, 0, 142, 1) zM142 (0, 0) [(2, 205), (0, 26)] [] rfl rfl rfl rfl ⟨by omega, by rw [zn142]; omega⟩ (zm_isWord hK (kw := 326) (j := J i.toNat) hx hm (by decide) (by decide) ⟨Nat.le_refl _, Nat.le_refl _⟩) (fun st1 μc1 hp1 => ?_)
    obtain ⟨rfl, x1, rfl, hw1⟩ := hp1
    have hw := hw1
    refine pm_if hK zmm144 .eq 32 66 rfl rfl (fun h0 => ?_) (fun h0 => ?_)
    · have h0 : x1 = (0 : Int) := h0
      have hnk : K (J i.toNat) ≠ 326 := by omega
      have f1 := zT_get hT zs205_14 (i := 14) (by omega) (by omega)
      refine pm_blk hK zmm144 [] 2 70 [(2, 205), (0, i)] [(0, μ 205 14)] μ [] rfl trivial ?_
      refine pm_if hK zmm144 .ne 7 77 rfl rfl (fun h1 => ?_) (fun h1 => ?_)
      · have h1 : μ 205 14 ≠ (0 : Int) := h1
        refine pm_blk hK zmm144 [] 2 79 [(2, 205), (0, i)] [(0, 1), (2, 205)] μ [] rfl trivial ?_
        refine pm_call hK zmm144 (216, 0, 278, 1) zM278 (0, 0) [(2, 205), (0, 1)] [] rfl rfl rfl rfl ⟨by omega, by rw [zn278]; omega⟩ (zm_errs hK (j := J i.toNat) hx hm hT ⟨by omega, by omega⟩ hb205 ⟨Nat.le_refl _, Nat.le_refl _⟩) (fun st2 μc2 hp2 => ?_)
        obtain ⟨rfl, hTc2, hF2, hf2⟩ := hp2
        have hF := zMf_tr hF (zMf_r hF2)
        have hff := hf2
        first
        | exact pm_iret rfl rfl ⟨_, rfl, hTc2, zQo_e hi hF hch (by omega) hce⟩
        | exact pm_iret rfl rfl ⟨_, rfl, hTc2, zQo_f (f := 1) (q := J i.toNat) hi.1 hF hch (by omega) (by decide) (Or.inl ⟨rfl, rfl, hnk⟩) hff⟩
        | (exfalso; omega)
      · have h1 : μ 205 14 = (0 : Int) := h1
        refine pm_blk hK zmm144 [] 2 82 [(2, 205), (0, i)] [(0, i)] μ [] rfl trivial ?_
        first
        | exact pm_iret rfl rfl ⟨_, rfl, hT, zQo_e hi hF hch (by omega) hce⟩
        | exact pm_iret rfl rfl ⟨_, rfl, hT, zQo_f (f := 1) (q := J i.toNat) hi.1 hF hch (by omega) (by decide) (Or.inl ⟨rfl, rfl, hnk⟩) hff⟩
        | (exfalso; omega)
    · have h0 : x1 ≠ (0 : Int) := h0
      have hkw : K (J i.toNat) = 326 := by omega
      refine pm_blk hK zmm144 [] 2 40 [(2, 205), (0, i)] [(0, 16), (0, i)] μ [] rfl trivial ?_
      refine pm_icmp hK zmm144 .ne 9 49 rfl rfl (fun h2 => ?_) (fun h2 => ?_)
      · have h2 : i ≠ (16 : Int) := h2
        refine pm_blk hK zmm144 [] 1 50 [(2, 205), (0, i)] [(2, 205)] μ [] rfl trivial ?_
        refine pm_call hK zmm144 (289, 0, 286, 0) zM286 (5, 111) [(2, 205)] [] rfl rfl rfl rfl ⟨by omega, by rw [zn286]; omega⟩ (zm_beside hK (j := J i.toNat) hx hm hkw hT hb205 hb223 ⟨Nat.le_refl _, Nat.le_refl _⟩) (fun st3 μc3 hp3 => ?_)
        obtain ⟨x3, ff, qq, rfl, hTc3, hF3, hLL, hQ⟩ := hp3
        rw [hsh, hcu] at hLL
        have hx := zMx_f hx hF3
        have hF := zMf_tr hF hF3
        refine pm_blk hK zmm144 [] 1 54 [(2, 205), (0, i)] [(0, (-1)), (0, x3)] μc3 [] rfl trivial ?_
        refine pm_icmp hK zmm144 .ne 5 59 rfl rfl (fun h3 => ?_) (fun h3 => ?_)
        · have h3 : x3 ≠ ((-1) : Int) := h3
          refine pm_blk hK zmm144 [] 5 28 [(2, 205), (0, i + 1)] [] μc3 [pm_in (i + 1)] rfl ⟨pm_in_mk (by omega) (by omega), trivial⟩ ?_
          rcases hQ with ⟨a1, a2, a3, a4, a5, a6, a7⟩ | ⟨a1, -⟩
          · subst a2
            exact ih _ (by omega) rfl ⟨by omega, by omega⟩ (zQs_ok hi.1 hF hx hch (Or.inr (Or.inr ⟨hkw, by omega, hLL⟩)) a3 (zsK_add hce a4 a5 a6 a7)) hTc3
          · exact absurd a1 h3
        · have h3 : x3 = ((-1) : Int) := h3
          refine pm_blk hK zmm144 [] 1 58 [(2, 205), (0, i)] [(0, (-1))] μc3 [] rfl trivial ?_
          rcases hQ with ⟨a1, -⟩ | ⟨a1, a2, a3⟩
          · exact absurd h3 a1
          · exact pm_iret rfl rfl ⟨_, rfl, hTc3, zQo_f hi.1 hF hch (by omega) a2 (Or.inr (Or.inr ⟨hkw, by omega, hLL⟩)) a3⟩
      · have h2 : i = (16 : Int) := h2
        refine pm_blk hK zmm144 [] 2 45 [(2, 205), (0, i)] [(0, 3), (2, 205)] μ [] rfl trivial ?_
        refine pm_call hK zmm144 (216, 0, 278, 1) zM278 (0, 0) [(2, 205), (0, 3)] [] rfl rfl rfl rfl ⟨by omega, by rw [zn278]; omega⟩ (zm_errs hK (j := J i.toNat) hx hm hT ⟨by omega, by omega⟩ hb205 ⟨Nat.le_refl _, Nat.le_refl _⟩) (fun st4 μc4 hp4 => ?_)
        obtain ⟨rfl, hTc4, hF4, hf4⟩ := hp4
        have hF := zMf_tr hF (zMf_r hF4)
        have hff := hf4
        exact pm_iret rfl rfl ⟨_, rfl, hTc4, zQo_f (f := 3) (q := J i.toNat) hi.1 hF hch (by omega) (by decide) (Or.inr (Or.inl ⟨rfl, rfl, hkw, by omega⟩)) hff⟩
set_option maxRecDepth 100000 in
theorem zm_ra1 (hK : zKK ST) {X : Nat → List pm_V → List pm_V → pm_Mem → Prop} {μ0 : pm_Mem} (hb223 : sx_bit Wm 223 = true) (KK : ∀ (μ : pm_Mem), (∀ r, r ≠ 223 → μ r = μ0 r) → (∀ y, y < 144 → μ 223 y = μ0 223 y) → (∀ y, 144 ≤ y → y < 288 → μ 223 y = 0) → zTJ φ μ → zW D Wm ST b0 l Sg zM144 bud X 28 [(2, 205), (0, 0)] [] μ) (hbd : 0 ≤ bud.1 ∧ 0 ≤ bud.2.1) : ∀ (n : Nat) {k : Int} {μ : pm_Mem}, (144 - k).toNat = n → ∀ (hk : 0 ≤ k ∧ k ≤ 144) (hs : ∀ r, r ≠ 223 → μ r = μ0 r) (hlo : ∀ y, y < 144 → μ 223 y = μ0 223 y) (hz : ∀ y, 144 ≤ y → y < 144 + k → μ 223 y = 0) (hT : zTJ φ μ), zW D Wm ST b0 l Sg zM144 bud X 2 [(2, 205), (0, k)] [] μ := by
  intro n
  induction n using Nat.strongRecOn with
  | ind n ih =>
    intro k μ hn hk hs hlo hz hT
    refine pm_blk hK zmm144 [] 2 6 [(2, 205), (0, k)] [(0, 144), (0, k)] μ [] rfl trivial ?_
    refine pm_icmp hK zmm144 .ge 20 26 rfl rfl (fun h0 => ?_) (fun h0 => ?_)
    · have h0 : (144 : Int) ≤ k := h0
      refine pm_blk hK zmm144 [] 2 28 [(2, 205), (0, 0)] [] μ [] rfl trivial ?_
      exact KK _ hs hlo (fun y y0 y1 => hz y y0 (by omega)) hT
    · have h0 : k < (144 : Int) := h0
      refine pm_blk hK zmm144 [] 7 20 [(2, 205), (0, k)] [] (pm_up μ 223 (144 + k) 0) [pm_in (144 + k), sx_bit Wm 223 = true, 0 ≤ 144 + k ∧ 144 + k < 288] rfl ⟨pm_in_mk (by omega) (by omega), hb223, ⟨by omega, by omega⟩, trivial⟩ ?_
      obtain ⟨μ1, eμ1⟩ : ∃ μ', μ' = pm_up μ 223 (144 + k) 0 := ⟨_, rfl⟩
      rw [← eμ1]
      have hTμ1 : zTJ φ μ1 := by rw [eμ1]; exact zT_up hT zs223_0 rfl (i := 144 + k) (by omega) (by omega) (by omega) (by omega)
      refine pm_blk hK zmm144 [] 2 2 [(2, 205), (0, k + 1)] [] μ1 [pm_in (k + 1)] rfl ⟨pm_in_mk (by omega) (by omega), trivial⟩ ?_
      refine ih _ (by omega) rfl ⟨by omega, by omega⟩ (fun r hr => by rw [eμ1, pm_up_row hr]; exact hs r hr) (fun y hy => by rw [eμ1, pm_up_ne (by omega)]; exact hlo y hy) (fun y y0 y1 => ?_) hTμ1
      by_cases hyk : y = 144 + k
      · rw [hyk, eμ1, pm_up_eq]
      · rw [eμ1, pm_up_ne hyk]; exact hz y y0 (by omega)
set_option maxRecDepth 100000 in
theorem zm_arcade (hK : zKK ST) {sh cu : Int} {T : Int → Int} {L : Int} {K S V : Int → Int} {N : Int} {P : Nat → Int} (hx : zMx T L K S V N P μ) (h : zMs K S V N P 0 μ) (hsh : μ 205 6 = sh) (hcu : μ 205 7 = cu) (hT : zTJ φ μ) (hb205 : sx_bit Wm 205 = true) (hb223 : sx_bit Wm 223 = true) (hbd : 6 ≤ bud.1 ∧ 134 ≤ bud.2.1) : zC D Wm ST b0 l Sg zM144 bud [(2, 205)] μ (fun st' μ' => ∃ x, st' = [(0, x)] ∧ zTJ φ μ' ∧ zQo (zLi0 (zPa3 K V sh cu) K 326) zcA K S V μ x μ') := by
  refine pm_blk hK zmm144 [] 2 2 [(2, 205), (0, 0)] [] μ [] rfl trivial ?_
  refine zm_ra1 hK (μ0 := μ) hb223 (fun μ2 hs hlo hz hT2 => ?_) ⟨by omega, by omega⟩ _ rfl ⟨by omega, by omega⟩ (fun _ _ => rfl) (fun _ _ => rfl) (fun y y0 y1 => absurd y1 (by omega)) hT
  have hf := zMf_s hs hlo
  exact zm_ra2 hK (μ0 := μ) hsh hcu hb205 hb223 hbd _ rfl ⟨by omega, by omega⟩ ⟨hf, zMx_f hx hf, fun _ => 0, ⟨rfl, fun t ht => absurd ht (by omega)⟩, zMs_of h (fun y _ => by rw [hs 205 (by decide)]), fun a b a0 a1 b0 b1 => hz _ (by omega) (by omega)⟩ hT2
end ZHW
