/-! ROUNDS: the reference; walks printed by program (wip/p30/pmgen.py) and filled by hand -/
section ZHW
variable {φ : Option pm_Mem}
variable {D : va_G} {Wm : Nat} {ST : List (String × String × String × Nat)} {b0 : sx_B} {l : Launch} {Sg : Nat → Option Nat} {bud : sx_Bu} {μ : pm_Mem} {B0 : Nat → Prop} {J : (Nat → Option Nat) → Heap → Prop}
set_option maxRecDepth 100000 in
theorem zm_round (hK : zKK ST) {p : Int} {z : Int} {T : Int → Int} {L : Int} {K S V : Int → Int} {n j : Int} {P : Nat → Int} (hx : zMx T L K S V n P μ) (h : zMs K S V n P j μ) (hp : p = 3 * z) (hz : 16 ≤ z ∧ z < 32) (hkj : K j = 318) (hT : zTJ φ μ) (hb205 : sx_bit Wm 205 = true) (hb221 : sx_bit Wm 221 = true) (hbd : 5 ≤ bud.1 ∧ 111 ≤ bud.2.1) : zC D Wm ST b0 l Sg zM279 bud [(2, 205), (0, p)] μ (fun st' μ' => ∃ x f q, st' = [(0, x)] ∧ zTJ φ μ' ∧ zMf μ μ' ∧ (∃ g p, zPa1 K V (μ 205 6) (μ 205 7) (j + 1) g p ∧ ((g ≠ 0 ∧ f = g ∧ q = p) ∨ (g = 0 ∧ f = 1 ∧ q = p ∧ K p ≠ 59) ∨ (g = 0 ∧ f = 0 ∧ q = p + 1 ∧ K p = 59))) ∧ ((x ≠ -1 ∧ f = 0 ∧ zMs K S V n P q μ') ∨ (x = -1 ∧ f ≠ 0 ∧ zFm S f q μ')) ∧ (∀ i, i < p → μ' 221 i = μ 221 i) ∧ (x ≠ -1 → μ' 221 p = V (j + 1) ∧ μ' 221 (p + 1) = V (j + 3) ∧ μ' 221 (p + 2) = if K (j + 4) = 321 then 0 else V (j + 5) + 1))  := sorry -- AUTOSORRY
set_option maxRecDepth 100000 in
theorem zm_roundl (hK : zKK ST)  {μ0 : pm_Mem} {sh cu : Int} {T : Int → Int} {L : Int} {K S V : Int → Int} {N : Int} {P : Nat → Int} (hsh0 : μ0 205 6 = sh) (hcu0 : μ0 205 7 = cu) (hb205 : sx_bit Wm 205 = true) (hb221 : sx_bit Wm 221 = true) (hbd : 6 ≤ bud.1 ∧ 134 ≤ bud.2.1) : ∀ (n : Nat) {i : Int} {μ : pm_Mem}, (16 - i).toNat = n → ∀ (hi : 0 ≤ i ∧ i ≤ 16) (hS : zQs (zLi0 (zPa1 K V sh cu) K 318) (zcT K) T L K S V N P μ0 i μ) (hT : zTJ φ μ), zW D Wm ST b0 l Sg zM141 bud (pm_X zM141 (fun st' μ' => ∃ x, st' = [(0, x)] ∧ zTJ φ μ' ∧ zQo (zLi0 (zPa1 K V sh cu) K 318) (zcT K) K S V μ0 x μ')) 2 [(2, 205), (0, i)] [] μ := by
  intro n
  induction n using Nat.strongRecOn with
  | ind n ih =>
    intro i μ hn hi hS hT
    obtain ⟨hF, hx, J, hch, hm, hce⟩ := id hS
    have hk := zMs_k hx hm
    obtain ⟨t1, t2, t3, t4⟩ := id hm
    obtain ⟨v1, v2, v3, v4, v5⟩ := id t3
    have hsh : μ 205 6 = sh := (hF.2.1 6 (by decide) (by decide) (by decide) (by decide) (by decide) (by decide) (by decide) (by decide) (by decide)).trans hsh0
    have hcu : μ 205 7 = cu := (hF.2.1 7 (by decide) (by decide) (by decide) (by decide) (by decide) (by decide) (by decide) (by decide) (by decide)).trans hcu0
    refine pm_blk hK zmm141 [] 2 5 [(2, 205), (0, i)] [(0, 18), (2, 205)] μ [] rfl trivial ?_
    refine pm_call hK zmm141 (245, 0, 142, 1) zM142 (0, 0) [(2, 205), (0, 18)] [] rfl rfl rfl rfl ⟨by omega, by rw [zn142]; omega⟩ (zm_isWord hK (kw := 318) (j := J i.toNat) hx hm (by decide) (by decide) ⟨Nat.le_refl _, Nat.le_refl _⟩) (fun st1 μc1 hp1 => ?_)
    obtain ⟨rfl, x1, rfl, hw1⟩ := hp1
    have hw := hw1
    refine pm_if hK zmm141 .eq 38 46 rfl rfl (fun h0 => ?_) (fun h0 => ?_)
    · have h0 : x1 = (0 : Int) := h0
      have hnk : K (J i.toNat) ≠ 318 := by omega
      have f1 := zT_get hT zs205_14 (i := 14) (by omega) (by omega)
      refine pm_blk hK zmm141 [] 2 50 [(2, 205), (0, i)] [(0, μ 205 14)] μ [] rfl trivial ?_
      refine pm_if hK zmm141 .ne 7 57 rfl rfl (fun h1 => ?_) (fun h1 => ?_)
      · have h1 : μ 205 14 ≠ (0 : Int) := h1
        refine pm_blk hK zmm141 [] 2 59 [(2, 205), (0, i)] [(0, 1), (2, 205)] μ [] rfl trivial ?_
        refine pm_call hK zmm141 (216, 0, 278, 1) zM278 (0, 0) [(2, 205), (0, 1)] [] rfl rfl rfl rfl ⟨by omega, by rw [zn278]; omega⟩ (zm_errs hK (j := J i.toNat) hx hm hT ⟨by omega, by omega⟩ hb205 ⟨Nat.le_refl _, Nat.le_refl _⟩) (fun st2 μc2 hp2 => ?_)
        obtain ⟨rfl, hTc2, hF2, hf2⟩ := hp2
        have hF := zMf_tr hF (zMf_r hF2)
        have hff := hf2
        first
        | exact pm_iret rfl rfl ⟨_, rfl, hTc2, zQo_e hi hF hch (by omega) hce⟩
        | exact pm_iret rfl rfl ⟨_, rfl, hTc2, zQo_f (f := 1) (q := J i.toNat) hi.1 hF hch (by omega) (by decide) (Or.inl ⟨rfl, rfl, hnk⟩) hff⟩
        | (exfalso; omega)
      · have h1 : μ 205 14 = (0 : Int) := h1
        refine pm_blk hK zmm141 [] 2 62 [(2, 205), (0, i)] [(0, i)] μ [] rfl trivial ?_
        first
        | exact pm_iret rfl rfl ⟨_, rfl, hT, zQo_e hi hF hch (by omega) hce⟩
        | exact pm_iret rfl rfl ⟨_, rfl, hT, zQo_f (f := 1) (q := J i.toNat) hi.1 hF hch (by omega) (by decide) (Or.inl ⟨rfl, rfl, hnk⟩) hff⟩
        | (exfalso; omega)
    · have h0 : x1 ≠ (0 : Int) := h0
      have hkw : K (J i.toNat) = 318 := by omega
      refine pm_blk hK zmm141 [] 2 14 [(2, 205), (0, i)] [(0, 16), (0, i)] μ [] rfl trivial ?_
      refine pm_icmp hK zmm141 .ne 9 23 rfl rfl (fun h2 => ?_) (fun h2 => ?_)
      · have h2 : i ≠ (16 : Int) := h2
        refine pm_blk hK zmm141 [] 6 30 [(2, 205), (0, i)] [(0, 48 + (3 * i)), (2, 205)] μ [pm_in (3 * i), pm_in (48 + (3 * i))] rfl ⟨pm_in_mk (by omega) (by omega), pm_in_mk (by omega) (by omega), trivial⟩ ?_
        refine pm_call hK zmm141 (277, 0, 279, 1) zM279 (5, 111) [(2, 205), (0, 48 + (3 * i))] [] rfl rfl rfl rfl ⟨by omega, by rw [zn279]; omega⟩ (zm_round hK (p := (48 + (3 * i))) (z := 16 + i) (j := J i.toNat) hx hm (by omega) ⟨by omega, by omega⟩ hkw hT hb205 hb221 ⟨Nat.le_refl _, Nat.le_refl _⟩) (fun st3 μc3 hp3 => ?_)
        obtain ⟨x3, ff, qq, rfl, hTc3, hF3, hLL, hQ, hAA, hDD⟩ := hp3
        rw [hsh, hcu] at hLL
        have hx := zMx_f hx hF3
        have hF := zMf_tr hF hF3
        refine pm_blk hK zmm141 [] 1 34 [(2, 205), (0, i)] [(0, (-1)), (0, x3)] μc3 [] rfl trivial ?_
        refine pm_icmp hK zmm141 .ne 5 39 rfl rfl (fun h3 => ?_) (fun h3 => ?_)
        · have h3 : x3 ≠ ((-1) : Int) := h3
          refine pm_blk hK zmm141 [] 5 2 [(2, 205), (0, i + 1)] [] μc3 [pm_in (i + 1)] rfl ⟨pm_in_mk (by omega) (by omega), trivial⟩ ?_
          rcases hQ with ⟨a1, a2, a3⟩ | ⟨a1, -⟩
          · subst a2
            exact ih _ (by omega) rfl ⟨by omega, by omega⟩ (zQs_ok hi.1 hF hx hch (Or.inr (Or.inr ⟨hkw, by omega, hLL⟩)) a3 (zcT_add (i := i) (by omega) hce hAA (hDD a1))) hTc3
          · exact absurd a1 h3
        · have h3 : x3 = ((-1) : Int) := h3
          refine pm_blk hK zmm141 [] 1 38 [(2, 205), (0, i)] [(0, (-1))] μc3 [] rfl trivial ?_
          rcases hQ with ⟨a1, -⟩ | ⟨a1, a2, a3⟩
          · exact absurd h3 a1
          · exact pm_iret rfl rfl ⟨_, rfl, hTc3, zQo_f hi.1 hF hch (by omega) a2 (Or.inr (Or.inr ⟨hkw, by omega, hLL⟩)) a3⟩
      · have h2 : i = (16 : Int) := h2
        refine pm_blk hK zmm141 [] 2 19 [(2, 205), (0, i)] [(0, 3), (2, 205)] μ [] rfl trivial ?_
        refine pm_call hK zmm141 (216, 0, 278, 1) zM278 (0, 0) [(2, 205), (0, 3)] [] rfl rfl rfl rfl ⟨by omega, by rw [zn278]; omega⟩ (zm_errs hK (j := J i.toNat) hx hm hT ⟨by omega, by omega⟩ hb205 ⟨Nat.le_refl _, Nat.le_refl _⟩) (fun st4 μc4 hp4 => ?_)
        obtain ⟨rfl, hTc4, hF4, hf4⟩ := hp4
        have hF := zMf_tr hF (zMf_r hF4)
        have hff := hf4
        exact pm_iret rfl rfl ⟨_, rfl, hTc4, zQo_f (f := 3) (q := J i.toNat) hi.1 hF hch (by omega) (by decide) (Or.inr (Or.inl ⟨rfl, rfl, hkw, by omega⟩)) hff⟩
set_option maxRecDepth 100000 in
theorem zm_rounds (hK : zKK ST) {sh cu : Int} {T : Int → Int} {L : Int} {K S V : Int → Int} {N : Int} {P : Nat → Int} (hx : zMx T L K S V N P μ) (h : zMs K S V N P 0 μ) (hsh : μ 205 6 = sh) (hcu : μ 205 7 = cu) (hT : zTJ φ μ) (hb205 : sx_bit Wm 205 = true) (hb221 : sx_bit Wm 221 = true) (hbd : 6 ≤ bud.1 ∧ 134 ≤ bud.2.1) : zC D Wm ST b0 l Sg zM141 bud [(2, 205)] μ (fun st' μ' => ∃ x, st' = [(0, x)] ∧ zTJ φ μ' ∧ zQo (zLi0 (zPa1 K V sh cu) K 318) (zcT K) K S V μ x μ') := by
  refine pm_blk hK zmm141 [] 2 2 [(2, 205), (0, 0)] [] μ [] rfl trivial ?_
  exact zm_roundl hK (μ0 := μ) hsh hcu hb205 hb221 hbd _ rfl ⟨by omega, by omega⟩ ⟨zMf_refl, hx, fun _ => 0, ⟨rfl, fun t ht => absurd ht (by omega)⟩, h, fun s hs => absurd hs (by omega)⟩ hT
end ZHW
