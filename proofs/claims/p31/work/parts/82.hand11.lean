/-! whom a shop gets; walks printed by program (wip/p30/pmgen.py) and filled by hand -/
section ZHW
variable {D : va_G} {Wm : Nat} {ST : List (String × String × String × Nat)} {b0 : sx_B} {l : Launch} {Sg : Nat → Option Nat} {bud : sx_Bu} {μ : pm_Mem} {B0 : Nat → Prop} {J : (Nat → Option Nat) → Heap → Prop}
set_option maxRecDepth 100000 in
theorem zl_wg2 (hK : zKK ST) {X : Nat → List pm_V → List pm_V → pm_Mem → Prop} {μ0 : pm_Mem} {sh al le w t v s : Int} {cs : Nat} (hw : 0 ≤ w ∧ w ≤ 255) (ht : 0 ≤ t ∧ t ≤ 262143) (hv : 0 ≤ v ∧ v < 100000000) (hs : 0 ≤ s ∧ s ≤ 7) (h18 : (μ0 205 7).toNat ≤ 18) (hst : cs < (μ0 205 7).toNat ∧ ztk t cs = false ∧ zcost μ0 cs s.toNat ≤ v ∧ ∀ y, zGv (zcost μ0) (zup (ztk t) cs) (μ0 205 7).toNat w.toNat y → y + zcost μ0 cs s.toNat = v) (hb227 : sx_bit Wm 227 = true) (K : ∀ (c x : Int) (μ : pm_Mem), 0 ≤ c → c < 18 → c.toNat < (μ0 205 7).toNat → 0 ≤ x → zGv (zcost μ0) (zup (ztk t) c.toNat) (μ0 205 7).toNat w.toNat x → x + μ 226 (8 * c + s) = v → (∀ r, r ≠ 227 → μ r = μ0 r) → zTJ μ → zW D Wm ST b0 l Sg zM318 bud X 117 [(2, 205), (0, sh), (0, al), (0, le), (0, w), (0, t), (0, v), (0, s), (0, c)] [] μ) (hbd : 2 ≤ bud.1 ∧ 47 ≤ bud.2.1) : ∀ (n : Nat) {c : Int} {μ : pm_Mem}, ((cs : Int) - c).toNat = n → ∀ (hc : 0 ≤ c ∧ c ≤ (cs : Int)) (hfr : ∀ r, r ≠ 227 → μ r = μ0 r) (hT : zTJ μ), zW D Wm ST b0 l Sg zM318 bud X 47 [(2, 205), (0, sh), (0, al), (0, le), (0, w), (0, t), (0, v), (0, s), (0, c)] [] μ := by
  intro n
  induction n using Nat.strongRecOn with
  | ind n ih =>
    intro c μ hn hc hfr hT
    obtain ⟨s1, s2, s3, s4⟩ := hst
    have hcs : zcost μ0 c.toNat s.toNat = μ 226 (8 * c + s) := by unfold zcost; rw [hfr 226 (by decide), show 8 * ((c.toNat : Nat) : Int) + ((s.toNat : Nat) : Int) = 8 * c + s by omega]
    obtain ⟨o1, o2, o3⟩ := zor_up (t := t) (c := c) ht ⟨by omega, by omega⟩
    have he7 : μ 205 7 = μ0 205 7 := by rw [hfr 205 (by decide)]
    have hzc : zcost μ = zcost μ0 := by unfold zcost; rw [hfr 226 (by decide)]
    refine pm_blk hK zmm318 [] 3 52 [(2, 205), (0, sh), (0, al), (0, le), (0, w), (0, t), (0, v), (0, s), (0, c)] [(0, c), (0, t), (2, 205)] μ [] rfl trivial ?_
    refine pm_call hK zmm318 (417, 0, 169, 2) zM169 (0, 0) [(2, 205), (0, t), (0, c)] [] rfl rfl rfl rfl ⟨by omega, by rw [zn169]; omega⟩ (zh_has hK ⟨by omega, by omega⟩ ⟨by omega, by omega⟩ ⟨Nat.le_refl _, Nat.le_refl _⟩) (fun st1 μc1 hp1 => ?_)
    obtain ⟨rfl, rfl⟩ := hp1
    refine pm_if hK zmm318 .ne 53 108 rfl rfl (fun h0 => ?_) (fun h0 => ?_)
    · have h0 : (if t.toNat.testBit c.toNat = true then 1 else 0 : Int) ≠ (0 : Int) := h0
      have h0 := zif1 h0
      refine pm_blk hK zmm318 [] 5 47 [(2, 205), (0, sh), (0, al), (0, le), (0, w), (0, t), (0, v), (0, s), (0, c + 1)] [] μ [pm_in (c + 1)] rfl ⟨pm_in_mk (by omega) (by omega), trivial⟩ ?_
      have hne : c ≠ (cs : Int) := fun he => by
        have hcn : c.toNat = cs := by omega
        first
        | (rw [hcn] at hcs; omega)
        | (have hh := h0; rw [hcn] at hh; exact absurd hh (by unfold ztk at s2; rw [s2]; decide))
        | (rw [hcn] at hcs hz2; have := s4 _ hz2; omega)
      first
      | exact ih _ (by omega) rfl ⟨by omega, by omega⟩ hfr1 hT
      | exact ih _ (by omega) rfl ⟨by omega, by omega⟩ hfr hT
    · have h0 : (if t.toNat.testBit c.toNat = true then 1 else 0 : Int) = (0 : Int) := h0
      have h0 := zif0 h0
      have f1 := zT_get hT zs226_0 (i := (8 * c) + s) (by omega) (by omega)
      refine pm_blk hK zmm318 [] 9 73 [(2, 205), (0, sh), (0, al), (0, le), (0, w), (0, t), (0, v), (0, s), (0, c)] [(0, v), (0, μ 226 ((8 * c) + s))] μ [pm_in (8 * c), pm_in ((8 * c) + s), 0 ≤ (8 * c) + s ∧ (8 * c) + s < 144] rfl ⟨pm_in_mk (by omega) (by omega), pm_in_mk (by omega) (by omega), ⟨by omega, by omega⟩, trivial⟩ ?_
      refine pm_icmp hK zmm318 .gt 35 108 rfl rfl (fun h1 => ?_) (fun h1 => ?_)
      · have h1 : v < μ 226 ((8 * c) + s) := h1
        refine pm_blk hK zmm318 [] 5 47 [(2, 205), (0, sh), (0, al), (0, le), (0, w), (0, t), (0, v), (0, s), (0, c + 1)] [] μ [pm_in (c + 1)] rfl ⟨pm_in_mk (by omega) (by omega), trivial⟩ ?_
        have hne : c ≠ (cs : Int) := fun he => by
          have hcn : c.toNat = cs := by omega
          first
          | (rw [hcn] at hcs; omega)
          | (have hh := h1; rw [hcn] at hh; exact absurd hh (by unfold ztk at s2; rw [s2]; decide))
          | (rw [hcn] at hcs hz2; have := s4 _ hz2; omega)
        first
        | exact ih _ (by omega) rfl ⟨by omega, by omega⟩ hfr1 hT
        | exact ih _ (by omega) rfl ⟨by omega, by omega⟩ hfr hT
      · have h1 : μ 226 ((8 * c) + s) ≤ v := h1
        refine pm_blk hK zmm318 [] 7 86 [(2, 205), (0, sh), (0, al), (0, le), (0, w), (0, t), (0, v), (0, s), (0, c)] [(0, pm_or t (pm_shl 1 c)), (0, w), (2, 205)] μ [] rfl trivial ?_
        refine pm_call hK zmm318 (421, 0, 168, 2) zM168 (1, 22) [(2, 205), (0, w), (0, pm_or t (pm_shl 1 c))] [] rfl rfl rfl rfl ⟨by omega, by rw [zn168]; omega⟩ (zh_cheapest hK (w := w) (t := (pm_or t (pm_shl 1 c))) ⟨by omega, by omega⟩ ⟨by omega, by omega⟩ hT hb227 ⟨Nat.le_refl _, Nat.le_refl _⟩) (fun st2 μc2 hp2 => ?_)
        obtain ⟨x2, rfl, hx2, hy2, hz2, hfc2, hTc2⟩ := hp2
        rw [o3, he7, hzc] at hz2
        have hfr1 : ∀ r, r ≠ 227 → μc2 r = μ0 r := fun r hr => by rw [hfc2 r hr]; exact hfr r hr
        have g226 : μc2 226 (8 * c + s) = μ 226 (8 * c + s) := by rw [hfc2 226 (by decide)]
        have f2 := zT_get hTc2 zs226_0 (i := (8 * c) + s) (by omega) (by omega)
        refine pm_blk hK zmm318 [] 10 105 [(2, 205), (0, sh), (0, al), (0, le), (0, w), (0, t), (0, v), (0, s), (0, c)] [(0, v), (0, x2 + (μc2 226 ((8 * c) + s)))] μc2 [pm_in (8 * c), pm_in ((8 * c) + s), 0 ≤ (8 * c) + s ∧ (8 * c) + s < 144, pm_in (x2 + (μc2 226 ((8 * c) + s)))] rfl ⟨pm_in_mk (by omega) (by omega), pm_in_mk (by omega) (by omega), ⟨by omega, by omega⟩, pm_in_mk (by omega) (by omega), trivial⟩ ?_
        refine pm_icmp hK zmm318 .eq 12 117 rfl rfl (fun h2 => ?_) (fun h2 => ?_)
        · have h2 : x2 + (μc2 226 ((8 * c) + s)) = v := h2
          exact K c x2 _ (by omega) (by omega) (by omega) (by omega) hz2 (by omega) hfr1 hTc2
        · have h2 : x2 + (μc2 226 ((8 * c) + s)) ≠ v := h2
          refine pm_blk hK zmm318 [] 5 47 [(2, 205), (0, sh), (0, al), (0, le), (0, w), (0, t), (0, v), (0, s), (0, c + 1)] [] μc2 [pm_in (c + 1)] rfl ⟨pm_in_mk (by omega) (by omega), trivial⟩ ?_
          have hne : c ≠ (cs : Int) := fun he => by
            have hcn : c.toNat = cs := by omega
            first
            | (rw [hcn] at hcs; omega)
            | (have hh := h2; rw [hcn] at hh; exact absurd hh (by unfold ztk at s2; rw [s2]; decide))
            | (rw [hcn] at hcs hz2; have := s4 _ hz2; omega)
          first
          | exact ih _ (by omega) rfl ⟨by omega, by omega⟩ hfr1 hTc2
          | exact ih _ (by omega) rfl ⟨by omega, by omega⟩ hfr hTc2
set_option maxRecDepth 100000 in
theorem zl_wg1 (hK : zKK ST)  {μ0 : pm_Mem} {sh al le : Int} (h18 : (μ0 205 7).toNat ≤ 18) (hc0 : ∀ c, c < 18 → ∀ s, s < 8 → 0 ≤ zcost μ0 c s) (hb227 : sx_bit Wm 227 = true) (hbd : 2 ≤ bud.1 ∧ 47 ≤ bud.2.1) : ∀ (n : Nat) {w t v s : Int} {μ : pm_Mem}, (8 - s).toNat = n → ∀ (hw : 0 ≤ w ∧ w ≤ 255) (ht : 0 ≤ t ∧ t ≤ 262143) (hv : 0 ≤ v ∧ v < 100000000) (hs : 0 ≤ s ∧ s ≤ 8) (hg : zGv (zcost μ0) (ztk t) (μ0 205 7).toNat w.toNat v) (hfr : ∀ r, r ≠ 227 → μ r = μ0 r) (hT : zTJ μ), zW D Wm ST b0 l Sg zM318 bud (pm_X zM318 (fun st' μ' => ∃ x, st' = [(0, x)] ∧ -1 ≤ x ∧ x ≤ 17 ∧ zTJ μ')) 12 [(2, 205), (0, sh), (0, al), (0, le), (0, w), (0, t), (0, v), (0, s), (9, 0)] [] μ := by
  intro n
  induction n using Nat.strongRecOn with
  | ind n ih =>
    intro w t v s μ hn hw ht hv hs hg hfr hT
    have hww : ((w.toNat : Nat) : Int) = w := by omega
    have hss : ((s.toNat : Nat) : Int) = s := by omega
    refine pm_blk hK zmm318 [] 2 16 [(2, 205), (0, sh), (0, al), (0, le), (0, w), (0, t), (0, v), (0, s), (9, 0)] [(0, 8), (0, s)] μ [] rfl trivial ?_
    refine pm_icmp hK zmm318 .ge 143 159 rfl rfl (fun h0 => ?_) (fun h0 => ?_)
    · have h0 : (8 : Int) ≤ s := h0
      refine pm_blk hK zmm318 [] 1 160 [(2, 205), (0, sh), (0, al), (0, le), (0, w), (0, t), (0, v), (0, s), (9, 0)] [(0, (-1))] μ [] rfl trivial ?_
      exact pm_iret rfl rfl ⟨_, rfl, by omega, by omega, hT⟩
    · have h0 : s < (8 : Int) := h0
      refine pm_blk hK zmm318 [] 3 24 [(2, 205), (0, sh), (0, al), (0, le), (0, w), (0, t), (0, v), (0, s), (9, 0)] [(0, s), (0, w), (2, 205)] μ [] rfl trivial ?_
      refine pm_call hK zmm318 (417, 0, 169, 2) zM169 (0, 0) [(2, 205), (0, w), (0, s)] [] rfl rfl rfl rfl ⟨by omega, by rw [zn169]; omega⟩ (zh_has hK ⟨by omega, by omega⟩ ⟨by omega, by omega⟩ ⟨Nat.le_refl _, Nat.le_refl _⟩) (fun st1 μc1 hp1 => ?_)
      obtain ⟨rfl, rfl⟩ := hp1
      refine pm_if hK zmm318 .ne 6 33 rfl rfl (fun h1 => ?_) (fun h1 => ?_)
      · have h1 : (if w.toNat.testBit s.toNat = true then 1 else 0 : Int) ≠ (0 : Int) := h1
        have h1 := zif1 h1
        have hbit := h1
        have hx2 := zhas8 w.toNat (by omega) s.toNat (by omega)
        rw [hww, hss] at hx2
        have hle := zcl_le w.toNat s.toNat
        obtain ⟨cs, s1, s2, s3, s4⟩ := zGv_who (s := s.toNat) (by omega) hg (by omega) hbit (fun c hc => hc0 c (by omega))
        refine pm_blk hK zmm318 [] 10 47 [(2, 205), (0, sh), (0, al), (0, le), (0, pm_and w (pm_xor (pm_shl 1 s) ((-1)))), (0, t), (0, v), (0, s), (0, 0)] [] μ [] rfl trivial ?_
        have hw2 : (pm_and w (pm_xor (pm_shl 1 s) (-1))).toNat = zcl w.toNat s.toNat := by rw [hx2]; rfl
        refine zl_wg2 hK (μ0 := μ0) (cs := cs) (by rw [hx2]; exact ⟨by omega, by omega⟩) ht hv ⟨by omega, by omega⟩ h18 (by rw [hw2]; exact ⟨s1, s2, s3, s4⟩) hb227 (fun c x μ2 c0 c1 c2 x0 hgx hxe hfr2 hT2 => ?_) hbd _ rfl ⟨by omega, by omega⟩ hfr hT
        rw [hw2] at hgx
        obtain ⟨o1, o2, o3⟩ := zor_up (t := t) (c := c) ht ⟨by omega, by omega⟩
        refine pm_blk hK zmm318 [] 2 120 [(2, 205), (0, sh), (0, al), (0, le), (0, pm_and w (pm_xor (pm_shl 1 s) (-1))), (0, t), (0, v), (0, s), (0, c)] [(0, sh), (0, s)] μ2 [] rfl trivial ?_
        refine pm_icmp hK zmm318 .ne 6 126 rfl rfl (fun hy0 => ?_) (fun hy0 => ?_)
        · have hy0 : s ≠ sh := hy0
          have f1 := zT_get hT2 zs226_0 (i := (8 * c) + s) (by omega) (by omega)
          refine pm_blk hK zmm318 [] 19 12 [(2, 205), (0, sh), (0, al), (0, le), (0, pm_and w (pm_xor (pm_shl 1 s) (-1))), (0, pm_or t (pm_shl 1 c)), (0, v - (μ2 226 ((8 * c) + s))), (0, s + 1), (0, c)] [] μ2 [pm_in (8 * c), pm_in ((8 * c) + s), 0 ≤ (8 * c) + s ∧ (8 * c) + s < 144, pm_in (v - (μ2 226 ((8 * c) + s))), pm_in (s + 1)] rfl ⟨pm_in_mk (by omega) (by omega), pm_in_mk (by omega) (by omega), ⟨by omega, by omega⟩, pm_in_mk (by omega) (by omega), pm_in_mk (by omega) (by omega), trivial⟩ ?_
          refine pm_hide [8] ?_
          exact ih _ (by omega) rfl (by rw [hx2]; exact ⟨by omega, by omega⟩) ⟨by omega, by omega⟩ ⟨by omega, by omega⟩ ⟨by omega, by omega⟩ (by rw [hw2, o3, show v - μ2 226 (8 * c + s) = x by omega]; exact hgx) hfr2 hT2
        · have hy0 : s = sh := hy0
          refine pm_blk hK zmm318 [] 1 125 [(2, 205), (0, sh), (0, al), (0, le), (0, pm_and w (pm_xor (pm_shl 1 s) (-1))), (0, t), (0, v), (0, s), (0, c)] [(0, c)] μ2 [] rfl trivial ?_
          exact pm_iret rfl rfl ⟨_, rfl, by omega, by omega, hT2⟩
      · have h1 : (if w.toNat.testBit s.toNat = true then 1 else 0 : Int) = (0 : Int) := h1
        have h1 := zif0 h1
        refine pm_blk hK zmm318 [] 3 12 [(2, 205), (0, sh), (0, al), (0, le), (0, w), (0, t), (0, v), (0, s + 1), (9, 0)] [] μ [pm_in (s + 1)] rfl ⟨pm_in_mk (by omega) (by omega), trivial⟩ ?_
        exact ih _ (by omega) rfl hw ht hv ⟨by omega, by omega⟩ hg hfr hT
set_option maxRecDepth 100000 in
theorem zh_whomGets (hK : zKK ST) {sh w v : Int} (hw : 0 ≤ w ∧ w ≤ 255) (hv : 0 ≤ v ∧ v < 100000000) (hg : zGv (zcost μ) (ztk 0) (μ 205 7).toNat w.toNat v) (hT : zTJ μ) (hb227 : sx_bit Wm 227 = true) (hbd : 2 ≤ bud.1 ∧ 47 ≤ bud.2.1) : zC D Wm ST b0 l Sg zM318 bud [(2, 205), (0, sh), (0, w), (0, v)] μ (fun st' μ' => ∃ x, st' = [(0, x)] ∧ -1 ≤ x ∧ x ≤ 17 ∧ zTJ μ') := by
  have f7 := zT_get hT zs205_7 (i := 7) (by omega) (by omega)
  refine pm_blk hK zmm318 [] 8 12 [(2, 205), (0, sh), (0, w), (0, v), (0, w), (0, 0), (0, v), (0, 0), (9, 0)] [] μ [] rfl trivial ?_
  refine zl_wg1 hK (μ0 := μ) (by omega) (fun c hc s hs => ?_) hb227 hbd _ rfl hw ⟨by omega, by omega⟩ hv ⟨by omega, by omega⟩ hg (fun r _ => rfl) hT
  have := zT_get hT zs226_0 (i := 8 * (c : Int) + (s : Int)) (by omega) (by omega)
  exact this.1
end ZHW
