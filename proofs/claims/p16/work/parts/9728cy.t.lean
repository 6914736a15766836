/-! F: CHEAPLY, the reference: whom a shop gets; walks printed by program (wip/p30/pmgen.py) and filled by hand -/
section ZHW
variable {φ : Option pm_Mem}
variable {D : va_G} {Wm : Nat} {ST : List (String × String × String × Nat)} {b0 : sx_B} {l : Launch} {Sg : Nat → Option Nat} {bud : sx_Bu} {μ : pm_Mem} {B0 : Nat → Prop} {J : (Nat → Option Nat) → Heap → Prop}
set_option maxRecDepth 100000 in
theorem cr_wg2 (hK : zKK ST) {X : Nat → List pm_V → List pm_V → pm_Mem → Prop} {μ0 : pm_Mem} {sh al le w t v s : Int} {cs : Nat} (hw : 0 ≤ w ∧ w ≤ 255) (ht : 0 ≤ t ∧ t ≤ 262143) (hv : 0 ≤ v ∧ v < 100000000) (hs : 0 ≤ s ∧ s ≤ 7) (h18 : (μ0 205 7).toNat ≤ 18) (hst : cs < (μ0 205 7).toNat ∧ ztk t cs = false ∧ zcost μ0 cs s.toNat ≤ v ∧ ∀ y, zGv (zcost μ0) (zup (ztk t) cs) (μ0 205 7).toNat w.toNat y → y + zcost μ0 cs s.toNat = v) (hb227 : sx_bit Wm 227 = true) (K : ∀ (c x : Int) (μ : pm_Mem), 0 ≤ c → c ≤ (cs : Int) → ztk t c.toNat = false → zcost μ0 c.toNat s.toNat ≤ v → zGv (zcost μ0) (zup (ztk t) c.toNat) (μ0 205 7).toNat w.toNat x → x + zcost μ0 c.toNat s.toNat = v → (∀ r, r ≠ 227 → μ r = μ0 r) → zTJ φ μ → zW D Wm ST b0 l Sg zM318 bud X 117 [(2, 205), (0, sh), (0, al), (0, le), (0, w), (0, t), (0, v), (0, s), (0, c)] [] μ) (hbd : 2 ≤ bud.1 ∧ 47 ≤ bud.2.1) : ∀ (nM : Nat) {c : Int} {μ : pm_Mem}, ((cs : Int) - c).toNat = nM → ∀ (hc : 0 ≤ c ∧ c ≤ (cs : Int)) (hfr : ∀ r, r ≠ 227 → μ r = μ0 r) (hT : zTJ φ μ), zW D Wm ST b0 l Sg zM318 bud X 47 [(2, 205), (0, sh), (0, al), (0, le), (0, w), (0, t), (0, v), (0, s), (0, c)] [] μ := by
  intro nM
  induction nM using Nat.strongRecOn with
  | ind nM ih =>
    intro c μ hn hc hfr hT
    obtain ⟨s1, s2, s3, s4⟩ := hst
    have hcs : zcost μ0 c.toNat s.toNat = μ 226 (8 * c + s) := by unfold zcost; rw [hfr 226 (by decide), show 8 * ((c.toNat : Nat) : Int) + ((s.toNat : Nat) : Int) = 8 * c + s by omega]
    obtain ⟨o1, o2, o3⟩ := zor_up (t := t) (c := c) ht ⟨by omega, by omega⟩
    have he7 : μ 205 7 = μ0 205 7 := by rw [hfr 205 (by decide)]
    have hzc : zcost μ = zcost μ0 := by unfold zcost; rw [hfr 226 (by decide)]
    refine pm_blk hK zmm318 [] 3 52 [(2, 205), (0, sh), (0, al), (0, le), (0, w), (0, t), (0, v), (0, s), (0, c)] [(0, c), (0, t), (2, 205)] μ [] rfl trivial ?_
    refine pm_call hK zmm318 (417, 0, 169, 2) zM169 (0, 0) [(2, 205), (0, t), (0, c)] [] rfl rfl rfl rfl ⟨by omega, by rw [zn169]; omega⟩ (zh_has hK ⟨by omega, by omega⟩ ⟨by omega, by omega⟩ ⟨Nat.le_refl _, Nat.le_refl _⟩) (fun st1 μc1 hp1 => ?_)
    obtain ⟨rfl, rfl⟩ := hp1
    refine pm_if hK zmm318 .ne 53 108 rfl rfl (fun h0 => ?_) (fun h0 => ?_)
    · have h0 : (if t.toNat.testBit c.toNat = true then 1 else 0 : Int) ≠ (0 : Int) := h0
      have h0 := zif1 h0
      refine pm_blk hK zmm318 [] 5 47 [(2, 205), (0, sh), (0, al), (0, le), (0, w), (0, t), (0, v), (0, s), (0, c + 1)] [] μ [pm_in (c + 1)] rfl ⟨pm_in_mk (by omega) (by omega), trivial⟩ ?_
      have hne : c ≠ (cs : Int) := fun he => by
        have hcn : c.toNat = cs := by omega
        first
        | (rw [hcn] at hcs; omega)
        | (have hh := h0; rw [hcn] at hh; exact absurd hh (by unfold ztk at s2; rw [s2]; decide))
        | (rw [hcn] at hcs hz2; have := s4 _ hz2; omega)
        | (exfalso; omega)
      first
      | exact ih _ (by omega) rfl ⟨by omega, by omega⟩ hfr1 hT
      | exact ih _ (by omega) rfl ⟨by omega, by omega⟩ hfr hT
      | (exfalso; omega)
    · have h0 : (if t.toNat.testBit c.toNat = true then 1 else 0 : Int) = (0 : Int) := h0
      have h0 := zif0 h0
      have f1 := zT_get hT zs226_0 (i := (8 * c) + s) (by omega) (by omega)
      refine pm_blk hK zmm318 [] 9 73 [(2, 205), (0, sh), (0, al), (0, le), (0, w), (0, t), (0, v), (0, s), (0, c)] [(0, v), (0, μ 226 ((8 * c) + s))] μ [pm_in (8 * c), pm_in ((8 * c) + s), 0 ≤ (8 * c) + s ∧ (8 * c) + s < 144] rfl ⟨pm_in_mk (by omega) (by omega), pm_in_mk (by omega) (by omega), ⟨by omega, by omega⟩, trivial⟩ ?_
      refine pm_icmp hK zmm318 .gt 35 108 rfl rfl (fun h1 => ?_) (fun h1 => ?_)
      · have h1 : v < μ 226 ((8 * c) + s) := h1
        refine pm_blk hK zmm318 [] 5 47 [(2, 205), (0, sh), (0, al), (0, le), (0, w), (0, t), (0, v), (0, s), (0, c + 1)] [] μ [pm_in (c + 1)] rfl ⟨pm_in_mk (by omega) (by omega), trivial⟩ ?_
        have hne : c ≠ (cs : Int) := fun he => by
          have hcn : c.toNat = cs := by omega
          first
          | (rw [hcn] at hcs; omega)
          | (have hh := h1; rw [hcn] at hh; exact absurd hh (by unfold ztk at s2; rw [s2]; decide))
          | (rw [hcn] at hcs hz2; have := s4 _ hz2; omega)
          | (exfalso; omega)
        first
        | exact ih _ (by omega) rfl ⟨by omega, by omega⟩ hfr1 hT
        | exact ih _ (by omega) rfl ⟨by omega, by omega⟩ hfr hT
        | (exfalso; omega)
      · have h1 : μ 226 ((8 * c) + s) ≤ v := h1
        refine pm_blk hK zmm318 [] 7 86 [(2, 205), (0, sh), (0, al), (0, le), (0, w), (0, t), (0, v), (0, s), (0, c)] [(0, pm_or t (pm_shl 1 c)), (0, w), (2, 205)] μ [] rfl trivial ?_
        refine pm_call hK zmm318 (421, 0, 168, 2) zM168 (1, 22) [(2, 205), (0, w), (0, pm_or t (pm_shl 1 c))] [] rfl rfl rfl rfl ⟨by omega, by rw [zn168]; omega⟩ (zh_cheapest hK (w := w) (t := (pm_or t (pm_shl 1 c))) ⟨by omega, by omega⟩ ⟨by omega, by omega⟩ hT hb227 ⟨Nat.le_refl _, Nat.le_refl _⟩) (fun st2 μc2 hp2 => ?_)
        obtain ⟨x2, rfl, hx2, hy2, hz2, hfc2, hTc2⟩ := hp2
        rw [o3, he7, hzc] at hz2
        have hfr1 : ∀ r, r ≠ 227 → μc2 r = μ0 r := fun r hr => by rw [hfc2 r hr]; exact hfr r hr
        have g226 : μc2 226 (8 * c + s) = μ 226 (8 * c + s) := by rw [hfc2 226 (by decide)]
        have f2 := zT_get hTc2 zs226_0 (i := (8 * c) + s) (by omega) (by omega)
        refine pm_blk hK zmm318 [] 10 105 [(2, 205), (0, sh), (0, al), (0, le), (0, w), (0, t), (0, v), (0, s), (0, c)] [(0, v), (0, x2 + (μc2 226 ((8 * c) + s)))] μc2 [pm_in (8 * c), pm_in ((8 * c) + s), 0 ≤ (8 * c) + s ∧ (8 * c) + s < 144, pm_in (x2 + (μc2 226 ((8 * c) + s)))] rfl ⟨pm_in_mk (by omega) (by omega), pm_in_mk (by omega) (by omega), ⟨by omega, by omega⟩, pm_in_mk (by omega) (by omega), trivial⟩ ?_
        refine pm_icmp hK zmm318 .eq 12 117 rfl rfl (fun h2 => ?_) (fun h2 => ?_)
        · have h2 : x2 + (μc2 226 ((8 * c) + s)) = v := h2
          exact K c x2 _ (by omega) (by omega) (Bool.eq_false_iff.mpr h0) (by omega) hz2 (by omega) hfr1 hTc2
        · have h2 : x2 + (μc2 226 ((8 * c) + s)) ≠ v := h2
          refine pm_blk hK zmm318 [] 5 47 [(2, 205), (0, sh), (0, al), (0, le), (0, w), (0, t), (0, v), (0, s), (0, c + 1)] [] μc2 [pm_in (c + 1)] rfl ⟨pm_in_mk (by omega) (by omega), trivial⟩ ?_
          have hne : c ≠ (cs : Int) := fun he => by
            have hcn : c.toNat = cs := by omega
            first
            | (rw [hcn] at hcs; omega)
            | (have hh := h2; rw [hcn] at hh; exact absurd hh (by unfold ztk at s2; rw [s2]; decide))
            | (rw [hcn] at hcs hz2; have := s4 _ hz2; omega)
            | (exfalso; omega)
          first
          | exact ih _ (by omega) rfl ⟨by omega, by omega⟩ hfr1 hTc2
          | exact ih _ (by omega) rfl ⟨by omega, by omega⟩ hfr hTc2
          | (exfalso; omega)
set_option maxRecDepth 100000 in
theorem cr_wg1 (hK : zKK ST)  {μ0 : pm_Mem} {sh al le : Int} {kk : Nat → Nat → Int} {ok : Nat → Nat → Bool} {W : Nat} {A : Nat → Nat} (hk : ∀ c s, 0 ≤ kk c s ∧ kk c s ≤ 999) (hct : ch_ct kk ok (μ0 205 7).toNat W (zcost μ0)) (hW : W < 256) (h18 : (μ0 205 7).toNat ≤ 18) (hA : ch_V ok A W (μ0 205 7).toNat) (hM : ch_D 1000000000000000 (ch_w1 kk ok) (μ0 205 7).toNat W = ch_sum (ch_k kk A) W 8 * 11019960576 + ch_dg A W) (hsh : 0 ≤ sh ∧ sh ≤ 7) (hshb : W.testBit sh.toNat = true) (hb227 : sx_bit Wm 227 = true) (hbd : 2 ≤ bud.1 ∧ 47 ≤ bud.2.1) : ∀ (nM : Nat) {w t v s : Int} {μ : pm_Mem}, (8 - s).toNat = nM → ∀ (hw : 0 ≤ w ∧ w ≤ 255) (ht : 0 ≤ t ∧ t ≤ 262143) (hs : 0 ≤ s ∧ s ≤ sh) (hle : ch_le W s.toNat w.toNat) (hta : ch_ta W A s.toNat (ztk t)) (hv : v = ch_sum (ch_k kk A) w.toNat 8) (hfr : ∀ r, r ≠ 227 → μ r = μ0 r) (hT : zTJ φ μ), zW D Wm ST b0 l Sg zM318 bud (pm_X zM318 (fun st' μ' => st' = [(0, ((A sh.toNat : Nat) : Int))] ∧ zTJ φ μ' ∧ ∀ r, r ≠ 227 → μ' r = μ0 r)) 12 [(2, 205), (0, sh), (0, al), (0, le), (0, w), (0, t), (0, v), (0, s), (9, 0)] [] μ := by
  intro nM
  induction nM using Nat.strongRecOn with
  | ind nM ih =>
    intro w t v s μ hn hw ht hs hle hta hv hfr hT
    have hww : ((w.toNat : Nat) : Int) = w := by omega
    have hss : ((s.toNat : Nat) : Int) = s := by omega
    have e1 : (s + 1).toNat = s.toNat + 1 := by omega
    have hkb := ch_kb hk (A := A) (S := w.toNat) (n := 8) (Nat.le_refl _)
    refine pm_blk hK zmm318 [] 2 16 [(2, 205), (0, sh), (0, al), (0, le), (0, w), (0, t), (0, v), (0, s), (9, 0)] [(0, 8), (0, s)] μ [] rfl trivial ?_
    refine pm_icmp hK zmm318 .ge 143 159 rfl rfl (fun h0 => ?_) (fun h0 => ?_)
    · have h0 : (8 : Int) ≤ s := h0
      refine pm_blk hK zmm318 [] 1 160 [(2, 205), (0, sh), (0, al), (0, le), (0, w), (0, t), (0, v), (0, s), (9, 0)] [(0, (-1))] μ [] rfl trivial ?_
      exfalso
      omega
    · have h0 : s < (8 : Int) := h0
      refine pm_blk hK zmm318 [] 3 24 [(2, 205), (0, sh), (0, al), (0, le), (0, w), (0, t), (0, v), (0, s), (9, 0)] [(0, s), (0, w), (2, 205)] μ [] rfl trivial ?_
      refine pm_call hK zmm318 (417, 0, 169, 2) zM169 (0, 0) [(2, 205), (0, w), (0, s)] [] rfl rfl rfl rfl ⟨by omega, by rw [zn169]; omega⟩ (zh_has hK ⟨by omega, by omega⟩ ⟨by omega, by omega⟩ ⟨Nat.le_refl _, Nat.le_refl _⟩) (fun st1 μc1 hp1 => ?_)
      obtain ⟨rfl, rfl⟩ := hp1
      refine pm_if hK zmm318 .ne 6 33 rfl rfl (fun h1 => ?_) (fun h1 => ?_)
      · have h1 : (if w.toNat.testBit s.toNat = true then 1 else 0 : Int) ≠ (0 : Int) := h1
        have h1 := zif1 h1
        have hbit := h1
        have hWb : W.testBit s.toNat = true := ((hle.2 s.toNat).mp hbit).1
        have hx2 := zhas8 w.toNat (by omega) s.toNat (by omega)
        rw [hww, hss] at hx2
        have hzl := zcl_le w.toNat s.toNat
        obtain ⟨y1, y2, y3, y4, y5⟩ := ch_yes hk hct hW h18 hA hM hle hta hv hWb
        have hAm := hA.1.1 _ hWb
        refine pm_blk hK zmm318 [] 10 47 [(2, 205), (0, sh), (0, al), (0, le), (0, pm_and w (pm_xor (pm_shl 1 s) ((-1)))), (0, t), (0, v), (0, s), (0, 0)] [] μ [] rfl trivial ?_
        have hw2 : (pm_and w (pm_xor (pm_shl 1 s) (-1))).toNat = zcl w.toNat s.toNat := by rw [hx2]; rfl
        refine cr_wg2 hK (μ0 := μ0) (cs := A s.toNat) (by rw [hx2]; exact ⟨by omega, by omega⟩) ht ⟨by omega, by omega⟩ ⟨by omega, by omega⟩ h18 (by rw [hw2]; exact ⟨hAm, y1, by rw [y2]; exact y3, fun y hy => by rw [y2]; exact y5 y hy⟩) hb227 (fun c x μ2 c0 c1 c2 c3 hgx hxe hfr2 hT2 => ?_) hbd _ rfl ⟨by omega, by omega⟩ hfr hT
        rw [hw2] at hgx
        have hno := ch_no hk hct hW h18 hA hM hle hta hv hWb (c := c.toNat) (by omega) c2 c3 hgx hxe
        have ecA : c.toNat = A s.toNat := by omega
        obtain ⟨o1, o2, o3⟩ := zor_up (t := t) (c := c) ht ⟨by omega, by omega⟩
        have hcv : μ2 226 (8 * c + s) = kk (A s.toNat) s.toNat := by
          rw [← y2, ← ecA, hfr2 226 (by decide)]
          unfold zcost
          rw [show 8 * ((c.toNat : Nat) : Int) + ((s.toNat : Nat) : Int) = 8 * c + s by omega]
        refine pm_blk hK zmm318 [] 2 120 [(2, 205), (0, sh), (0, al), (0, le), (0, pm_and w (pm_xor (pm_shl 1 s) (-1))), (0, t), (0, v), (0, s), (0, c)] [(0, sh), (0, s)] μ2 [] rfl trivial ?_
        refine pm_icmp hK zmm318 .ne 6 126 rfl rfl (fun hy0 => ?_) (fun hy0 => ?_)
        · have hy0 : s ≠ sh := hy0
          have f1 := zT_get hT2 zs226_0 (i := (8 * c) + s) (by omega) (by omega)
          refine pm_blk hK zmm318 [] 19 12 [(2, 205), (0, sh), (0, al), (0, le), (0, pm_and w (pm_xor (pm_shl 1 s) (-1))), (0, pm_or t (pm_shl 1 c)), (0, v - (μ2 226 ((8 * c) + s))), (0, s + 1), (0, c)] [] μ2 [pm_in (8 * c), pm_in ((8 * c) + s), 0 ≤ (8 * c) + s ∧ (8 * c) + s < 144, pm_in (v - (μ2 226 ((8 * c) + s))), pm_in (s + 1)] rfl ⟨pm_in_mk (by omega) (by omega), pm_in_mk (by omega) (by omega), ⟨by omega, by omega⟩, pm_in_mk (by omega) (by omega), pm_in_mk (by omega) (by omega), trivial⟩ ?_
          refine pm_hide [8] ?_
          have hzc9 := ch_zcl hle.1 hbit
          exact ih _ (by omega) rfl (by rw [hx2]; exact ⟨by omega, by omega⟩) ⟨by omega, by omega⟩ ⟨by omega, by omega⟩ (by rw [e1, hw2, hzc9]; exact ch_S' hle hWb) (by rw [e1, o3, ecA]; exact ch_ta_s hta hWb) (by rw [hw2, ← y4, hcv]) hfr2 hT2
        · have hy0 : s = sh := hy0
          refine pm_blk hK zmm318 [] 1 125 [(2, 205), (0, sh), (0, al), (0, le), (0, pm_and w (pm_xor (pm_shl 1 s) (-1))), (0, t), (0, v), (0, s), (0, c)] [(0, c)] μ2 [] rfl trivial ?_
          have esh : s = sh := by omega
          exact pm_iret rfl rfl ⟨by rw [← esh, ← ecA, show ((c.toNat : Nat) : Int) = c by omega], hT2, hfr2⟩
      · have h1 : (if w.toNat.testBit s.toNat = true then 1 else 0 : Int) = (0 : Int) := h1
        have h1 := zif0 h1
        refine pm_blk hK zmm318 [] 3 12 [(2, 205), (0, sh), (0, al), (0, le), (0, w), (0, t), (0, v), (0, s + 1), (9, 0)] [] μ [pm_in (s + 1)] rfl ⟨pm_in_mk (by omega) (by omega), trivial⟩ ?_
        have hnb : ¬ W.testBit s.toNat = true := fun q9 => h1 ((hle.2 s.toNat).mpr ⟨q9, Nat.le_refl _⟩)
        have hne : s ≠ sh := fun e => hnb (by rw [e]; exact hshb)
        exact ih _ (by omega) rfl hw ht ⟨by omega, by omega⟩ (by rw [e1]; exact ch_le_n hle hnb) (by rw [e1]; exact ch_ta_n hta hnb) hv hfr hT
set_option maxRecDepth 100000 in
theorem cr_whom (hK : zKK ST) {sh w v : Int} {kk : Nat → Nat → Int} {ok : Nat → Nat → Bool} {W : Nat} {A : Nat → Nat} (hk : ∀ c s, 0 ≤ kk c s ∧ kk c s ≤ 999) (hct : ch_ct kk ok (μ 205 7).toNat W (zcost μ)) (hW : W < 256) (h18 : (μ 205 7).toNat ≤ 18) (hA : ch_V ok A W (μ 205 7).toNat) (hM : ch_D 1000000000000000 (ch_w1 kk ok) (μ 205 7).toNat W = ch_sum (ch_k kk A) W 8 * 11019960576 + ch_dg A W) (hsh : 0 ≤ sh ∧ sh ≤ 7) (hshb : W.testBit sh.toNat = true) (hb227 : sx_bit Wm 227 = true) (hwW : w = (W : Int)) (hvv : v = ch_sum (ch_k kk A) W 8) (hT : zTJ φ μ) (hbd : 2 ≤ bud.1 ∧ 47 ≤ bud.2.1) : zC D Wm ST b0 l Sg zM318 bud [(2, 205), (0, sh), (0, w), (0, v)] μ (fun st' μ' => st' = [(0, ((A sh.toNat : Nat) : Int))] ∧ zTJ φ μ' ∧ ∀ r, r ≠ 227 → μ' r = μ r) := by
  refine pm_blk hK zmm318 [] 8 12 [(2, 205), (0, sh), (0, w), (0, v), (0, w), (0, 0), (0, v), (0, 0), (9, 0)] [] μ [] rfl trivial ?_
  have e0 : w.toNat = W := by omega
  exact cr_wg1 hK (μ0 := μ) hk hct hW h18 hA hM hsh hshb hb227 hbd _ rfl ⟨by omega, by omega⟩ ⟨by omega, by omega⟩ ⟨by omega, by omega⟩ (by rw [e0]; exact ⟨hW, fun t => ⟨fun q9 => ⟨q9, Nat.zero_le _⟩, fun q9 => q9.1⟩⟩) (fun c => ⟨fun q9 => (by unfold ztk at q9; rw [show (0 : Int).toNat = 0 from rfl, Nat.zero_testBit] at q9; cases q9), fun q9 => by obtain ⟨u, u1, -⟩ := q9; exact absurd u1 (by show ¬ u < (0 : Int).toNat; rw [show (0 : Int).toNat = 0 from rfl]; omega)⟩) (by rw [e0]; exact hvv) (fun _ _ => rfl) hT
end ZHW
