/-! tokens: laid down; walks printed by program (wip/p30/pmgen.py) and filled by hand -/
section ZHW
variable {φ : Option pm_Mem}
variable {D : va_G} {Wm : Nat} {ST : List (String × String × String × Nat)} {b0 : sx_B} {l : Launch} {Sg : Nat → Option Nat} {bud : sx_Bu} {μ : pm_Mem} {B0 : Nat → Prop} {J : (Nat → Option Nat) → Heap → Prop}
set_option maxRecDepth 100000 in
theorem zt_add (hK : zKK ST) {k s v : Int} (hT : zTJ φ μ) (ht : 0 ≤ μ 88 7 ∧ μ 88 7 ≤ 400) (hk : 0 ≤ k ∧ k ≤ 327) (hs : 0 ≤ s ∧ s ≤ 400) (hv : 0 ≤ v ∧ v ≤ 9999) (hb88 : sx_bit Wm 88 = true) (hb90 : sx_bit Wm 90 = true) (hb91 : sx_bit Wm 91 = true) (hb92 : sx_bit Wm 92 = true) (hbd : 1 ≤ bud.1 ∧ 22 ≤ bud.2.1) : zC D Wm ST b0 l Sg zM52 bud [(2, 88), (0, k), (0, s), (0, v)] μ (fun st' μ' => st' = [] ∧ zTJ φ μ' ∧ μ' = zAdd μ k s v) := by
  have f1 := zT_get hT zs88_7 (i := 7) (by omega) (by omega)
  refine pm_blk hK zmm52 [] 8 12 [(2, 88), (0, k), (0, s), (0, v)] [(0, 401 - 1), (0, 0), (0, μ 88 7)] μ [pm_in (401 - 1)] rfl ⟨pm_in_mk (by omega) (by omega), trivial⟩ ?_
  refine pm_call hK zmm52 (53, 1, 16, 3) zM16 (0, 0) [(0, μ 88 7), (0, 0), (0, 401 - 1)] [] rfl rfl rfl rfl ⟨by omega, by rw [zn16]; omega⟩ (zh_within hK ⟨Nat.le_refl _, Nat.le_refl _⟩) (fun st1 μc1 hp1 => ?_)
  obtain ⟨rfl, rfl⟩ := hp1
  refine pm_if hK zmm52 .eq 43 58 rfl rfl (fun h0 => ?_) (fun h0 => ?_)
  · have h0 : (if 0 ≤ (μ 88 7) ∧ (μ 88 7) ≤ (401 - 1) then 1 else 0 : Int) = (0 : Int) := h0
    have h0 := zif0 h0
    omega
  · have h0 : (if 0 ≤ (μ 88 7) ∧ (μ 88 7) ≤ (401 - 1) then 1 else 0 : Int) ≠ (0 : Int) := h0
    have h0 := zif1 h0
    refine pm_blk hK zmm52 [] 6 28 [(2, 88), (0, k), (0, s), (0, v)] [] (pm_up μ 90 (μ 88 7) k) [sx_bit Wm 90 = true, 0 ≤ μ 88 7 ∧ μ 88 7 < 401] rfl ⟨hb90, ⟨by omega, by omega⟩, trivial⟩ ?_
    obtain ⟨μ1, eμ1⟩ : ∃ μ', μ' = pm_up μ 90 (μ 88 7) k := ⟨_, rfl⟩
    rw [← eμ1]
    have hTμ1 : zTJ φ μ1 := by rw [eμ1]; exact zT_up hT zs90_0 rfl (i := μ 88 7) (by omega) (by omega) (by omega) (by omega)
    have g2 : μ1 88 7 = μ 88 7 := by rw [eμ1, pm_up_off (by decide)]
    have f3 := zT_get hTμ1 zs88_7 (i := 7) (by omega) (by omega)
    refine pm_blk hK zmm52 [] 6 38 [(2, 88), (0, k), (0, s), (0, v)] [] (pm_up μ1 91 (μ1 88 7) s) [sx_bit Wm 91 = true, 0 ≤ μ1 88 7 ∧ μ1 88 7 < 401] rfl ⟨hb91, ⟨by omega, by omega⟩, trivial⟩ ?_
    obtain ⟨μ2, eμ2⟩ : ∃ μ', μ' = pm_up μ1 91 (μ1 88 7) s := ⟨_, rfl⟩
    rw [← eμ2]
    have hTμ2 : zTJ φ μ2 := by rw [eμ2]; exact zT_up hTμ1 zs91_0 rfl (i := μ1 88 7) (by omega) (by omega) (by omega) (by omega)
    have g4 : μ2 88 7 = μ 88 7 := by rw [eμ2, pm_up_off (by decide), eμ1, pm_up_off (by decide)]
    have f5 := zT_get hTμ2 zs88_7 (i := 7) (by omega) (by omega)
    refine pm_blk hK zmm52 [] 6 48 [(2, 88), (0, k), (0, s), (0, v)] [] (pm_up μ2 92 (μ2 88 7) v) [sx_bit Wm 92 = true, 0 ≤ μ2 88 7 ∧ μ2 88 7 < 401] rfl ⟨hb92, ⟨by omega, by omega⟩, trivial⟩ ?_
    obtain ⟨μ3, eμ3⟩ : ∃ μ', μ' = pm_up μ2 92 (μ2 88 7) v := ⟨_, rfl⟩
    rw [← eμ3]
    have hTμ3 : zTJ φ μ3 := by rw [eμ3]; exact zT_up hTμ2 zs92_0 rfl (i := μ2 88 7) (by omega) (by omega) (by omega) (by omega)
    have g6 : μ3 88 7 = μ 88 7 := by rw [eμ3, pm_up_off (by decide), eμ2, pm_up_off (by decide), eμ1, pm_up_off (by decide)]
    have f7 := zT_get hTμ3 zs88_7 (i := 7) (by omega) (by omega)
    refine pm_blk hK zmm52 [] 6 58 [(2, 88), (0, k), (0, s), (0, v)] [] (pm_up μ3 88 7 ((μ3 88 7) + 1)) [pm_in ((μ3 88 7) + 1), sx_bit Wm 88 = true] rfl ⟨pm_in_mk (by omega) (by omega), hb88, trivial⟩ ?_
    obtain ⟨μ4, eμ4⟩ : ∃ μ', μ' = pm_up μ3 88 7 ((μ3 88 7) + 1) := ⟨_, rfl⟩
    rw [← eμ4]
    have hTμ4 : zTJ φ μ4 := by rw [eμ4]; exact zT_up hTμ3 zs88_7 rfl (i := 7) (by omega) (by omega) (by omega) (by omega)
    exact pm_vret rfl rfl ⟨rfl, hTμ4, by unfold zAdd; rw [eμ4, g6, eμ3, g4, eμ2, g2, eμ1]⟩
set_option maxRecDepth 100000 in
theorem zt_read (hK : zKK ST) {a b : Int} {aW aS : Nat} (hTX : zSTt ST aW aS) (hT : zTJ φ μ) (hrun : zRun (μ 89) (μ 88 1) a b) (ha : 0 ≤ a) (ht : 0 ≤ μ 88 7 ∧ μ 88 7 ≤ 400) (hb88 : sx_bit Wm 88 = true) (hb90 : sx_bit Wm 90 = true) (hb91 : sx_bit Wm 91 = true) (hb92 : sx_bit Wm 92 = true) (hbd : 6 ≤ bud.1 ∧ 134 ≤ bud.2.1) : zC D Wm ST b0 l Sg zM237 bud [(2, 88), (0, a), (0, b)] μ (fun st' μ' => st' = [] ∧ zTJ φ μ' ∧ ∃ k v, zKd (μ 89) a b k ∧ (k = 256 → v = zNum (μ 89) a (b - a).toNat) ∧ μ' = zAdd μ k a v) := by
  have fL := zT_get hT zs88_1 (i := 1) (by omega) (by omega)
  obtain ⟨r1, r2⟩ := hrun.1
  have hkw : True := trivial
  have hnv : True := trivial
  have f1 := zT_get hT zs89_0 (i := a) (by omega) (by omega)
  refine pm_blk hK zmm237 [] 6 8 [(2, 88), (0, a), (0, b), (0, μ 89 a)] [(0, μ 89 a)] μ [0 ≤ a ∧ a < 400] rfl ⟨⟨by omega, by omega⟩, trivial⟩ ?_
  refine pm_call hK zmm237 (106, 1, 234, 1) zM234 (1, 22) [(0, μ 89 a)] [] rfl rfl rfl rfl ⟨by omega, by rw [zn234]; omega⟩ (zt_isL hK (c := (μ 89 a)) ⟨Nat.le_refl _, Nat.le_refl _⟩) (fun st1 μc1 hp1 => ?_)
  obtain ⟨rfl, x1, rfl, hx1⟩ := hp1
  refine pm_if hK zmm237 .eq 18 29 rfl rfl (fun h0 => ?_) (fun h0 => ?_)
  · have h0 : x1 = (0 : Int) := h0
    refine pm_blk hK zmm237 [] 1 30 [(2, 88), (0, a), (0, b), (0, μ 89 a)] [(0, μ 89 a)] μ [] rfl trivial ?_
    refine pm_call hK zmm237 (109, 1, 235, 1) zM235 (1, 22) [(0, μ 89 a)] [] rfl rfl rfl rfl ⟨by omega, by rw [zn235]; omega⟩ (zt_isD hK (c := (μ 89 a)) ⟨Nat.le_refl _, Nat.le_refl _⟩) (fun st2 μc2 hp2 => ?_)
    obtain ⟨rfl, x2, rfl, hx2⟩ := hp2
    refine pm_if hK zmm237 .eq 33 66 rfl rfl (fun h1 => ?_) (fun h1 => ?_)
    · have h1 : x2 = (0 : Int) := h1
      refine pm_blk hK zmm237 [] 1 67 [(2, 88), (0, a), (0, b), (0, μ 89 a)] [(2, 88)] μ [] rfl trivial ?_
      refine zp_ldc hK zmm237 rfl hTX.2.2 rfl rfl ?_
      refine pm_blk hK zmm237 [] 1 70 [(2, 88), (0, a), (0, b), (0, μ 89 a)] [(0, μ 89 a), (4, (aS : Int)), (2, 88)] μ [] rfl trivial ?_
      refine zp_idx hK zmm237 hTX.1 ⟨_, _, 118, hTX.2.2, rfl⟩ (k := (μ 89 a)) (by omega) (by omega) rfl zJlr_121 rfl rfl (Nat.le_of_ble_eq_true rfl) ⟨by omega, by omega⟩ (fun r3 hr3 => ?_)
      refine pm_if hK zmm237 .lt 7 81 rfl rfl (fun h2 => ?_) (fun h2 => ?_)
      · have h2 : r3 < (0 : Int) := h2
        refine pm_blk hK zmm237 [] 3 86 [(2, 88), (0, a), (0, b), (0, μ 89 a)] [(0, 0), (0, a), (0, 258), (2, 88)] μ [] rfl trivial ?_
        have hkd : zKd (μ 89) a b 258 := by
          first
          | exact hkw
          | exact ⟨fun hl => absurd hl (by omega), fun _ => by omega, fun _ hd => absurd (show zbD (μ 89 a) by omega) hd⟩
          | exact ⟨fun hl => absurd hl (by omega), fun hd => absurd hd (by omega), fun _ _ => by omega⟩
          | (exfalso; omega)
        have hkv : (258 : Int) = 256 → 0 = zNum (μ 89) a (b - a).toNat := by
          first
          | exact fun h => absurd h (by omega)
          | exact fun _ => hnv (by omega)
          | (exfalso; omega)
        refine pm_call hK zmm237 (102, 0, 52, 3) zM52 (1, 22) [(2, 88), (0, 258), (0, a), (0, 0)] [] rfl rfl rfl rfl ⟨by omega, by rw [zn52]; omega⟩ (zt_add hK hT ht ⟨by omega, by omega⟩ ⟨by omega, by omega⟩ ⟨by omega, by omega⟩ hb88 hb90 hb91 hb92 ⟨Nat.le_refl _, Nat.le_refl _⟩) (fun st4 μc4 hp4 => ?_)
        obtain ⟨rfl, hTc4, ea4⟩ := hp4
        have ea := ea4
        exact pm_vret rfl rfl ⟨rfl, hTc4, _, _, hkd, hkv, ea⟩
      · have h2 : (0 : Int) ≤ r3 := h2
        refine pm_blk hK zmm237 [] 4 86 [(2, 88), (0, a), (0, b), (0, μ 89 a)] [(0, 0), (0, a), (0, μ 89 a), (2, 88)] μ [] rfl trivial ?_
        have hkd : zKd (μ 89) a b (μ 89 a) := by
          first
          | exact hkw
          | exact ⟨fun hl => absurd hl (by omega), fun _ => by omega, fun _ hd => absurd (show zbD (μ 89 a) by omega) hd⟩
          | exact ⟨fun hl => absurd hl (by omega), fun hd => absurd hd (by omega), fun _ _ => by omega⟩
          | (exfalso; omega)
        have hkv : ((μ 89 a) : Int) = 256 → 0 = zNum (μ 89) a (b - a).toNat := by
          first
          | exact fun h => absurd h (by omega)
          | exact fun _ => hnv (by omega)
          | (exfalso; omega)
        refine pm_call hK zmm237 (102, 0, 52, 3) zM52 (1, 22) [(2, 88), (0, μ 89 a), (0, a), (0, 0)] [] rfl rfl rfl rfl ⟨by omega, by rw [zn52]; omega⟩ (zt_add hK hT ht ⟨by omega, by omega⟩ ⟨by omega, by omega⟩ ⟨by omega, by omega⟩ hb88 hb90 hb91 hb92 ⟨Nat.le_refl _, Nat.le_refl _⟩) (fun st5 μc5 hp5 => ?_)
        obtain ⟨rfl, hTc5, ea5⟩ := hp5
        have ea := ea5
        exact pm_vret rfl rfl ⟨rfl, hTc5, _, _, hkd, hkv, ea⟩
    · have h1 : x2 ≠ (0 : Int) := h1
      refine pm_blk hK zmm237 [] 5 41 [(2, 88), (0, a), (0, b), (0, μ 89 a)] [(0, 4), (0, b - a), (2, 88)] μ [pm_in (b - a)] rfl ⟨pm_in_mk (by omega) (by omega), trivial⟩ ?_
      refine pm_icmp hK zmm237 .gt 9 50 rfl rfl (fun h3 => ?_) (fun h3 => ?_)
      · have h3 : (4 : Int) < b - a := h3
        refine pm_blk hK zmm237 [] 5 57 [(2, 88), (0, a), (0, b), (0, μ 89 a)] [(0, b), (0, a), (2, 88), (0, a), (0, 258), (2, 88)] μ [] rfl trivial ?_
        refine pm_call hK zmm237 (116, 0, 240, 2) zM240 (0, 0) [(2, 88), (0, a), (0, b)] [(0, a), (0, 258), (2, 88)] rfl rfl rfl rfl ⟨by omega, by rw [zn240]; omega⟩ (zt_numOf hK (a := a) (b := b) ⟨by omega, by omega, by omega⟩ (hrun.2.2.1 (by omega)).1 ⟨Nat.le_refl _, Nat.le_refl _⟩) (fun st6 μc6 hp6 => ?_)
        obtain ⟨rfl, x6, rfl, hx6⟩ := hp6
        have hnb := zNum_bd (T := μ 89) (s := a) (min (b - a) 4).toNat (fun y y0 y1 => (hrun.2.2.1 (by omega)).1 y y0 (by omega))
        have hn4 := hnb.2.2.2.2.2 (by omega)
        have hn0 := hnb.1
        rw [← hx6] at hn0 hn4
        have hnv : b - a ≤ 4 → x6 = zNum (μ 89) a (b - a).toNat := fun h => by rw [hx6, show (min (b - a) 4).toNat = (b - a).toNat by omega]
        have hkd : zKd (μ 89) a b 258 := by
          first
          | exact hkw
          | exact ⟨fun hl => absurd hl (by omega), fun _ => by omega, fun _ hd => absurd (show zbD (μ 89 a) by omega) hd⟩
          | exact ⟨fun hl => absurd hl (by omega), fun hd => absurd hd (by omega), fun _ _ => by omega⟩
          | (exfalso; omega)
        have hkv : (258 : Int) = 256 → x6 = zNum (μ 89) a (b - a).toNat := by
          first
          | exact fun h => absurd h (by omega)
          | exact fun _ => hnv (by omega)
          | (exfalso; omega)
        refine pm_call hK zmm237 (102, 0, 52, 3) zM52 (1, 22) [(2, 88), (0, 258), (0, a), (0, x6)] [] rfl rfl rfl rfl ⟨by omega, by rw [zn52]; omega⟩ (zt_add hK hT ht ⟨by omega, by omega⟩ ⟨by omega, by omega⟩ ⟨by omega, by omega⟩ hb88 hb90 hb91 hb92 ⟨Nat.le_refl _, Nat.le_refl _⟩) (fun st7 μc7 hp7 => ?_)
        obtain ⟨rfl, hTc7, ea7⟩ := hp7
        have ea := ea7
        refine pm_blk hK zmm237 [] 1 89 [(2, 88), (0, a), (0, b), (0, μ 89 a)] [] μc7 [] rfl trivial ?_
        exact pm_vret rfl rfl ⟨rfl, hTc7, _, _, hkd, hkv, ea⟩
      · have h3 : b - a ≤ (4 : Int) := h3
        refine pm_blk hK zmm237 [] 6 57 [(2, 88), (0, a), (0, b), (0, μ 89 a)] [(0, b), (0, a), (2, 88), (0, a), (0, 256), (2, 88)] μ [] rfl trivial ?_
        refine pm_call hK zmm237 (116, 0, 240, 2) zM240 (0, 0) [(2, 88), (0, a), (0, b)] [(0, a), (0, 256), (2, 88)] rfl rfl rfl rfl ⟨by omega, by rw [zn240]; omega⟩ (zt_numOf hK (a := a) (b := b) ⟨by omega, by omega, by omega⟩ (hrun.2.2.1 (by omega)).1 ⟨Nat.le_refl _, Nat.le_refl _⟩) (fun st8 μc8 hp8 => ?_)
        obtain ⟨rfl, x8, rfl, hx8⟩ := hp8
        have hnb := zNum_bd (T := μ 89) (s := a) (min (b - a) 4).toNat (fun y y0 y1 => (hrun.2.2.1 (by omega)).1 y y0 (by omega))
        have hn4 := hnb.2.2.2.2.2 (by omega)
        have hn0 := hnb.1
        rw [← hx8] at hn0 hn4
        have hnv : b - a ≤ 4 → x8 = zNum (μ 89) a (b - a).toNat := fun h => by rw [hx8, show (min (b - a) 4).toNat = (b - a).toNat by omega]
        have hkd : zKd (μ 89) a b 256 := by
          first
          | exact hkw
          | exact ⟨fun hl => absurd hl (by omega), fun _ => by omega, fun _ hd => absurd (show zbD (μ 89 a) by omega) hd⟩
          | exact ⟨fun hl => absurd hl (by omega), fun hd => absurd hd (by omega), fun _ _ => by omega⟩
          | (exfalso; omega)
        have hkv : (256 : Int) = 256 → x8 = zNum (μ 89) a (b - a).toNat := by
          first
          | exact fun h => absurd h (by omega)
          | exact fun _ => hnv (by omega)
          | (exfalso; omega)
        refine pm_call hK zmm237 (102, 0, 52, 3) zM52 (1, 22) [(2, 88), (0, 256), (0, a), (0, x8)] [] rfl rfl rfl rfl ⟨by omega, by rw [zn52]; omega⟩ (zt_add hK hT ht ⟨by omega, by omega⟩ ⟨by omega, by omega⟩ ⟨by omega, by omega⟩ hb88 hb90 hb91 hb92 ⟨Nat.le_refl _, Nat.le_refl _⟩) (fun st9 μc9 hp9 => ?_)
        obtain ⟨rfl, hTc9, ea9⟩ := hp9
        have ea := ea9
        refine pm_blk hK zmm237 [] 1 89 [(2, 88), (0, a), (0, b), (0, μ 89 a)] [] μc9 [] rfl trivial ?_
        exact pm_vret rfl rfl ⟨rfl, hTc9, _, _, hkd, hkv, ea⟩
  · have h0 : x1 ≠ (0 : Int) := h0
    refine pm_blk hK zmm237 [] 4 18 [(2, 88), (0, a), (0, b), (0, μ 89 a)] [(0, b), (0, a), (2, 88), (2, 88)] μ [] rfl trivial ?_
    have hzl : zbL (μ 89 a) := by omega
    have hzd : ¬ zbD (μ 89 a) := by omega
    refine pm_call hK zmm237 (112, 0, 238, 2) zM238 (5, 109) [(2, 88), (0, a), (0, b)] [(2, 88)] rfl rfl rfl rfl ⟨by omega, by rw [zn238]; omega⟩ (zt_wordKind hK hTX (a := a) (b := b) ⟨by omega, by omega⟩ ⟨by omega, by omega⟩ ⟨Nat.le_refl _, Nat.le_refl _⟩) (fun st10 μc10 hp10 => ?_)
    obtain ⟨rfl, x10, rfl, hx10⟩ := hp10
    have hkw : zKd (μ 89) a b x10 := ⟨fun _ => hx10, fun hd => absurd hd hzd, fun hl => absurd hzl hl⟩
    have hwr : 258 ≤ x10 ∧ x10 ≤ 327 ∧ x10 ≠ 256 := by
      rcases hx10 with ⟨w, w1, w2, -⟩ | ⟨w1, -⟩ <;> omega
    refine pm_blk hK zmm237 [] 2 23 [(2, 88), (0, a), (0, b), (0, μ 89 a)] [(0, 0), (0, a), (0, x10), (2, 88)] μ [] rfl trivial ?_
    have hkd : zKd (μ 89) a b x10 := by
      first
      | exact hkw
      | exact ⟨fun hl => absurd hl (by omega), fun _ => by omega, fun _ hd => absurd (show zbD (μ 89 a) by omega) hd⟩
      | exact ⟨fun hl => absurd hl (by omega), fun hd => absurd hd (by omega), fun _ _ => by omega⟩
      | (exfalso; omega)
    have hkv : (x10 : Int) = 256 → 0 = zNum (μ 89) a (b - a).toNat := by
      first
      | exact fun h => absurd h (by omega)
      | exact fun _ => hnv (by omega)
      | (exfalso; omega)
    refine pm_call hK zmm237 (102, 0, 52, 3) zM52 (1, 22) [(2, 88), (0, x10), (0, a), (0, 0)] [] rfl rfl rfl rfl ⟨by omega, by rw [zn52]; omega⟩ (zt_add hK hT ht ⟨by omega, by omega⟩ ⟨by omega, by omega⟩ ⟨by omega, by omega⟩ hb88 hb90 hb91 hb92 ⟨Nat.le_refl _, Nat.le_refl _⟩) (fun st11 μc11 hp11 => ?_)
    obtain ⟨rfl, hTc11, ea11⟩ := hp11
    have ea := ea11
    refine pm_blk hK zmm237 [] 1 89 [(2, 88), (0, a), (0, b), (0, μ 89 a)] [] μc11 [] rfl trivial ?_
    exact pm_vret rfl rfl ⟨rfl, hTc11, _, _, hkd, hkv, ea⟩
set_option maxRecDepth 100000 in
theorem zt_sc (hK : zKK ST)  {μ0 : pm_Mem} {aW aS : Nat} (hTX : zSTt ST aW aS) (hL : μ0 88 1 ≤ 400) (hb88 : sx_bit Wm 88 = true) (hb90 : sx_bit Wm 90 = true) (hb91 : sx_bit Wm 91 = true) (hb92 : sx_bit Wm 92 = true) (hbd : 7 ≤ bud.1 ∧ 157 ≤ bud.2.1) : ∀ (n : Nat) {i : Int} {μ : pm_Mem}, (400 - i).toNat = n → ∀ (hi : 0 ≤ i ∧ i ≤ μ0 88 1) (hS : zScn μ0 i μ) (hT : zTJ φ μ), zW D Wm ST b0 l Sg zM51 bud (pm_X zM51 (fun st' μ' => st' = [] ∧ zTJ φ μ' ∧ zScan μ0 μ')) 7 [(2, 88), (0, i)] [] μ := by
  intro n
  induction n using Nat.strongRecOn with
  | ind n ih =>
    intro i μ hn hi hS hT
    have e1 := hS.2.1 1 (by decide)
    have e7 := hS.2.2.1
    have hru : True := trivial
    have hkk : True := trivial
    have hvv : True := trivial
    have hea : True := trivial
    have f1 := zT_get hT zs88_1 (i := 1) (by omega) (by omega)
    refine pm_blk hK zmm51 [] 3 12 [(2, 88), (0, i)] [(0, μ 88 1), (0, i)] μ [] rfl trivial ?_
    refine pm_icmp hK zmm51 .ge 27 39 rfl rfl (fun h0 => ?_) (fun h0 => ?_)
    · have h0 : μ 88 1 ≤ i := h0
      refine pm_blk hK zmm51 [] 5 48 [(2, 88), (0, i)] [(0, 0), (0, μ 88 1), (0, 257), (2, 88)] μ [] rfl trivial ?_
      refine pm_call hK zmm51 (102, 0, 52, 3) zM52 (1, 22) [(2, 88), (0, 257), (0, μ 88 1), (0, 0)] [] rfl rfl rfl rfl ⟨by omega, by rw [zn52]; omega⟩ (zt_add hK hT ⟨by omega, by omega⟩ ⟨by omega, by omega⟩ ⟨by omega, by omega⟩ ⟨by omega, by omega⟩ hb88 hb90 hb91 hb92 ⟨Nat.le_refl _, Nat.le_refl _⟩) (fun st1 μc1 hp1 => ?_)
      obtain ⟨rfl, hTc1, ea1⟩ := hp1
      have ea := ea1
      exact pm_vret rfl rfl ⟨rfl, hTc1, zScan_of hS (by omega) (by rw [ea, e1])⟩
    · have h0 : i < μ 88 1 := h0
      refine pm_blk hK zmm51 [] 2 17 [(2, 88), (0, i)] [(0, i), (2, 88)] μ [] rfl trivial ?_
      refine pm_call hK zmm51 (91, 0, 233, 1) zM233 (2, 42) [(2, 88), (0, i)] [] rfl rfl rfl rfl ⟨by omega, by rw [zn233]; omega⟩ (zt_begins hK (i := i) ⟨by omega, by omega⟩ ⟨Nat.le_refl _, Nat.le_refl _⟩) (fun st2 μc2 hp2 => ?_)
      obtain ⟨rfl, x2, rfl, hx2⟩ := hp2
      have hbg := hx2
      refine pm_if hK zmm51 .eq 13 33 rfl rfl (fun h1 => ?_) (fun h1 => ?_)
      · have h1 : x2 = (0 : Int) := h1
        refine pm_blk hK zmm51 [] 2 7 [(2, 88), (0, i + 1)] [] μ [pm_in (i + 1)] rfl ⟨pm_in_mk (by omega) (by omega), trivial⟩ ?_
        first
        | exact ih _ (by omega) rfl ⟨by omega, by omega⟩ (zScn_no hS (by omega) (by omega)) hT
        | (rcases hbg with ⟨b0, b1, b2⟩ | ⟨b0, b1⟩
           · exact ih _ (by omega) rfl ⟨by omega, by omega⟩ (zScn_tok hS hi.1 (by omega) b1 b2 hru hkk hvv hea) hT
           · omega)
        | (exfalso; omega)
      · have h1 : x2 ≠ (0 : Int) := h1
        refine pm_blk hK zmm51 [] 4 27 [(2, 88), (0, i)] [(0, i), (2, 88), (0, i), (2, 88)] μ [] rfl trivial ?_
        refine pm_call hK zmm51 (94, 0, 236, 1) zM236 (2, 42) [(2, 88), (0, i)] [(0, i), (2, 88)] rfl rfl rfl rfl ⟨by omega, by rw [zn236]; omega⟩ (zt_runEnd hK (a := i) ⟨by omega, by omega⟩ (by omega) ⟨Nat.le_refl _, Nat.le_refl _⟩) (fun st3 μc3 hp3 => ?_)
        obtain ⟨rfl, x3, rfl, hr3⟩ := hp3
        have hru := hr3
        refine pm_call hK zmm51 (98, 0, 237, 2) zM237 (6, 134) [(2, 88), (0, i), (0, x3)] [] rfl rfl rfl rfl ⟨by omega, by rw [zn237]; omega⟩ (zt_read hK hTX hT hru (by omega) ⟨by omega, by omega⟩ hb88 hb90 hb91 hb92 ⟨Nat.le_refl _, Nat.le_refl _⟩) (fun st4 μc4 hp4 => ?_)
        obtain ⟨rfl, hTc4, kk4, vv4, hk4, hv4, ea4⟩ := hp4
        have hkk := hk4
        have hvv := hv4
        have hea := ea4
        refine pm_blk hK zmm51 [] 2 7 [(2, 88), (0, i + 1)] [] μc4 [pm_in (i + 1)] rfl ⟨pm_in_mk (by omega) (by omega), trivial⟩ ?_
        first
        | exact ih _ (by omega) rfl ⟨by omega, by omega⟩ (zScn_no hS (by omega) (by omega)) hT
        | (rcases hbg with ⟨b0, b1, b2⟩ | ⟨b0, b1⟩
           · exact ih _ (by omega) rfl ⟨by omega, by omega⟩ (zScn_tok hS hi.1 (by omega) b1 b2 hru hkk hvv hea) hTc4
           · omega)
        | (exfalso; omega)
set_option maxRecDepth 100000 in
theorem zt_scan (hK : zKK ST) {aW aS : Nat} (hTX : zSTt ST aW aS) (hT : zTJ φ μ) (hb88 : sx_bit Wm 88 = true) (hb90 : sx_bit Wm 90 = true) (hb91 : sx_bit Wm 91 = true) (hb92 : sx_bit Wm 92 = true) (hbd : 7 ≤ bud.1 ∧ 157 ≤ bud.2.1) : zC D Wm ST b0 l Sg zM51 bud [(2, 88)] μ (fun st' μ' => st' = [] ∧ zTJ φ μ' ∧ zScan μ μ') := by
  have fL := zT_get hT zs88_1 (i := 1) (by omega) (by omega)
  refine pm_blk hK zmm51 [] 3 5 [(2, 88), (9, 0)] [] (pm_up μ 88 7 0) [sx_bit Wm 88 = true] rfl ⟨hb88, trivial⟩ ?_
  obtain ⟨μ1, eμ1⟩ : ∃ μ', μ' = pm_up μ 88 7 0 := ⟨_, rfl⟩
  rw [← eμ1]
  have hTμ1 : zTJ φ μ1 := by rw [eμ1]; exact zT_up hT zs88_7 rfl (i := 7) (by omega) (by omega) (by omega) (by omega)
  refine pm_blk hK zmm51 [] 2 7 [(2, 88), (0, 0)] [] μ1 [] rfl trivial ?_
  exact zt_sc hK hTX fL.2 hb88 hb90 hb91 hb92 hbd _ rfl ⟨by omega, by omega⟩ (zScn_0 fL.1 eμ1) hTμ1
end ZHW
