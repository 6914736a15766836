/-! THE LAW: expressions in the class; walks printed by program (wip/p30/pmgen.py) and filled by hand -/
section ZHW
variable {φ : Option pm_Mem}
variable {D : va_G} {Wm : Nat} {ST : List (String × String × String × Nat)} {b0 : sx_B} {l : Launch} {Sg : Nat → Option Nat} {bud : sx_Bu} {μ : pm_Mem} {B0 : Nat → Prop} {J : (Nat → Option Nat) → Heap → Prop}
set_option maxRecDepth 100000 in
theorem zw_emit (hK : zKK ST) {o v : Int} (hT : zTJ φ μ) (ho : 0 ≤ o ∧ o ≤ 11) (hv : -853248 ≤ v * 16 + o ∧ v * 16 + o ≤ 3679637) (hv2 : -53328 ≤ v ∧ v ≤ 229977) (hb93 : sx_bit Wm 93 = true) (hb95 : sx_bit Wm 95 = true) (hbd : 0 ≤ bud.1 ∧ 0 ≤ bud.2.1) : zC D Wm ST b0 l Sg zM248 bud [(2, 93), (0, o), (0, v)] μ (fun st' μ' => st' = [] ∧ zTJ φ μ' ∧ (∀ r, r ≠ 93 → r ≠ 95 → μ' r = μ r) ∧ (∀ k : Int, k ≠ 3 → μ' 93 k = μ 93 k) ∧ (μ 93 3 ≤ 399 → zCd μ μ' [(o, v)] ∧ μ' 93 3 = μ 93 3 + 1)) := by
  have f1 := zT_get hT zs93_3 (i := 3) (by omega) (by omega)
  refine pm_blk hK zmm248 [] 2 4 [(2, 93), (0, o), (0, v)] [(0, μ 93 3)] μ [] rfl trivial ?_
  refine pm_if hK zmm248 .lt 40 44 rfl rfl (fun h0 => ?_) (fun h0 => ?_)
  · have h0 : μ 93 3 < (0 : Int) := h0
    exact pm_vret rfl rfl ⟨rfl, hT, fun _ _ _ => rfl, fun _ _ => rfl, fun h9 => absurd h9 (by omega)⟩
  · have h0 : (0 : Int) ≤ μ 93 3 := h0
    refine pm_blk hK zmm248 [] 5 16 [(2, 93), (0, o), (0, v)] [(0, 400), (0, μ 93 3)] μ [] rfl trivial ?_
    refine pm_icmp hK zmm248 .ge 28 44 rfl rfl (fun h1 => ?_) (fun h1 => ?_)
    · have h1 : (400 : Int) ≤ μ 93 3 := h1
      exact pm_vret rfl rfl ⟨rfl, hT, fun _ _ _ => rfl, fun _ _ => rfl, fun h9 => absurd h9 (by omega)⟩
    · have h1 : μ 93 3 < (400 : Int) := h1
      refine pm_blk hK zmm248 [] 10 34 [(2, 93), (0, o), (0, v)] [] (pm_up μ 95 (μ 93 3) ((v * 16) + o)) [pm_in (v * 16), pm_in ((v * 16) + o), sx_bit Wm 95 = true, 0 ≤ μ 93 3 ∧ μ 93 3 < 400] rfl ⟨pm_in_mk (by omega) (by omega), pm_in_mk (by omega) (by omega), hb95, ⟨by omega, by omega⟩, trivial⟩ ?_
      obtain ⟨μ1, eμ1⟩ : ∃ μ', μ' = pm_up μ 95 (μ 93 3) ((v * 16) + o) := ⟨_, rfl⟩
      rw [← eμ1]
      have hTμ1 : zTJ φ μ1 := by rw [eμ1]; exact zT_up hT zs95_0 rfl (i := μ 93 3) (by omega) (by omega) (by omega) (by omega)
      have g2 : μ1 93 3 = μ 93 3 := by rw [eμ1, pm_up_off (by decide)]
      have f3 := zT_get hTμ1 zs93_3 (i := 3) (by omega) (by omega)
      refine pm_blk hK zmm248 [] 6 44 [(2, 93), (0, o), (0, v)] [] (pm_up μ1 93 3 ((μ1 93 3) + 1)) [pm_in ((μ1 93 3) + 1), sx_bit Wm 93 = true] rfl ⟨pm_in_mk (by omega) (by omega), hb93, trivial⟩ ?_
      obtain ⟨μ2, eμ2⟩ : ∃ μ', μ' = pm_up μ1 93 3 ((μ1 93 3) + 1) := ⟨_, rfl⟩
      rw [← eμ2]
      have hTμ2 : zTJ φ μ2 := by rw [eμ2]; exact zT_up hTμ1 zs93_3 rfl (i := 3) (by omega) (by omega) (by omega) (by omega)
      exact pm_vret rfl rfl ⟨rfl, hTμ2, fun r a b => by rw [eμ2, pm_up_row a, eμ1, pm_up_row b], fun k a => by rw [eμ2, pm_up_ne a, eμ1, pm_up_off (by decide)], fun _ => zCd_e (by rw [eμ2, eμ1, pm_up_off (by decide)])⟩
set_option maxRecDepth 100000 in
theorem zw_unit (hK : zKK ST) {j1 : Int} {K S V : Int → Int} {n j : Int} (h : zCq K S V n j μ) (hKn : zKn K V n) (hj1 : j1 = j + 1) (hT : zTJ φ μ) (hcl : μ 93 3 ≤ j) (hb88 : sx_bit Wm 88 = true) (hb93 : sx_bit Wm 93 = true) (hb95 : sx_bit Wm 95 = true) (hbd : 1 ≤ bud.1 ∧ 22 ≤ bud.2.1) : zC D Wm ST b0 l Sg zM246 bud [(2, 88)] μ (fun st' μ' => ∃ x, st' = [(0, x)] ∧ zTJ φ μ' ∧ zCfx μ μ' ∧ (x ≠ 0 → x = 1 ∧ zUn (K j) ∧ zCq K S V n j1 μ' ∧ zCd μ μ' [zUc K V j] ∧ μ' 93 3 = μ 93 3 + 1) ∧ (x = 0 → zXi (fun f => (f = 1 ∧ ¬ zUn (K j)) ∧ zFl S f j μ'))) := by
  have hc := h
  have hF : zCfx μ μ := zCfx_refl
  obtain ⟨⟨q1, q2, q3⟩, q4, q5, q6⟩ := id h
  have fv := zT_get hT zs92_0 (i := j) (by omega) (by omega)
  rw [q3] at fv
  refine pm_blk hK zmm246 [] 1 1 [(2, 88), (9, 0)] [(2, 88)] μ [] rfl trivial ?_
  refine pm_call hK zmm246 (70, 0, 53, 0) zM53 (0, 0) [(2, 88)] [] rfl rfl rfl rfl ⟨by omega, by rw [zn53]; omega⟩ (zg_kind hK h ⟨Nat.le_refl _, Nat.le_refl _⟩) (fun st1 μc1 hp1 => ?_)
  obtain ⟨rfl, rfl⟩ := hp1
  refine pm_blk hK zmm246 [] 3 9 [(2, 88), (0, K j)] [(0, 256), (0, K j)] μ [] rfl trivial ?_
  refine pm_icmp hK zmm246 .ne 18 27 rfl rfl (fun h0 => ?_) (fun h0 => ?_)
  · have h0 : K j ≠ (256 : Int) := h0
    refine pm_blk hK zmm246 [] 3 34 [(2, 88), (0, K j)] [(0, 313), (0, 303), (0, K j)] μ [] rfl trivial ?_
    refine pm_call hK zmm246 (53, 1, 16, 3) zM16 (0, 0) [(0, K j), (0, 303), (0, 313)] [] rfl rfl rfl rfl ⟨by omega, by rw [zn16]; omega⟩ (zh_within hK ⟨Nat.le_refl _, Nat.le_refl _⟩) (fun st2 μc2 hp2 => ?_)
    obtain ⟨rfl, rfl⟩ := hp2
    refine pm_if hK zmm246 .eq 19 56 rfl rfl (fun h1 => ?_) (fun h1 => ?_)
    · have h1 : (if 303 ≤ (K j) ∧ (K j) ≤ 313 then 1 else 0 : Int) = (0 : Int) := h1
      have h1 := zif0 h1
      refine pm_blk hK zmm246 [] 2 58 [(2, 88), (0, K j)] [(0, 1), (2, 88)] μ [] rfl trivial ?_
      refine pm_call hK zmm246 (137, 0, 242, 1) zM242 (0, 0) [(2, 88), (0, 1)] [] rfl rfl rfl rfl ⟨by omega, by rw [zn242]; omega⟩ (zg_wrong hK h hT ⟨by omega, by omega⟩ hb88 ⟨Nat.le_refl _, Nat.le_refl _⟩) (fun st3 μc3 hp3 => ?_)
      obtain ⟨rfl, hTc3, hC3, hf3⟩ := hp3
      have hC := hC3
      have hff := hf3
      exact pm_zret rfl rfl (by first | exact Or.inl rfl | exact Or.inr rfl | omega) ⟨_, rfl, hTc3, zCfx_f hC, fun h9 => absurd rfl h9, fun _ => zXi_i 1 ⟨⟨rfl, by omega⟩, hff⟩⟩
    · have h1 : (if 303 ≤ (K j) ∧ (K j) ≤ 313 then 1 else 0 : Int) ≠ (0 : Int) := h1
      have h1 := zif1 h1
      have hun : zUn (K j) := by omega
      have hku : K j ≠ 256 := by omega
      refine pm_blk hK zmm246 [] 6 50 [(2, 88), (0, K j)] [(0, (K j) - 303), (0, 1), (2, 93)] μ [pm_in ((K j) - 303)] rfl ⟨pm_in_mk (by omega) (by omega), trivial⟩ ?_
      refine pm_call hK zmm246 (180, 0, 248, 2) zM248 (0, 0) [(2, 93), (0, 1), (0, (K j) - 303)] [] rfl rfl rfl rfl ⟨by omega, by rw [zn248]; omega⟩ (zw_emit hK (o := 1) (v := ((K j) - 303)) hT ⟨by omega, by omega⟩ ⟨by omega, by omega⟩ ⟨by omega, by omega⟩ hb93 hb95 ⟨Nat.le_refl _, Nat.le_refl _⟩) (fun st4 μc4 hp4 => ?_)
      obtain ⟨rfl, hTc4, hm4, hn4, hd4⟩ := hp4
      have hc := zCl_e hc hm4
      have hF := zCfx_tr hF (zCfx_e hm4 hn4)
      have hdd := hd4
      refine pm_blk hK zmm246 [] 1 62 [(2, 88), (0, K j)] [] μc4 [] rfl trivial ?_
      have hjn : j ≠ n := fun he => by rw [he, hKn.1] at hun; omega
      have h8 := hc.2.2.1
      obtain ⟨hdd, hl8⟩ := hdd (by omega)
      have f1 := zT_get hTc4 zs88_8 (i := 8) (by omega) (by omega)
      refine pm_blk hK zmm246 [] 6 72 [(2, 88), (0, K j)] [] (pm_up μc4 88 8 ((μc4 88 8) + 1)) [pm_in ((μc4 88 8) + 1), sx_bit Wm 88 = true] rfl ⟨pm_in_mk (by omega) (by omega), hb88, trivial⟩ ?_
      obtain ⟨μ1, eμ1⟩ : ∃ μ', μ' = pm_up μc4 88 8 ((μc4 88 8) + 1) := ⟨_, rfl⟩
      rw [← eμ1]
      have hTμ1 : zTJ φ μ1 := by rw [eμ1]; exact zT_up hTc4 zs88_8 rfl (i := 8) (by omega) (by omega) (by omega) (by omega)
      refine pm_blk hK zmm246 [] 1 73 [(2, 88), (0, K j)] [(0, 1)] μ1 [] rfl trivial ?_
      exact pm_zret rfl rfl (by first | exact Or.inl rfl | exact Or.inr rfl | omega) ⟨_, rfl, hTμ1, zCfx_tr hF (zCfx_f (by rw [eμ1]; exact zCf_88 zCf_refl (by omega))), fun _ => ⟨rfl, hun, zCl_8 hc eμ1 (by rw [h8, hj1]) ⟨by omega, by omega⟩, zCd_fr (zCd_uc hdd (by omega)) (by rw [eμ1, pm_up_row (by decide)]) (by rw [eμ1, pm_up_off (by decide)]) (by rw [eμ1, pm_up_row (by decide)]), by rw [eμ1, pm_up_off (by decide)]; omega⟩, fun h9 => absurd h9 (by decide)⟩
  · have h0 : K j = (256 : Int) := h0
    have hun : zUn (K j) := by omega
    have hku : K j = 256 := by omega
    refine pm_blk hK zmm246 [] 4 18 [(2, 88), (0, K j)] [(2, 88), (0, 0), (2, 93)] μ [] rfl trivial ?_
    refine pm_call hK zmm246 (140, 0, 247, 0) zM247 (0, 0) [(2, 88)] [(0, 0), (2, 93)] rfl rfl rfl rfl ⟨by omega, by rw [zn247]; omega⟩ (zg_number hK h ⟨Nat.le_refl _, Nat.le_refl _⟩) (fun st5 μc5 hp5 => ?_)
    obtain ⟨rfl, rfl⟩ := hp5
    refine pm_call hK zmm246 (180, 0, 248, 2) zM248 (0, 0) [(2, 93), (0, 0), (0, V j)] [] rfl rfl rfl rfl ⟨by omega, by rw [zn248]; omega⟩ (zw_emit hK (o := 0) (v := (V j)) hT ⟨by omega, by omega⟩ ⟨by omega, by omega⟩ ⟨by omega, by omega⟩ hb93 hb95 ⟨Nat.le_refl _, Nat.le_refl _⟩) (fun st6 μc6 hp6 => ?_)
    obtain ⟨rfl, hTc6, hm6, hn6, hd6⟩ := hp6
    have hc := zCl_e hc hm6
    have hF := zCfx_tr hF (zCfx_e hm6 hn6)
    have hdd := hd6
    refine pm_blk hK zmm246 [] 1 62 [(2, 88), (0, K j)] [] μc6 [] rfl trivial ?_
    have hjn : j ≠ n := fun he => by rw [he, hKn.1] at hun; omega
    have h8 := hc.2.2.1
    obtain ⟨hdd, hl8⟩ := hdd (by omega)
    have f2 := zT_get hTc6 zs88_8 (i := 8) (by omega) (by omega)
    refine pm_blk hK zmm246 [] 6 72 [(2, 88), (0, K j)] [] (pm_up μc6 88 8 ((μc6 88 8) + 1)) [pm_in ((μc6 88 8) + 1), sx_bit Wm 88 = true] rfl ⟨pm_in_mk (by omega) (by omega), hb88, trivial⟩ ?_
    obtain ⟨μ2, eμ2⟩ : ∃ μ', μ' = pm_up μc6 88 8 ((μc6 88 8) + 1) := ⟨_, rfl⟩
    rw [← eμ2]
    have hTμ2 : zTJ φ μ2 := by rw [eμ2]; exact zT_up hTc6 zs88_8 rfl (i := 8) (by omega) (by omega) (by omega) (by omega)
    refine pm_blk hK zmm246 [] 1 73 [(2, 88), (0, K j)] [(0, 1)] μ2 [] rfl trivial ?_
    exact pm_zret rfl rfl (by first | exact Or.inl rfl | exact Or.inr rfl | omega) ⟨_, rfl, hTμ2, zCfx_tr hF (zCfx_f (by rw [eμ2]; exact zCf_88 zCf_refl (by omega))), fun _ => ⟨rfl, hun, zCl_8 hc eμ2 (by rw [h8, hj1]) ⟨by omega, by omega⟩, zCd_fr (zCd_uc hdd (by omega)) (by rw [eμ2, pm_up_row (by decide)]) (by rw [eμ2, pm_up_off (by decide)]) (by rw [eμ2, pm_up_row (by decide)]), by rw [eμ2, pm_up_off (by decide)]; omega⟩, fun h9 => absurd h9 (by decide)⟩
set_option maxRecDepth 100000 in
theorem zw_div (hK : zKK ST) {j1 : Int} {K S V : Int → Int} {n j : Int} (h : zCq K S V n j μ) (hKn : zKn K V n) (hj1 : j1 = j + 1) (hT : zTJ φ μ) (hcl : μ 93 3 ≤ j) (hb88 : sx_bit Wm 88 = true) (hb93 : sx_bit Wm 93 = true) (hb95 : sx_bit Wm 95 = true) (hbd : 1 ≤ bud.1 ∧ 22 ≤ bud.2.1) : zC D Wm ST b0 l Sg zM250 bud [(2, 88)] μ (fun st' μ' => ∃ x, st' = [(0, x)] ∧ zTJ φ μ' ∧ zCfx μ μ' ∧ (x ≠ 0 → x = 1 ∧ (K j = 256 ∧ 1 ≤ V j) ∧ zCq K S V n j1 μ' ∧ zCd μ μ' [(5, V j)] ∧ μ' 93 3 = μ 93 3 + 1) ∧ (x = 0 → zXi (fun f => ((f = 1 ∧ K j ≠ 256) ∨ (f = 2 ∧ K j = 256 ∧ V j = 0)) ∧ zFl S f j μ'))) := by
  have hc := h
  have hF : zCfx μ μ := zCfx_refl
  obtain ⟨⟨q1, q2, q3⟩, q4, q5, q6⟩ := id h
  have fv := zT_get hT zs92_0 (i := j) (by omega) (by omega)
  rw [q3] at fv
  refine pm_blk hK zmm250 [] 1 1 [(2, 88)] [(2, 88)] μ [] rfl trivial ?_
  refine pm_call hK zmm250 (70, 0, 53, 0) zM53 (0, 0) [(2, 88)] [] rfl rfl rfl rfl ⟨by omega, by rw [zn53]; omega⟩ (zg_kind hK h ⟨Nat.le_refl _, Nat.le_refl _⟩) (fun st1 μc1 hp1 => ?_)
  obtain ⟨rfl, rfl⟩ := hp1
  refine pm_blk hK zmm250 [] 1 7 [(2, 88)] [(0, 256), (0, K j)] μ [] rfl trivial ?_
  refine pm_icmp hK zmm250 .eq 9 16 rfl rfl (fun h0 => ?_) (fun h0 => ?_)
  · have h0 : K j = (256 : Int) := h0
    have h256 := h0
    refine pm_blk hK zmm250 [] 1 17 [(2, 88)] [(2, 88)] μ [] rfl trivial ?_
    refine pm_call hK zmm250 (140, 0, 247, 0) zM247 (0, 0) [(2, 88)] [] rfl rfl rfl rfl ⟨by omega, by rw [zn247]; omega⟩ (zg_number hK h ⟨Nat.le_refl _, Nat.le_refl _⟩) (fun st2 μc2 hp2 => ?_)
    obtain ⟨rfl, rfl⟩ := hp2
    refine pm_if hK zmm250 .ne 9 29 rfl rfl (fun h1 => ?_) (fun h1 => ?_)
    · have h1 : V j ≠ (0 : Int) := h1
      have hv0 : 1 ≤ V j := by have := hKn.2 j (by omega) (by omega) h256; omega
      refine pm_blk hK zmm250 [] 4 35 [(2, 88)] [(2, 88), (0, 5), (2, 93)] μ [] rfl trivial ?_
      refine pm_call hK zmm250 (140, 0, 247, 0) zM247 (0, 0) [(2, 88)] [(0, 5), (2, 93)] rfl rfl rfl rfl ⟨by omega, by rw [zn247]; omega⟩ (zg_number hK h ⟨Nat.le_refl _, Nat.le_refl _⟩) (fun st3 μc3 hp3 => ?_)
      obtain ⟨rfl, rfl⟩ := hp3
      refine pm_call hK zmm250 (180, 0, 248, 2) zM248 (0, 0) [(2, 93), (0, 5), (0, V j)] [] rfl rfl rfl rfl ⟨by omega, by rw [zn248]; omega⟩ (zw_emit hK (o := 5) (v := (V j)) hT ⟨by omega, by omega⟩ ⟨by omega, by omega⟩ ⟨by omega, by omega⟩ hb93 hb95 ⟨Nat.le_refl _, Nat.le_refl _⟩) (fun st4 μc4 hp4 => ?_)
      obtain ⟨rfl, hTc4, hm4, hn4, hd4⟩ := hp4
      have hc := zCl_e hc hm4
      have hF := zCfx_tr hF (zCfx_e hm4 hn4)
      have hdd := hd4
      have hjn : j ≠ n := fun he => by rw [he, hKn.1] at h256; omega
      have h8 := hc.2.2.1
      obtain ⟨hdd, hl8⟩ := hdd (by omega)
      have f1 := zT_get hTc4 zs88_8 (i := 8) (by omega) (by omega)
      refine pm_blk hK zmm250 [] 6 51 [(2, 88)] [] (pm_up μc4 88 8 ((μc4 88 8) + 1)) [pm_in ((μc4 88 8) + 1), sx_bit Wm 88 = true] rfl ⟨pm_in_mk (by omega) (by omega), hb88, trivial⟩ ?_
      obtain ⟨μ1, eμ1⟩ : ∃ μ', μ' = pm_up μc4 88 8 ((μc4 88 8) + 1) := ⟨_, rfl⟩
      rw [← eμ1]
      have hTμ1 : zTJ φ μ1 := by rw [eμ1]; exact zT_up hTc4 zs88_8 rfl (i := 8) (by omega) (by omega) (by omega) (by omega)
      refine pm_blk hK zmm250 [] 1 52 [(2, 88)] [(0, 1)] μ1 [] rfl trivial ?_
      exact pm_zret rfl rfl (by first | exact Or.inl rfl | exact Or.inr rfl | omega) ⟨_, rfl, hTμ1, zCfx_tr hF (zCfx_f (by rw [eμ1]; exact zCf_88 zCf_refl (by omega))), fun _ => ⟨rfl, ⟨h256, hv0⟩, zCl_8 hc eμ1 (by rw [h8, hj1]) ⟨by omega, by omega⟩, zCd_fr hdd (by rw [eμ1, pm_up_row (by decide)]) (by rw [eμ1, pm_up_off (by decide)]) (by rw [eμ1, pm_up_row (by decide)]), by rw [eμ1, pm_up_off (by decide)]; omega⟩, fun h9 => absurd h9 (by decide)⟩
    · have h1 : V j = (0 : Int) := h1
      refine pm_blk hK zmm250 [] 2 25 [(2, 88)] [(0, 2), (2, 88)] μ [] rfl trivial ?_
      refine pm_call hK zmm250 (137, 0, 242, 1) zM242 (0, 0) [(2, 88), (0, 2)] [] rfl rfl rfl rfl ⟨by omega, by rw [zn242]; omega⟩ (zg_wrong hK h hT ⟨by omega, by omega⟩ hb88 ⟨Nat.le_refl _, Nat.le_refl _⟩) (fun st5 μc5 hp5 => ?_)
      obtain ⟨rfl, hTc5, hC5, hf5⟩ := hp5
      have hC := hC5
      have hff := hf5
      exact pm_zret rfl rfl (by first | exact Or.inl rfl | exact Or.inr rfl | omega) ⟨_, rfl, hTc5, zCfx_f hC, fun h9 => absurd rfl h9, fun _ => zXi_i 2 ⟨Or.inr ⟨rfl, h256, h1⟩, hff⟩⟩
  · have h0 : K j ≠ (256 : Int) := h0
    refine pm_blk hK zmm250 [] 2 12 [(2, 88)] [(0, 1), (2, 88)] μ [] rfl trivial ?_
    refine pm_call hK zmm250 (137, 0, 242, 1) zM242 (0, 0) [(2, 88), (0, 1)] [] rfl rfl rfl rfl ⟨by omega, by rw [zn242]; omega⟩ (zg_wrong hK h hT ⟨by omega, by omega⟩ hb88 ⟨Nat.le_refl _, Nat.le_refl _⟩) (fun st6 μc6 hp6 => ?_)
    obtain ⟨rfl, hTc6, hC6, hf6⟩ := hp6
    have hC := hC6
    have hff := hf6
    exact pm_zret rfl rfl (by first | exact Or.inl rfl | exact Or.inr rfl | omega) ⟨_, rfl, hTc6, zCfx_f hC, fun h9 => absurd rfl h9, fun _ => zXi_i 1 ⟨Or.inl ⟨rfl, h0⟩, hff⟩⟩
set_option maxRecDepth 100000 in
theorem zw_wait (hK : zKK ST) {o : Int} (hT : zTJ φ μ) (ho : o = -1 ∨ (0 ≤ o ∧ o ≤ 11)) (hb93 : sx_bit Wm 93 = true) (hb95 : sx_bit Wm 95 = true) (hbd : 1 ≤ bud.1 ∧ 22 ≤ bud.2.1) : zC D Wm ST b0 l Sg zM249 bud [(2, 88), (0, o)] μ (fun st' μ' => st' = [] ∧ zTJ φ μ' ∧ (∀ r, r ≠ 93 → r ≠ 95 → μ' r = μ r) ∧ (∀ k : Int, k ≠ 3 → μ' 93 k = μ 93 k) ∧ ((o = -1 ∨ μ 93 3 ≤ 399) → zCd μ μ' (zWl o) ∧ ((o = -1 ∧ μ' 93 3 = μ 93 3) ∨ (o ≠ -1 ∧ μ' 93 3 = μ 93 3 + 1)))) := by
  refine pm_blk hK zmm249 [] 2 2 [(2, 88), (0, o)] [(0, (-1)), (0, o)] μ [] rfl trivial ?_
  refine pm_icmp hK zmm249 .eq 12 14 rfl rfl (fun h0 => ?_) (fun h0 => ?_)
  · have h0 : o = ((-1) : Int) := h0
    first
    | exact pm_vret rfl rfl ⟨rfl, hT, hm, hn, fun h9 => zCd_wl h0 hdd h9⟩
    | exact pm_vret rfl rfl ⟨rfl, hT, fun _ _ _ => rfl, fun _ _ => rfl, fun _ => zCd_wn h0⟩
    | (exfalso; omega)
  · have h0 : o ≠ ((-1) : Int) := h0
    refine pm_blk hK zmm249 [] 4 11 [(2, 88), (0, o)] [(0, 0), (0, o), (2, 93)] μ [] rfl trivial ?_
    refine pm_call hK zmm249 (180, 0, 248, 2) zM248 (0, 0) [(2, 93), (0, o), (0, 0)] [] rfl rfl rfl rfl ⟨by omega, by rw [zn248]; omega⟩ (zw_emit hK (o := o) (v := 0) hT ⟨by omega, by omega⟩ ⟨by omega, by omega⟩ ⟨by omega, by omega⟩ hb93 hb95 ⟨Nat.le_refl _, Nat.le_refl _⟩) (fun st1 μc1 hp1 => ?_)
    obtain ⟨rfl, hTc1, hm1, hn1, hd1⟩ := hp1
    have hm := hm1
    have hn := hn1
    have hdd := hd1
    first
    | exact pm_vret rfl rfl ⟨rfl, hTc1, hm, hn, fun h9 => zCd_wl h0 hdd h9⟩
    | exact pm_vret rfl rfl ⟨rfl, hTc1, fun _ _ _ => rfl, fun _ _ => rfl, fun _ => zCd_wn h0⟩
    | (exfalso; omega)
set_option maxRecDepth 100000 in
theorem zw_el (hK : zKK ST)  {μ0 : pm_Mem} {K S V : Int → Int} {N j0 : Int} (hKn : zKn K V N) (hc0 : μ0 93 3 ≤ j0) (hb88 : sx_bit Wm 88 = true) (hb93 : sx_bit Wm 93 = true) (hb95 : sx_bit Wm 95 = true) (hbd : 2 ≤ bud.1 ∧ 46 ≤ bud.2.1) : ∀ (n : Nat) {w i j : Int} {μ : pm_Mem}, (N + 1 - j).toNat = n → ∀ (hw : w = -1 ∨ w = 2 ∨ w = 3) (hi : 0 ≤ i ∧ i ≤ j) (hc : zCq K S V N j μ) (hF : zCfx μ0 μ) (hQ : ∃ Lp, zCd μ0 μ Lp ∧ ∀ m f q L, zExl K V m w j f q L → zExp K V j0 f q (Lp ++ L)) (hcl : μ 93 3 + j0 ≤ μ0 93 3 + j ∧ (w ≠ -1 → μ 93 3 + 1 + j0 ≤ μ0 93 3 + j)) (hT : zTJ φ μ), zW D Wm ST b0 l Sg zM245 bud (pm_X zM245 (fun st' μ' => ∃ x f q LL, st' = [(0, x)] ∧ zTJ φ μ' ∧ zCfx μ0 μ' ∧ zExp K V j0 f q LL ∧ ((x = 1 ∧ f = 0 ∧ zCq K S V N q μ' ∧ zCd μ0 μ' LL ∧ μ' 93 3 + j0 ≤ μ0 93 3 + q) ∨ (x = 0 ∧ f ≠ 0 ∧ zFl S f q μ')))) 13 [(2, 88), (0, w), (0, i), (9, 0)] [] μ := by
  intro n
  induction n using Nat.strongRecOn with
  | ind n ih =>
    intro w i j μ hn hw hi hc hF hQ hcl hT
    obtain ⟨⟨q1, q2, q3⟩, q4, q5, q6⟩ := id hc
    obtain ⟨Lp, hLp, hQ⟩ := hQ
    have f1 := zT_get hT zs88_7 (i := 7) (by omega) (by omega)
    refine pm_blk hK zmm245 [] 3 18 [(2, 88), (0, w), (0, i), (9, 0)] [(0, μ 88 7), (0, i)] μ [] rfl trivial ?_
    refine pm_icmp hK zmm245 .ge 111 129 rfl rfl (fun h0 => ?_) (fun h0 => ?_)
    · have h0 : μ 88 7 ≤ i := h0
      refine pm_blk hK zmm245 [] 2 131 [(2, 88), (0, w), (0, i), (9, 0)] [(0, w), (2, 88)] μ [] rfl trivial ?_
      refine pm_call hK zmm245 (173, 0, 249, 1) zM249 (1, 22) [(2, 88), (0, w)] [] rfl rfl rfl rfl ⟨by omega, by rw [zn249]; omega⟩ (zw_wait hK (o := w) hT (by omega) hb93 hb95 ⟨Nat.le_refl _, Nat.le_refl _⟩) (fun st1 μc1 hp1 => ?_)
      obtain ⟨rfl, hTc1, hm1, hn1, hd1⟩ := hp1
      have hc := zCl_e hc hm1
      have hF := zCfx_tr hF (zCfx_e hm1 hn1)
      obtain ⟨hdw, hw3⟩ := hd1 (by omega)
      have hLp := zCd_tr hLp hdw
      refine pm_blk hK zmm245 [] 1 135 [(2, 88), (0, w), (0, i), (9, 0)] [(0, 1)] μc1 [] rfl trivial ?_
      exact pm_zret rfl rfl (by first | exact Or.inl rfl | exact Or.inr rfl | omega) ⟨1, 0, j, _, rfl, hTc1, hF, hQ 1 0 j _ (Or.inl ⟨by omega, by omega, by omega, by omega, rfl, rfl, rfl⟩), Or.inl ⟨rfl, rfl, hc, hLp, by omega⟩⟩
    · have h0 : i < μ 88 7 := h0
      refine pm_blk hK zmm245 [] 1 22 [(2, 88), (0, w), (0, i), (9, 0)] [(2, 88)] μ [] rfl trivial ?_
      refine pm_call hK zmm245 (70, 0, 53, 0) zM53 (0, 0) [(2, 88)] [] rfl rfl rfl rfl ⟨by omega, by rw [zn53]; omega⟩ (zg_kind hK hc ⟨Nat.le_refl _, Nat.le_refl _⟩) (fun st2 μc2 hp2 => ?_)
      obtain ⟨rfl, rfl⟩ := hp2
      refine pm_blk hK zmm245 [] 3 29 [(2, 88), (0, w), (0, i), (0, K j)] [(0, 43), (0, K j)] μ [] rfl trivial ?_
      refine pm_icmp hK zmm245 .eq 9 38 rfl rfl (fun h1 => ?_) (fun h1 => ?_)
      · have h1 : K j = (43 : Int) := h1
        have hk9 : K j = 43 ∨ K j = 45 ∨ K j = 42 ∨ K j = 47 := by omega
        refine pm_blk hK zmm245 [] 2 40 [(2, 88), (0, w), (0, i), (0, K j)] [(0, w), (2, 88)] μ [] rfl trivial ?_
        refine pm_call hK zmm245 (173, 0, 249, 1) zM249 (1, 22) [(2, 88), (0, w)] [] rfl rfl rfl rfl ⟨by omega, by rw [zn249]; omega⟩ (zw_wait hK (o := w) hT (by omega) hb93 hb95 ⟨Nat.le_refl _, Nat.le_refl _⟩) (fun st3 μc3 hp3 => ?_)
        obtain ⟨rfl, hTc3, hm3, hn3, hd3⟩ := hp3
        have hc := zCl_e hc hm3
        have hF := zCfx_tr hF (zCfx_e hm3 hn3)
        obtain ⟨hdw, hw3⟩ := hd3 (by omega)
        have hLp := zCd_tr hLp hdw
        refine pm_blk hK zmm245 [] 2 46 [(2, 88), (0, w), (0, i), (0, K j)] [(0, 43), (0, K j)] μc3 [] rfl trivial ?_
        refine pm_icmp hK zmm245 .ne 7 53 rfl rfl (fun h2 => ?_) (fun h2 => ?_)
        · have h2 : K j ≠ (43 : Int) := h2
          refine pm_blk hK zmm245 [] 3 73 [(2, 88), (0, 3), (0, i), (0, K j)] [] μc3 [] rfl trivial ?_
          have hk9 : K j = 43 ∨ K j = 45 ∨ K j = 42 ∨ K j = 47 := by omega
          have h8 := hc.2.2.1
          have hjn : j ≠ N := fun he => by rw [he, hKn.1] at hk9; omega
          have f2 := zT_get hTc3 zs88_8 (i := 8) (by omega) (by omega)
          refine pm_blk hK zmm245 [] 6 83 [(2, 88), (0, 3), (0, i), (0, K j)] [] (pm_up μc3 88 8 ((μc3 88 8) + 1)) [pm_in ((μc3 88 8) + 1), sx_bit Wm 88 = true] rfl ⟨pm_in_mk (by omega) (by omega), hb88, trivial⟩ ?_
          obtain ⟨μ1, eμ1⟩ : ∃ μ', μ' = pm_up μc3 88 8 ((μc3 88 8) + 1) := ⟨_, rfl⟩
          rw [← eμ1]
          have hTμ1 : zTJ φ μ1 := by rw [eμ1]; exact zT_up hTc3 zs88_8 rfl (i := 8) (by omega) (by omega) (by omega) (by omega)
          have hc := zCl_8 (j' := j + 1) hc eμ1 (by rw [h8]) ⟨by omega, by omega⟩
          have hF := zCfx_tr hF (zCfx_f (show zCf μc3 μ1 by rw [eμ1]; exact zCf_88 zCf_refl (by omega)))
          have hz3 : μ1 93 3 = μc3 93 3 := by rw [eμ1, pm_up_off (by decide)]
          have hz5 : μ1 95 = μc3 95 := by rw [eμ1, pm_up_row (by decide)]
          have hz4 : μ1 94 = μc3 94 := by rw [eμ1, pm_up_row (by decide)]
          have hLp := zCd_fr hLp hz5 hz3 hz4
          refine pm_blk hK zmm245 [] 2 86 [(2, 88), (0, 3), (0, i), (0, K j)] [(0, 47), (0, K j)] μ1 [] rfl trivial ?_
          refine pm_icmp hK zmm245 .ne 13 99 rfl rfl (fun h3 => ?_) (fun h3 => ?_)
          · have h3 : K j ≠ (47 : Int) := h3
            refine pm_blk hK zmm245 [] 1 100 [(2, 88), (0, 3), (0, i), (0, K j)] [(2, 88)] μ1 [] rfl trivial ?_
            refine pm_call hK zmm245 (170, 0, 246, 0) zM246 (1, 22) [(2, 88)] [] rfl rfl rfl rfl ⟨by omega, by rw [zn246]; omega⟩ (zw_unit hK (j := j + 1) (j1 := j + 2) hc hKn (by omega) hTμ1 (by omega) hb88 hb93 hb95 ⟨Nat.le_refl _, Nat.le_refl _⟩) (fun st4 μc4 hp4 => ?_)
            obtain ⟨x4, rfl, hTc4, hC4, hA4, hB4⟩ := hp4
            have hx401 : x4 = 0 ∨ x4 = 1 := by by_cases h9 : x4 = 0; exact Or.inl h9; exact Or.inr (hA4 h9).1
            have hF := zCfx_tr hF hC4
            have hA := hA4
            have hB := hB4
            refine pm_if hK zmm245 .ne 5 108 rfl rfl (fun h4 => ?_) (fun h4 => ?_)
            · have h4 : x4 ≠ (0 : Int) := h4
              obtain ⟨-, hok, hc, hdu, hl9⟩ := hA h4
              have hLp := zCd_tr hLp hdu
              have hlt9 := hc.2.2.2.1
              refine pm_blk hK zmm245 [] 2 111 [(2, 88), (0, 3), (0, i), (0, K j)] [(0, 42), (0, K j)] μc4 [] rfl trivial ?_
              refine pm_icmp hK zmm245 .ne 12 123 rfl rfl (fun h5 => ?_) (fun h5 => ?_)
              · have h5 : K j ≠ (42 : Int) := h5
                refine pm_blk hK zmm245 [] 2 13 [(2, 88), (0, 3), (0, i + 1), (0, K j)] [] μc4 [pm_in (i + 1)] rfl ⟨pm_in_mk (by omega) (by omega), trivial⟩ ?_
                refine pm_hide [3] ?_
                have hlt := hc.2.2.2.1
                refine ih _ (by omega) rfl (by omega) ⟨by omega, by omega⟩ hc hF ⟨_, hLp, fun m f q L h9 => ?_⟩ ⟨by omega, fun _ => by omega⟩ hTc4
                first
                | (have h8 := hQ (m + 1) f q _ (Or.inr (Or.inr (Or.inl ⟨by omega, hok, L, h9, rfl⟩)))
                   simpa using h8)
                | (have h8 := hQ (m + 1) f q _ (Or.inr (Or.inr (Or.inr (Or.inl ⟨by omega, hok, L, by rw [if_pos (by omega)]; exact h9, rfl⟩))))
                   simpa using h8)
                | (have h8 := hQ (m + 1) f q _ (Or.inr (Or.inr (Or.inr (Or.inl ⟨by omega, hok, L, by rw [if_neg (by omega)]; exact h9, rfl⟩))))
                   simpa using h8)
                | (have h8 := hQ (m + 1) f q _ (Or.inr (Or.inr (Or.inr (Or.inr (Or.inr (Or.inr ⟨by omega, hok.1, hok.2, L, h9, rfl⟩))))))
                   simpa using h8)
                | (exfalso; omega)
              · have h5 : K j = (42 : Int) := h5
                refine pm_blk hK zmm245 [] 4 120 [(2, 88), (0, 3), (0, i), (0, K j)] [(0, 0), (0, 4), (2, 93)] μc4 [] rfl trivial ?_
                refine pm_call hK zmm245 (180, 0, 248, 2) zM248 (0, 0) [(2, 93), (0, 4), (0, 0)] [] rfl rfl rfl rfl ⟨by omega, by rw [zn248]; omega⟩ (zw_emit hK (o := 4) (v := 0) hTc4 ⟨by omega, by omega⟩ ⟨by omega, by omega⟩ ⟨by omega, by omega⟩ hb93 hb95 ⟨Nat.le_refl _, Nat.le_refl _⟩) (fun st5 μc5 hp5 => ?_)
                obtain ⟨rfl, hTc5, hm5, hn5, hd5⟩ := hp5
                have hc := zCl_e hc hm5
                have hF := zCfx_tr hF (zCfx_e hm5 hn5)
                obtain ⟨hdd, hl8⟩ := hd5 (by omega)
                have hLp := zCd_tr hLp hdd
                refine pm_blk hK zmm245 [] 2 13 [(2, 88), (0, 3), (0, i + 1), (0, K j)] [] μc5 [pm_in (i + 1)] rfl ⟨pm_in_mk (by omega) (by omega), trivial⟩ ?_
                refine pm_hide [3] ?_
                have hlt := hc.2.2.2.1
                refine ih _ (by omega) rfl (by omega) ⟨by omega, by omega⟩ hc hF ⟨_, hLp, fun m f q L h9 => ?_⟩ ⟨by omega, fun _ => by omega⟩ hTc5
                first
                | (have h8 := hQ (m + 1) f q _ (Or.inr (Or.inr (Or.inl ⟨by omega, hok, L, h9, rfl⟩)))
                   simpa using h8)
                | (have h8 := hQ (m + 1) f q _ (Or.inr (Or.inr (Or.inr (Or.inl ⟨by omega, hok, L, by rw [if_pos (by omega)]; exact h9, rfl⟩))))
                   simpa using h8)
                | (have h8 := hQ (m + 1) f q _ (Or.inr (Or.inr (Or.inr (Or.inl ⟨by omega, hok, L, by rw [if_neg (by omega)]; exact h9, rfl⟩))))
                   simpa using h8)
                | (have h8 := hQ (m + 1) f q _ (Or.inr (Or.inr (Or.inr (Or.inr (Or.inr (Or.inr ⟨by omega, hok.1, hok.2, L, h9, rfl⟩))))))
                   simpa using h8)
                | (exfalso; omega)
            · have h4 : x4 = (0 : Int) := h4
              obtain ⟨f, f1, hfl⟩ := hB h4
              refine pm_blk hK zmm245 [] 1 107 [(2, 88), (0, 3), (0, i), (0, K j)] [(0, 0)] μc4 [] rfl trivial ?_
              first
              | exact pm_zret rfl rfl (by first | exact Or.inl rfl | exact Or.inr rfl | omega) ⟨0, f, _, _, rfl, hTc4, hF, hQ 1 f _ [] (Or.inr (Or.inl ⟨by omega, f1.2, f1.1, rfl⟩)), Or.inr ⟨rfl, by omega, hfl⟩⟩
              | (rcases f1 with ⟨a1, a2⟩ | ⟨a1, a2, a3⟩
                 · exact pm_zret rfl rfl (by first | exact Or.inl rfl | exact Or.inr rfl | omega) ⟨0, f, _, _, rfl, hTc4, hF, hQ 1 f _ [] (Or.inr (Or.inr (Or.inr (Or.inr (Or.inl ⟨by omega, a2, a1, rfl⟩))))), Or.inr ⟨rfl, by omega, hfl⟩⟩
                 · exact pm_zret rfl rfl (by first | exact Or.inl rfl | exact Or.inr rfl | omega) ⟨0, f, _, _, rfl, hTc4, hF, hQ 1 f _ [] (Or.inr (Or.inr (Or.inr (Or.inr (Or.inr (Or.inl ⟨by omega, a2, a3, a1, rfl⟩)))))), Or.inr ⟨rfl, by omega, hfl⟩⟩)
              | (exfalso; omega)
          · have h3 : K j = (47 : Int) := h3
            refine pm_blk hK zmm245 [] 1 90 [(2, 88), (0, 3), (0, i), (0, K j)] [(2, 88)] μ1 [] rfl trivial ?_
            refine pm_call hK zmm245 (177, 0, 250, 0) zM250 (1, 22) [(2, 88)] [] rfl rfl rfl rfl ⟨by omega, by rw [zn250]; omega⟩ (zw_div hK (j := j + 1) (j1 := j + 2) hc hKn (by omega) hTμ1 (by omega) hb88 hb93 hb95 ⟨Nat.le_refl _, Nat.le_refl _⟩) (fun st6 μc6 hp6 => ?_)
            obtain ⟨x6, rfl, hTc6, hC6, hA6, hB6⟩ := hp6
            have hx601 : x6 = 0 ∨ x6 = 1 := by by_cases h9 : x6 = 0; exact Or.inl h9; exact Or.inr (hA6 h9).1
            have hF := zCfx_tr hF hC6
            have hA := hA6
            have hB := hB6
            refine pm_if hK zmm245 .ne 15 108 rfl rfl (fun h6 => ?_) (fun h6 => ?_)
            · have h6 : x6 ≠ (0 : Int) := h6
              obtain ⟨-, hok, hc, hdu, hl9⟩ := hA h6
              have hLp := zCd_tr hLp hdu
              have hlt9 := hc.2.2.2.1
              refine pm_blk hK zmm245 [] 2 111 [(2, 88), (0, 3), (0, i), (0, K j)] [(0, 42), (0, K j)] μc6 [] rfl trivial ?_
              refine pm_icmp hK zmm245 .ne 12 123 rfl rfl (fun h7 => ?_) (fun h7 => ?_)
              · have h7 : K j ≠ (42 : Int) := h7
                refine pm_blk hK zmm245 [] 2 13 [(2, 88), (0, 3), (0, i + 1), (0, K j)] [] μc6 [pm_in (i + 1)] rfl ⟨pm_in_mk (by omega) (by omega), trivial⟩ ?_
                refine pm_hide [3] ?_
                have hlt := hc.2.2.2.1
                refine ih _ (by omega) rfl (by omega) ⟨by omega, by omega⟩ hc hF ⟨_, hLp, fun m f q L h9 => ?_⟩ ⟨by omega, fun _ => by omega⟩ hTc6
                first
                | (have h8 := hQ (m + 1) f q _ (Or.inr (Or.inr (Or.inl ⟨by omega, hok, L, h9, rfl⟩)))
                   simpa using h8)
                | (have h8 := hQ (m + 1) f q _ (Or.inr (Or.inr (Or.inr (Or.inl ⟨by omega, hok, L, by rw [if_pos (by omega)]; exact h9, rfl⟩))))
                   simpa using h8)
                | (have h8 := hQ (m + 1) f q _ (Or.inr (Or.inr (Or.inr (Or.inl ⟨by omega, hok, L, by rw [if_neg (by omega)]; exact h9, rfl⟩))))
                   simpa using h8)
                | (have h8 := hQ (m + 1) f q _ (Or.inr (Or.inr (Or.inr (Or.inr (Or.inr (Or.inr ⟨by omega, hok.1, hok.2, L, h9, rfl⟩))))))
                   simpa using h8)
                | (exfalso; omega)
              · have h7 : K j = (42 : Int) := h7
                refine pm_blk hK zmm245 [] 4 120 [(2, 88), (0, 3), (0, i), (0, K j)] [(0, 0), (0, 4), (2, 93)] μc6 [] rfl trivial ?_
                refine pm_call hK zmm245 (180, 0, 248, 2) zM248 (0, 0) [(2, 93), (0, 4), (0, 0)] [] rfl rfl rfl rfl ⟨by omega, by rw [zn248]; omega⟩ (zw_emit hK (o := 4) (v := 0) hTc6 ⟨by omega, by omega⟩ ⟨by omega, by omega⟩ ⟨by omega, by omega⟩ hb93 hb95 ⟨Nat.le_refl _, Nat.le_refl _⟩) (fun st7 μc7 hp7 => ?_)
                obtain ⟨rfl, hTc7, hm7, hn7, hd7⟩ := hp7
                have hc := zCl_e hc hm7
                have hF := zCfx_tr hF (zCfx_e hm7 hn7)
                obtain ⟨hdd, hl8⟩ := hd7 (by omega)
                have hLp := zCd_tr hLp hdd
                refine pm_blk hK zmm245 [] 2 13 [(2, 88), (0, 3), (0, i + 1), (0, K j)] [] μc7 [pm_in (i + 1)] rfl ⟨pm_in_mk (by omega) (by omega), trivial⟩ ?_
                refine pm_hide [3] ?_
                have hlt := hc.2.2.2.1
                refine ih _ (by omega) rfl (by omega) ⟨by omega, by omega⟩ hc hF ⟨_, hLp, fun m f q L h9 => ?_⟩ ⟨by omega, fun _ => by omega⟩ hTc7
                first
                | (have h8 := hQ (m + 1) f q _ (Or.inr (Or.inr (Or.inl ⟨by omega, hok, L, h9, rfl⟩)))
                   simpa using h8)
                | (have h8 := hQ (m + 1) f q _ (Or.inr (Or.inr (Or.inr (Or.inl ⟨by omega, hok, L, by rw [if_pos (by omega)]; exact h9, rfl⟩))))
                   simpa using h8)
                | (have h8 := hQ (m + 1) f q _ (Or.inr (Or.inr (Or.inr (Or.inl ⟨by omega, hok, L, by rw [if_neg (by omega)]; exact h9, rfl⟩))))
                   simpa using h8)
                | (have h8 := hQ (m + 1) f q _ (Or.inr (Or.inr (Or.inr (Or.inr (Or.inr (Or.inr ⟨by omega, hok.1, hok.2, L, h9, rfl⟩))))))
                   simpa using h8)
                | (exfalso; omega)
            · have h6 : x6 = (0 : Int) := h6
              refine pm_blk hK zmm245 [] 1 106 [(2, 88), (0, 3), (0, i), (0, K j)] [] μc6 [] rfl trivial ?_
              obtain ⟨f, f1, hfl⟩ := hB h6
              refine pm_blk hK zmm245 [] 1 107 [(2, 88), (0, 3), (0, i), (0, K j)] [(0, 0)] μc6 [] rfl trivial ?_
              first
              | exact pm_zret rfl rfl (by first | exact Or.inl rfl | exact Or.inr rfl | omega) ⟨0, f, _, _, rfl, hTc6, hF, hQ 1 f _ [] (Or.inr (Or.inl ⟨by omega, f1.2, f1.1, rfl⟩)), Or.inr ⟨rfl, by omega, hfl⟩⟩
              | (rcases f1 with ⟨a1, a2⟩ | ⟨a1, a2, a3⟩
                 · exact pm_zret rfl rfl (by first | exact Or.inl rfl | exact Or.inr rfl | omega) ⟨0, f, _, _, rfl, hTc6, hF, hQ 1 f _ [] (Or.inr (Or.inr (Or.inr (Or.inr (Or.inl ⟨by omega, a2, a1, rfl⟩))))), Or.inr ⟨rfl, by omega, hfl⟩⟩
                 · exact pm_zret rfl rfl (by first | exact Or.inl rfl | exact Or.inr rfl | omega) ⟨0, f, _, _, rfl, hTc6, hF, hQ 1 f _ [] (Or.inr (Or.inr (Or.inr (Or.inr (Or.inr (Or.inl ⟨by omega, a2, a3, a1, rfl⟩)))))), Or.inr ⟨rfl, by omega, hfl⟩⟩)
              | (exfalso; omega)
        · have h2 : K j = (43 : Int) := h2
          refine pm_blk hK zmm245 [] 4 73 [(2, 88), (0, 2), (0, i), (0, K j)] [] μc3 [] rfl trivial ?_
          have hk9 : K j = 43 ∨ K j = 45 ∨ K j = 42 ∨ K j = 47 := by omega
          have h8 := hc.2.2.1
          have hjn : j ≠ N := fun he => by rw [he, hKn.1] at hk9; omega
          have f3 := zT_get hTc3 zs88_8 (i := 8) (by omega) (by omega)
          refine pm_blk hK zmm245 [] 6 83 [(2, 88), (0, 2), (0, i), (0, K j)] [] (pm_up μc3 88 8 ((μc3 88 8) + 1)) [pm_in ((μc3 88 8) + 1), sx_bit Wm 88 = true] rfl ⟨pm_in_mk (by omega) (by omega), hb88, trivial⟩ ?_
          obtain ⟨μ2, eμ2⟩ : ∃ μ', μ' = pm_up μc3 88 8 ((μc3 88 8) + 1) := ⟨_, rfl⟩
          rw [← eμ2]
          have hTμ2 : zTJ φ μ2 := by rw [eμ2]; exact zT_up hTc3 zs88_8 rfl (i := 8) (by omega) (by omega) (by omega) (by omega)
          have hc := zCl_8 (j' := j + 1) hc eμ2 (by rw [h8]) ⟨by omega, by omega⟩
          have hF := zCfx_tr hF (zCfx_f (show zCf μc3 μ2 by rw [eμ2]; exact zCf_88 zCf_refl (by omega)))
          have hz3 : μ2 93 3 = μc3 93 3 := by rw [eμ2, pm_up_off (by decide)]
          have hz5 : μ2 95 = μc3 95 := by rw [eμ2, pm_up_row (by decide)]
          have hz4 : μ2 94 = μc3 94 := by rw [eμ2, pm_up_row (by decide)]
          have hLp := zCd_fr hLp hz5 hz3 hz4
          refine pm_blk hK zmm245 [] 2 86 [(2, 88), (0, 2), (0, i), (0, K j)] [(0, 47), (0, K j)] μ2 [] rfl trivial ?_
          refine pm_icmp hK zmm245 .ne 13 99 rfl rfl (fun h8 => ?_) (fun h8 => ?_)
          · have h8 : K j ≠ (47 : Int) := h8
            refine pm_blk hK zmm245 [] 1 100 [(2, 88), (0, 2), (0, i), (0, K j)] [(2, 88)] μ2 [] rfl trivial ?_
            refine pm_call hK zmm245 (170, 0, 246, 0) zM246 (1, 22) [(2, 88)] [] rfl rfl rfl rfl ⟨by omega, by rw [zn246]; omega⟩ (zw_unit hK (j := j + 1) (j1 := j + 2) hc hKn (by omega) hTμ2 (by omega) hb88 hb93 hb95 ⟨Nat.le_refl _, Nat.le_refl _⟩) (fun st8 μc8 hp8 => ?_)
            obtain ⟨x8, rfl, hTc8, hC8, hA8, hB8⟩ := hp8
            have hx801 : x8 = 0 ∨ x8 = 1 := by by_cases h9 : x8 = 0; exact Or.inl h9; exact Or.inr (hA8 h9).1
            have hF := zCfx_tr hF hC8
            have hA := hA8
            have hB := hB8
            refine pm_if hK zmm245 .ne 5 108 rfl rfl (fun h9 => ?_) (fun h9 => ?_)
            · have h9 : x8 ≠ (0 : Int) := h9
              obtain ⟨-, hok, hc, hdu, hl9⟩ := hA h9
              have hLp := zCd_tr hLp hdu
              have hlt9 := hc.2.2.2.1
              refine pm_blk hK zmm245 [] 2 111 [(2, 88), (0, 2), (0, i), (0, K j)] [(0, 42), (0, K j)] μc8 [] rfl trivial ?_
              refine pm_icmp hK zmm245 .ne 12 123 rfl rfl (fun h10 => ?_) (fun h10 => ?_)
              · have h10 : K j ≠ (42 : Int) := h10
                refine pm_blk hK zmm245 [] 2 13 [(2, 88), (0, 2), (0, i + 1), (0, K j)] [] μc8 [pm_in (i + 1)] rfl ⟨pm_in_mk (by omega) (by omega), trivial⟩ ?_
                refine pm_hide [3] ?_
                have hlt := hc.2.2.2.1
                refine ih _ (by omega) rfl (by omega) ⟨by omega, by omega⟩ hc hF ⟨_, hLp, fun m f q L h9 => ?_⟩ ⟨by omega, fun _ => by omega⟩ hTc8
                first
                | (have h8 := hQ (m + 1) f q _ (Or.inr (Or.inr (Or.inl ⟨by omega, hok, L, h9, rfl⟩)))
                   simpa using h8)
                | (have h8 := hQ (m + 1) f q _ (Or.inr (Or.inr (Or.inr (Or.inl ⟨by omega, hok, L, by rw [if_pos (by omega)]; exact h9, rfl⟩))))
                   simpa using h8)
                | (have h8 := hQ (m + 1) f q _ (Or.inr (Or.inr (Or.inr (Or.inl ⟨by omega, hok, L, by rw [if_neg (by omega)]; exact h9, rfl⟩))))
                   simpa using h8)
                | (have h8 := hQ (m + 1) f q _ (Or.inr (Or.inr (Or.inr (Or.inr (Or.inr (Or.inr ⟨by omega, hok.1, hok.2, L, h9, rfl⟩))))))
                   simpa using h8)
                | (exfalso; omega)
              · have h10 : K j = (42 : Int) := h10
                refine pm_blk hK zmm245 [] 4 120 [(2, 88), (0, 2), (0, i), (0, K j)] [(0, 0), (0, 4), (2, 93)] μc8 [] rfl trivial ?_
                refine pm_call hK zmm245 (180, 0, 248, 2) zM248 (0, 0) [(2, 93), (0, 4), (0, 0)] [] rfl rfl rfl rfl ⟨by omega, by rw [zn248]; omega⟩ (zw_emit hK (o := 4) (v := 0) hTc8 ⟨by omega, by omega⟩ ⟨by omega, by omega⟩ ⟨by omega, by omega⟩ hb93 hb95 ⟨Nat.le_refl _, Nat.le_refl _⟩) (fun st9 μc9 hp9 => ?_)
                obtain ⟨rfl, hTc9, hm9, hn9, hd9⟩ := hp9
                have hc := zCl_e hc hm9
                have hF := zCfx_tr hF (zCfx_e hm9 hn9)
                obtain ⟨hdd, hl8⟩ := hd9 (by omega)
                have hLp := zCd_tr hLp hdd
                refine pm_blk hK zmm245 [] 2 13 [(2, 88), (0, 2), (0, i + 1), (0, K j)] [] μc9 [pm_in (i + 1)] rfl ⟨pm_in_mk (by omega) (by omega), trivial⟩ ?_
                refine pm_hide [3] ?_
                have hlt := hc.2.2.2.1
                refine ih _ (by omega) rfl (by omega) ⟨by omega, by omega⟩ hc hF ⟨_, hLp, fun m f q L h9 => ?_⟩ ⟨by omega, fun _ => by omega⟩ hTc9
                first
                | (have h8 := hQ (m + 1) f q _ (Or.inr (Or.inr (Or.inl ⟨by omega, hok, L, h9, rfl⟩)))
                   simpa using h8)
                | (have h8 := hQ (m + 1) f q _ (Or.inr (Or.inr (Or.inr (Or.inl ⟨by omega, hok, L, by rw [if_pos (by omega)]; exact h9, rfl⟩))))
                   simpa using h8)
                | (have h8 := hQ (m + 1) f q _ (Or.inr (Or.inr (Or.inr (Or.inl ⟨by omega, hok, L, by rw [if_neg (by omega)]; exact h9, rfl⟩))))
                   simpa using h8)
                | (have h8 := hQ (m + 1) f q _ (Or.inr (Or.inr (Or.inr (Or.inr (Or.inr (Or.inr ⟨by omega, hok.1, hok.2, L, h9, rfl⟩))))))
                   simpa using h8)
                | (exfalso; omega)
            · have h9 : x8 = (0 : Int) := h9
              obtain ⟨f, f1, hfl⟩ := hB h9
              refine pm_blk hK zmm245 [] 1 107 [(2, 88), (0, 2), (0, i), (0, K j)] [(0, 0)] μc8 [] rfl trivial ?_
              first
              | exact pm_zret rfl rfl (by first | exact Or.inl rfl | exact Or.inr rfl | omega) ⟨0, f, _, _, rfl, hTc8, hF, hQ 1 f _ [] (Or.inr (Or.inl ⟨by omega, f1.2, f1.1, rfl⟩)), Or.inr ⟨rfl, by omega, hfl⟩⟩
              | (rcases f1 with ⟨a1, a2⟩ | ⟨a1, a2, a3⟩
                 · exact pm_zret rfl rfl (by first | exact Or.inl rfl | exact Or.inr rfl | omega) ⟨0, f, _, _, rfl, hTc8, hF, hQ 1 f _ [] (Or.inr (Or.inr (Or.inr (Or.inr (Or.inl ⟨by omega, a2, a1, rfl⟩))))), Or.inr ⟨rfl, by omega, hfl⟩⟩
                 · exact pm_zret rfl rfl (by first | exact Or.inl rfl | exact Or.inr rfl | omega) ⟨0, f, _, _, rfl, hTc8, hF, hQ 1 f _ [] (Or.inr (Or.inr (Or.inr (Or.inr (Or.inr (Or.inl ⟨by omega, a2, a3, a1, rfl⟩)))))), Or.inr ⟨rfl, by omega, hfl⟩⟩)
              | (exfalso; omega)
          · have h8 : K j = (47 : Int) := h8
            refine pm_blk hK zmm245 [] 1 90 [(2, 88), (0, 2), (0, i), (0, K j)] [(2, 88)] μ2 [] rfl trivial ?_
            refine pm_call hK zmm245 (177, 0, 250, 0) zM250 (1, 22) [(2, 88)] [] rfl rfl rfl rfl ⟨by omega, by rw [zn250]; omega⟩ (zw_div hK (j := j + 1) (j1 := j + 2) hc hKn (by omega) hTμ2 (by omega) hb88 hb93 hb95 ⟨Nat.le_refl _, Nat.le_refl _⟩) (fun st10 μc10 hp10 => ?_)
            obtain ⟨x10, rfl, hTc10, hC10, hA10, hB10⟩ := hp10
            have hx1001 : x10 = 0 ∨ x10 = 1 := by by_cases h9 : x10 = 0; exact Or.inl h9; exact Or.inr (hA10 h9).1
            have hF := zCfx_tr hF hC10
            have hA := hA10
            have hB := hB10
            refine pm_if hK zmm245 .ne 15 108 rfl rfl (fun h11 => ?_) (fun h11 => ?_)
            · have h11 : x10 ≠ (0 : Int) := h11
              obtain ⟨-, hok, hc, hdu, hl9⟩ := hA h11
              have hLp := zCd_tr hLp hdu
              have hlt9 := hc.2.2.2.1
              refine pm_blk hK zmm245 [] 2 111 [(2, 88), (0, 2), (0, i), (0, K j)] [(0, 42), (0, K j)] μc10 [] rfl trivial ?_
              refine pm_icmp hK zmm245 .ne 12 123 rfl rfl (fun h12 => ?_) (fun h12 => ?_)
              · have h12 : K j ≠ (42 : Int) := h12
                refine pm_blk hK zmm245 [] 2 13 [(2, 88), (0, 2), (0, i + 1), (0, K j)] [] μc10 [pm_in (i + 1)] rfl ⟨pm_in_mk (by omega) (by omega), trivial⟩ ?_
                refine pm_hide [3] ?_
                have hlt := hc.2.2.2.1
                refine ih _ (by omega) rfl (by omega) ⟨by omega, by omega⟩ hc hF ⟨_, hLp, fun m f q L h9 => ?_⟩ ⟨by omega, fun _ => by omega⟩ hTc10
                first
                | (have h8 := hQ (m + 1) f q _ (Or.inr (Or.inr (Or.inl ⟨by omega, hok, L, h9, rfl⟩)))
                   simpa using h8)
                | (have h8 := hQ (m + 1) f q _ (Or.inr (Or.inr (Or.inr (Or.inl ⟨by omega, hok, L, by rw [if_pos (by omega)]; exact h9, rfl⟩))))
                   simpa using h8)
                | (have h8 := hQ (m + 1) f q _ (Or.inr (Or.inr (Or.inr (Or.inl ⟨by omega, hok, L, by rw [if_neg (by omega)]; exact h9, rfl⟩))))
                   simpa using h8)
                | (have h8 := hQ (m + 1) f q _ (Or.inr (Or.inr (Or.inr (Or.inr (Or.inr (Or.inr ⟨by omega, hok.1, hok.2, L, h9, rfl⟩))))))
                   simpa using h8)
                | (exfalso; omega)
              · have h12 : K j = (42 : Int) := h12
                refine pm_blk hK zmm245 [] 4 120 [(2, 88), (0, 2), (0, i), (0, K j)] [(0, 0), (0, 4), (2, 93)] μc10 [] rfl trivial ?_
                refine pm_call hK zmm245 (180, 0, 248, 2) zM248 (0, 0) [(2, 93), (0, 4), (0, 0)] [] rfl rfl rfl rfl ⟨by omega, by rw [zn248]; omega⟩ (zw_emit hK (o := 4) (v := 0) hTc10 ⟨by omega, by omega⟩ ⟨by omega, by omega⟩ ⟨by omega, by omega⟩ hb93 hb95 ⟨Nat.le_refl _, Nat.le_refl _⟩) (fun st11 μc11 hp11 => ?_)
                obtain ⟨rfl, hTc11, hm11, hn11, hd11⟩ := hp11
                have hc := zCl_e hc hm11
                have hF := zCfx_tr hF (zCfx_e hm11 hn11)
                obtain ⟨hdd, hl8⟩ := hd11 (by omega)
                have hLp := zCd_tr hLp hdd
                refine pm_blk hK zmm245 [] 2 13 [(2, 88), (0, 2), (0, i + 1), (0, K j)] [] μc11 [pm_in (i + 1)] rfl ⟨pm_in_mk (by omega) (by omega), trivial⟩ ?_
                refine pm_hide [3] ?_
                have hlt := hc.2.2.2.1
                refine ih _ (by omega) rfl (by omega) ⟨by omega, by omega⟩ hc hF ⟨_, hLp, fun m f q L h9 => ?_⟩ ⟨by omega, fun _ => by omega⟩ hTc11
                first
                | (have h8 := hQ (m + 1) f q _ (Or.inr (Or.inr (Or.inl ⟨by omega, hok, L, h9, rfl⟩)))
                   simpa using h8)
                | (have h8 := hQ (m + 1) f q _ (Or.inr (Or.inr (Or.inr (Or.inl ⟨by omega, hok, L, by rw [if_pos (by omega)]; exact h9, rfl⟩))))
                   simpa using h8)
                | (have h8 := hQ (m + 1) f q _ (Or.inr (Or.inr (Or.inr (Or.inl ⟨by omega, hok, L, by rw [if_neg (by omega)]; exact h9, rfl⟩))))
                   simpa using h8)
                | (have h8 := hQ (m + 1) f q _ (Or.inr (Or.inr (Or.inr (Or.inr (Or.inr (Or.inr ⟨by omega, hok.1, hok.2, L, h9, rfl⟩))))))
                   simpa using h8)
                | (exfalso; omega)
            · have h11 : x10 = (0 : Int) := h11
              refine pm_blk hK zmm245 [] 1 106 [(2, 88), (0, 2), (0, i), (0, K j)] [] μc10 [] rfl trivial ?_
              obtain ⟨f, f1, hfl⟩ := hB h11
              refine pm_blk hK zmm245 [] 1 107 [(2, 88), (0, 2), (0, i), (0, K j)] [(0, 0)] μc10 [] rfl trivial ?_
              first
              | exact pm_zret rfl rfl (by first | exact Or.inl rfl | exact Or.inr rfl | omega) ⟨0, f, _, _, rfl, hTc10, hF, hQ 1 f _ [] (Or.inr (Or.inl ⟨by omega, f1.2, f1.1, rfl⟩)), Or.inr ⟨rfl, by omega, hfl⟩⟩
              | (rcases f1 with ⟨a1, a2⟩ | ⟨a1, a2, a3⟩
                 · exact pm_zret rfl rfl (by first | exact Or.inl rfl | exact Or.inr rfl | omega) ⟨0, f, _, _, rfl, hTc10, hF, hQ 1 f _ [] (Or.inr (Or.inr (Or.inr (Or.inr (Or.inl ⟨by omega, a2, a1, rfl⟩))))), Or.inr ⟨rfl, by omega, hfl⟩⟩
                 · exact pm_zret rfl rfl (by first | exact Or.inl rfl | exact Or.inr rfl | omega) ⟨0, f, _, _, rfl, hTc10, hF, hQ 1 f _ [] (Or.inr (Or.inr (Or.inr (Or.inr (Or.inr (Or.inl ⟨by omega, a2, a3, a1, rfl⟩)))))), Or.inr ⟨rfl, by omega, hfl⟩⟩)
              | (exfalso; omega)
      · have h1 : K j ≠ (43 : Int) := h1
        refine pm_blk hK zmm245 [] 2 35 [(2, 88), (0, w), (0, i), (0, K j)] [(0, 45), (0, K j)] μ [] rfl trivial ?_
        refine pm_icmp hK zmm245 .ne 23 58 rfl rfl (fun h13 => ?_) (fun h13 => ?_)
        · have h13 : K j ≠ (45 : Int) := h13
          refine pm_blk hK zmm245 [] 2 61 [(2, 88), (0, w), (0, i), (0, K j)] [(0, 42), (0, K j)] μ [] rfl trivial ?_
          refine pm_icmp hK zmm245 .eq 12 73 rfl rfl (fun h14 => ?_) (fun h14 => ?_)
          · have h14 : K j = (42 : Int) := h14
            have hk9 : K j = 43 ∨ K j = 45 ∨ K j = 42 ∨ K j = 47 := by omega
            have h8 := hc.2.2.1
            have hjn : j ≠ N := fun he => by rw [he, hKn.1] at hk9; omega
            have f4 := zT_get hT zs88_8 (i := 8) (by omega) (by omega)
            refine pm_blk hK zmm245 [] 6 83 [(2, 88), (0, w), (0, i), (0, K j)] [] (pm_up μ 88 8 ((μ 88 8) + 1)) [pm_in ((μ 88 8) + 1), sx_bit Wm 88 = true] rfl ⟨pm_in_mk (by omega) (by omega), hb88, trivial⟩ ?_
            obtain ⟨μ3, eμ3⟩ : ∃ μ', μ' = pm_up μ 88 8 ((μ 88 8) + 1) := ⟨_, rfl⟩
            rw [← eμ3]
            have hTμ3 : zTJ φ μ3 := by rw [eμ3]; exact zT_up hT zs88_8 rfl (i := 8) (by omega) (by omega) (by omega) (by omega)
            have hc := zCl_8 (j' := j + 1) hc eμ3 (by rw [h8]) ⟨by omega, by omega⟩
            have hF := zCfx_tr hF (zCfx_f (show zCf μ μ3 by rw [eμ3]; exact zCf_88 zCf_refl (by omega)))
            have hz3 : μ3 93 3 = μ 93 3 := by rw [eμ3, pm_up_off (by decide)]
            have hz5 : μ3 95 = μ 95 := by rw [eμ3, pm_up_row (by decide)]
            have hz4 : μ3 94 = μ 94 := by rw [eμ3, pm_up_row (by decide)]
            have hLp := zCd_fr hLp hz5 hz3 hz4
            refine pm_blk hK zmm245 [] 2 86 [(2, 88), (0, w), (0, i), (0, K j)] [(0, 47), (0, K j)] μ3 [] rfl trivial ?_
            refine pm_icmp hK zmm245 .ne 13 99 rfl rfl (fun h15 => ?_) (fun h15 => ?_)
            · have h15 : K j ≠ (47 : Int) := h15
              refine pm_blk hK zmm245 [] 1 100 [(2, 88), (0, w), (0, i), (0, K j)] [(2, 88)] μ3 [] rfl trivial ?_
              refine pm_call hK zmm245 (170, 0, 246, 0) zM246 (1, 22) [(2, 88)] [] rfl rfl rfl rfl ⟨by omega, by rw [zn246]; omega⟩ (zw_unit hK (j := j + 1) (j1 := j + 2) hc hKn (by omega) hTμ3 (by omega) hb88 hb93 hb95 ⟨Nat.le_refl _, Nat.le_refl _⟩) (fun st12 μc12 hp12 => ?_)
              obtain ⟨x12, rfl, hTc12, hC12, hA12, hB12⟩ := hp12
              have hx1201 : x12 = 0 ∨ x12 = 1 := by by_cases h9 : x12 = 0; exact Or.inl h9; exact Or.inr (hA12 h9).1
              have hF := zCfx_tr hF hC12
              have hA := hA12
              have hB := hB12
              refine pm_if hK zmm245 .ne 5 108 rfl rfl (fun h16 => ?_) (fun h16 => ?_)
              · have h16 : x12 ≠ (0 : Int) := h16
                obtain ⟨-, hok, hc, hdu, hl9⟩ := hA h16
                have hLp := zCd_tr hLp hdu
                have hlt9 := hc.2.2.2.1
                refine pm_blk hK zmm245 [] 2 111 [(2, 88), (0, w), (0, i), (0, K j)] [(0, 42), (0, K j)] μc12 [] rfl trivial ?_
                refine pm_icmp hK zmm245 .ne 12 123 rfl rfl (fun h17 => ?_) (fun h17 => ?_)
                · have h17 : K j ≠ (42 : Int) := h17
                  refine pm_blk hK zmm245 [] 2 13 [(2, 88), (0, w), (0, i + 1), (0, K j)] [] μc12 [pm_in (i + 1)] rfl ⟨pm_in_mk (by omega) (by omega), trivial⟩ ?_
                  refine pm_hide [3] ?_
                  have hlt := hc.2.2.2.1
                  refine ih _ (by omega) rfl (by omega) ⟨by omega, by omega⟩ hc hF ⟨_, hLp, fun m f q L h9 => ?_⟩ ⟨by omega, fun _ => by omega⟩ hTc12
                  first
                  | (have h8 := hQ (m + 1) f q _ (Or.inr (Or.inr (Or.inl ⟨by omega, hok, L, h9, rfl⟩)))
                     simpa using h8)
                  | (have h8 := hQ (m + 1) f q _ (Or.inr (Or.inr (Or.inr (Or.inl ⟨by omega, hok, L, by rw [if_pos (by omega)]; exact h9, rfl⟩))))
                     simpa using h8)
                  | (have h8 := hQ (m + 1) f q _ (Or.inr (Or.inr (Or.inr (Or.inl ⟨by omega, hok, L, by rw [if_neg (by omega)]; exact h9, rfl⟩))))
                     simpa using h8)
                  | (have h8 := hQ (m + 1) f q _ (Or.inr (Or.inr (Or.inr (Or.inr (Or.inr (Or.inr ⟨by omega, hok.1, hok.2, L, h9, rfl⟩))))))
                     simpa using h8)
                  | (exfalso; omega)
                · have h17 : K j = (42 : Int) := h17
                  refine pm_blk hK zmm245 [] 4 120 [(2, 88), (0, w), (0, i), (0, K j)] [(0, 0), (0, 4), (2, 93)] μc12 [] rfl trivial ?_
                  refine pm_call hK zmm245 (180, 0, 248, 2) zM248 (0, 0) [(2, 93), (0, 4), (0, 0)] [] rfl rfl rfl rfl ⟨by omega, by rw [zn248]; omega⟩ (zw_emit hK (o := 4) (v := 0) hTc12 ⟨by omega, by omega⟩ ⟨by omega, by omega⟩ ⟨by omega, by omega⟩ hb93 hb95 ⟨Nat.le_refl _, Nat.le_refl _⟩) (fun st13 μc13 hp13 => ?_)
                  obtain ⟨rfl, hTc13, hm13, hn13, hd13⟩ := hp13
                  have hc := zCl_e hc hm13
                  have hF := zCfx_tr hF (zCfx_e hm13 hn13)
                  obtain ⟨hdd, hl8⟩ := hd13 (by omega)
                  have hLp := zCd_tr hLp hdd
                  refine pm_blk hK zmm245 [] 2 13 [(2, 88), (0, w), (0, i + 1), (0, K j)] [] μc13 [pm_in (i + 1)] rfl ⟨pm_in_mk (by omega) (by omega), trivial⟩ ?_
                  refine pm_hide [3] ?_
                  have hlt := hc.2.2.2.1
                  refine ih _ (by omega) rfl (by omega) ⟨by omega, by omega⟩ hc hF ⟨_, hLp, fun m f q L h9 => ?_⟩ ⟨by omega, fun _ => by omega⟩ hTc13
                  first
                  | (have h8 := hQ (m + 1) f q _ (Or.inr (Or.inr (Or.inl ⟨by omega, hok, L, h9, rfl⟩)))
                     simpa using h8)
                  | (have h8 := hQ (m + 1) f q _ (Or.inr (Or.inr (Or.inr (Or.inl ⟨by omega, hok, L, by rw [if_pos (by omega)]; exact h9, rfl⟩))))
                     simpa using h8)
                  | (have h8 := hQ (m + 1) f q _ (Or.inr (Or.inr (Or.inr (Or.inl ⟨by omega, hok, L, by rw [if_neg (by omega)]; exact h9, rfl⟩))))
                     simpa using h8)
                  | (have h8 := hQ (m + 1) f q _ (Or.inr (Or.inr (Or.inr (Or.inr (Or.inr (Or.inr ⟨by omega, hok.1, hok.2, L, h9, rfl⟩))))))
                     simpa using h8)
                  | (exfalso; omega)
              · have h16 : x12 = (0 : Int) := h16
                obtain ⟨f, f1, hfl⟩ := hB h16
                refine pm_blk hK zmm245 [] 1 107 [(2, 88), (0, w), (0, i), (0, K j)] [(0, 0)] μc12 [] rfl trivial ?_
                first
                | exact pm_zret rfl rfl (by first | exact Or.inl rfl | exact Or.inr rfl | omega) ⟨0, f, _, _, rfl, hTc12, hF, hQ 1 f _ [] (Or.inr (Or.inl ⟨by omega, f1.2, f1.1, rfl⟩)), Or.inr ⟨rfl, by omega, hfl⟩⟩
                | (rcases f1 with ⟨a1, a2⟩ | ⟨a1, a2, a3⟩
                   · exact pm_zret rfl rfl (by first | exact Or.inl rfl | exact Or.inr rfl | omega) ⟨0, f, _, _, rfl, hTc12, hF, hQ 1 f _ [] (Or.inr (Or.inr (Or.inr (Or.inr (Or.inl ⟨by omega, a2, a1, rfl⟩))))), Or.inr ⟨rfl, by omega, hfl⟩⟩
                   · exact pm_zret rfl rfl (by first | exact Or.inl rfl | exact Or.inr rfl | omega) ⟨0, f, _, _, rfl, hTc12, hF, hQ 1 f _ [] (Or.inr (Or.inr (Or.inr (Or.inr (Or.inr (Or.inl ⟨by omega, a2, a3, a1, rfl⟩)))))), Or.inr ⟨rfl, by omega, hfl⟩⟩)
                | (exfalso; omega)
            · have h15 : K j = (47 : Int) := h15
              refine pm_blk hK zmm245 [] 1 90 [(2, 88), (0, w), (0, i), (0, K j)] [(2, 88)] μ3 [] rfl trivial ?_
              refine pm_call hK zmm245 (177, 0, 250, 0) zM250 (1, 22) [(2, 88)] [] rfl rfl rfl rfl ⟨by omega, by rw [zn250]; omega⟩ (zw_div hK (j := j + 1) (j1 := j + 2) hc hKn (by omega) hTμ3 (by omega) hb88 hb93 hb95 ⟨Nat.le_refl _, Nat.le_refl _⟩) (fun st14 μc14 hp14 => ?_)
              obtain ⟨x14, rfl, hTc14, hC14, hA14, hB14⟩ := hp14
              have hx1401 : x14 = 0 ∨ x14 = 1 := by by_cases h9 : x14 = 0; exact Or.inl h9; exact Or.inr (hA14 h9).1
              have hF := zCfx_tr hF hC14
              have hA := hA14
              have hB := hB14
              refine pm_if hK zmm245 .ne 15 108 rfl rfl (fun h18 => ?_) (fun h18 => ?_)
              · have h18 : x14 ≠ (0 : Int) := h18
                obtain ⟨-, hok, hc, hdu, hl9⟩ := hA h18
                have hLp := zCd_tr hLp hdu
                have hlt9 := hc.2.2.2.1
                refine pm_blk hK zmm245 [] 2 111 [(2, 88), (0, w), (0, i), (0, K j)] [(0, 42), (0, K j)] μc14 [] rfl trivial ?_
                refine pm_icmp hK zmm245 .ne 12 123 rfl rfl (fun h19 => ?_) (fun h19 => ?_)
                · have h19 : K j ≠ (42 : Int) := h19
                  refine pm_blk hK zmm245 [] 2 13 [(2, 88), (0, w), (0, i + 1), (0, K j)] [] μc14 [pm_in (i + 1)] rfl ⟨pm_in_mk (by omega) (by omega), trivial⟩ ?_
                  refine pm_hide [3] ?_
                  have hlt := hc.2.2.2.1
                  refine ih _ (by omega) rfl (by omega) ⟨by omega, by omega⟩ hc hF ⟨_, hLp, fun m f q L h9 => ?_⟩ ⟨by omega, fun _ => by omega⟩ hTc14
                  first
                  | (have h8 := hQ (m + 1) f q _ (Or.inr (Or.inr (Or.inl ⟨by omega, hok, L, h9, rfl⟩)))
                     simpa using h8)
                  | (have h8 := hQ (m + 1) f q _ (Or.inr (Or.inr (Or.inr (Or.inl ⟨by omega, hok, L, by rw [if_pos (by omega)]; exact h9, rfl⟩))))
                     simpa using h8)
                  | (have h8 := hQ (m + 1) f q _ (Or.inr (Or.inr (Or.inr (Or.inl ⟨by omega, hok, L, by rw [if_neg (by omega)]; exact h9, rfl⟩))))
                     simpa using h8)
                  | (have h8 := hQ (m + 1) f q _ (Or.inr (Or.inr (Or.inr (Or.inr (Or.inr (Or.inr ⟨by omega, hok.1, hok.2, L, h9, rfl⟩))))))
                     simpa using h8)
                  | (exfalso; omega)
                · have h19 : K j = (42 : Int) := h19
                  refine pm_blk hK zmm245 [] 4 120 [(2, 88), (0, w), (0, i), (0, K j)] [(0, 0), (0, 4), (2, 93)] μc14 [] rfl trivial ?_
                  refine pm_call hK zmm245 (180, 0, 248, 2) zM248 (0, 0) [(2, 93), (0, 4), (0, 0)] [] rfl rfl rfl rfl ⟨by omega, by rw [zn248]; omega⟩ (zw_emit hK (o := 4) (v := 0) hTc14 ⟨by omega, by omega⟩ ⟨by omega, by omega⟩ ⟨by omega, by omega⟩ hb93 hb95 ⟨Nat.le_refl _, Nat.le_refl _⟩) (fun st15 μc15 hp15 => ?_)
                  obtain ⟨rfl, hTc15, hm15, hn15, hd15⟩ := hp15
                  have hc := zCl_e hc hm15
                  have hF := zCfx_tr hF (zCfx_e hm15 hn15)
                  obtain ⟨hdd, hl8⟩ := hd15 (by omega)
                  have hLp := zCd_tr hLp hdd
                  refine pm_blk hK zmm245 [] 2 13 [(2, 88), (0, w), (0, i + 1), (0, K j)] [] μc15 [pm_in (i + 1)] rfl ⟨pm_in_mk (by omega) (by omega), trivial⟩ ?_
                  refine pm_hide [3] ?_
                  have hlt := hc.2.2.2.1
                  refine ih _ (by omega) rfl (by omega) ⟨by omega, by omega⟩ hc hF ⟨_, hLp, fun m f q L h9 => ?_⟩ ⟨by omega, fun _ => by omega⟩ hTc15
                  first
                  | (have h8 := hQ (m + 1) f q _ (Or.inr (Or.inr (Or.inl ⟨by omega, hok, L, h9, rfl⟩)))
                     simpa using h8)
                  | (have h8 := hQ (m + 1) f q _ (Or.inr (Or.inr (Or.inr (Or.inl ⟨by omega, hok, L, by rw [if_pos (by omega)]; exact h9, rfl⟩))))
                     simpa using h8)
                  | (have h8 := hQ (m + 1) f q _ (Or.inr (Or.inr (Or.inr (Or.inl ⟨by omega, hok, L, by rw [if_neg (by omega)]; exact h9, rfl⟩))))
                     simpa using h8)
                  | (have h8 := hQ (m + 1) f q _ (Or.inr (Or.inr (Or.inr (Or.inr (Or.inr (Or.inr ⟨by omega, hok.1, hok.2, L, h9, rfl⟩))))))
                     simpa using h8)
                  | (exfalso; omega)
              · have h18 : x14 = (0 : Int) := h18
                refine pm_blk hK zmm245 [] 1 106 [(2, 88), (0, w), (0, i), (0, K j)] [] μc14 [] rfl trivial ?_
                obtain ⟨f, f1, hfl⟩ := hB h18
                refine pm_blk hK zmm245 [] 1 107 [(2, 88), (0, w), (0, i), (0, K j)] [(0, 0)] μc14 [] rfl trivial ?_
                first
                | exact pm_zret rfl rfl (by first | exact Or.inl rfl | exact Or.inr rfl | omega) ⟨0, f, _, _, rfl, hTc14, hF, hQ 1 f _ [] (Or.inr (Or.inl ⟨by omega, f1.2, f1.1, rfl⟩)), Or.inr ⟨rfl, by omega, hfl⟩⟩
                | (rcases f1 with ⟨a1, a2⟩ | ⟨a1, a2, a3⟩
                   · exact pm_zret rfl rfl (by first | exact Or.inl rfl | exact Or.inr rfl | omega) ⟨0, f, _, _, rfl, hTc14, hF, hQ 1 f _ [] (Or.inr (Or.inr (Or.inr (Or.inr (Or.inl ⟨by omega, a2, a1, rfl⟩))))), Or.inr ⟨rfl, by omega, hfl⟩⟩
                   · exact pm_zret rfl rfl (by first | exact Or.inl rfl | exact Or.inr rfl | omega) ⟨0, f, _, _, rfl, hTc14, hF, hQ 1 f _ [] (Or.inr (Or.inr (Or.inr (Or.inr (Or.inr (Or.inl ⟨by omega, a2, a3, a1, rfl⟩)))))), Or.inr ⟨rfl, by omega, hfl⟩⟩)
                | (exfalso; omega)
          · have h14 : K j ≠ (42 : Int) := h14
            refine pm_blk hK zmm245 [] 2 67 [(2, 88), (0, w), (0, i), (0, K j)] [(0, 47), (0, K j)] μ [] rfl trivial ?_
            refine pm_icmp hK zmm245 .eq 6 73 rfl rfl (fun h20 => ?_) (fun h20 => ?_)
            · have h20 : K j = (47 : Int) := h20
              have hk9 : K j = 43 ∨ K j = 45 ∨ K j = 42 ∨ K j = 47 := by omega
              have h8 := hc.2.2.1
              have hjn : j ≠ N := fun he => by rw [he, hKn.1] at hk9; omega
              have f5 := zT_get hT zs88_8 (i := 8) (by omega) (by omega)
              refine pm_blk hK zmm245 [] 6 83 [(2, 88), (0, w), (0, i), (0, K j)] [] (pm_up μ 88 8 ((μ 88 8) + 1)) [pm_in ((μ 88 8) + 1), sx_bit Wm 88 = true] rfl ⟨pm_in_mk (by omega) (by omega), hb88, trivial⟩ ?_
              obtain ⟨μ4, eμ4⟩ : ∃ μ', μ' = pm_up μ 88 8 ((μ 88 8) + 1) := ⟨_, rfl⟩
              rw [← eμ4]
              have hTμ4 : zTJ φ μ4 := by rw [eμ4]; exact zT_up hT zs88_8 rfl (i := 8) (by omega) (by omega) (by omega) (by omega)
              have hc := zCl_8 (j' := j + 1) hc eμ4 (by rw [h8]) ⟨by omega, by omega⟩
              have hF := zCfx_tr hF (zCfx_f (show zCf μ μ4 by rw [eμ4]; exact zCf_88 zCf_refl (by omega)))
              have hz3 : μ4 93 3 = μ 93 3 := by rw [eμ4, pm_up_off (by decide)]
              have hz5 : μ4 95 = μ 95 := by rw [eμ4, pm_up_row (by decide)]
              have hz4 : μ4 94 = μ 94 := by rw [eμ4, pm_up_row (by decide)]
              have hLp := zCd_fr hLp hz5 hz3 hz4
              refine pm_blk hK zmm245 [] 2 86 [(2, 88), (0, w), (0, i), (0, K j)] [(0, 47), (0, K j)] μ4 [] rfl trivial ?_
              refine pm_icmp hK zmm245 .ne 13 99 rfl rfl (fun h21 => ?_) (fun h21 => ?_)
              · have h21 : K j ≠ (47 : Int) := h21
                refine pm_blk hK zmm245 [] 1 100 [(2, 88), (0, w), (0, i), (0, K j)] [(2, 88)] μ4 [] rfl trivial ?_
                refine pm_call hK zmm245 (170, 0, 246, 0) zM246 (1, 22) [(2, 88)] [] rfl rfl rfl rfl ⟨by omega, by rw [zn246]; omega⟩ (zw_unit hK (j := j + 1) (j1 := j + 2) hc hKn (by omega) hTμ4 (by omega) hb88 hb93 hb95 ⟨Nat.le_refl _, Nat.le_refl _⟩) (fun st16 μc16 hp16 => ?_)
                obtain ⟨x16, rfl, hTc16, hC16, hA16, hB16⟩ := hp16
                have hx1601 : x16 = 0 ∨ x16 = 1 := by by_cases h9 : x16 = 0; exact Or.inl h9; exact Or.inr (hA16 h9).1
                have hF := zCfx_tr hF hC16
                have hA := hA16
                have hB := hB16
                refine pm_if hK zmm245 .ne 5 108 rfl rfl (fun h22 => ?_) (fun h22 => ?_)
                · have h22 : x16 ≠ (0 : Int) := h22
                  obtain ⟨-, hok, hc, hdu, hl9⟩ := hA h22
                  have hLp := zCd_tr hLp hdu
                  have hlt9 := hc.2.2.2.1
                  refine pm_blk hK zmm245 [] 2 111 [(2, 88), (0, w), (0, i), (0, K j)] [(0, 42), (0, K j)] μc16 [] rfl trivial ?_
                  refine pm_icmp hK zmm245 .ne 12 123 rfl rfl (fun h23 => ?_) (fun h23 => ?_)
                  · have h23 : K j ≠ (42 : Int) := h23
                    refine pm_blk hK zmm245 [] 2 13 [(2, 88), (0, w), (0, i + 1), (0, K j)] [] μc16 [pm_in (i + 1)] rfl ⟨pm_in_mk (by omega) (by omega), trivial⟩ ?_
                    refine pm_hide [3] ?_
                    have hlt := hc.2.2.2.1
                    refine ih _ (by omega) rfl (by omega) ⟨by omega, by omega⟩ hc hF ⟨_, hLp, fun m f q L h9 => ?_⟩ ⟨by omega, fun _ => by omega⟩ hTc16
                    first
                    | (have h8 := hQ (m + 1) f q _ (Or.inr (Or.inr (Or.inl ⟨by omega, hok, L, h9, rfl⟩)))
                       simpa using h8)
                    | (have h8 := hQ (m + 1) f q _ (Or.inr (Or.inr (Or.inr (Or.inl ⟨by omega, hok, L, by rw [if_pos (by omega)]; exact h9, rfl⟩))))
                       simpa using h8)
                    | (have h8 := hQ (m + 1) f q _ (Or.inr (Or.inr (Or.inr (Or.inl ⟨by omega, hok, L, by rw [if_neg (by omega)]; exact h9, rfl⟩))))
                       simpa using h8)
                    | (have h8 := hQ (m + 1) f q _ (Or.inr (Or.inr (Or.inr (Or.inr (Or.inr (Or.inr ⟨by omega, hok.1, hok.2, L, h9, rfl⟩))))))
                       simpa using h8)
                    | (exfalso; omega)
                  · have h23 : K j = (42 : Int) := h23
                    refine pm_blk hK zmm245 [] 4 120 [(2, 88), (0, w), (0, i), (0, K j)] [(0, 0), (0, 4), (2, 93)] μc16 [] rfl trivial ?_
                    refine pm_call hK zmm245 (180, 0, 248, 2) zM248 (0, 0) [(2, 93), (0, 4), (0, 0)] [] rfl rfl rfl rfl ⟨by omega, by rw [zn248]; omega⟩ (zw_emit hK (o := 4) (v := 0) hTc16 ⟨by omega, by omega⟩ ⟨by omega, by omega⟩ ⟨by omega, by omega⟩ hb93 hb95 ⟨Nat.le_refl _, Nat.le_refl _⟩) (fun st17 μc17 hp17 => ?_)
                    obtain ⟨rfl, hTc17, hm17, hn17, hd17⟩ := hp17
                    have hc := zCl_e hc hm17
                    have hF := zCfx_tr hF (zCfx_e hm17 hn17)
                    obtain ⟨hdd, hl8⟩ := hd17 (by omega)
                    have hLp := zCd_tr hLp hdd
                    refine pm_blk hK zmm245 [] 2 13 [(2, 88), (0, w), (0, i + 1), (0, K j)] [] μc17 [pm_in (i + 1)] rfl ⟨pm_in_mk (by omega) (by omega), trivial⟩ ?_
                    refine pm_hide [3] ?_
                    have hlt := hc.2.2.2.1
                    refine ih _ (by omega) rfl (by omega) ⟨by omega, by omega⟩ hc hF ⟨_, hLp, fun m f q L h9 => ?_⟩ ⟨by omega, fun _ => by omega⟩ hTc17
                    first
                    | (have h8 := hQ (m + 1) f q _ (Or.inr (Or.inr (Or.inl ⟨by omega, hok, L, h9, rfl⟩)))
                       simpa using h8)
                    | (have h8 := hQ (m + 1) f q _ (Or.inr (Or.inr (Or.inr (Or.inl ⟨by omega, hok, L, by rw [if_pos (by omega)]; exact h9, rfl⟩))))
                       simpa using h8)
                    | (have h8 := hQ (m + 1) f q _ (Or.inr (Or.inr (Or.inr (Or.inl ⟨by omega, hok, L, by rw [if_neg (by omega)]; exact h9, rfl⟩))))
                       simpa using h8)
                    | (have h8 := hQ (m + 1) f q _ (Or.inr (Or.inr (Or.inr (Or.inr (Or.inr (Or.inr ⟨by omega, hok.1, hok.2, L, h9, rfl⟩))))))
                       simpa using h8)
                    | (exfalso; omega)
                · have h22 : x16 = (0 : Int) := h22
                  obtain ⟨f, f1, hfl⟩ := hB h22
                  refine pm_blk hK zmm245 [] 1 107 [(2, 88), (0, w), (0, i), (0, K j)] [(0, 0)] μc16 [] rfl trivial ?_
                  first
                  | exact pm_zret rfl rfl (by first | exact Or.inl rfl | exact Or.inr rfl | omega) ⟨0, f, _, _, rfl, hTc16, hF, hQ 1 f _ [] (Or.inr (Or.inl ⟨by omega, f1.2, f1.1, rfl⟩)), Or.inr ⟨rfl, by omega, hfl⟩⟩
                  | (rcases f1 with ⟨a1, a2⟩ | ⟨a1, a2, a3⟩
                     · exact pm_zret rfl rfl (by first | exact Or.inl rfl | exact Or.inr rfl | omega) ⟨0, f, _, _, rfl, hTc16, hF, hQ 1 f _ [] (Or.inr (Or.inr (Or.inr (Or.inr (Or.inl ⟨by omega, a2, a1, rfl⟩))))), Or.inr ⟨rfl, by omega, hfl⟩⟩
                     · exact pm_zret rfl rfl (by first | exact Or.inl rfl | exact Or.inr rfl | omega) ⟨0, f, _, _, rfl, hTc16, hF, hQ 1 f _ [] (Or.inr (Or.inr (Or.inr (Or.inr (Or.inr (Or.inl ⟨by omega, a2, a3, a1, rfl⟩)))))), Or.inr ⟨rfl, by omega, hfl⟩⟩)
                  | (exfalso; omega)
              · have h21 : K j = (47 : Int) := h21
                refine pm_blk hK zmm245 [] 1 90 [(2, 88), (0, w), (0, i), (0, K j)] [(2, 88)] μ4 [] rfl trivial ?_
                refine pm_call hK zmm245 (177, 0, 250, 0) zM250 (1, 22) [(2, 88)] [] rfl rfl rfl rfl ⟨by omega, by rw [zn250]; omega⟩ (zw_div hK (j := j + 1) (j1 := j + 2) hc hKn (by omega) hTμ4 (by omega) hb88 hb93 hb95 ⟨Nat.le_refl _, Nat.le_refl _⟩) (fun st18 μc18 hp18 => ?_)
                obtain ⟨x18, rfl, hTc18, hC18, hA18, hB18⟩ := hp18
                have hx1801 : x18 = 0 ∨ x18 = 1 := by by_cases h9 : x18 = 0; exact Or.inl h9; exact Or.inr (hA18 h9).1
                have hF := zCfx_tr hF hC18
                have hA := hA18
                have hB := hB18
                refine pm_if hK zmm245 .ne 15 108 rfl rfl (fun h24 => ?_) (fun h24 => ?_)
                · have h24 : x18 ≠ (0 : Int) := h24
                  obtain ⟨-, hok, hc, hdu, hl9⟩ := hA h24
                  have hLp := zCd_tr hLp hdu
                  have hlt9 := hc.2.2.2.1
                  refine pm_blk hK zmm245 [] 2 111 [(2, 88), (0, w), (0, i), (0, K j)] [(0, 42), (0, K j)] μc18 [] rfl trivial ?_
                  refine pm_icmp hK zmm245 .ne 12 123 rfl rfl (fun h25 => ?_) (fun h25 => ?_)
                  · have h25 : K j ≠ (42 : Int) := h25
                    refine pm_blk hK zmm245 [] 2 13 [(2, 88), (0, w), (0, i + 1), (0, K j)] [] μc18 [pm_in (i + 1)] rfl ⟨pm_in_mk (by omega) (by omega), trivial⟩ ?_
                    refine pm_hide [3] ?_
                    have hlt := hc.2.2.2.1
                    refine ih _ (by omega) rfl (by omega) ⟨by omega, by omega⟩ hc hF ⟨_, hLp, fun m f q L h9 => ?_⟩ ⟨by omega, fun _ => by omega⟩ hTc18
                    first
                    | (have h8 := hQ (m + 1) f q _ (Or.inr (Or.inr (Or.inl ⟨by omega, hok, L, h9, rfl⟩)))
                       simpa using h8)
                    | (have h8 := hQ (m + 1) f q _ (Or.inr (Or.inr (Or.inr (Or.inl ⟨by omega, hok, L, by rw [if_pos (by omega)]; exact h9, rfl⟩))))
                       simpa using h8)
                    | (have h8 := hQ (m + 1) f q _ (Or.inr (Or.inr (Or.inr (Or.inl ⟨by omega, hok, L, by rw [if_neg (by omega)]; exact h9, rfl⟩))))
                       simpa using h8)
                    | (have h8 := hQ (m + 1) f q _ (Or.inr (Or.inr (Or.inr (Or.inr (Or.inr (Or.inr ⟨by omega, hok.1, hok.2, L, h9, rfl⟩))))))
                       simpa using h8)
                    | (exfalso; omega)
                  · have h25 : K j = (42 : Int) := h25
                    refine pm_blk hK zmm245 [] 4 120 [(2, 88), (0, w), (0, i), (0, K j)] [(0, 0), (0, 4), (2, 93)] μc18 [] rfl trivial ?_
                    refine pm_call hK zmm245 (180, 0, 248, 2) zM248 (0, 0) [(2, 93), (0, 4), (0, 0)] [] rfl rfl rfl rfl ⟨by omega, by rw [zn248]; omega⟩ (zw_emit hK (o := 4) (v := 0) hTc18 ⟨by omega, by omega⟩ ⟨by omega, by omega⟩ ⟨by omega, by omega⟩ hb93 hb95 ⟨Nat.le_refl _, Nat.le_refl _⟩) (fun st19 μc19 hp19 => ?_)
                    obtain ⟨rfl, hTc19, hm19, hn19, hd19⟩ := hp19
                    have hc := zCl_e hc hm19
                    have hF := zCfx_tr hF (zCfx_e hm19 hn19)
                    obtain ⟨hdd, hl8⟩ := hd19 (by omega)
                    have hLp := zCd_tr hLp hdd
                    refine pm_blk hK zmm245 [] 2 13 [(2, 88), (0, w), (0, i + 1), (0, K j)] [] μc19 [pm_in (i + 1)] rfl ⟨pm_in_mk (by omega) (by omega), trivial⟩ ?_
                    refine pm_hide [3] ?_
                    have hlt := hc.2.2.2.1
                    refine ih _ (by omega) rfl (by omega) ⟨by omega, by omega⟩ hc hF ⟨_, hLp, fun m f q L h9 => ?_⟩ ⟨by omega, fun _ => by omega⟩ hTc19
                    first
                    | (have h8 := hQ (m + 1) f q _ (Or.inr (Or.inr (Or.inl ⟨by omega, hok, L, h9, rfl⟩)))
                       simpa using h8)
                    | (have h8 := hQ (m + 1) f q _ (Or.inr (Or.inr (Or.inr (Or.inl ⟨by omega, hok, L, by rw [if_pos (by omega)]; exact h9, rfl⟩))))
                       simpa using h8)
                    | (have h8 := hQ (m + 1) f q _ (Or.inr (Or.inr (Or.inr (Or.inl ⟨by omega, hok, L, by rw [if_neg (by omega)]; exact h9, rfl⟩))))
                       simpa using h8)
                    | (have h8 := hQ (m + 1) f q _ (Or.inr (Or.inr (Or.inr (Or.inr (Or.inr (Or.inr ⟨by omega, hok.1, hok.2, L, h9, rfl⟩))))))
                       simpa using h8)
                    | (exfalso; omega)
                · have h24 : x18 = (0 : Int) := h24
                  refine pm_blk hK zmm245 [] 1 106 [(2, 88), (0, w), (0, i), (0, K j)] [] μc18 [] rfl trivial ?_
                  obtain ⟨f, f1, hfl⟩ := hB h24
                  refine pm_blk hK zmm245 [] 1 107 [(2, 88), (0, w), (0, i), (0, K j)] [(0, 0)] μc18 [] rfl trivial ?_
                  first
                  | exact pm_zret rfl rfl (by first | exact Or.inl rfl | exact Or.inr rfl | omega) ⟨0, f, _, _, rfl, hTc18, hF, hQ 1 f _ [] (Or.inr (Or.inl ⟨by omega, f1.2, f1.1, rfl⟩)), Or.inr ⟨rfl, by omega, hfl⟩⟩
                  | (rcases f1 with ⟨a1, a2⟩ | ⟨a1, a2, a3⟩
                     · exact pm_zret rfl rfl (by first | exact Or.inl rfl | exact Or.inr rfl | omega) ⟨0, f, _, _, rfl, hTc18, hF, hQ 1 f _ [] (Or.inr (Or.inr (Or.inr (Or.inr (Or.inl ⟨by omega, a2, a1, rfl⟩))))), Or.inr ⟨rfl, by omega, hfl⟩⟩
                     · exact pm_zret rfl rfl (by first | exact Or.inl rfl | exact Or.inr rfl | omega) ⟨0, f, _, _, rfl, hTc18, hF, hQ 1 f _ [] (Or.inr (Or.inr (Or.inr (Or.inr (Or.inr (Or.inl ⟨by omega, a2, a3, a1, rfl⟩)))))), Or.inr ⟨rfl, by omega, hfl⟩⟩)
                  | (exfalso; omega)
            · have h20 : K j ≠ (47 : Int) := h20
              refine pm_blk hK zmm245 [] 3 131 [(2, 88), (0, w), (0, i), (0, K j)] [(0, w), (2, 88)] μ [] rfl trivial ?_
              refine pm_call hK zmm245 (173, 0, 249, 1) zM249 (1, 22) [(2, 88), (0, w)] [] rfl rfl rfl rfl ⟨by omega, by rw [zn249]; omega⟩ (zw_wait hK (o := w) hT (by omega) hb93 hb95 ⟨Nat.le_refl _, Nat.le_refl _⟩) (fun st20 μc20 hp20 => ?_)
              obtain ⟨rfl, hTc20, hm20, hn20, hd20⟩ := hp20
              have hc := zCl_e hc hm20
              have hF := zCfx_tr hF (zCfx_e hm20 hn20)
              obtain ⟨hdw, hw3⟩ := hd20 (by omega)
              have hLp := zCd_tr hLp hdw
              refine pm_blk hK zmm245 [] 1 135 [(2, 88), (0, w), (0, i), (0, K j)] [(0, 1)] μc20 [] rfl trivial ?_
              exact pm_zret rfl rfl (by first | exact Or.inl rfl | exact Or.inr rfl | omega) ⟨1, 0, j, _, rfl, hTc20, hF, hQ 1 0 j _ (Or.inl ⟨by omega, by omega, by omega, by omega, rfl, rfl, rfl⟩), Or.inl ⟨rfl, rfl, hc, hLp, by omega⟩⟩
        · have h13 : K j = (45 : Int) := h13
          have hk9 : K j = 43 ∨ K j = 45 ∨ K j = 42 ∨ K j = 47 := by omega
          refine pm_blk hK zmm245 [] 2 40 [(2, 88), (0, w), (0, i), (0, K j)] [(0, w), (2, 88)] μ [] rfl trivial ?_
          refine pm_call hK zmm245 (173, 0, 249, 1) zM249 (1, 22) [(2, 88), (0, w)] [] rfl rfl rfl rfl ⟨by omega, by rw [zn249]; omega⟩ (zw_wait hK (o := w) hT (by omega) hb93 hb95 ⟨Nat.le_refl _, Nat.le_refl _⟩) (fun st21 μc21 hp21 => ?_)
          obtain ⟨rfl, hTc21, hm21, hn21, hd21⟩ := hp21
          have hc := zCl_e hc hm21
          have hF := zCfx_tr hF (zCfx_e hm21 hn21)
          obtain ⟨hdw, hw3⟩ := hd21 (by omega)
          have hLp := zCd_tr hLp hdw
          refine pm_blk hK zmm245 [] 2 46 [(2, 88), (0, w), (0, i), (0, K j)] [(0, 43), (0, K j)] μc21 [] rfl trivial ?_
          refine pm_icmp hK zmm245 .ne 7 53 rfl rfl (fun h26 => ?_) (fun h26 => ?_)
          · have h26 : K j ≠ (43 : Int) := h26
            refine pm_blk hK zmm245 [] 3 73 [(2, 88), (0, 3), (0, i), (0, K j)] [] μc21 [] rfl trivial ?_
            have hk9 : K j = 43 ∨ K j = 45 ∨ K j = 42 ∨ K j = 47 := by omega
            have h8 := hc.2.2.1
            have hjn : j ≠ N := fun he => by rw [he, hKn.1] at hk9; omega
            have f6 := zT_get hTc21 zs88_8 (i := 8) (by omega) (by omega)
            refine pm_blk hK zmm245 [] 6 83 [(2, 88), (0, 3), (0, i), (0, K j)] [] (pm_up μc21 88 8 ((μc21 88 8) + 1)) [pm_in ((μc21 88 8) + 1), sx_bit Wm 88 = true] rfl ⟨pm_in_mk (by omega) (by omega), hb88, trivial⟩ ?_
            obtain ⟨μ5, eμ5⟩ : ∃ μ', μ' = pm_up μc21 88 8 ((μc21 88 8) + 1) := ⟨_, rfl⟩
            rw [← eμ5]
            have hTμ5 : zTJ φ μ5 := by rw [eμ5]; exact zT_up hTc21 zs88_8 rfl (i := 8) (by omega) (by omega) (by omega) (by omega)
            have hc := zCl_8 (j' := j + 1) hc eμ5 (by rw [h8]) ⟨by omega, by omega⟩
            have hF := zCfx_tr hF (zCfx_f (show zCf μc21 μ5 by rw [eμ5]; exact zCf_88 zCf_refl (by omega)))
            have hz3 : μ5 93 3 = μc21 93 3 := by rw [eμ5, pm_up_off (by decide)]
            have hz5 : μ5 95 = μc21 95 := by rw [eμ5, pm_up_row (by decide)]
            have hz4 : μ5 94 = μc21 94 := by rw [eμ5, pm_up_row (by decide)]
            have hLp := zCd_fr hLp hz5 hz3 hz4
            refine pm_blk hK zmm245 [] 2 86 [(2, 88), (0, 3), (0, i), (0, K j)] [(0, 47), (0, K j)] μ5 [] rfl trivial ?_
            refine pm_icmp hK zmm245 .ne 13 99 rfl rfl (fun h27 => ?_) (fun h27 => ?_)
            · have h27 : K j ≠ (47 : Int) := h27
              refine pm_blk hK zmm245 [] 1 100 [(2, 88), (0, 3), (0, i), (0, K j)] [(2, 88)] μ5 [] rfl trivial ?_
              refine pm_call hK zmm245 (170, 0, 246, 0) zM246 (1, 22) [(2, 88)] [] rfl rfl rfl rfl ⟨by omega, by rw [zn246]; omega⟩ (zw_unit hK (j := j + 1) (j1 := j + 2) hc hKn (by omega) hTμ5 (by omega) hb88 hb93 hb95 ⟨Nat.le_refl _, Nat.le_refl _⟩) (fun st22 μc22 hp22 => ?_)
              obtain ⟨x22, rfl, hTc22, hC22, hA22, hB22⟩ := hp22
              have hx2201 : x22 = 0 ∨ x22 = 1 := by by_cases h9 : x22 = 0; exact Or.inl h9; exact Or.inr (hA22 h9).1
              have hF := zCfx_tr hF hC22
              have hA := hA22
              have hB := hB22
              refine pm_if hK zmm245 .ne 5 108 rfl rfl (fun h28 => ?_) (fun h28 => ?_)
              · have h28 : x22 ≠ (0 : Int) := h28
                obtain ⟨-, hok, hc, hdu, hl9⟩ := hA h28
                have hLp := zCd_tr hLp hdu
                have hlt9 := hc.2.2.2.1
                refine pm_blk hK zmm245 [] 2 111 [(2, 88), (0, 3), (0, i), (0, K j)] [(0, 42), (0, K j)] μc22 [] rfl trivial ?_
                refine pm_icmp hK zmm245 .ne 12 123 rfl rfl (fun h29 => ?_) (fun h29 => ?_)
                · have h29 : K j ≠ (42 : Int) := h29
                  refine pm_blk hK zmm245 [] 2 13 [(2, 88), (0, 3), (0, i + 1), (0, K j)] [] μc22 [pm_in (i + 1)] rfl ⟨pm_in_mk (by omega) (by omega), trivial⟩ ?_
                  refine pm_hide [3] ?_
                  have hlt := hc.2.2.2.1
                  refine ih _ (by omega) rfl (by omega) ⟨by omega, by omega⟩ hc hF ⟨_, hLp, fun m f q L h9 => ?_⟩ ⟨by omega, fun _ => by omega⟩ hTc22
                  first
                  | (have h8 := hQ (m + 1) f q _ (Or.inr (Or.inr (Or.inl ⟨by omega, hok, L, h9, rfl⟩)))
                     simpa using h8)
                  | (have h8 := hQ (m + 1) f q _ (Or.inr (Or.inr (Or.inr (Or.inl ⟨by omega, hok, L, by rw [if_pos (by omega)]; exact h9, rfl⟩))))
                     simpa using h8)
                  | (have h8 := hQ (m + 1) f q _ (Or.inr (Or.inr (Or.inr (Or.inl ⟨by omega, hok, L, by rw [if_neg (by omega)]; exact h9, rfl⟩))))
                     simpa using h8)
                  | (have h8 := hQ (m + 1) f q _ (Or.inr (Or.inr (Or.inr (Or.inr (Or.inr (Or.inr ⟨by omega, hok.1, hok.2, L, h9, rfl⟩))))))
                     simpa using h8)
                  | (exfalso; omega)
                · have h29 : K j = (42 : Int) := h29
                  refine pm_blk hK zmm245 [] 4 120 [(2, 88), (0, 3), (0, i), (0, K j)] [(0, 0), (0, 4), (2, 93)] μc22 [] rfl trivial ?_
                  refine pm_call hK zmm245 (180, 0, 248, 2) zM248 (0, 0) [(2, 93), (0, 4), (0, 0)] [] rfl rfl rfl rfl ⟨by omega, by rw [zn248]; omega⟩ (zw_emit hK (o := 4) (v := 0) hTc22 ⟨by omega, by omega⟩ ⟨by omega, by omega⟩ ⟨by omega, by omega⟩ hb93 hb95 ⟨Nat.le_refl _, Nat.le_refl _⟩) (fun st23 μc23 hp23 => ?_)
                  obtain ⟨rfl, hTc23, hm23, hn23, hd23⟩ := hp23
                  have hc := zCl_e hc hm23
                  have hF := zCfx_tr hF (zCfx_e hm23 hn23)
                  obtain ⟨hdd, hl8⟩ := hd23 (by omega)
                  have hLp := zCd_tr hLp hdd
                  refine pm_blk hK zmm245 [] 2 13 [(2, 88), (0, 3), (0, i + 1), (0, K j)] [] μc23 [pm_in (i + 1)] rfl ⟨pm_in_mk (by omega) (by omega), trivial⟩ ?_
                  refine pm_hide [3] ?_
                  have hlt := hc.2.2.2.1
                  refine ih _ (by omega) rfl (by omega) ⟨by omega, by omega⟩ hc hF ⟨_, hLp, fun m f q L h9 => ?_⟩ ⟨by omega, fun _ => by omega⟩ hTc23
                  first
                  | (have h8 := hQ (m + 1) f q _ (Or.inr (Or.inr (Or.inl ⟨by omega, hok, L, h9, rfl⟩)))
                     simpa using h8)
                  | (have h8 := hQ (m + 1) f q _ (Or.inr (Or.inr (Or.inr (Or.inl ⟨by omega, hok, L, by rw [if_pos (by omega)]; exact h9, rfl⟩))))
                     simpa using h8)
                  | (have h8 := hQ (m + 1) f q _ (Or.inr (Or.inr (Or.inr (Or.inl ⟨by omega, hok, L, by rw [if_neg (by omega)]; exact h9, rfl⟩))))
                     simpa using h8)
                  | (have h8 := hQ (m + 1) f q _ (Or.inr (Or.inr (Or.inr (Or.inr (Or.inr (Or.inr ⟨by omega, hok.1, hok.2, L, h9, rfl⟩))))))
                     simpa using h8)
                  | (exfalso; omega)
              · have h28 : x22 = (0 : Int) := h28
                obtain ⟨f, f1, hfl⟩ := hB h28
                refine pm_blk hK zmm245 [] 1 107 [(2, 88), (0, 3), (0, i), (0, K j)] [(0, 0)] μc22 [] rfl trivial ?_
                first
                | exact pm_zret rfl rfl (by first | exact Or.inl rfl | exact Or.inr rfl | omega) ⟨0, f, _, _, rfl, hTc22, hF, hQ 1 f _ [] (Or.inr (Or.inl ⟨by omega, f1.2, f1.1, rfl⟩)), Or.inr ⟨rfl, by omega, hfl⟩⟩
                | (rcases f1 with ⟨a1, a2⟩ | ⟨a1, a2, a3⟩
                   · exact pm_zret rfl rfl (by first | exact Or.inl rfl | exact Or.inr rfl | omega) ⟨0, f, _, _, rfl, hTc22, hF, hQ 1 f _ [] (Or.inr (Or.inr (Or.inr (Or.inr (Or.inl ⟨by omega, a2, a1, rfl⟩))))), Or.inr ⟨rfl, by omega, hfl⟩⟩
                   · exact pm_zret rfl rfl (by first | exact Or.inl rfl | exact Or.inr rfl | omega) ⟨0, f, _, _, rfl, hTc22, hF, hQ 1 f _ [] (Or.inr (Or.inr (Or.inr (Or.inr (Or.inr (Or.inl ⟨by omega, a2, a3, a1, rfl⟩)))))), Or.inr ⟨rfl, by omega, hfl⟩⟩)
                | (exfalso; omega)
            · have h27 : K j = (47 : Int) := h27
              refine pm_blk hK zmm245 [] 1 90 [(2, 88), (0, 3), (0, i), (0, K j)] [(2, 88)] μ5 [] rfl trivial ?_
              refine pm_call hK zmm245 (177, 0, 250, 0) zM250 (1, 22) [(2, 88)] [] rfl rfl rfl rfl ⟨by omega, by rw [zn250]; omega⟩ (zw_div hK (j := j + 1) (j1 := j + 2) hc hKn (by omega) hTμ5 (by omega) hb88 hb93 hb95 ⟨Nat.le_refl _, Nat.le_refl _⟩) (fun st24 μc24 hp24 => ?_)
              obtain ⟨x24, rfl, hTc24, hC24, hA24, hB24⟩ := hp24
              have hx2401 : x24 = 0 ∨ x24 = 1 := by by_cases h9 : x24 = 0; exact Or.inl h9; exact Or.inr (hA24 h9).1
              have hF := zCfx_tr hF hC24
              have hA := hA24
              have hB := hB24
              refine pm_if hK zmm245 .ne 15 108 rfl rfl (fun h30 => ?_) (fun h30 => ?_)
              · have h30 : x24 ≠ (0 : Int) := h30
                obtain ⟨-, hok, hc, hdu, hl9⟩ := hA h30
                have hLp := zCd_tr hLp hdu
                have hlt9 := hc.2.2.2.1
                refine pm_blk hK zmm245 [] 2 111 [(2, 88), (0, 3), (0, i), (0, K j)] [(0, 42), (0, K j)] μc24 [] rfl trivial ?_
                refine pm_icmp hK zmm245 .ne 12 123 rfl rfl (fun h31 => ?_) (fun h31 => ?_)
                · have h31 : K j ≠ (42 : Int) := h31
                  refine pm_blk hK zmm245 [] 2 13 [(2, 88), (0, 3), (0, i + 1), (0, K j)] [] μc24 [pm_in (i + 1)] rfl ⟨pm_in_mk (by omega) (by omega), trivial⟩ ?_
                  refine pm_hide [3] ?_
                  have hlt := hc.2.2.2.1
                  refine ih _ (by omega) rfl (by omega) ⟨by omega, by omega⟩ hc hF ⟨_, hLp, fun m f q L h9 => ?_⟩ ⟨by omega, fun _ => by omega⟩ hTc24
                  first
                  | (have h8 := hQ (m + 1) f q _ (Or.inr (Or.inr (Or.inl ⟨by omega, hok, L, h9, rfl⟩)))
                     simpa using h8)
                  | (have h8 := hQ (m + 1) f q _ (Or.inr (Or.inr (Or.inr (Or.inl ⟨by omega, hok, L, by rw [if_pos (by omega)]; exact h9, rfl⟩))))
                     simpa using h8)
                  | (have h8 := hQ (m + 1) f q _ (Or.inr (Or.inr (Or.inr (Or.inl ⟨by omega, hok, L, by rw [if_neg (by omega)]; exact h9, rfl⟩))))
                     simpa using h8)
                  | (have h8 := hQ (m + 1) f q _ (Or.inr (Or.inr (Or.inr (Or.inr (Or.inr (Or.inr ⟨by omega, hok.1, hok.2, L, h9, rfl⟩))))))
                     simpa using h8)
                  | (exfalso; omega)
                · have h31 : K j = (42 : Int) := h31
                  refine pm_blk hK zmm245 [] 4 120 [(2, 88), (0, 3), (0, i), (0, K j)] [(0, 0), (0, 4), (2, 93)] μc24 [] rfl trivial ?_
                  refine pm_call hK zmm245 (180, 0, 248, 2) zM248 (0, 0) [(2, 93), (0, 4), (0, 0)] [] rfl rfl rfl rfl ⟨by omega, by rw [zn248]; omega⟩ (zw_emit hK (o := 4) (v := 0) hTc24 ⟨by omega, by omega⟩ ⟨by omega, by omega⟩ ⟨by omega, by omega⟩ hb93 hb95 ⟨Nat.le_refl _, Nat.le_refl _⟩) (fun st25 μc25 hp25 => ?_)
                  obtain ⟨rfl, hTc25, hm25, hn25, hd25⟩ := hp25
                  have hc := zCl_e hc hm25
                  have hF := zCfx_tr hF (zCfx_e hm25 hn25)
                  obtain ⟨hdd, hl8⟩ := hd25 (by omega)
                  have hLp := zCd_tr hLp hdd
                  refine pm_blk hK zmm245 [] 2 13 [(2, 88), (0, 3), (0, i + 1), (0, K j)] [] μc25 [pm_in (i + 1)] rfl ⟨pm_in_mk (by omega) (by omega), trivial⟩ ?_
                  refine pm_hide [3] ?_
                  have hlt := hc.2.2.2.1
                  refine ih _ (by omega) rfl (by omega) ⟨by omega, by omega⟩ hc hF ⟨_, hLp, fun m f q L h9 => ?_⟩ ⟨by omega, fun _ => by omega⟩ hTc25
                  first
                  | (have h8 := hQ (m + 1) f q _ (Or.inr (Or.inr (Or.inl ⟨by omega, hok, L, h9, rfl⟩)))
                     simpa using h8)
                  | (have h8 := hQ (m + 1) f q _ (Or.inr (Or.inr (Or.inr (Or.inl ⟨by omega, hok, L, by rw [if_pos (by omega)]; exact h9, rfl⟩))))
                     simpa using h8)
                  | (have h8 := hQ (m + 1) f q _ (Or.inr (Or.inr (Or.inr (Or.inl ⟨by omega, hok, L, by rw [if_neg (by omega)]; exact h9, rfl⟩))))
                     simpa using h8)
                  | (have h8 := hQ (m + 1) f q _ (Or.inr (Or.inr (Or.inr (Or.inr (Or.inr (Or.inr ⟨by omega, hok.1, hok.2, L, h9, rfl⟩))))))
                     simpa using h8)
                  | (exfalso; omega)
              · have h30 : x24 = (0 : Int) := h30
                refine pm_blk hK zmm245 [] 1 106 [(2, 88), (0, 3), (0, i), (0, K j)] [] μc24 [] rfl trivial ?_
                obtain ⟨f, f1, hfl⟩ := hB h30
                refine pm_blk hK zmm245 [] 1 107 [(2, 88), (0, 3), (0, i), (0, K j)] [(0, 0)] μc24 [] rfl trivial ?_
                first
                | exact pm_zret rfl rfl (by first | exact Or.inl rfl | exact Or.inr rfl | omega) ⟨0, f, _, _, rfl, hTc24, hF, hQ 1 f _ [] (Or.inr (Or.inl ⟨by omega, f1.2, f1.1, rfl⟩)), Or.inr ⟨rfl, by omega, hfl⟩⟩
                | (rcases f1 with ⟨a1, a2⟩ | ⟨a1, a2, a3⟩
                   · exact pm_zret rfl rfl (by first | exact Or.inl rfl | exact Or.inr rfl | omega) ⟨0, f, _, _, rfl, hTc24, hF, hQ 1 f _ [] (Or.inr (Or.inr (Or.inr (Or.inr (Or.inl ⟨by omega, a2, a1, rfl⟩))))), Or.inr ⟨rfl, by omega, hfl⟩⟩
                   · exact pm_zret rfl rfl (by first | exact Or.inl rfl | exact Or.inr rfl | omega) ⟨0, f, _, _, rfl, hTc24, hF, hQ 1 f _ [] (Or.inr (Or.inr (Or.inr (Or.inr (Or.inr (Or.inl ⟨by omega, a2, a3, a1, rfl⟩)))))), Or.inr ⟨rfl, by omega, hfl⟩⟩)
                | (exfalso; omega)
          · have h26 : K j = (43 : Int) := h26
            refine pm_blk hK zmm245 [] 4 73 [(2, 88), (0, 2), (0, i), (0, K j)] [] μc21 [] rfl trivial ?_
            have hk9 : K j = 43 ∨ K j = 45 ∨ K j = 42 ∨ K j = 47 := by omega
            have h8 := hc.2.2.1
            have hjn : j ≠ N := fun he => by rw [he, hKn.1] at hk9; omega
            have f7 := zT_get hTc21 zs88_8 (i := 8) (by omega) (by omega)
            refine pm_blk hK zmm245 [] 6 83 [(2, 88), (0, 2), (0, i), (0, K j)] [] (pm_up μc21 88 8 ((μc21 88 8) + 1)) [pm_in ((μc21 88 8) + 1), sx_bit Wm 88 = true] rfl ⟨pm_in_mk (by omega) (by omega), hb88, trivial⟩ ?_
            obtain ⟨μ6, eμ6⟩ : ∃ μ', μ' = pm_up μc21 88 8 ((μc21 88 8) + 1) := ⟨_, rfl⟩
            rw [← eμ6]
            have hTμ6 : zTJ φ μ6 := by rw [eμ6]; exact zT_up hTc21 zs88_8 rfl (i := 8) (by omega) (by omega) (by omega) (by omega)
            have hc := zCl_8 (j' := j + 1) hc eμ6 (by rw [h8]) ⟨by omega, by omega⟩
            have hF := zCfx_tr hF (zCfx_f (show zCf μc21 μ6 by rw [eμ6]; exact zCf_88 zCf_refl (by omega)))
            have hz3 : μ6 93 3 = μc21 93 3 := by rw [eμ6, pm_up_off (by decide)]
            have hz5 : μ6 95 = μc21 95 := by rw [eμ6, pm_up_row (by decide)]
            have hz4 : μ6 94 = μc21 94 := by rw [eμ6, pm_up_row (by decide)]
            have hLp := zCd_fr hLp hz5 hz3 hz4
            refine pm_blk hK zmm245 [] 2 86 [(2, 88), (0, 2), (0, i), (0, K j)] [(0, 47), (0, K j)] μ6 [] rfl trivial ?_
            refine pm_icmp hK zmm245 .ne 13 99 rfl rfl (fun h32 => ?_) (fun h32 => ?_)
            · have h32 : K j ≠ (47 : Int) := h32
              refine pm_blk hK zmm245 [] 1 100 [(2, 88), (0, 2), (0, i), (0, K j)] [(2, 88)] μ6 [] rfl trivial ?_
              refine pm_call hK zmm245 (170, 0, 246, 0) zM246 (1, 22) [(2, 88)] [] rfl rfl rfl rfl ⟨by omega, by rw [zn246]; omega⟩ (zw_unit hK (j := j + 1) (j1 := j + 2) hc hKn (by omega) hTμ6 (by omega) hb88 hb93 hb95 ⟨Nat.le_refl _, Nat.le_refl _⟩) (fun st26 μc26 hp26 => ?_)
              obtain ⟨x26, rfl, hTc26, hC26, hA26, hB26⟩ := hp26
              have hx2601 : x26 = 0 ∨ x26 = 1 := by by_cases h9 : x26 = 0; exact Or.inl h9; exact Or.inr (hA26 h9).1
              have hF := zCfx_tr hF hC26
              have hA := hA26
              have hB := hB26
              refine pm_if hK zmm245 .ne 5 108 rfl rfl (fun h33 => ?_) (fun h33 => ?_)
              · have h33 : x26 ≠ (0 : Int) := h33
                obtain ⟨-, hok, hc, hdu, hl9⟩ := hA h33
                have hLp := zCd_tr hLp hdu
                have hlt9 := hc.2.2.2.1
                refine pm_blk hK zmm245 [] 2 111 [(2, 88), (0, 2), (0, i), (0, K j)] [(0, 42), (0, K j)] μc26 [] rfl trivial ?_
                refine pm_icmp hK zmm245 .ne 12 123 rfl rfl (fun h34 => ?_) (fun h34 => ?_)
                · have h34 : K j ≠ (42 : Int) := h34
                  refine pm_blk hK zmm245 [] 2 13 [(2, 88), (0, 2), (0, i + 1), (0, K j)] [] μc26 [pm_in (i + 1)] rfl ⟨pm_in_mk (by omega) (by omega), trivial⟩ ?_
                  refine pm_hide [3] ?_
                  have hlt := hc.2.2.2.1
                  refine ih _ (by omega) rfl (by omega) ⟨by omega, by omega⟩ hc hF ⟨_, hLp, fun m f q L h9 => ?_⟩ ⟨by omega, fun _ => by omega⟩ hTc26
                  first
                  | (have h8 := hQ (m + 1) f q _ (Or.inr (Or.inr (Or.inl ⟨by omega, hok, L, h9, rfl⟩)))
                     simpa using h8)
                  | (have h8 := hQ (m + 1) f q _ (Or.inr (Or.inr (Or.inr (Or.inl ⟨by omega, hok, L, by rw [if_pos (by omega)]; exact h9, rfl⟩))))
                     simpa using h8)
                  | (have h8 := hQ (m + 1) f q _ (Or.inr (Or.inr (Or.inr (Or.inl ⟨by omega, hok, L, by rw [if_neg (by omega)]; exact h9, rfl⟩))))
                     simpa using h8)
                  | (have h8 := hQ (m + 1) f q _ (Or.inr (Or.inr (Or.inr (Or.inr (Or.inr (Or.inr ⟨by omega, hok.1, hok.2, L, h9, rfl⟩))))))
                     simpa using h8)
                  | (exfalso; omega)
                · have h34 : K j = (42 : Int) := h34
                  refine pm_blk hK zmm245 [] 4 120 [(2, 88), (0, 2), (0, i), (0, K j)] [(0, 0), (0, 4), (2, 93)] μc26 [] rfl trivial ?_
                  refine pm_call hK zmm245 (180, 0, 248, 2) zM248 (0, 0) [(2, 93), (0, 4), (0, 0)] [] rfl rfl rfl rfl ⟨by omega, by rw [zn248]; omega⟩ (zw_emit hK (o := 4) (v := 0) hTc26 ⟨by omega, by omega⟩ ⟨by omega, by omega⟩ ⟨by omega, by omega⟩ hb93 hb95 ⟨Nat.le_refl _, Nat.le_refl _⟩) (fun st27 μc27 hp27 => ?_)
                  obtain ⟨rfl, hTc27, hm27, hn27, hd27⟩ := hp27
                  have hc := zCl_e hc hm27
                  have hF := zCfx_tr hF (zCfx_e hm27 hn27)
                  obtain ⟨hdd, hl8⟩ := hd27 (by omega)
                  have hLp := zCd_tr hLp hdd
                  refine pm_blk hK zmm245 [] 2 13 [(2, 88), (0, 2), (0, i + 1), (0, K j)] [] μc27 [pm_in (i + 1)] rfl ⟨pm_in_mk (by omega) (by omega), trivial⟩ ?_
                  refine pm_hide [3] ?_
                  have hlt := hc.2.2.2.1
                  refine ih _ (by omega) rfl (by omega) ⟨by omega, by omega⟩ hc hF ⟨_, hLp, fun m f q L h9 => ?_⟩ ⟨by omega, fun _ => by omega⟩ hTc27
                  first
                  | (have h8 := hQ (m + 1) f q _ (Or.inr (Or.inr (Or.inl ⟨by omega, hok, L, h9, rfl⟩)))
                     simpa using h8)
                  | (have h8 := hQ (m + 1) f q _ (Or.inr (Or.inr (Or.inr (Or.inl ⟨by omega, hok, L, by rw [if_pos (by omega)]; exact h9, rfl⟩))))
                     simpa using h8)
                  | (have h8 := hQ (m + 1) f q _ (Or.inr (Or.inr (Or.inr (Or.inl ⟨by omega, hok, L, by rw [if_neg (by omega)]; exact h9, rfl⟩))))
                     simpa using h8)
                  | (have h8 := hQ (m + 1) f q _ (Or.inr (Or.inr (Or.inr (Or.inr (Or.inr (Or.inr ⟨by omega, hok.1, hok.2, L, h9, rfl⟩))))))
                     simpa using h8)
                  | (exfalso; omega)
              · have h33 : x26 = (0 : Int) := h33
                obtain ⟨f, f1, hfl⟩ := hB h33
                refine pm_blk hK zmm245 [] 1 107 [(2, 88), (0, 2), (0, i), (0, K j)] [(0, 0)] μc26 [] rfl trivial ?_
                first
                | exact pm_zret rfl rfl (by first | exact Or.inl rfl | exact Or.inr rfl | omega) ⟨0, f, _, _, rfl, hTc26, hF, hQ 1 f _ [] (Or.inr (Or.inl ⟨by omega, f1.2, f1.1, rfl⟩)), Or.inr ⟨rfl, by omega, hfl⟩⟩
                | (rcases f1 with ⟨a1, a2⟩ | ⟨a1, a2, a3⟩
                   · exact pm_zret rfl rfl (by first | exact Or.inl rfl | exact Or.inr rfl | omega) ⟨0, f, _, _, rfl, hTc26, hF, hQ 1 f _ [] (Or.inr (Or.inr (Or.inr (Or.inr (Or.inl ⟨by omega, a2, a1, rfl⟩))))), Or.inr ⟨rfl, by omega, hfl⟩⟩
                   · exact pm_zret rfl rfl (by first | exact Or.inl rfl | exact Or.inr rfl | omega) ⟨0, f, _, _, rfl, hTc26, hF, hQ 1 f _ [] (Or.inr (Or.inr (Or.inr (Or.inr (Or.inr (Or.inl ⟨by omega, a2, a3, a1, rfl⟩)))))), Or.inr ⟨rfl, by omega, hfl⟩⟩)
                | (exfalso; omega)
            · have h32 : K j = (47 : Int) := h32
              refine pm_blk hK zmm245 [] 1 90 [(2, 88), (0, 2), (0, i), (0, K j)] [(2, 88)] μ6 [] rfl trivial ?_
              refine pm_call hK zmm245 (177, 0, 250, 0) zM250 (1, 22) [(2, 88)] [] rfl rfl rfl rfl ⟨by omega, by rw [zn250]; omega⟩ (zw_div hK (j := j + 1) (j1 := j + 2) hc hKn (by omega) hTμ6 (by omega) hb88 hb93 hb95 ⟨Nat.le_refl _, Nat.le_refl _⟩) (fun st28 μc28 hp28 => ?_)
              obtain ⟨x28, rfl, hTc28, hC28, hA28, hB28⟩ := hp28
              have hx2801 : x28 = 0 ∨ x28 = 1 := by by_cases h9 : x28 = 0; exact Or.inl h9; exact Or.inr (hA28 h9).1
              have hF := zCfx_tr hF hC28
              have hA := hA28
              have hB := hB28
              refine pm_if hK zmm245 .ne 15 108 rfl rfl (fun h35 => ?_) (fun h35 => ?_)
              · have h35 : x28 ≠ (0 : Int) := h35
                obtain ⟨-, hok, hc, hdu, hl9⟩ := hA h35
                have hLp := zCd_tr hLp hdu
                have hlt9 := hc.2.2.2.1
                refine pm_blk hK zmm245 [] 2 111 [(2, 88), (0, 2), (0, i), (0, K j)] [(0, 42), (0, K j)] μc28 [] rfl trivial ?_
                refine pm_icmp hK zmm245 .ne 12 123 rfl rfl (fun h36 => ?_) (fun h36 => ?_)
                · have h36 : K j ≠ (42 : Int) := h36
                  refine pm_blk hK zmm245 [] 2 13 [(2, 88), (0, 2), (0, i + 1), (0, K j)] [] μc28 [pm_in (i + 1)] rfl ⟨pm_in_mk (by omega) (by omega), trivial⟩ ?_
                  refine pm_hide [3] ?_
                  have hlt := hc.2.2.2.1
                  refine ih _ (by omega) rfl (by omega) ⟨by omega, by omega⟩ hc hF ⟨_, hLp, fun m f q L h9 => ?_⟩ ⟨by omega, fun _ => by omega⟩ hTc28
                  first
                  | (have h8 := hQ (m + 1) f q _ (Or.inr (Or.inr (Or.inl ⟨by omega, hok, L, h9, rfl⟩)))
                     simpa using h8)
                  | (have h8 := hQ (m + 1) f q _ (Or.inr (Or.inr (Or.inr (Or.inl ⟨by omega, hok, L, by rw [if_pos (by omega)]; exact h9, rfl⟩))))
                     simpa using h8)
                  | (have h8 := hQ (m + 1) f q _ (Or.inr (Or.inr (Or.inr (Or.inl ⟨by omega, hok, L, by rw [if_neg (by omega)]; exact h9, rfl⟩))))
                     simpa using h8)
                  | (have h8 := hQ (m + 1) f q _ (Or.inr (Or.inr (Or.inr (Or.inr (Or.inr (Or.inr ⟨by omega, hok.1, hok.2, L, h9, rfl⟩))))))
                     simpa using h8)
                  | (exfalso; omega)
                · have h36 : K j = (42 : Int) := h36
                  refine pm_blk hK zmm245 [] 4 120 [(2, 88), (0, 2), (0, i), (0, K j)] [(0, 0), (0, 4), (2, 93)] μc28 [] rfl trivial ?_
                  refine pm_call hK zmm245 (180, 0, 248, 2) zM248 (0, 0) [(2, 93), (0, 4), (0, 0)] [] rfl rfl rfl rfl ⟨by omega, by rw [zn248]; omega⟩ (zw_emit hK (o := 4) (v := 0) hTc28 ⟨by omega, by omega⟩ ⟨by omega, by omega⟩ ⟨by omega, by omega⟩ hb93 hb95 ⟨Nat.le_refl _, Nat.le_refl _⟩) (fun st29 μc29 hp29 => ?_)
                  obtain ⟨rfl, hTc29, hm29, hn29, hd29⟩ := hp29
                  have hc := zCl_e hc hm29
                  have hF := zCfx_tr hF (zCfx_e hm29 hn29)
                  obtain ⟨hdd, hl8⟩ := hd29 (by omega)
                  have hLp := zCd_tr hLp hdd
                  refine pm_blk hK zmm245 [] 2 13 [(2, 88), (0, 2), (0, i + 1), (0, K j)] [] μc29 [pm_in (i + 1)] rfl ⟨pm_in_mk (by omega) (by omega), trivial⟩ ?_
                  refine pm_hide [3] ?_
                  have hlt := hc.2.2.2.1
                  refine ih _ (by omega) rfl (by omega) ⟨by omega, by omega⟩ hc hF ⟨_, hLp, fun m f q L h9 => ?_⟩ ⟨by omega, fun _ => by omega⟩ hTc29
                  first
                  | (have h8 := hQ (m + 1) f q _ (Or.inr (Or.inr (Or.inl ⟨by omega, hok, L, h9, rfl⟩)))
                     simpa using h8)
                  | (have h8 := hQ (m + 1) f q _ (Or.inr (Or.inr (Or.inr (Or.inl ⟨by omega, hok, L, by rw [if_pos (by omega)]; exact h9, rfl⟩))))
                     simpa using h8)
                  | (have h8 := hQ (m + 1) f q _ (Or.inr (Or.inr (Or.inr (Or.inl ⟨by omega, hok, L, by rw [if_neg (by omega)]; exact h9, rfl⟩))))
                     simpa using h8)
                  | (have h8 := hQ (m + 1) f q _ (Or.inr (Or.inr (Or.inr (Or.inr (Or.inr (Or.inr ⟨by omega, hok.1, hok.2, L, h9, rfl⟩))))))
                     simpa using h8)
                  | (exfalso; omega)
              · have h35 : x28 = (0 : Int) := h35
                refine pm_blk hK zmm245 [] 1 106 [(2, 88), (0, 2), (0, i), (0, K j)] [] μc28 [] rfl trivial ?_
                obtain ⟨f, f1, hfl⟩ := hB h35
                refine pm_blk hK zmm245 [] 1 107 [(2, 88), (0, 2), (0, i), (0, K j)] [(0, 0)] μc28 [] rfl trivial ?_
                first
                | exact pm_zret rfl rfl (by first | exact Or.inl rfl | exact Or.inr rfl | omega) ⟨0, f, _, _, rfl, hTc28, hF, hQ 1 f _ [] (Or.inr (Or.inl ⟨by omega, f1.2, f1.1, rfl⟩)), Or.inr ⟨rfl, by omega, hfl⟩⟩
                | (rcases f1 with ⟨a1, a2⟩ | ⟨a1, a2, a3⟩
                   · exact pm_zret rfl rfl (by first | exact Or.inl rfl | exact Or.inr rfl | omega) ⟨0, f, _, _, rfl, hTc28, hF, hQ 1 f _ [] (Or.inr (Or.inr (Or.inr (Or.inr (Or.inl ⟨by omega, a2, a1, rfl⟩))))), Or.inr ⟨rfl, by omega, hfl⟩⟩
                   · exact pm_zret rfl rfl (by first | exact Or.inl rfl | exact Or.inr rfl | omega) ⟨0, f, _, _, rfl, hTc28, hF, hQ 1 f _ [] (Or.inr (Or.inr (Or.inr (Or.inr (Or.inr (Or.inl ⟨by omega, a2, a3, a1, rfl⟩)))))), Or.inr ⟨rfl, by omega, hfl⟩⟩)
                | (exfalso; omega)
set_option maxRecDepth 100000 in
theorem zw_expr (hK : zKK ST) {K S V : Int → Int} {n j : Int} (h : zCq K S V n j μ) (hKn : zKn K V n) (hT : zTJ φ μ) (hcl : μ 93 3 ≤ j) (hb88 : sx_bit Wm 88 = true) (hb93 : sx_bit Wm 93 = true) (hb95 : sx_bit Wm 95 = true) (hbd : 2 ≤ bud.1 ∧ 46 ≤ bud.2.1) : zC D Wm ST b0 l Sg zM245 bud [(2, 88)] μ (fun st' μ' => ∃ x f q LL, st' = [(0, x)] ∧ zTJ φ μ' ∧ zCfx μ μ' ∧ zExp K V j f q LL ∧ ((x = 1 ∧ f = 0 ∧ zCq K S V n q μ' ∧ zCd μ μ' LL ∧ μ' 93 3 + j ≤ μ 93 3 + q) ∨ (x = 0 ∧ f ≠ 0 ∧ zFl S f q μ'))) := by
  have hc := h
  have hF : zCfx μ μ := zCfx_refl
  obtain ⟨⟨q1, q2, q3⟩, q4, q5, q6⟩ := id h
  have fv := zT_get hT zs92_0 (i := j) (by omega) (by omega)
  rw [q3] at fv
  refine pm_blk hK zmm245 [] 1 1 [(2, 88), (9, 0), (9, 0), (9, 0)] [(2, 88)] μ [] rfl trivial ?_
  refine pm_call hK zmm245 (170, 0, 246, 0) zM246 (1, 22) [(2, 88)] [] rfl rfl rfl rfl ⟨by omega, by rw [zn246]; omega⟩ (zw_unit hK (j := j) (j1 := j + 1) hc hKn (by omega) hT (by omega) hb88 hb93 hb95 ⟨Nat.le_refl _, Nat.le_refl _⟩) (fun st1 μc1 hp1 => ?_)
  obtain ⟨x1, rfl, hTc1, hC1, hA1, hB1⟩ := hp1
  have hx101 : x1 = 0 ∨ x1 = 1 := by by_cases h9 : x1 = 0; exact Or.inl h9; exact Or.inr (hA1 h9).1
  have hF := zCfx_tr hF hC1
  have hA := hA1
  have hB := hB1
  refine pm_if hK zmm245 .ne 5 9 rfl rfl (fun h0 => ?_) (fun h0 => ?_)
  · have h0 : x1 ≠ (0 : Int) := h0
    obtain ⟨-, hok, hc, hdu, hl9⟩ := hA h0
    refine pm_blk hK zmm245 [] 4 13 [(2, 88), (0, (-1)), (0, 0), (9, 0)] [] μc1 [] rfl trivial ?_
    have hlt := hc.2.2.2.1
    exact zw_el hK (μ0 := μ) (j0 := j) hKn hcl hb88 hb93 hb95 hbd _ rfl (Or.inl rfl) ⟨by omega, by omega⟩ hc hF ⟨_, hdu, fun m f q L h9 => Or.inr ⟨hok, m, L, h9, rfl⟩⟩ ⟨by omega, fun h9 => absurd rfl h9⟩ hTc1
  · have h0 : x1 = (0 : Int) := h0
    obtain ⟨f, f1, hfl⟩ := hB h0
    refine pm_blk hK zmm245 [] 1 8 [(2, 88), (9, 0), (9, 0), (9, 0)] [(0, 0)] μc1 [] rfl trivial ?_
    exact pm_zret rfl rfl (by first | exact Or.inl rfl | exact Or.inr rfl | omega) ⟨0, f, j, [], rfl, hTc1, hF, Or.inl ⟨f1.2, f1.1, rfl⟩, Or.inr ⟨rfl, by omega, hfl⟩⟩
end ZHW
