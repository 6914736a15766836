/-! knows: the class; walks printed by program (wip/p30/pmgen.py) and filled by hand -/
section ZHW
variable {φ : Option pm_Mem}
variable {D : va_G} {Wm : Nat} {ST : List (String × String × String × Nat)} {b0 : sx_B} {l : Launch} {Sg : Nat → Option Nat} {bud : sx_Bu} {μ : pm_Mem} {B0 : Nat → Prop} {J : (Nat → Option Nat) → Heap → Prop}
set_option maxRecDepth 100000 in
theorem zk_isSh (hK : zKK ST) {s : Int} (hbd : 0 ≤ bud.1 ∧ 0 ≤ bud.2.1) : zC D Wm ST b0 l Sg zM22 bud [(2, 3), (0, s)] μ (fun st' μ' => μ = μ' ∧ st' = [(0, if 0 ≤ s ∧ s < μ 3 0 then 1 else 0)]) := by
  refine pm_blk hK zmm22 [] 1 1 [(2, 3), (0, s)] [(0, s)] μ [] rfl trivial ?_
  refine pm_if hK zmm22 .lt 15 16 rfl rfl (fun h0 => ?_) (fun h0 => ?_)
  · have h0 : s < (0 : Int) := h0
    refine pm_blk hK zmm22 [] 1 17 [(2, 3), (0, s)] [(0, 0)] μ [] rfl trivial ?_
    exact pm_zret rfl rfl (by first | exact Or.inl rfl | exact Or.inr rfl | omega) ⟨rfl, by first | rw [if_pos (by omega)] | rw [if_neg (by omega)]⟩
  · have h0 : (0 : Int) ≤ s := h0
    refine pm_blk hK zmm22 [] 3 9 [(2, 3), (0, s)] [(0, μ 3 0), (0, s)] μ [] rfl trivial ?_
    refine pm_icmp hK zmm22 .ge 7 16 rfl rfl (fun h1 => ?_) (fun h1 => ?_)
    · have h1 : μ 3 0 ≤ s := h1
      refine pm_blk hK zmm22 [] 1 17 [(2, 3), (0, s)] [(0, 0)] μ [] rfl trivial ?_
      exact pm_zret rfl rfl (by first | exact Or.inl rfl | exact Or.inr rfl | omega) ⟨rfl, by first | rw [if_pos (by omega)] | rw [if_neg (by omega)]⟩
    · have h1 : s < μ 3 0 := h1
      refine pm_blk hK zmm22 [] 2 17 [(2, 3), (0, s)] [(0, 1)] μ [] rfl trivial ?_
      exact pm_zret rfl rfl (by first | exact Or.inl rfl | exact Or.inr rfl | omega) ⟨rfl, by first | rw [if_pos (by omega)] | rw [if_neg (by omega)]⟩
set_option maxRecDepth 100000 in
theorem zk_knows (hK : zKK ST) {a k : Int} {m : Nat} (hT : zTJ φ μ) (hy : 0 ≤ μ 3 0 ∧ μ 3 0 ≤ 12) (hn0 : μ 26 2 = (m : Int)) (hm : m ≤ 16) (hlv0 : zLvs (μ 27) m) (hb199 : sx_bit Wm 199 = true) (hbd : 5 ≤ bud.1 ∧ 125 ≤ bud.2.1) : zC D Wm ST b0 l Sg zM110 bud [(2, 1), (0, a), (0, k)] μ (fun st' μ' => zTJ φ μ' ∧ (∀ r, r ≠ 199 → μ' r = μ r) ∧ ∃ x, st' = [(0, x)] ∧ ((a = -1 ∧ ∃ f, x = (if 1000000 ≤ f then -1 else f) ∧ zmo (zDs 1000000 (zws (zlw (μ 27) m) 0) (μ 3 0)) (μ 3 0) (μ 3 0) 0 f) ∨ (a ≠ -1 ∧ ¬ ((0 ≤ a ∧ a < μ 3 0) ∧ 0 ≤ k ∧ k ≤ 11) ∧ x = -1) ∨ (a ≠ -1 ∧ (0 ≤ a ∧ a < μ 3 0) ∧ (0 ≤ k ∧ k ≤ 11) ∧ ∃ f, zFwl 1000000 (zws (zlw (μ 27) m) 0) (μ 3 0) (μ 3 0) f ∧ x = zcnt (fun z => f (a * 12 + z)) k (μ 3 0).toNat))) := by
  have f1 := zT_get hT zs3_0 (i := 0) (by omega) (by omega)
  refine pm_blk hK zmm110 [] 7 13 [(2, 1), (0, a), (0, k), (0, μ 3 0)] [(0, (-1)), (0, a)] μ [] rfl trivial ?_
  refine pm_icmp hK zmm110 .ne 19 32 rfl rfl (fun h0 => ?_) (fun h0 => ?_)
  · have h0 : a ≠ ((-1) : Int) := h0
    refine pm_blk hK zmm110 [] 4 40 [(2, 1), (0, a), (0, k), (0, μ 3 0)] [(0, a), (2, 3)] μ [] rfl trivial ?_
    refine pm_call hK zmm110 (105, 0, 22, 1) zM22 (0, 0) [(2, 3), (0, a)] [] rfl rfl rfl rfl ⟨by omega, by rw [zn22]; omega⟩ (zk_isSh hK ⟨Nat.le_refl _, Nat.le_refl _⟩) (fun st1 μc1 hp1 => ?_)
    obtain ⟨rfl, rfl⟩ := hp1
    refine pm_if hK zmm110 .eq 13 56 rfl rfl (fun h1 => ?_) (fun h1 => ?_)
    · have h1 : (if 0 ≤ a ∧ a < μ 3 0 then 1 else 0 : Int) = (0 : Int) := h1
      have h1 := zif0 h1
      refine pm_blk hK zmm110 [] 1 57 [(2, 1), (0, a), (0, k), (0, μ 3 0)] [(0, (-1))] μ [] rfl trivial ?_
      exact pm_iret rfl rfl ⟨hT, fun r _ => rfl, _, rfl, Or.inr (Or.inl ⟨by omega, by omega, rfl⟩)⟩
    · have h1 : (if 0 ≤ a ∧ a < μ 3 0 then 1 else 0 : Int) ≠ (0 : Int) := h1
      have h1 := zif1 h1
      refine pm_blk hK zmm110 [] 3 50 [(2, 1), (0, a), (0, k), (0, μ 3 0)] [(0, 11), (0, 0), (0, k)] μ [] rfl trivial ?_
      refine pm_call hK zmm110 (94, 1, 16, 3) zM16 (0, 0) [(0, k), (0, 0), (0, 11)] [] rfl rfl rfl rfl ⟨by omega, by rw [zn16]; omega⟩ (zh_within hK ⟨Nat.le_refl _, Nat.le_refl _⟩) (fun st2 μc2 hp2 => ?_)
      obtain ⟨rfl, rfl⟩ := hp2
      refine pm_if hK zmm110 .ne 5 58 rfl rfl (fun h2 => ?_) (fun h2 => ?_)
      · have h2 : (if 0 ≤ k ∧ k ≤ 11 then 1 else 0 : Int) ≠ (0 : Int) := h2
        have h2 := zif1 h2
        refine pm_blk hK zmm110 [] 8 72 [(2, 1), (0, a), (0, k), (0, μ 3 0)] [(0, k), (0, a), (0, μ 3 0), (2, 26), (2, 198)] μ [] rfl trivial ?_
        refine pm_call hK zmm110 (390, 0, 272, 4) zM272 (4, 99) [(2, 198), (2, 26), (0, μ 3 0), (0, a), (0, k)] [] rfl rfl rfl rfl ⟨by omega, by rw [zn272]; omega⟩ (zk_howMany hK hT hy hn0 hm hlv0 hb199 ⟨by omega, by omega⟩ ⟨Nat.le_refl _, Nat.le_refl _⟩) (fun st3 μc3 hp3 => ?_)
        obtain ⟨hTc3, hs3, f3, x3, rfl, hF3, hz3⟩ := hp3
        have hsw := hs3
        have hFw := hF3
        have hzw := hz3
        exact pm_iret rfl rfl ⟨hTc3, hsw, _, rfl, Or.inr (Or.inr ⟨by omega, by omega, by omega, _, hFw, hzw⟩)⟩
      · have h2 : (if 0 ≤ k ∧ k ≤ 11 then 1 else 0 : Int) = (0 : Int) := h2
        have h2 := zif0 h2
        refine pm_blk hK zmm110 [] 1 57 [(2, 1), (0, a), (0, k), (0, μ 3 0)] [(0, (-1))] μ [] rfl trivial ?_
        exact pm_iret rfl rfl ⟨hT, fun r _ => rfl, _, rfl, Or.inr (Or.inl ⟨by omega, by omega, rfl⟩)⟩
  · have h0 : a = ((-1) : Int) := h0
    refine pm_blk hK zmm110 [] 6 28 [(2, 1), (0, a), (0, k), (0, μ 3 0)] [(0, μ 3 0), (2, 26), (2, 198)] μ [] rfl trivial ?_
    refine pm_call hK zmm110 (386, 0, 111, 2) zM111 (4, 99) [(2, 198), (2, 26), (0, μ 3 0)] [] rfl rfl rfl rfl ⟨by omega, by rw [zn111]; omega⟩ (zk_wide hK hT hy hn0 hm hlv0 hb199 ⟨Nat.le_refl _, Nat.le_refl _⟩) (fun st4 μc4 hp4 => ?_)
    obtain ⟨hTc4, hs4, f4, rfl, hz4⟩ := hp4
    have hsw := hs4
    have hzw := hz4
    exact pm_iret rfl rfl ⟨hTc4, hsw, _, rfl, Or.inl ⟨by omega, _, rfl, hzw⟩⟩
end ZHW
