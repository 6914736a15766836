/-! how far: the class; walks printed by program (wip/p30/pmgen.py) and filled by hand -/
section ZHW
variable {φ : Option pm_Mem}
variable {D : va_G} {Wm : Nat} {ST : List (String × String × String × Nat)} {b0 : sx_B} {l : Launch} {Sg : Nat → Option Nat} {bud : sx_Bu} {μ : pm_Mem} {B0 : Nat → Prop} {J : (Nat → Option Nat) → Heap → Prop}
set_option maxRecDepth 100000 in
theorem zk_min (hK : zKK ST) {a b : Int} (hbd : 0 ≤ bud.1 ∧ 0 ≤ bud.2.1) : zC D Wm ST b0 l Sg zM30 bud [(0, a), (0, b)] μ (fun st' μ' => μ = μ' ∧ st' = [(0, min a b)]) := by
  refine pm_blk hK zmm30 [] 2 2 [(0, a), (0, b)] [(0, b), (0, a)] μ [] rfl trivial ?_
  refine pm_icmp hK zmm30 .gt 7 9 rfl rfl (fun h0 => ?_) (fun h0 => ?_)
  · have h0 : b < a := h0
    refine pm_blk hK zmm30 [] 1 10 [(0, a), (0, b)] [(0, b)] μ [] rfl trivial ?_
    exact pm_iret rfl rfl ⟨rfl, by rw [show min a b = b by omega]⟩
  · have h0 : a ≤ b := h0
    refine pm_blk hK zmm30 [] 2 10 [(0, a), (0, b)] [(0, a)] μ [] rfl trivial ?_
    exact pm_iret rfl rfl ⟨rfl, by rw [show min a b = a by omega]⟩
set_option maxRecDepth 100000 in
theorem zk_max (hK : zKK ST) {a b : Int} (hbd : 0 ≤ bud.1 ∧ 0 ≤ bud.2.1) : zC D Wm ST b0 l Sg zM34 bud [(0, a), (0, b)] μ (fun st' μ' => μ = μ' ∧ st' = [(0, max a b)]) := by
  refine pm_blk hK zmm34 [] 2 2 [(0, a), (0, b)] [(0, b), (0, a)] μ [] rfl trivial ?_
  refine pm_icmp hK zmm34 .lt 7 9 rfl rfl (fun h0 => ?_) (fun h0 => ?_)
  · have h0 : a < b := h0
    refine pm_blk hK zmm34 [] 1 10 [(0, a), (0, b)] [(0, b)] μ [] rfl trivial ?_
    exact pm_iret rfl rfl ⟨rfl, by rw [show max a b = b by omega]⟩
  · have h0 : b ≤ a := h0
    refine pm_blk hK zmm34 [] 2 10 [(0, a), (0, b)] [(0, a)] μ [] rfl trivial ?_
    exact pm_iret rfl rfl ⟨rfl, by rw [show max a b = a by omega]⟩
set_option maxRecDepth 100000 in
theorem zk_cell26 (hK : zKK ST) {a c : Int} (ha : 0 ≤ a ∧ a ≤ 15) (hc : 0 ≤ c ∧ c ≤ 3) (hbd : 1 ≤ bud.1 ∧ 22 ≤ bud.2.1) : zC D Wm ST b0 l Sg zM219 bud [(2, 26), (0, a), (0, c)] μ (fun st' μ' => μ = μ' ∧ st' = [(0, μ 27 (a * 4 + c))]) := by
  refine pm_blk hK zmm219 [] 13 15 [(2, 26), (0, a), (0, c), (0, (a * 4) + c)] [(0, 64 - 1), (0, 0), (0, (a * 4) + c)] μ [pm_in (a * 4), pm_in ((a * 4) + c), pm_in (64 - 1)] rfl ⟨pm_in_mk (by omega) (by omega), pm_in_mk (by omega) (by omega), pm_in_mk (by omega) (by omega), trivial⟩ ?_
  refine pm_call hK zmm219 (25, 1, 16, 3) zM16 (0, 0) [(0, (a * 4) + c), (0, 0), (0, 64 - 1)] [] rfl rfl rfl rfl ⟨by omega, by rw [zn16]; omega⟩ (zh_within hK ⟨Nat.le_refl _, Nat.le_refl _⟩) (fun st1 μc1 hp1 => ?_)
  obtain ⟨rfl, rfl⟩ := hp1
  refine pm_if hK zmm219 .eq 12 30 rfl rfl (fun h0 => ?_) (fun h0 => ?_)
  · have h0 : (if 0 ≤ ((a * 4) + c) ∧ ((a * 4) + c) ≤ (64 - 1) then 1 else 0 : Int) = (0 : Int) := h0
    have h0 := zif0 h0
    refine pm_blk hK zmm219 [] 1 31 [(2, 26), (0, a), (0, c), (0, (a * 4) + c)] [(0, (-1))] μ [] rfl trivial ?_
    exact pm_iret rfl rfl ⟨rfl, by first | rfl | (exfalso; omega)⟩
  · have h0 : (if 0 ≤ ((a * 4) + c) ∧ ((a * 4) + c) ≤ (64 - 1) then 1 else 0 : Int) ≠ (0 : Int) := h0
    have h0 := zif1 h0
    refine pm_blk hK zmm219 [] 5 31 [(2, 26), (0, a), (0, c), (0, (a * 4) + c)] [(0, μ 27 ((a * 4) + c))] μ [0 ≤ (a * 4) + c ∧ (a * 4) + c < 64] rfl ⟨⟨by omega, by omega⟩, trivial⟩ ?_
    exact pm_iret rfl rfl ⟨rfl, by first | rfl | (exfalso; omega)⟩
set_option maxRecDepth 100000 in
theorem zk_ol (hK : zKK ST)  {μ : pm_Mem} {a b : Int} {m : Nat} (hn26 : μ 26 2 = (m : Int)) (hm : m ≤ 16) (hlv : zLvs (μ 27) m) (hbd : 2 ≤ bud.1 ∧ 45 ≤ bud.2.1) : ∀ (n : Nat) {f i : Int}, ((m : Int) - i).toNat = n → ∀ (hi : 0 ≤ i ∧ i ≤ (m : Int)) (hf : zlf (μ 27) i.toNat a b f), zW D Wm ST b0 l Sg zM260 bud (pm_X zM260 (fun st' μ' => μ = μ' ∧ ∃ x, st' = [(0, x)] ∧ zlf (μ 27) m a b x)) 5 [(2, 26), (0, a), (0, b), (0, f), (0, i), (9, 0), (9, 0), (9, 0)] [] μ := by
  intro n
  induction n using Nat.strongRecOn with
  | ind n ih =>
    intro f i hn hi hf
    refine pm_blk hK zmm260 [] 3 11 [(2, 26), (0, a), (0, b), (0, f), (0, i), (9, 0), (9, 0), (9, 0)] [(0, μ 26 2), (0, i)] μ [] rfl trivial ?_
    refine pm_icmp hK zmm260 .ge 74 85 rfl rfl (fun h0 => ?_) (fun h0 => ?_)
    · have h0 : μ 26 2 ≤ i := h0
      refine pm_blk hK zmm260 [] 1 86 [(2, 26), (0, a), (0, b), (0, f), (0, i), (9, 0), (9, 0), (9, 0)] [(0, f)] μ [] rfl trivial ?_
      obtain rfl : i = (m : Int) := by omega
      exact pm_iret rfl rfl ⟨rfl, _, rfl, hf⟩
    · have h0 : i < μ 26 2 := h0
      have hv := hlv i.toNat (by omega)
      have ei : ((i.toNat : Nat) : Int) = i := by omega
      rw [ei] at hv
      have e1 : (i + 1).toNat = i.toNat + 1 := by omega
      refine pm_blk hK zmm260 [] 3 18 [(2, 26), (0, a), (0, b), (0, f), (0, i), (9, 0), (9, 0), (9, 0)] [(0, 0), (0, i), (2, 26)] μ [] rfl trivial ?_
      refine pm_call hK zmm260 (33, 0, 219, 2) zM219 (1, 22) [(2, 26), (0, i), (0, 0)] [] rfl rfl rfl rfl ⟨by omega, by rw [zn219]; omega⟩ (zk_cell26 hK (a := i) (c := 0) ⟨by omega, by omega⟩ ⟨by omega, by omega⟩ ⟨Nat.le_refl _, Nat.le_refl _⟩) (fun st1 μc1 hp1 => ?_)
      obtain ⟨rfl, rfl⟩ := hp1
      refine pm_blk hK zmm260 [] 4 27 [(2, 26), (0, a), (0, b), (0, f), (0, i), (0, μ 27 (i * 4 + 0)), (9, 0), (9, 0)] [(0, 1), (0, i), (2, 26)] μ [] rfl trivial ?_
      refine pm_call hK zmm260 (33, 0, 219, 2) zM219 (1, 22) [(2, 26), (0, i), (0, 1)] [] rfl rfl rfl rfl ⟨by omega, by rw [zn219]; omega⟩ (zk_cell26 hK (a := i) (c := 1) ⟨by omega, by omega⟩ ⟨by omega, by omega⟩ ⟨Nat.le_refl _, Nat.le_refl _⟩) (fun st2 μc2 hp2 => ?_)
      obtain ⟨rfl, rfl⟩ := hp2
      refine pm_blk hK zmm260 [] 4 36 [(2, 26), (0, a), (0, b), (0, f), (0, i), (0, μ 27 (i * 4 + 0)), (0, μ 27 (i * 4 + 1)), (9, 0)] [(0, 2), (0, i), (2, 26)] μ [] rfl trivial ?_
      refine pm_call hK zmm260 (33, 0, 219, 2) zM219 (1, 22) [(2, 26), (0, i), (0, 2)] [] rfl rfl rfl rfl ⟨by omega, by rw [zn219]; omega⟩ (zk_cell26 hK (a := i) (c := 2) ⟨by omega, by omega⟩ ⟨by omega, by omega⟩ ⟨Nat.le_refl _, Nat.le_refl _⟩) (fun st3 μc3 hp3 => ?_)
      obtain ⟨rfl, rfl⟩ := hp3
      refine pm_blk hK zmm260 [] 3 44 [(2, 26), (0, a), (0, b), (0, f), (0, i), (0, μ 27 (i * 4 + 0)), (0, μ 27 (i * 4 + 1)), (0, μ 27 (i * 4 + 2))] [(0, a), (0, μ 27 (i * 4 + 0))] μ [] rfl trivial ?_
      refine pm_icmp hK zmm260 .ne 9 53 rfl rfl (fun h1 => ?_) (fun h1 => ?_)
      · have h1 : μ 27 (i * 4 + 0) ≠ a := h1
        refine pm_blk hK zmm260 [] 2 56 [(2, 26), (0, a), (0, b), (0, f), (0, i), (0, μ 27 (i * 4 + 0)), (0, μ 27 (i * 4 + 1)), (0, μ 27 (i * 4 + 2))] [(0, b), (0, μ 27 (i * 4 + 0))] μ [] rfl trivial ?_
        refine pm_icmp hK zmm260 .ne 23 79 rfl rfl (fun h2 => ?_) (fun h2 => ?_)
        · have h2 : μ 27 (i * 4 + 0) ≠ b := h2
          refine pm_blk hK zmm260 [] 2 5 [(2, 26), (0, a), (0, b), (0, f), (0, i + 1), (0, μ 27 (i * 4 + 0)), (0, μ 27 (i * 4 + 1)), (0, μ 27 (i * 4 + 2))] [] μ [pm_in (i + 1)] rfl ⟨pm_in_mk (by omega) (by omega), trivial⟩ ?_
          refine pm_hide [5, 6, 7] ?_
          refine ih _ (by omega) rfl ⟨by omega, by omega⟩ ?_
          rw [e1]
          first
          | exact zlf_n hf (by rw [ei]; omega)
          | exact zlf_y (by rw [ei]; exact hv) hf (by rw [ei]; omega) (by rw [ei]; omega)
          | (exfalso; omega)
        · have h2 : μ 27 (i * 4 + 0) = b := h2
          refine pm_blk hK zmm260 [] 2 62 [(2, 26), (0, a), (0, b), (0, f), (0, i), (0, μ 27 (i * 4 + 0)), (0, μ 27 (i * 4 + 1)), (0, μ 27 (i * 4 + 2))] [(0, a), (0, μ 27 (i * 4 + 1))] μ [] rfl trivial ?_
          refine pm_icmp hK zmm260 .ne 17 79 rfl rfl (fun h3 => ?_) (fun h3 => ?_)
          · have h3 : μ 27 (i * 4 + 1) ≠ a := h3
            refine pm_blk hK zmm260 [] 2 5 [(2, 26), (0, a), (0, b), (0, f), (0, i + 1), (0, μ 27 (i * 4 + 0)), (0, μ 27 (i * 4 + 1)), (0, μ 27 (i * 4 + 2))] [] μ [pm_in (i + 1)] rfl ⟨pm_in_mk (by omega) (by omega), trivial⟩ ?_
            refine pm_hide [5, 6, 7] ?_
            refine ih _ (by omega) rfl ⟨by omega, by omega⟩ ?_
            rw [e1]
            first
            | exact zlf_n hf (by rw [ei]; omega)
            | exact zlf_y (by rw [ei]; exact hv) hf (by rw [ei]; omega) (by rw [ei]; omega)
            | (exfalso; omega)
          · have h3 : μ 27 (i * 4 + 1) = a := h3
            refine pm_blk hK zmm260 [] 2 67 [(2, 26), (0, a), (0, b), (0, f), (0, i), (0, μ 27 (i * 4 + 0)), (0, μ 27 (i * 4 + 1)), (0, μ 27 (i * 4 + 2))] [(0, (-1)), (0, f)] μ [] rfl trivial ?_
            refine pm_icmp hK zmm260 .eq 9 76 rfl rfl (fun h4 => ?_) (fun h4 => ?_)
            · have h4 : f = ((-1) : Int) := h4
              refine pm_blk hK zmm260 [] 4 5 [(2, 26), (0, a), (0, b), (0, μ 27 (i * 4 + 2)), (0, i + 1), (0, μ 27 (i * 4 + 0)), (0, μ 27 (i * 4 + 1)), (0, μ 27 (i * 4 + 2))] [] μ [pm_in (i + 1)] rfl ⟨pm_in_mk (by omega) (by omega), trivial⟩ ?_
              refine pm_hide [5, 6, 7] ?_
              refine ih _ (by omega) rfl ⟨by omega, by omega⟩ ?_
              rw [e1]
              first
              | exact zlf_n hf (by rw [ei]; omega)
              | exact zlf_y (by rw [ei]; exact hv) hf (by rw [ei]; omega) (by rw [ei]; omega)
              | (exfalso; omega)
            · have h4 : f ≠ ((-1) : Int) := h4
              refine pm_blk hK zmm260 [] 2 73 [(2, 26), (0, a), (0, b), (0, f), (0, i), (0, μ 27 (i * 4 + 0)), (0, μ 27 (i * 4 + 1)), (0, μ 27 (i * 4 + 2))] [(0, f), (0, μ 27 (i * 4 + 2))] μ [] rfl trivial ?_
              refine pm_icmp hK zmm260 .ge 6 79 rfl rfl (fun h5 => ?_) (fun h5 => ?_)
              · have h5 : f ≤ μ 27 (i * 4 + 2) := h5
                refine pm_blk hK zmm260 [] 2 5 [(2, 26), (0, a), (0, b), (0, f), (0, i + 1), (0, μ 27 (i * 4 + 0)), (0, μ 27 (i * 4 + 1)), (0, μ 27 (i * 4 + 2))] [] μ [pm_in (i + 1)] rfl ⟨pm_in_mk (by omega) (by omega), trivial⟩ ?_
                refine pm_hide [5, 6, 7] ?_
                refine ih _ (by omega) rfl ⟨by omega, by omega⟩ ?_
                rw [e1]
                first
                | exact zlf_n hf (by rw [ei]; omega)
                | exact zlf_y (by rw [ei]; exact hv) hf (by rw [ei]; omega) (by rw [ei]; omega)
                | (exfalso; omega)
              · have h5 : μ 27 (i * 4 + 2) < f := h5
                refine pm_blk hK zmm260 [] 4 5 [(2, 26), (0, a), (0, b), (0, μ 27 (i * 4 + 2)), (0, i + 1), (0, μ 27 (i * 4 + 0)), (0, μ 27 (i * 4 + 1)), (0, μ 27 (i * 4 + 2))] [] μ [pm_in (i + 1)] rfl ⟨pm_in_mk (by omega) (by omega), trivial⟩ ?_
                refine pm_hide [5, 6, 7] ?_
                refine ih _ (by omega) rfl ⟨by omega, by omega⟩ ?_
                rw [e1]
                first
                | exact zlf_n hf (by rw [ei]; omega)
                | exact zlf_y (by rw [ei]; exact hv) hf (by rw [ei]; omega) (by rw [ei]; omega)
                | (exfalso; omega)
      · have h1 : μ 27 (i * 4 + 0) = a := h1
        refine pm_blk hK zmm260 [] 2 50 [(2, 26), (0, a), (0, b), (0, f), (0, i), (0, μ 27 (i * 4 + 0)), (0, μ 27 (i * 4 + 1)), (0, μ 27 (i * 4 + 2))] [(0, b), (0, μ 27 (i * 4 + 1))] μ [] rfl trivial ?_
        refine pm_icmp hK zmm260 .eq 15 65 rfl rfl (fun h6 => ?_) (fun h6 => ?_)
        · have h6 : μ 27 (i * 4 + 1) = b := h6
          refine pm_blk hK zmm260 [] 2 67 [(2, 26), (0, a), (0, b), (0, f), (0, i), (0, μ 27 (i * 4 + 0)), (0, μ 27 (i * 4 + 1)), (0, μ 27 (i * 4 + 2))] [(0, (-1)), (0, f)] μ [] rfl trivial ?_
          refine pm_icmp hK zmm260 .eq 9 76 rfl rfl (fun h7 => ?_) (fun h7 => ?_)
          · have h7 : f = ((-1) : Int) := h7
            refine pm_blk hK zmm260 [] 4 5 [(2, 26), (0, a), (0, b), (0, μ 27 (i * 4 + 2)), (0, i + 1), (0, μ 27 (i * 4 + 0)), (0, μ 27 (i * 4 + 1)), (0, μ 27 (i * 4 + 2))] [] μ [pm_in (i + 1)] rfl ⟨pm_in_mk (by omega) (by omega), trivial⟩ ?_
            refine pm_hide [5, 6, 7] ?_
            refine ih _ (by omega) rfl ⟨by omega, by omega⟩ ?_
            rw [e1]
            first
            | exact zlf_n hf (by rw [ei]; omega)
            | exact zlf_y (by rw [ei]; exact hv) hf (by rw [ei]; omega) (by rw [ei]; omega)
            | (exfalso; omega)
          · have h7 : f ≠ ((-1) : Int) := h7
            refine pm_blk hK zmm260 [] 2 73 [(2, 26), (0, a), (0, b), (0, f), (0, i), (0, μ 27 (i * 4 + 0)), (0, μ 27 (i * 4 + 1)), (0, μ 27 (i * 4 + 2))] [(0, f), (0, μ 27 (i * 4 + 2))] μ [] rfl trivial ?_
            refine pm_icmp hK zmm260 .ge 6 79 rfl rfl (fun h8 => ?_) (fun h8 => ?_)
            · have h8 : f ≤ μ 27 (i * 4 + 2) := h8
              refine pm_blk hK zmm260 [] 2 5 [(2, 26), (0, a), (0, b), (0, f), (0, i + 1), (0, μ 27 (i * 4 + 0)), (0, μ 27 (i * 4 + 1)), (0, μ 27 (i * 4 + 2))] [] μ [pm_in (i + 1)] rfl ⟨pm_in_mk (by omega) (by omega), trivial⟩ ?_
              refine pm_hide [5, 6, 7] ?_
              refine ih _ (by omega) rfl ⟨by omega, by omega⟩ ?_
              rw [e1]
              first
              | exact zlf_n hf (by rw [ei]; omega)
              | exact zlf_y (by rw [ei]; exact hv) hf (by rw [ei]; omega) (by rw [ei]; omega)
              | (exfalso; omega)
            · have h8 : μ 27 (i * 4 + 2) < f := h8
              refine pm_blk hK zmm260 [] 4 5 [(2, 26), (0, a), (0, b), (0, μ 27 (i * 4 + 2)), (0, i + 1), (0, μ 27 (i * 4 + 0)), (0, μ 27 (i * 4 + 1)), (0, μ 27 (i * 4 + 2))] [] μ [pm_in (i + 1)] rfl ⟨pm_in_mk (by omega) (by omega), trivial⟩ ?_
              refine pm_hide [5, 6, 7] ?_
              refine ih _ (by omega) rfl ⟨by omega, by omega⟩ ?_
              rw [e1]
              first
              | exact zlf_n hf (by rw [ei]; omega)
              | exact zlf_y (by rw [ei]; exact hv) hf (by rw [ei]; omega) (by rw [ei]; omega)
              | (exfalso; omega)
        · have h6 : μ 27 (i * 4 + 1) ≠ b := h6
          refine pm_blk hK zmm260 [] 2 56 [(2, 26), (0, a), (0, b), (0, f), (0, i), (0, μ 27 (i * 4 + 0)), (0, μ 27 (i * 4 + 1)), (0, μ 27 (i * 4 + 2))] [(0, b), (0, μ 27 (i * 4 + 0))] μ [] rfl trivial ?_
          refine pm_icmp hK zmm260 .ne 23 79 rfl rfl (fun h9 => ?_) (fun h9 => ?_)
          · have h9 : μ 27 (i * 4 + 0) ≠ b := h9
            refine pm_blk hK zmm260 [] 2 5 [(2, 26), (0, a), (0, b), (0, f), (0, i + 1), (0, μ 27 (i * 4 + 0)), (0, μ 27 (i * 4 + 1)), (0, μ 27 (i * 4 + 2))] [] μ [pm_in (i + 1)] rfl ⟨pm_in_mk (by omega) (by omega), trivial⟩ ?_
            refine pm_hide [5, 6, 7] ?_
            refine ih _ (by omega) rfl ⟨by omega, by omega⟩ ?_
            rw [e1]
            first
            | exact zlf_n hf (by rw [ei]; omega)
            | exact zlf_y (by rw [ei]; exact hv) hf (by rw [ei]; omega) (by rw [ei]; omega)
            | (exfalso; omega)
          · have h9 : μ 27 (i * 4 + 0) = b := h9
            refine pm_blk hK zmm260 [] 2 62 [(2, 26), (0, a), (0, b), (0, f), (0, i), (0, μ 27 (i * 4 + 0)), (0, μ 27 (i * 4 + 1)), (0, μ 27 (i * 4 + 2))] [(0, a), (0, μ 27 (i * 4 + 1))] μ [] rfl trivial ?_
            refine pm_icmp hK zmm260 .ne 17 79 rfl rfl (fun h10 => ?_) (fun h10 => ?_)
            · have h10 : μ 27 (i * 4 + 1) ≠ a := h10
              refine pm_blk hK zmm260 [] 2 5 [(2, 26), (0, a), (0, b), (0, f), (0, i + 1), (0, μ 27 (i * 4 + 0)), (0, μ 27 (i * 4 + 1)), (0, μ 27 (i * 4 + 2))] [] μ [pm_in (i + 1)] rfl ⟨pm_in_mk (by omega) (by omega), trivial⟩ ?_
              refine pm_hide [5, 6, 7] ?_
              refine ih _ (by omega) rfl ⟨by omega, by omega⟩ ?_
              rw [e1]
              first
              | exact zlf_n hf (by rw [ei]; omega)
              | exact zlf_y (by rw [ei]; exact hv) hf (by rw [ei]; omega) (by rw [ei]; omega)
              | (exfalso; omega)
            · have h10 : μ 27 (i * 4 + 1) = a := h10
              refine pm_blk hK zmm260 [] 2 67 [(2, 26), (0, a), (0, b), (0, f), (0, i), (0, μ 27 (i * 4 + 0)), (0, μ 27 (i * 4 + 1)), (0, μ 27 (i * 4 + 2))] [(0, (-1)), (0, f)] μ [] rfl trivial ?_
              refine pm_icmp hK zmm260 .eq 9 76 rfl rfl (fun h11 => ?_) (fun h11 => ?_)
              · have h11 : f = ((-1) : Int) := h11
                refine pm_blk hK zmm260 [] 4 5 [(2, 26), (0, a), (0, b), (0, μ 27 (i * 4 + 2)), (0, i + 1), (0, μ 27 (i * 4 + 0)), (0, μ 27 (i * 4 + 1)), (0, μ 27 (i * 4 + 2))] [] μ [pm_in (i + 1)] rfl ⟨pm_in_mk (by omega) (by omega), trivial⟩ ?_
                refine pm_hide [5, 6, 7] ?_
                refine ih _ (by omega) rfl ⟨by omega, by omega⟩ ?_
                rw [e1]
                first
                | exact zlf_n hf (by rw [ei]; omega)
                | exact zlf_y (by rw [ei]; exact hv) hf (by rw [ei]; omega) (by rw [ei]; omega)
                | (exfalso; omega)
              · have h11 : f ≠ ((-1) : Int) := h11
                refine pm_blk hK zmm260 [] 2 73 [(2, 26), (0, a), (0, b), (0, f), (0, i), (0, μ 27 (i * 4 + 0)), (0, μ 27 (i * 4 + 1)), (0, μ 27 (i * 4 + 2))] [(0, f), (0, μ 27 (i * 4 + 2))] μ [] rfl trivial ?_
                refine pm_icmp hK zmm260 .ge 6 79 rfl rfl (fun h12 => ?_) (fun h12 => ?_)
                · have h12 : f ≤ μ 27 (i * 4 + 2) := h12
                  refine pm_blk hK zmm260 [] 2 5 [(2, 26), (0, a), (0, b), (0, f), (0, i + 1), (0, μ 27 (i * 4 + 0)), (0, μ 27 (i * 4 + 1)), (0, μ 27 (i * 4 + 2))] [] μ [pm_in (i + 1)] rfl ⟨pm_in_mk (by omega) (by omega), trivial⟩ ?_
                  refine pm_hide [5, 6, 7] ?_
                  refine ih _ (by omega) rfl ⟨by omega, by omega⟩ ?_
                  rw [e1]
                  first
                  | exact zlf_n hf (by rw [ei]; omega)
                  | exact zlf_y (by rw [ei]; exact hv) hf (by rw [ei]; omega) (by rw [ei]; omega)
                  | (exfalso; omega)
                · have h12 : μ 27 (i * 4 + 2) < f := h12
                  refine pm_blk hK zmm260 [] 4 5 [(2, 26), (0, a), (0, b), (0, μ 27 (i * 4 + 2)), (0, i + 1), (0, μ 27 (i * 4 + 0)), (0, μ 27 (i * 4 + 1)), (0, μ 27 (i * 4 + 2))] [] μ [pm_in (i + 1)] rfl ⟨pm_in_mk (by omega) (by omega), trivial⟩ ?_
                  refine pm_hide [5, 6, 7] ?_
                  refine ih _ (by omega) rfl ⟨by omega, by omega⟩ ?_
                  rw [e1]
                  first
                  | exact zlf_n hf (by rw [ei]; omega)
                  | exact zlf_y (by rw [ei]; exact hv) hf (by rw [ei]; omega) (by rw [ei]; omega)
                  | (exfalso; omega)
set_option maxRecDepth 100000 in
theorem zk_oneLine (hK : zKK ST) {a b : Int} {m : Nat} (hn26 : μ 26 2 = (m : Int)) (hm : m ≤ 16) (hlv : zLvs (μ 27) m) (hbd : 2 ≤ bud.1 ∧ 45 ≤ bud.2.1) : zC D Wm ST b0 l Sg zM260 bud [(2, 26), (0, a), (0, b)] μ (fun st' μ' => μ = μ' ∧ ∃ x, st' = [(0, x)] ∧ zlf (μ 27) m a b x) := by
  refine pm_blk hK zmm260 [] 4 5 [(2, 26), (0, a), (0, b), (0, (-1)), (0, 0), (9, 0), (9, 0), (9, 0)] [] μ [] rfl trivial ?_
  exact zk_ol hK hn26 hm hlv hbd _ rfl ⟨by omega, by omega⟩ (Or.inl ⟨rfl, rfl⟩)
set_option maxRecDepth 100000 in
theorem zk_dist (hK : zKK ST) {a b : Int} (ha : 0 ≤ a ∧ a ≤ 11) (hb : 0 ≤ b ∧ b ≤ 11) (hbd : 1 ≤ bud.1 ∧ 22 ≤ bud.2.1) : zC D Wm ST b0 l Sg zM264 bud [(2, 198), (0, a), (0, b)] μ (fun st' μ' => μ = μ' ∧ st' = [(0, μ 199 (a * 12 + b))]) := by
  refine pm_blk hK zmm264 [] 13 16 [(2, 198), (0, a), (0, b), (0, (a * 12) + b)] [(0, 144 - 1), (0, 0), (0, (a * 12) + b)] μ [pm_in (a * 12), pm_in ((a * 12) + b), pm_in (144 - 1)] rfl ⟨pm_in_mk (by omega) (by omega), pm_in_mk (by omega) (by omega), pm_in_mk (by omega) (by omega), trivial⟩ ?_
  refine pm_call hK zmm264 (50, 1, 16, 3) zM16 (0, 0) [(0, (a * 12) + b), (0, 0), (0, 144 - 1)] [] rfl rfl rfl rfl ⟨by omega, by rw [zn16]; omega⟩ (zh_within hK ⟨Nat.le_refl _, Nat.le_refl _⟩) (fun st1 μc1 hp1 => ?_)
  obtain ⟨rfl, rfl⟩ := hp1
  refine pm_if hK zmm264 .eq 12 31 rfl rfl (fun h0 => ?_) (fun h0 => ?_)
  · have h0 : (if 0 ≤ ((a * 12) + b) ∧ ((a * 12) + b) ≤ (144 - 1) then 1 else 0 : Int) = (0 : Int) := h0
    have h0 := zif0 h0
    refine pm_blk hK zmm264 [] 1 33 [(2, 198), (0, a), (0, b), (0, (a * 12) + b)] [(0, 1000000)] μ [] rfl trivial ?_
    exact pm_iret rfl rfl ⟨rfl, by first | rfl | (exfalso; omega)⟩
  · have h0 : (if 0 ≤ ((a * 12) + b) ∧ ((a * 12) + b) ≤ (144 - 1) then 1 else 0 : Int) ≠ (0 : Int) := h0
    have h0 := zif1 h0
    refine pm_blk hK zmm264 [] 5 33 [(2, 198), (0, a), (0, b), (0, (a * 12) + b)] [(0, μ 199 ((a * 12) + b))] μ [0 ≤ (a * 12) + b ∧ (a * 12) + b < 144] rfl ⟨⟨by omega, by omega⟩, trivial⟩ ?_
    exact pm_iret rfl rfl ⟨rfl, by first | rfl | (exfalso; omega)⟩
set_option maxRecDepth 100000 in
theorem zk_b1 (hK : zKK ST) {X : Nat → List pm_V → List pm_V → pm_Mem → Prop} {μ0 : pm_Mem} {y s : Int} {m : Nat} (hy : 0 ≤ y ∧ y ≤ 12) (hn0 : μ0 26 2 = (m : Int)) (hm : m ≤ 16) (hlv0 : zLvs (μ0 27) m) (hb199 : sx_bit Wm 199 = true) {i : Int} (hi : 0 ≤ i ∧ i < y) (KK : ∀ (μ : pm_Mem), (∀ r, r ≠ 199 → μ r = μ0 r) → zIn (zws (zlw (μ0 27) m) s) y i y (μ 199) → zTJ φ μ → zW D Wm ST b0 l Sg zM69 bud X 83 [(2, 198), (2, 26), (0, y), (0, s), (0, i), (9, 0), (9, 0), (9, 0)] [] μ) (hbd : 3 ≤ bud.1 ∧ 72 ≤ bud.2.1) : ∀ (n : Nat) {j : Int} {μ : pm_Mem}, (y - j).toNat = n → ∀ (hj : 0 ≤ j ∧ j ≤ y) (hs : ∀ r, r ≠ 199 → μ r = μ0 r) (hf : zIn (zws (zlw (μ0 27) m) s) y i j (μ 199)) (hT : zTJ φ μ), zW D Wm ST b0 l Sg zM69 bud X 12 [(2, 198), (2, 26), (0, y), (0, s), (0, i), (0, j), (9, 0), (9, 0)] [] μ := by
  intro n
  induction n using Nat.strongRecOn with
  | ind n ih =>
    intro j μ hn hj hs hf hT
    have hn26 : μ 26 2 = (m : Int) := by rw [hs 26 (by decide)]; exact hn0
    have e27 : μ 27 = μ0 27 := hs 27 (by decide)
    have hlv : zLvs (μ 27) m := by rw [e27]; exact hlv0
    refine pm_blk hK zmm69 [] 2 15 [(2, 198), (2, 26), (0, y), (0, s), (0, i), (0, j), (9, 0), (9, 0)] [(0, y), (0, j)] μ [] rfl trivial ?_
    refine pm_icmp hK zmm69 .ge 68 83 rfl rfl (fun h0 => ?_) (fun h0 => ?_)
    · have h0 : y ≤ j := h0
      refine pm_hide [5] ?_
      obtain rfl : j = y := by omega
      exact KK _ hs hf hT
    · have h0 : j < y := h0
      refine pm_blk hK zmm69 [] 3 23 [(2, 198), (2, 26), (0, y), (0, s), (0, i), (0, j), (9, 0), (9, 0)] [(0, j), (0, i), (2, 26)] μ [] rfl trivial ?_
      refine pm_call hK zmm69 (37, 1, 260, 3) zM260 (2, 45) [(2, 26), (0, i), (0, j)] [] rfl rfl rfl rfl ⟨by omega, by rw [zn260]; omega⟩ (zk_oneLine hK hn26 hm hlv ⟨Nat.le_refl _, Nat.le_refl _⟩) (fun st1 μc1 hp1 => ?_)
      obtain ⟨rfl, x1, rfl, hx1⟩ := hp1
      have hol := hx1
      refine pm_blk hK zmm69 [] 1 28 [(2, 198), (2, 26), (0, y), (0, s), (0, i), (0, j), (0, x1), (9, 0)] [] μ [] rfl trivial ?_
      rw [e27] at hol
      have hz := zws_c (s := s) hol
      refine pm_blk hK zmm69 [] 2 31 [(2, 198), (2, 26), (0, y), (0, s), (0, i), (0, j), (0, x1), (9, 0)] [(0, (-1)), (0, x1)] μ [] rfl trivial ?_
      refine pm_icmp hK zmm69 .ne 8 39 rfl rfl (fun h1 => ?_) (fun h1 => ?_)
      · have h1 : x1 ≠ ((-1) : Int) := h1
        refine pm_blk hK zmm69 [] 1 40 [(2, 198), (2, 26), (0, y), (0, s), (0, i), (0, j), (0, x1), (9, 0)] [(0, s)] μ [] rfl trivial ?_
        refine pm_if hK zmm69 .eq 8 48 rfl rfl (fun h2 => ?_) (fun h2 => ?_)
        · have h2 : s = (0 : Int) := h2
          refine pm_blk hK zmm69 [] 11 67 [(2, 198), (2, 26), (0, y), (0, s), (0, i), (0, j), (0, x1), (0, 1)] [(0, j), (0, i), (0, (i * 12) + j), (2, 199)] μ [pm_in (i * 12), pm_in ((i * 12) + j)] rfl ⟨pm_in_mk (by omega) (by omega), pm_in_mk (by omega) (by omega), trivial⟩ ?_
          refine pm_icmp hK zmm69 .ne 7 74 rfl rfl (fun h3 => ?_) (fun h3 => ?_)
          · have h3 : i ≠ j := h3
            refine pm_blk hK zmm69 [] 2 77 [(2, 198), (2, 26), (0, y), (0, s), (0, i), (0, j), (0, x1), (0, 1)] [] (pm_up μ 199 ((i * 12) + j) 1) [sx_bit Wm 199 = true, 0 ≤ (i * 12) + j ∧ (i * 12) + j < 144] rfl ⟨hb199, ⟨by omega, by omega⟩, trivial⟩ ?_
            obtain ⟨μ1, eμ1⟩ : ∃ μ', μ' = pm_up μ 199 ((i * 12) + j) 1 := ⟨_, rfl⟩
            rw [← eμ1]
            have hTμ1 : zTJ φ μ1 := by rw [eμ1]; exact zT_up hT zs199_0 rfl (i := (i * 12) + j) (by omega) (by omega) (by omega) (by omega)
            refine pm_blk hK zmm69 [] 2 12 [(2, 198), (2, 26), (0, y), (0, s), (0, i), (0, j + 1), (0, x1), (0, 1)] [] μ1 [pm_in (j + 1)] rfl ⟨pm_in_mk (by omega) (by omega), trivial⟩ ?_
            refine pm_hide [6, 7] ?_
            exact ih _ (by omega) rfl ⟨by omega, by omega⟩ (fun r hr => by rw [eμ1, pm_up_row hr]; exact hs r hr) (zIn_step (by omega) hi.1 ⟨by omega, by omega⟩ hf (by omega) (zat_of eμ1)) hTμ1
          · have h3 : i = j := h3
            refine pm_blk hK zmm69 [] 3 77 [(2, 198), (2, 26), (0, y), (0, s), (0, i), (0, j), (0, x1), (0, 1)] [] (pm_up μ 199 ((i * 12) + j) 0) [sx_bit Wm 199 = true, 0 ≤ (i * 12) + j ∧ (i * 12) + j < 144] rfl ⟨hb199, ⟨by omega, by omega⟩, trivial⟩ ?_
            obtain ⟨μ2, eμ2⟩ : ∃ μ', μ' = pm_up μ 199 ((i * 12) + j) 0 := ⟨_, rfl⟩
            rw [← eμ2]
            have hTμ2 : zTJ φ μ2 := by rw [eμ2]; exact zT_up hT zs199_0 rfl (i := (i * 12) + j) (by omega) (by omega) (by omega) (by omega)
            refine pm_blk hK zmm69 [] 2 12 [(2, 198), (2, 26), (0, y), (0, s), (0, i), (0, j + 1), (0, x1), (0, 1)] [] μ2 [pm_in (j + 1)] rfl ⟨pm_in_mk (by omega) (by omega), trivial⟩ ?_
            refine pm_hide [6, 7] ?_
            exact ih _ (by omega) rfl ⟨by omega, by omega⟩ (fun r hr => by rw [eμ2, pm_up_row hr]; exact hs r hr) (zIn_step (by omega) hi.1 ⟨by omega, by omega⟩ hf (by omega) (zat_of eμ2)) hTμ2
        · have h2 : s ≠ (0 : Int) := h2
          refine pm_blk hK zmm69 [] 12 67 [(2, 198), (2, 26), (0, y), (0, s), (0, i), (0, j), (0, x1), (0, x1)] [(0, j), (0, i), (0, (i * 12) + j), (2, 199)] μ [pm_in (i * 12), pm_in ((i * 12) + j)] rfl ⟨pm_in_mk (by omega) (by omega), pm_in_mk (by omega) (by omega), trivial⟩ ?_
          refine pm_icmp hK zmm69 .ne 7 74 rfl rfl (fun h4 => ?_) (fun h4 => ?_)
          · have h4 : i ≠ j := h4
            refine pm_blk hK zmm69 [] 2 77 [(2, 198), (2, 26), (0, y), (0, s), (0, i), (0, j), (0, x1), (0, x1)] [] (pm_up μ 199 ((i * 12) + j) x1) [sx_bit Wm 199 = true, 0 ≤ (i * 12) + j ∧ (i * 12) + j < 144] rfl ⟨hb199, ⟨by omega, by omega⟩, trivial⟩ ?_
            obtain ⟨μ3, eμ3⟩ : ∃ μ', μ' = pm_up μ 199 ((i * 12) + j) x1 := ⟨_, rfl⟩
            rw [← eμ3]
            have hTμ3 : zTJ φ μ3 := by rw [eμ3]; exact zT_up hT zs199_0 rfl (i := (i * 12) + j) (by omega) (by omega) (by omega) (by omega)
            refine pm_blk hK zmm69 [] 2 12 [(2, 198), (2, 26), (0, y), (0, s), (0, i), (0, j + 1), (0, x1), (0, x1)] [] μ3 [pm_in (j + 1)] rfl ⟨pm_in_mk (by omega) (by omega), trivial⟩ ?_
            refine pm_hide [6, 7] ?_
            exact ih _ (by omega) rfl ⟨by omega, by omega⟩ (fun r hr => by rw [eμ3, pm_up_row hr]; exact hs r hr) (zIn_step (by omega) hi.1 ⟨by omega, by omega⟩ hf (by omega) (zat_of eμ3)) hTμ3
          · have h4 : i = j := h4
            refine pm_blk hK zmm69 [] 3 77 [(2, 198), (2, 26), (0, y), (0, s), (0, i), (0, j), (0, x1), (0, x1)] [] (pm_up μ 199 ((i * 12) + j) 0) [sx_bit Wm 199 = true, 0 ≤ (i * 12) + j ∧ (i * 12) + j < 144] rfl ⟨hb199, ⟨by omega, by omega⟩, trivial⟩ ?_
            obtain ⟨μ4, eμ4⟩ : ∃ μ', μ' = pm_up μ 199 ((i * 12) + j) 0 := ⟨_, rfl⟩
            rw [← eμ4]
            have hTμ4 : zTJ φ μ4 := by rw [eμ4]; exact zT_up hT zs199_0 rfl (i := (i * 12) + j) (by omega) (by omega) (by omega) (by omega)
            refine pm_blk hK zmm69 [] 2 12 [(2, 198), (2, 26), (0, y), (0, s), (0, i), (0, j + 1), (0, x1), (0, x1)] [] μ4 [pm_in (j + 1)] rfl ⟨pm_in_mk (by omega) (by omega), trivial⟩ ?_
            refine pm_hide [6, 7] ?_
            exact ih _ (by omega) rfl ⟨by omega, by omega⟩ (fun r hr => by rw [eμ4, pm_up_row hr]; exact hs r hr) (zIn_step (by omega) hi.1 ⟨by omega, by omega⟩ hf (by omega) (zat_of eμ4)) hTμ4
      · have h1 : x1 = ((-1) : Int) := h1
        refine pm_blk hK zmm69 [] 12 67 [(2, 198), (2, 26), (0, y), (0, s), (0, i), (0, j), (0, x1), (0, 1000000)] [(0, j), (0, i), (0, (i * 12) + j), (2, 199)] μ [pm_in (i * 12), pm_in ((i * 12) + j)] rfl ⟨pm_in_mk (by omega) (by omega), pm_in_mk (by omega) (by omega), trivial⟩ ?_
        refine pm_icmp hK zmm69 .ne 7 74 rfl rfl (fun h5 => ?_) (fun h5 => ?_)
        · have h5 : i ≠ j := h5
          refine pm_blk hK zmm69 [] 2 77 [(2, 198), (2, 26), (0, y), (0, s), (0, i), (0, j), (0, x1), (0, 1000000)] [] (pm_up μ 199 ((i * 12) + j) 1000000) [sx_bit Wm 199 = true, 0 ≤ (i * 12) + j ∧ (i * 12) + j < 144] rfl ⟨hb199, ⟨by omega, by omega⟩, trivial⟩ ?_
          obtain ⟨μ5, eμ5⟩ : ∃ μ', μ' = pm_up μ 199 ((i * 12) + j) 1000000 := ⟨_, rfl⟩
          rw [← eμ5]
          have hTμ5 : zTJ φ μ5 := by rw [eμ5]; exact zT_up hT zs199_0 rfl (i := (i * 12) + j) (by omega) (by omega) (by omega) (by omega)
          refine pm_blk hK zmm69 [] 2 12 [(2, 198), (2, 26), (0, y), (0, s), (0, i), (0, j + 1), (0, x1), (0, 1000000)] [] μ5 [pm_in (j + 1)] rfl ⟨pm_in_mk (by omega) (by omega), trivial⟩ ?_
          refine pm_hide [6, 7] ?_
          exact ih _ (by omega) rfl ⟨by omega, by omega⟩ (fun r hr => by rw [eμ5, pm_up_row hr]; exact hs r hr) (zIn_step (by omega) hi.1 ⟨by omega, by omega⟩ hf (by omega) (zat_of eμ5)) hTμ5
        · have h5 : i = j := h5
          refine pm_blk hK zmm69 [] 3 77 [(2, 198), (2, 26), (0, y), (0, s), (0, i), (0, j), (0, x1), (0, 1000000)] [] (pm_up μ 199 ((i * 12) + j) 0) [sx_bit Wm 199 = true, 0 ≤ (i * 12) + j ∧ (i * 12) + j < 144] rfl ⟨hb199, ⟨by omega, by omega⟩, trivial⟩ ?_
          obtain ⟨μ6, eμ6⟩ : ∃ μ', μ' = pm_up μ 199 ((i * 12) + j) 0 := ⟨_, rfl⟩
          rw [← eμ6]
          have hTμ6 : zTJ φ μ6 := by rw [eμ6]; exact zT_up hT zs199_0 rfl (i := (i * 12) + j) (by omega) (by omega) (by omega) (by omega)
          refine pm_blk hK zmm69 [] 2 12 [(2, 198), (2, 26), (0, y), (0, s), (0, i), (0, j + 1), (0, x1), (0, 1000000)] [] μ6 [pm_in (j + 1)] rfl ⟨pm_in_mk (by omega) (by omega), trivial⟩ ?_
          refine pm_hide [6, 7] ?_
          exact ih _ (by omega) rfl ⟨by omega, by omega⟩ (fun r hr => by rw [eμ6, pm_up_row hr]; exact hs r hr) (zIn_step (by omega) hi.1 ⟨by omega, by omega⟩ hf (by omega) (zat_of eμ6)) hTμ6
set_option maxRecDepth 100000 in
theorem zk_b2 (hK : zKK ST) {X : Nat → List pm_V → List pm_V → pm_Mem → Prop} {μ0 : pm_Mem} {y s : Int} {m : Nat} (hy : 0 ≤ y ∧ y ≤ 12) (hn0 : μ0 26 2 = (m : Int)) (hm : m ≤ 16) (hlv0 : zLvs (μ0 27) m) (hb199 : sx_bit Wm 199 = true) (KK : ∀ (μ : pm_Mem), (∀ r, r ≠ 199 → μ r = μ0 r) → zIn (zws (zlw (μ0 27) m) s) y y 0 (μ 199) → zTJ φ μ → zW D Wm ST b0 l Sg zM69 bud X 89 [(2, 198), (2, 26), (0, y), (0, s), (9, 0), (9, 0), (9, 0), (9, 0)] [] μ) (hbd : 3 ≤ bud.1 ∧ 72 ≤ bud.2.1) : ∀ (n : Nat) {i : Int} {μ : pm_Mem}, (y - i).toNat = n → ∀ (hi : 0 ≤ i ∧ i ≤ y) (hs : ∀ r, r ≠ 199 → μ r = μ0 r) (hf : zIn (zws (zlw (μ0 27) m) s) y i 0 (μ 199)) (hT : zTJ φ μ), zW D Wm ST b0 l Sg zM69 bud X 3 [(2, 198), (2, 26), (0, y), (0, s), (0, i), (9, 0), (9, 0), (9, 0)] [] μ := by
  intro n
  induction n using Nat.strongRecOn with
  | ind n ih =>
    intro i μ hn hi hs hf hT
    refine pm_blk hK zmm69 [] 2 6 [(2, 198), (2, 26), (0, y), (0, s), (0, i), (9, 0), (9, 0), (9, 0)] [(0, y), (0, i)] μ [] rfl trivial ?_
    refine pm_icmp hK zmm69 .ge 83 89 rfl rfl (fun h0 => ?_) (fun h0 => ?_)
    · have h0 : y ≤ i := h0
      refine pm_hide [4] ?_
      obtain rfl : i = y := by omega
      exact KK _ hs hf hT
    · have h0 : i < y := h0
      refine pm_blk hK zmm69 [] 2 12 [(2, 198), (2, 26), (0, y), (0, s), (0, i), (0, 0), (9, 0), (9, 0)] [] μ [] rfl trivial ?_
      refine zk_b1 hK (μ0 := μ0) hy hn0 hm hlv0 hb199 (i := i) ⟨by omega, by omega⟩ (fun μ hs hf hT => ?_) hbd _ rfl ⟨by omega, by omega⟩ hs hf hT
      refine pm_blk hK zmm69 [] 2 3 [(2, 198), (2, 26), (0, y), (0, s), (0, i + 1), (9, 0), (9, 0), (9, 0)] [] μ [pm_in (i + 1)] rfl ⟨pm_in_mk (by omega) (by omega), trivial⟩ ?_
      exact ih _ (by omega) rfl ⟨by omega, by omega⟩ hs (zIn_row hf) hT
set_option maxRecDepth 100000 in
theorem zk_b3 (hK : zKK ST) {X : Nat → List pm_V → List pm_V → pm_Mem → Prop} {μ0 : pm_Mem} {y s : Int} {m : Nat} (hy : 0 ≤ y ∧ y ≤ 12) (hn0 : μ0 26 2 = (m : Int)) (hm : m ≤ 16) (hlv0 : zLvs (μ0 27) m) (hb199 : sx_bit Wm 199 = true) {o a : Int} {g : Int → Int} (ho : 0 ≤ o ∧ o < y) (ha : 0 ≤ a ∧ a < y) (KK : ∀ (μ : pm_Mem), (∀ r, r ≠ 199 → μ r = μ0 r) → zFv 1000000 (zws (zlw (μ0 27) m) s) y o g a y (μ 199) → zTJ φ μ → zW D Wm ST b0 l Sg zM69 bud X 167 [(2, 198), (2, 26), (0, y), (0, s), (0, o), (0, a), (9, 0), (9, 0)] [] μ) (hbd : 3 ≤ bud.1 ∧ 72 ≤ bud.2.1) : ∀ (n : Nat) {b : Int} {μ : pm_Mem}, (y - b).toNat = n → ∀ (hb : 0 ≤ b ∧ b ≤ y) (hs : ∀ r, r ≠ 199 → μ r = μ0 r) (hf : zFv 1000000 (zws (zlw (μ0 27) m) s) y o g a b (μ 199)) (hT : zTJ φ μ), zW D Wm ST b0 l Sg zM69 bud X 110 [(2, 198), (2, 26), (0, y), (0, s), (0, o), (0, a), (0, b), (9, 0)] [] μ := by
  intro n
  induction n using Nat.strongRecOn with
  | ind n ih =>
    intro b μ hn hb hs hf hT
    refine pm_blk hK zmm69 [] 2 113 [(2, 198), (2, 26), (0, y), (0, s), (0, o), (0, a), (0, b), (9, 0)] [(0, y), (0, b)] μ [] rfl trivial ?_
    refine pm_icmp hK zmm69 .ge 54 167 rfl rfl (fun h0 => ?_) (fun h0 => ?_)
    · have h0 : y ≤ b := h0
      refine pm_hide [6] ?_
      obtain rfl : b = y := by omega
      exact KK _ hs hf hT
    · have h0 : b < y := h0
      have p1 := (hf.2 a o ha ho).1
      have p2 := (hf.2 o b ho ⟨by omega, by omega⟩).1
      have p3 := (hf.2 a b ha ⟨by omega, by omega⟩).1
      have p4 := (hf.1 a o ha ho).1
      have p5 := (hf.1 o b ho ⟨by omega, by omega⟩).1
      have p6 := (hf.1 a b ha ⟨by omega, by omega⟩).1
      refine pm_blk hK zmm69 [] 3 121 [(2, 198), (2, 26), (0, y), (0, s), (0, o), (0, a), (0, b), (9, 0)] [(0, o), (0, a), (2, 198)] μ [] rfl trivial ?_
      refine pm_call hK zmm69 (42, 0, 264, 2) zM264 (1, 22) [(2, 198), (0, a), (0, o)] [] rfl rfl rfl rfl ⟨by omega, by rw [zn264]; omega⟩ (zk_dist hK (a := a) (b := o) ⟨by omega, by omega⟩ ⟨by omega, by omega⟩ ⟨Nat.le_refl _, Nat.le_refl _⟩) (fun st1 μc1 hp1 => ?_)
      obtain ⟨rfl, rfl⟩ := hp1
      refine pm_blk hK zmm69 [] 3 129 [(2, 198), (2, 26), (0, y), (0, s), (0, o), (0, a), (0, b), (9, 0)] [(0, b), (0, o), (2, 198), (0, μ 199 (a * 12 + o))] μ [] rfl trivial ?_
      refine pm_call hK zmm69 (42, 0, 264, 2) zM264 (1, 22) [(2, 198), (0, o), (0, b)] [(0, μ 199 (a * 12 + o))] rfl rfl rfl rfl ⟨by omega, by rw [zn264]; omega⟩ (zk_dist hK (a := o) (b := b) ⟨by omega, by omega⟩ ⟨by omega, by omega⟩ ⟨Nat.le_refl _, Nat.le_refl _⟩) (fun st2 μc2 hp2 => ?_)
      obtain ⟨rfl, rfl⟩ := hp2
      refine pm_blk hK zmm69 [] 12 152 [(2, 198), (2, 26), (0, y), (0, s), (0, o), (0, a), (0, b), (0, (μ 199 (a * 12 + o)) + (μ 199 (o * 12 + b)))] [(0, b), (0, a), (2, 198), (0, (a * 12) + b), (2, 199)] μ [pm_in ((μ 199 (a * 12 + o)) + (μ 199 (o * 12 + b))), pm_in (a * 12), pm_in ((a * 12) + b)] rfl ⟨pm_in_mk (by omega) (by omega), pm_in_mk (by omega) (by omega), pm_in_mk (by omega) (by omega), trivial⟩ ?_
      refine pm_call hK zmm69 (42, 0, 264, 2) zM264 (1, 22) [(2, 198), (0, a), (0, b)] [(0, (a * 12) + b), (2, 199)] rfl rfl rfl rfl ⟨by omega, by rw [zn264]; omega⟩ (zk_dist hK (a := a) (b := b) ⟨by omega, by omega⟩ ⟨by omega, by omega⟩ ⟨Nat.le_refl _, Nat.le_refl _⟩) (fun st3 μc3 hp3 => ?_)
      obtain ⟨rfl, rfl⟩ := hp3
      refine pm_blk hK zmm69 [] 1 157 [(2, 198), (2, 26), (0, y), (0, s), (0, o), (0, a), (0, b), (0, (μ 199 (a * 12 + o)) + (μ 199 (o * 12 + b)))] [(0, (μ 199 (a * 12 + o)) + (μ 199 (o * 12 + b))), (0, μ 199 (a * 12 + b)), (0, (a * 12) + b), (2, 199)] μ [] rfl trivial ?_
      refine pm_call hK zmm69 (45, 1, 30, 2) zM30 (0, 0) [(0, μ 199 (a * 12 + b)), (0, (μ 199 (a * 12 + o)) + (μ 199 (o * 12 + b)))] [(0, (a * 12) + b), (2, 199)] rfl rfl rfl rfl ⟨by omega, by rw [zn30]; omega⟩ (zk_min hK ⟨Nat.le_refl _, Nat.le_refl _⟩) (fun st4 μc4 hp4 => ?_)
      obtain ⟨rfl, rfl⟩ := hp4
      refine pm_blk hK zmm69 [] 1 161 [(2, 198), (2, 26), (0, y), (0, s), (0, o), (0, a), (0, b), (0, (μ 199 (a * 12 + o)) + (μ 199 (o * 12 + b)))] [] (pm_up μ 199 ((a * 12) + b) (min (μ 199 (a * 12 + b)) ((μ 199 (a * 12 + o)) + (μ 199 (o * 12 + b))))) [sx_bit Wm 199 = true, 0 ≤ (a * 12) + b ∧ (a * 12) + b < 144] rfl ⟨hb199, ⟨by omega, by omega⟩, trivial⟩ ?_
      obtain ⟨μ1, eμ1⟩ : ∃ μ', μ' = pm_up μ 199 ((a * 12) + b) (min (μ 199 (a * 12 + b)) ((μ 199 (a * 12 + o)) + (μ 199 (o * 12 + b)))) := ⟨_, rfl⟩
      rw [← eμ1]
      have hTμ1 : zTJ φ μ1 := by rw [eμ1]; exact zT_up hT zs199_0 rfl (i := (a * 12) + b) (by omega) (by omega) (by omega) (by omega)
      refine pm_blk hK zmm69 [] 2 110 [(2, 198), (2, 26), (0, y), (0, s), (0, o), (0, a), (0, b + 1), (0, (μ 199 (a * 12 + o)) + (μ 199 (o * 12 + b)))] [] μ1 [pm_in (b + 1)] rfl ⟨pm_in_mk (by omega) (by omega), trivial⟩ ?_
      refine pm_hide [7] ?_
      exact ih _ (by omega) rfl ⟨by omega, by omega⟩ (fun r hr => by rw [eμ1, pm_up_row hr]; exact hs r hr) (zFv_step ho hy.2 ha ⟨by omega, by omega⟩ hf rfl (zat_of eμ1)) hTμ1
set_option maxRecDepth 100000 in
theorem zk_b4 (hK : zKK ST) {X : Nat → List pm_V → List pm_V → pm_Mem → Prop} {μ0 : pm_Mem} {y s : Int} {m : Nat} (hy : 0 ≤ y ∧ y ≤ 12) (hn0 : μ0 26 2 = (m : Int)) (hm : m ≤ 16) (hlv0 : zLvs (μ0 27) m) (hb199 : sx_bit Wm 199 = true) {o : Int} {g : Int → Int} (ho : 0 ≤ o ∧ o < y) (KK : ∀ (μ : pm_Mem), (∀ r, r ≠ 199 → μ r = μ0 r) → zFv 1000000 (zws (zlw (μ0 27) m) s) y o g y 0 (μ 199) → zTJ φ μ → zW D Wm ST b0 l Sg zM69 bud X 173 [(2, 198), (2, 26), (0, y), (0, s), (0, o), (9, 0), (9, 0), (9, 0)] [] μ) (hbd : 3 ≤ bud.1 ∧ 72 ≤ bud.2.1) : ∀ (n : Nat) {a : Int} {μ : pm_Mem}, (y - a).toNat = n → ∀ (ha : 0 ≤ a ∧ a ≤ y) (hs : ∀ r, r ≠ 199 → μ r = μ0 r) (hf : zFv 1000000 (zws (zlw (μ0 27) m) s) y o g a 0 (μ 199)) (hT : zTJ φ μ), zW D Wm ST b0 l Sg zM69 bud X 101 [(2, 198), (2, 26), (0, y), (0, s), (0, o), (0, a), (9, 0), (9, 0)] [] μ := by
  intro n
  induction n using Nat.strongRecOn with
  | ind n ih =>
    intro a μ hn ha hs hf hT
    refine pm_blk hK zmm69 [] 2 104 [(2, 198), (2, 26), (0, y), (0, s), (0, o), (0, a), (9, 0), (9, 0)] [(0, y), (0, a)] μ [] rfl trivial ?_
    refine pm_icmp hK zmm69 .ge 69 173 rfl rfl (fun h0 => ?_) (fun h0 => ?_)
    · have h0 : y ≤ a := h0
      refine pm_hide [5] ?_
      obtain rfl : a = y := by omega
      exact KK _ hs hf hT
    · have h0 : a < y := h0
      refine pm_blk hK zmm69 [] 2 110 [(2, 198), (2, 26), (0, y), (0, s), (0, o), (0, a), (0, 0), (9, 0)] [] μ [] rfl trivial ?_
      refine zk_b3 hK (μ0 := μ0) hy hn0 hm hlv0 hb199 (o := o) (a := a) (g := g) ho ⟨by omega, by omega⟩ (fun μ hs hf hT => ?_) hbd _ rfl ⟨by omega, by omega⟩ hs hf hT
      refine pm_blk hK zmm69 [] 2 101 [(2, 198), (2, 26), (0, y), (0, s), (0, o), (0, a + 1), (9, 0), (9, 0)] [] μ [pm_in (a + 1)] rfl ⟨pm_in_mk (by omega) (by omega), trivial⟩ ?_
      exact ih _ (by omega) rfl ⟨by omega, by omega⟩ hs (zFv_row hf) hT
set_option maxRecDepth 100000 in
theorem zk_b5 (hK : zKK ST)  {μ0 : pm_Mem} {y s : Int} {m : Nat} (hy : 0 ≤ y ∧ y ≤ 12) (hn0 : μ0 26 2 = (m : Int)) (hm : m ≤ 16) (hlv0 : zLvs (μ0 27) m) (hb199 : sx_bit Wm 199 = true)  (hbd : 3 ≤ bud.1 ∧ 72 ≤ bud.2.1) : ∀ (n : Nat) {o : Int} {μ : pm_Mem}, (y - o).toNat = n → ∀ (ho : 0 ≤ o ∧ o ≤ y) (hs : ∀ r, r ≠ 199 → μ r = μ0 r) (hf : zFwl 1000000 (zws (zlw (μ0 27) m) s) y o (μ 199)) (hT : zTJ φ μ), zW D Wm ST b0 l Sg zM69 bud (pm_X zM69 (fun st' μ' => st' = [] ∧ zTJ φ μ' ∧ (∀ r, r ≠ 199 → μ' r = μ0 r) ∧ zFwl 1000000 (zws (zlw (μ0 27) m) s) y y (μ' 199))) 92 [(2, 198), (2, 26), (0, y), (0, s), (0, o), (9, 0), (9, 0), (9, 0)] [] μ := by
  intro n
  induction n using Nat.strongRecOn with
  | ind n ih =>
    intro o μ hn ho hs hf hT
    refine pm_blk hK zmm69 [] 2 95 [(2, 198), (2, 26), (0, y), (0, s), (0, o), (9, 0), (9, 0), (9, 0)] [(0, y), (0, o)] μ [] rfl trivial ?_
    refine pm_icmp hK zmm69 .ge 84 179 rfl rfl (fun h0 => ?_) (fun h0 => ?_)
    · have h0 : y ≤ o := h0
      obtain rfl : o = y := by omega
      exact pm_vret rfl rfl ⟨rfl, hT, hs, hf⟩
    · have h0 : o < y := h0
      refine pm_blk hK zmm69 [] 2 101 [(2, 198), (2, 26), (0, y), (0, s), (0, o), (0, 0), (9, 0), (9, 0)] [] μ [] rfl trivial ?_
      refine zk_b4 hK (μ0 := μ0) hy hn0 hm hlv0 hb199 (o := o) (g := μ 199) ⟨by omega, by omega⟩ (fun μ hs hf hT => ?_) hbd _ rfl ⟨by omega, by omega⟩ hs (zFv_0 hf) hT
      refine pm_blk hK zmm69 [] 2 92 [(2, 198), (2, 26), (0, y), (0, s), (0, o + 1), (9, 0), (9, 0), (9, 0)] [] μ [pm_in (o + 1)] rfl ⟨pm_in_mk (by omega) (by omega), trivial⟩ ?_
      exact ih _ (by omega) rfl ⟨by omega, by omega⟩ hs (zFv_end ⟨by omega, by omega⟩ hf) hT
set_option maxRecDepth 100000 in
theorem zk_measure (hK : zKK ST) {y s : Int} {m : Nat} (hT : zTJ φ μ) (hy : 0 ≤ y ∧ y ≤ 12) (hn0 : μ 26 2 = (m : Int)) (hm : m ≤ 16) (hlv0 : zLvs (μ 27) m) (hb199 : sx_bit Wm 199 = true) (hbd : 3 ≤ bud.1 ∧ 72 ≤ bud.2.1) : zC D Wm ST b0 l Sg zM69 bud [(2, 198), (2, 26), (0, y), (0, s)] μ (fun st' μ' => st' = [] ∧ zTJ φ μ' ∧ (∀ r, r ≠ 199 → μ' r = μ r) ∧ zFwl 1000000 (zws (zlw (μ 27) m) s) y y (μ' 199)) := by
  refine pm_blk hK zmm69 [] 2 3 [(2, 198), (2, 26), (0, y), (0, s), (0, 0), (9, 0), (9, 0), (9, 0)] [] μ [] rfl trivial ?_
  refine zk_b2 hK (μ0 := μ) hy hn0 hm hlv0 hb199 (fun μ2 hs hf hT => ?_) hbd _ rfl ⟨by omega, by omega⟩ (fun _ _ => rfl) (fun a b ha hb hh => absurd hh (by omega)) hT
  refine pm_blk hK zmm69 [] 2 92 [(2, 198), (2, 26), (0, y), (0, s), (0, 0), (9, 0), (9, 0), (9, 0)] [] μ2 [] rfl trivial ?_
  exact zk_b5 hK (μ0 := μ) hy hn0 hm hlv0 hb199 hbd _ rfl ⟨by omega, by omega⟩ hs (zFw_0 (by decide) (fun a b => zws_bd (fun a b => zlw_bd hlv0) s a b) (fun a b ha hb => hf a b ha hb (by omega))) hT
end ZHW
