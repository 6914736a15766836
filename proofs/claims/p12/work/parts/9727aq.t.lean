/-! how far: the class; walks printed by program (wip/p30/pmgen.py) and filled by hand -/
section ZHW
variable {φ : Option pm_Mem}
variable {D : va_G} {Wm : Nat} {ST : List (String × String × String × Nat)} {b0 : sx_B} {l : Launch} {Sg : Nat → Option Nat} {bud : sx_Bu} {μ : pm_Mem} {B0 : Nat → Prop} {J : (Nat → Option Nat) → Heap → Prop}
set_option maxRecDepth 100000 in
theorem zk_min (hK : zKK ST) {a b : Int} (hbd : 0 ≤ bud.1 ∧ 0 ≤ bud.2.1) : zC D Wm ST b0 l Sg zM30 bud [(0, a), (0, b)] μ (fun st' μ' => μ = μ' ∧ st' = [(0, min a b)]) := by
  refine pm_blk hK zmm30 [] 2 2 [(0, a), (0, b)] [(0, b), (0, a)] μ [] rfl trivial ?_
  refine pm_icmp hK zmm30 .gt 7 9 rfl rfl (fun h0 => ?_) (fun h0 => ?_)
  · have h0 : b < a := h0
    refine pm_blk hK zmm30 [] 1 10 [(0, a), (0, b)] [(0, b)] μ [] rfl trivial ?_
    exact pm_iret rfl rfl ⟨rfl, by rw [show min a b = b by omega]⟩
  · have h0 : a ≤ b := h0
    refine pm_blk hK zmm30 [] 2 10 [(0, a), (0, b)] [(0, a)] μ [] rfl trivial ?_
    exact pm_iret rfl rfl ⟨rfl, by rw [show min a b = a by omega]⟩
set_option maxRecDepth 100000 in
theorem zk_cell26 (hK : zKK ST) {a c : Int} (ha : 0 ≤ a ∧ a ≤ 15) (hc : 0 ≤ c ∧ c ≤ 3) (hbd : 1 ≤ bud.1 ∧ 22 ≤ bud.2.1) : zC D Wm ST b0 l Sg zM219 bud [(2, 26), (0, a), (0, c)] μ (fun st' μ' => μ = μ' ∧ st' = [(0, μ 27 (a * 4 + c))]) := by
  refine pm_blk hK zmm219 [] 13 15 [(2, 26), (0, a), (0, c), (0, (a * 4) + c)] [(0, 64 - 1), (0, 0), (0, (a * 4) + c)] μ [pm_in (a * 4), pm_in ((a * 4) + c), pm_in (64 - 1)] rfl ⟨pm_in_mk (by omega) (by omega), pm_in_mk (by omega) (by omega), pm_in_mk (by omega) (by omega), trivial⟩ ?_
  refine pm_call hK zmm219 (25, 1, 16, 3) zM16 (0, 0) [(0, (a * 4) + c), (0, 0), (0, 64 - 1)] [] rfl rfl rfl rfl ⟨by omega, by rw [zn16]; omega⟩ (zh_within hK ⟨Nat.le_refl _, Nat.le_refl _⟩) (fun st1 μc1 hp1 => ?_)
  obtain ⟨rfl, rfl⟩ := hp1
  refine pm_if hK zmm219 .eq 12 30 rfl rfl (fun h0 => ?_) (fun h0 => ?_)
  · have h0 : (if 0 ≤ ((a * 4) + c) ∧ ((a * 4) + c) ≤ (64 - 1) then 1 else 0 : Int) = (0 : Int) := h0
    have h0 := zif0 h0
    refine pm_blk hK zmm219 [] 1 31 [(2, 26), (0, a), (0, c), (0, (a * 4) + c)] [(0, (-1))] μ [] rfl trivial ?_
    exact pm_iret rfl rfl ⟨rfl, by first | rfl | (exfalso; omega)⟩
  · have h0 : (if 0 ≤ ((a * 4) + c) ∧ ((a * 4) + c) ≤ (64 - 1) then 1 else 0 : Int) ≠ (0 : Int) := h0
    have h0 := zif1 h0
    refine pm_blk hK zmm219 [] 5 31 [(2, 26), (0, a), (0, c), (0, (a * 4) + c)] [(0, μ 27 ((a * 4) + c))] μ [0 ≤ (a * 4) + c ∧ (a * 4) + c < 64] rfl ⟨⟨by omega, by omega⟩, trivial⟩ ?_
    exact pm_iret rfl rfl ⟨rfl, by first | rfl | (exfalso; omega)⟩
set_option maxRecDepth 100000 in
theorem zk_ol (hK : zKK ST)  {μ : pm_Mem} {a b : Int} {m : Nat} (hn26 : μ 26 2 = (m : Int)) (hm : m ≤ 16) (hlv : zLvs (μ 27) m) (hbd : 2 ≤ bud.1 ∧ 45 ≤ bud.2.1) : ∀ (n : Nat) {f i : Int}, ((m : Int) - i).toNat = n → ∀ (hi : 0 ≤ i ∧ i ≤ (m : Int)) (hf : zlf (μ 27) i.toNat a b f), zW D Wm ST b0 l Sg zM260 bud (pm_X zM260 (fun st' μ' => μ = μ' ∧ ∃ x, st' = [(0, x)] ∧ zlf (μ 27) m a b x)) 5 [(2, 26), (0, a), (0, b), (0, f), (0, i), (9, 0), (9, 0), (9, 0)] [] μ := by
  intro n
  induction n using Nat.strongRecOn with
  | ind n ih =>
    intro f i hn hi hf
    refine pm_blk hK zmm260 [] 3 11 [(2, 26), (0, a), (0, b), (0, f), (0, i), (9, 0), (9, 0), (9, 0)] [(0, μ 26 2), (0, i)] μ [] rfl trivial ?_
    refine pm_icmp hK zmm260 .ge 74 85 rfl rfl (fun h0 => ?_) (fun h0 => ?_)
    · have h0 : μ 26 2 ≤ i := h0
      refine pm_blk hK zmm260 [] 1 86 [(2, 26), (0, a), (0, b), (0, f), (0, i), (9, 0), (9, 0), (9, 0)] [(0, f)] μ [] rfl trivial ?_
      obtain rfl : i = (m : Int) := by omega
      exact pm_iret rfl rfl ⟨rfl, _, rfl, hf⟩
    · have h0 : i < μ 26 2 := h0
      have hv := hlv i.toNat (by omega)
      have ei : ((i.toNat : Nat) : Int) = i := by omega
      rw [ei] at hv
      have e1 : (i + 1).toNat = i.toNat + 1 := by omega
      refine pm_blk hK zmm260 [] 3 18 [(2, 26), (0, a), (0, b), (0, f), (0, i), (9, 0), (9, 0), (9, 0)] [(0, 0), (0, i), (2, 26)] μ [] rfl trivial ?_
      refine pm_call hK zmm260 (33, 0, 219, 2) zM219 (1, 22) [(2, 26), (0, i), (0, 0)] [] rfl rfl rfl rfl ⟨by omega, by rw [zn219]; omega⟩ (zk_cell26 hK (a := i) (c := 0) ⟨by omega, by omega⟩ ⟨by omega, by omega⟩ ⟨Nat.le_refl _, Nat.le_refl _⟩) (fun st1 μc1 hp1 => ?_)
      obtain ⟨rfl, rfl⟩ := hp1
      refine pm_blk hK zmm260 [] 4 27 [(2, 26), (0, a), (0, b), (0, f), (0, i), (0, μ 27 (i * 4 + 0)), (9, 0), (9, 0)] [(0, 1), (0, i), (2, 26)] μ [] rfl trivial ?_
      refine pm_call hK zmm260 (33, 0, 219, 2) zM219 (1, 22) [(2, 26), (0, i), (0, 1)] [] rfl rfl rfl rfl ⟨by omega, by rw [zn219]; omega⟩ (zk_cell26 hK (a := i) (c := 1) ⟨by omega, by omega⟩ ⟨by omega, by omega⟩ ⟨Nat.le_refl _, Nat.le_refl _⟩) (fun st2 μc2 hp2 => ?_)
      obtain ⟨rfl, rfl⟩ := hp2
      refine pm_blk hK zmm260 [] 4 36 [(2, 26), (0, a), (0, b), (0, f), (0, i), (0, μ 27 (i * 4 + 0)), (0, μ 27 (i * 4 + 1)), (9, 0)] [(0, 2), (0, i), (2, 26)] μ [] rfl trivial ?_
      refine pm_call hK zmm260 (33, 0, 219, 2) zM219 (1, 22) [(2, 26), (0, i), (0, 2)] [] rfl rfl rfl rfl ⟨by omega, by rw [zn219]; omega⟩ (zk_cell26 hK (a := i) (c := 2) ⟨by omega, by omega⟩ ⟨by omega, by omega⟩ ⟨Nat.le_refl _, Nat.le_refl _⟩) (fun st3 μc3 hp3 => ?_)
      obtain ⟨rfl, rfl⟩ := hp3
      refine pm_blk hK zmm260 [] 3 44 [(2, 26), (0, a), (0, b), (0, f), (0, i), (0, μ 27 (i * 4 + 0)), (0, μ 27 (i * 4 + 1)), (0, μ 27 (i * 4 + 2))] [(0, a), (0, μ 27 (i * 4 + 0))] μ [] rfl trivial ?_
      refine pm_icmp hK zmm260 .ne 9 53 rfl rfl (fun h1 => ?_) (fun h1 => ?_)
      · have h1 : μ 27 (i * 4 + 0) ≠ a := h1
        refine pm_blk hK zmm260 [] 2 56 [(2, 26), (0, a), (0, b), (0, f), (0, i), (0, μ 27 (i * 4 + 0)), (0, μ 27 (i * 4 + 1)), (0, μ 27 (i * 4 + 2))] [(0, b), (0, μ 27 (i * 4 + 0))] μ [] rfl trivial ?_
        refine pm_icmp hK zmm260 .ne 23 79 rfl rfl (fun h2 => ?_) (fun h2 => ?_)
        · have h2 : μ 27 (i * 4 + 0) ≠ b := h2
          refine pm_blk hK zmm260 [] 2 5 [(2, 26), (0, a), (0, b), (0, f), (0, i + 1), (0, μ 27 (i * 4 + 0)), (0, μ 27 (i * 4 + 1)), (0, μ 27 (i * 4 + 2))] [] μ [pm_in (i + 1)] rfl ⟨pm_in_mk (by omega) (by omega), trivial⟩ ?_
          refine pm_hide [5, 6, 7] ?_
          refine ih _ (by omega) rfl ⟨by omega, by omega⟩ ?_
          rw [e1]
          first
          | exact zlf_n hf (by rw [ei]; omega)
          | exact zlf_y (by rw [ei]; exact hv) hf (by rw [ei]; omega) (by rw [ei]; omega)
          | (exfalso; omega)
        · have h2 : μ 27 (i * 4 + 0) = b := h2
          refine pm_blk hK zmm260 [] 2 62 [(2, 26), (0, a), (0, b), (0, f), (0, i), (0, μ 27 (i * 4 + 0)), (0, μ 27 (i * 4 + 1)), (0, μ 27 (i * 4 + 2))] [(0, a), (0, μ 27 (i * 4 + 1))] μ [] rfl trivial ?_
          refine pm_icmp hK zmm260 .ne 17 79 rfl rfl (fun h3 => ?_) (fun h3 => ?_)
          · have h3 : μ 27 (i * 4 + 1) ≠ a := h3
            refine pm_blk hK zmm260 [] 2 5 [(2, 26), (0, a), (0, b), (0, f), (0, i + 1), (0, μ 27 (i * 4 + 0)), (0, μ 27 (i * 4 + 1)), (0, μ 27 (i * 4 + 2))] [] μ [pm_in (i + 1)] rfl ⟨pm_in_mk (by omega) (by omega), trivial⟩ ?_
            refine pm_hide [5, 6, 7] ?_
            refine ih _ (by omega) rfl ⟨by omega, by omega⟩ ?_
            rw [e1]
            first
            | exact zlf_n hf (by rw [ei]; omega)
            | exact zlf_y (by rw [ei]; exact hv) hf (by rw [ei]; omega) (by rw [ei]; omega)
            | (exfalso; omega)
          · have h3 : μ 27 (i * 4 + 1) = a := h3
            refine pm_blk hK zmm260 [] 2 67 [(2, 26), (0, a), (0, b), (0, f), (0, i), (0, μ 27 (i * 4 + 0)), (0, μ 27 (i * 4 + 1)), (0, μ 27 (i * 4 + 2))] [(0, (-1)), (0, f)] μ [] rfl trivial ?_
            refine pm_icmp hK zmm260 .eq 9 76 rfl rfl (fun h4 => ?_) (fun h4 => ?_)
            · have h4 : f = ((-1) : Int) := h4
              refine pm_blk hK zmm260 [] 4 5 [(2, 26), (0, a), (0, b), (0, μ 27 (i * 4 + 2)), (0, i + 1), (0, μ 27 (i * 4 + 0)), (0, μ 27 (i * 4 + 1)), (0, μ 27 (i * 4 + 2))] [] μ [pm_in (i + 1)] rfl ⟨pm_in_mk (by omega) (by omega), trivial⟩ ?_
              refine pm_hide [5, 6, 7] ?_
              refine ih _ (by omega) rfl ⟨by omega, by omega⟩ ?_
              rw [e1]
              first
              | exact zlf_n hf (by rw [ei]; omega)
              | exact zlf_y (by rw [ei]; exact hv) hf (by rw [ei]; omega) (by rw [ei]; omega)
              | (exfalso; omega)
            · have h4 : f ≠ ((-1) : Int) := h4
              refine pm_blk hK zmm260 [] 2 73 [(2, 26), (0, a), (0, b), (0, f), (0, i), (0, μ 27 (i * 4 + 0)), (0, μ 27 (i * 4 + 1)), (0, μ 27 (i * 4 + 2))] [(0, f), (0, μ 27 (i * 4 + 2))] μ [] rfl trivial ?_
              refine pm_icmp hK zmm260 .ge 6 79 rfl rfl (fun h5 => ?_) (fun h5 => ?_)
              · have h5 : f ≤ μ 27 (i * 4 + 2) := h5
                refine pm_blk hK zmm260 [] 2 5 [(2, 26), (0, a), (0, b), (0, f), (0, i + 1), (0, μ 27 (i * 4 + 0)), (0, μ 27 (i * 4 + 1)), (0, μ 27 (i * 4 + 2))] [] μ [pm_in (i + 1)] rfl ⟨pm_in_mk (by omega) (by omega), trivial⟩ ?_
                refine pm_hide [5, 6, 7] ?_
                refine ih _ (by omega) rfl ⟨by omega, by omega⟩ ?_
                rw [e1]
                first
                | exact zlf_n hf (by rw [ei]; omega)
                | exact zlf_y (by rw [ei]; exact hv) hf (by rw [ei]; omega) (by rw [ei]; omega)
                | (exfalso; omega)
              · have h5 : μ 27 (i * 4 + 2) < f := h5
                refine pm_blk hK zmm260 [] 4 5 [(2, 26), (0, a), (0, b), (0, μ 27 (i * 4 + 2)), (0, i + 1), (0, μ 27 (i * 4 + 0)), (0, μ 27 (i * 4 + 1)), (0, μ 27 (i * 4 + 2))] [] μ [pm_in (i + 1)] rfl ⟨pm_in_mk (by omega) (by omega), trivial⟩ ?_
                refine pm_hide [5, 6, 7] ?_
                refine ih _ (by omega) rfl ⟨by omega, by omega⟩ ?_
                rw [e1]
                first
                | exact zlf_n hf (by rw [ei]; omega)
                | exact zlf_y (by rw [ei]; exact hv) hf (by rw [ei]; omega) (by rw [ei]; omega)
                | (exfalso; omega)
      · have h1 : μ 27 (i * 4 + 0) = a := h1
        refine pm_blk hK zmm260 [] 2 50 [(2, 26), (0, a), (0, b), (0, f), (0, i), (0, μ 27 (i * 4 + 0)), (0, μ 27 (i * 4 + 1)), (0, μ 27 (i * 4 + 2))] [(0, b), (0, μ 27 (i * 4 + 1))] μ [] rfl trivial ?_
        refine pm_icmp hK zmm260 .eq 15 65 rfl rfl (fun h6 => ?_) (fun h6 => ?_)
        · have h6 : μ 27 (i * 4 + 1) = b := h6
          refine pm_blk hK zmm260 [] 2 67 [(2, 26), (0, a), (0, b), (0, f), (0, i), (0, μ 27 (i * 4 + 0)), (0, μ 27 (i * 4 + 1)), (0, μ 27 (i * 4 + 2))] [(0, (-1)), (0, f)] μ [] rfl trivial ?_
          refine pm_icmp hK zmm260 .eq 9 76 rfl rfl (fun h7 => ?_) (fun h7 => ?_)
          · have h7 : f = ((-1) : Int) := h7
            refine pm_blk hK zmm260 [] 4 5 [(2, 26), (0, a), (0, b), (0, μ 27 (i * 4 + 2)), (0, i + 1), (0, μ 27 (i * 4 + 0)), (0, μ 27 (i * 4 + 1)), (0, μ 27 (i * 4 + 2))] [] μ [pm_in (i + 1)] rfl ⟨pm_in_mk (by omega) (by omega), trivial⟩ ?_
            refine pm_hide [5, 6, 7] ?_
            refine ih _ (by omega) rfl ⟨by omega, by omega⟩ ?_
            rw [e1]
            first
            | exact zlf_n hf (by rw [ei]; omega)
            | exact zlf_y (by rw [ei]; exact hv) hf (by rw [ei]; omega) (by rw [ei]; omega)
            | (exfalso; omega)
          · have h7 : f ≠ ((-1) : Int) := h7
            refine pm_blk hK zmm260 [] 2 73 [(2, 26), (0, a), (0, b), (0, f), (0, i), (0, μ 27 (i * 4 + 0)), (0, μ 27 (i * 4 + 1)), (0, μ 27 (i * 4 + 2))] [(0, f), (0, μ 27 (i * 4 + 2))] μ [] rfl trivial ?_
            refine pm_icmp hK zmm260 .ge 6 79 rfl rfl (fun h8 => ?_) (fun h8 => ?_)
            · have h8 : f ≤ μ 27 (i * 4 + 2) := h8
              refine pm_blk hK zmm260 [] 2 5 [(2, 26), (0, a), (0, b), (0, f), (0, i + 1), (0, μ 27 (i * 4 + 0)), (0, μ 27 (i * 4 + 1)), (0, μ 27 (i * 4 + 2))] [] μ [pm_in (i + 1)] rfl ⟨pm_in_mk (by omega) (by omega), trivial⟩ ?_
              refine pm_hide [5, 6, 7] ?_
              refine ih _ (by omega) rfl ⟨by omega, by omega⟩ ?_
              rw [e1]
              first
              | exact zlf_n hf (by rw [ei]; omega)
              | exact zlf_y (by rw [ei]; exact hv) hf (by rw [ei]; omega) (by rw [ei]; omega)
              | (exfalso; omega)
            · have h8 : μ 27 (i * 4 + 2) < f := h8
              refine pm_blk hK zmm260 [] 4 5 [(2, 26), (0, a), (0, b), (0, μ 27 (i * 4 + 2)), (0, i + 1), (0, μ 27 (i * 4 + 0)), (0, μ 27 (i * 4 + 1)), (0, μ 27 (i * 4 + 2))] [] μ [pm_in (i + 1)] rfl ⟨pm_in_mk (by omega) (by omega), trivial⟩ ?_
              refine pm_hide [5, 6, 7] ?_
              refine ih _ (by omega) rfl ⟨by omega, by omega⟩ ?_
              rw [e1]
              first
              | exact zlf_n hf (by rw [ei]; omega)
              | exact zlf_y (by rw [ei]; exact hv) hf (by rw [ei]; omega) (by rw [ei]; omega)
              | (exfalso; omega)
        · have h6 : μ 27 (i * 4 + 1) ≠ b := h6
          refine pm_blk hK zmm260 [] 2 56 [(2, 26), (0, a), (0, b), (0, f), (0, i), (0, μ 27 (i * 4 + 0)), (0, μ 27 (i * 4 + 1)), (0, μ 27 (i * 4 + 2))] [(0, b), (0, μ 27 (i * 4 + 0))] μ [] rfl trivial ?_
          refine pm_icmp hK zmm260 .ne 23 79 rfl rfl (fun h9 => ?_) (fun h9 => ?_)
          · have h9 : μ 27 (i * 4 + 0) ≠ b := h9
            refine pm_blk hK zmm260 [] 2 5 [(2, 26), (0, a), (0, b), (0, f), (0, i + 1), (0, μ 27 (i * 4 + 0)), (0, μ 27 (i * 4 + 1)), (0, μ 27 (i * 4 + 2))] [] μ [pm_in (i + 1)] rfl ⟨pm_in_mk (by omega) (by omega), trivial⟩ ?_
            refine pm_hide [5, 6, 7] ?_
            refine ih _ (by omega) rfl ⟨by omega, by omega⟩ ?_
            rw [e1]
            first
            | exact zlf_n hf (by rw [ei]; omega)
            | exact zlf_y (by rw [ei]; exact hv) hf (by rw [ei]; omega) (by rw [ei]; omega)
            | (exfalso; omega)
          · have h9 : μ 27 (i * 4 + 0) = b := h9
            refine pm_blk hK zmm260 [] 2 62 [(2, 26), (0, a), (0, b), (0, f), (0, i), (0, μ 27 (i * 4 + 0)), (0, μ 27 (i * 4 + 1)), (0, μ 27 (i * 4 + 2))] [(0, a), (0, μ 27 (i * 4 + 1))] μ [] rfl trivial ?_
            refine pm_icmp hK zmm260 .ne 17 79 rfl rfl (fun h10 => ?_) (fun h10 => ?_)
            · have h10 : μ 27 (i * 4 + 1) ≠ a := h10
              refine pm_blk hK zmm260 [] 2 5 [(2, 26), (0, a), (0, b), (0, f), (0, i + 1), (0, μ 27 (i * 4 + 0)), (0, μ 27 (i * 4 + 1)), (0, μ 27 (i * 4 + 2))] [] μ [pm_in (i + 1)] rfl ⟨pm_in_mk (by omega) (by omega), trivial⟩ ?_
              refine pm_hide [5, 6, 7] ?_
              refine ih _ (by omega) rfl ⟨by omega, by omega⟩ ?_
              rw [e1]
              first
              | exact zlf_n hf (by rw [ei]; omega)
              | exact zlf_y (by rw [ei]; exact hv) hf (by rw [ei]; omega) (by rw [ei]; omega)
              | (exfalso; omega)
            · have h10 : μ 27 (i * 4 + 1) = a := h10
              refine pm_blk hK zmm260 [] 2 67 [(2, 26), (0, a), (0, b), (0, f), (0, i), (0, μ 27 (i * 4 + 0)), (0, μ 27 (i * 4 + 1)), (0, μ 27 (i * 4 + 2))] [(0, (-1)), (0, f)] μ [] rfl trivial ?_
              refine pm_icmp hK zmm260 .eq 9 76 rfl rfl (fun h11 => ?_) (fun h11 => ?_)
              · have h11 : f = ((-1) : Int) := h11
                refine pm_blk hK zmm260 [] 4 5 [(2, 26), (0, a), (0, b), (0, μ 27 (i * 4 + 2)), (0, i + 1), (0, μ 27 (i * 4 + 0)), (0, μ 27 (i * 4 + 1)), (0, μ 27 (i * 4 + 2))] [] μ [pm_in (i + 1)] rfl ⟨pm_in_mk (by omega) (by omega), trivial⟩ ?_
                refine pm_hide [5, 6, 7] ?_
                refine ih _ (by omega) rfl ⟨by omega, by omega⟩ ?_
                rw [e1]
                first
                | exact zlf_n hf (by rw [ei]; omega)
                | exact zlf_y (by rw [ei]; exact hv) hf (by rw [ei]; omega) (by rw [ei]; omega)
                | (exfalso; omega)
              · have h11 : f ≠ ((-1) : Int) := h11
                refine pm_blk hK zmm260 [] 2 73 [(2, 26), (0, a), (0, b), (0, f), (0, i), (0, μ 27 (i * 4 + 0)), (0, μ 27 (i * 4 + 1)), (0, μ 27 (i * 4 + 2))] [(0, f), (0, μ 27 (i * 4 + 2))] μ [] rfl trivial ?_
                refine pm_icmp hK zmm260 .ge 6 79 rfl rfl (fun h12 => ?_) (fun h12 => ?_)
                · have h12 : f ≤ μ 27 (i * 4 + 2) := h12
                  refine pm_blk hK zmm260 [] 2 5 [(2, 26), (0, a), (0, b), (0, f), (0, i + 1), (0, μ 27 (i * 4 + 0)), (0, μ 27 (i * 4 + 1)), (0, μ 27 (i * 4 + 2))] [] μ [pm_in (i + 1)] rfl ⟨pm_in_mk (by omega) (by omega), trivial⟩ ?_
                  refine pm_hide [5, 6, 7] ?_
                  refine ih _ (by omega) rfl ⟨by omega, by omega⟩ ?_
                  rw [e1]
                  first
                  | exact zlf_n hf (by rw [ei]; omega)
                  | exact zlf_y (by rw [ei]; exact hv) hf (by rw [ei]; omega) (by rw [ei]; omega)
                  | (exfalso; omega)
                · have h12 : μ 27 (i * 4 + 2) < f := h12
                  refine pm_blk hK zmm260 [] 4 5 [(2, 26), (0, a), (0, b), (0, μ 27 (i * 4 + 2)), (0, i + 1), (0, μ 27 (i * 4 + 0)), (0, μ 27 (i * 4 + 1)), (0, μ 27 (i * 4 + 2))] [] μ [pm_in (i + 1)] rfl ⟨pm_in_mk (by omega) (by omega), trivial⟩ ?_
                  refine pm_hide [5, 6, 7] ?_
                  refine ih _ (by omega) rfl ⟨by omega, by omega⟩ ?_
                  rw [e1]
                  first
                  | exact zlf_n hf (by rw [ei]; omega)
                  | exact zlf_y (by rw [ei]; exact hv) hf (by rw [ei]; omega) (by rw [ei]; omega)
                  | (exfalso; omega)
set_option maxRecDepth 100000 in
theorem zk_oneLine (hK : zKK ST) {a b : Int} {m : Nat} (hn26 : μ 26 2 = (m : Int)) (hm : m ≤ 16) (hlv : zLvs (μ 27) m) (hbd : 2 ≤ bud.1 ∧ 45 ≤ bud.2.1) : zC D Wm ST b0 l Sg zM260 bud [(2, 26), (0, a), (0, b)] μ (fun st' μ' => μ = μ' ∧ ∃ x, st' = [(0, x)] ∧ zlf (μ 27) m a b x) := by
  refine pm_blk hK zmm260 [] 4 5 [(2, 26), (0, a), (0, b), (0, (-1)), (0, 0), (9, 0), (9, 0), (9, 0)] [] μ [] rfl trivial ?_
  exact zk_ol hK hn26 hm hlv hbd _ rfl ⟨by omega, by omega⟩ (Or.inl ⟨rfl, rfl⟩)
end ZHW
