/-! tokens: the class; walks printed by program (wip/p30/pmgen.py) and filled by hand -/
section ZHW
variable {φ : Option pm_Mem}
variable {D : va_G} {Wm : Nat} {ST : List (String × String × String × Nat)} {b0 : sx_B} {l : Launch} {Sg : Nat → Option Nat} {bud : sx_Bu} {μ : pm_Mem} {B0 : Nat → Prop} {J : (Nat → Option Nat) → Heap → Prop}
set_option maxRecDepth 100000 in
theorem zt_isL (hK : zKK ST) {c : Int} (hbd : 1 ≤ bud.1 ∧ 22 ≤ bud.2.1) : zC D Wm ST b0 l Sg zM234 bud [(0, c)] μ (fun st' μ' => μ = μ' ∧ ∃ x, st' = [(0, x)] ∧ ((x = 1 ∧ zbL c) ∨ (x = 0 ∧ ¬ zbL c))) := by
  refine pm_blk hK zmm234 [] 3 5 [(0, c)] [(0, 122), (0, 97), (0, c)] μ [] rfl trivial ?_
  refine pm_call hK zmm234 (53, 1, 16, 3) zM16 (0, 0) [(0, c), (0, 97), (0, 122)] [] rfl rfl rfl rfl ⟨by omega, by rw [zn16]; omega⟩ (zh_within hK ⟨Nat.le_refl _, Nat.le_refl _⟩) (fun st1 μc1 hp1 => ?_)
  obtain ⟨rfl, rfl⟩ := hp1
  refine pm_if hK zmm234 .ne 14 22 rfl rfl (fun h0 => ?_) (fun h0 => ?_)
  · have h0 : (if 97 ≤ c ∧ c ≤ 122 then 1 else 0 : Int) ≠ (0 : Int) := h0
    have h0 := zif1 h0
    refine pm_blk hK zmm234 [] 2 27 [(0, c)] [(0, 1)] μ [] rfl trivial ?_
    exact pm_zret rfl rfl (by first | exact Or.inl rfl | exact Or.inr rfl | omega) ⟨rfl, _, rfl, by omega⟩
  · have h0 : (if 97 ≤ c ∧ c ≤ 122 then 1 else 0 : Int) = (0 : Int) := h0
    have h0 := zif0 h0
    refine pm_blk hK zmm234 [] 3 16 [(0, c)] [(0, 90), (0, 65), (0, c)] μ [] rfl trivial ?_
    refine pm_call hK zmm234 (53, 1, 16, 3) zM16 (0, 0) [(0, c), (0, 65), (0, 90)] [] rfl rfl rfl rfl ⟨by omega, by rw [zn16]; omega⟩ (zh_within hK ⟨Nat.le_refl _, Nat.le_refl _⟩) (fun st2 μc2 hp2 => ?_)
    obtain ⟨rfl, rfl⟩ := hp2
    refine pm_if hK zmm234 .eq 7 26 rfl rfl (fun h1 => ?_) (fun h1 => ?_)
    · have h1 : (if 65 ≤ c ∧ c ≤ 90 then 1 else 0 : Int) = (0 : Int) := h1
      have h1 := zif0 h1
      refine pm_blk hK zmm234 [] 1 27 [(0, c)] [(0, 0)] μ [] rfl trivial ?_
      exact pm_zret rfl rfl (by first | exact Or.inl rfl | exact Or.inr rfl | omega) ⟨rfl, _, rfl, by omega⟩
    · have h1 : (if 65 ≤ c ∧ c ≤ 90 then 1 else 0 : Int) ≠ (0 : Int) := h1
      have h1 := zif1 h1
      refine pm_blk hK zmm234 [] 2 27 [(0, c)] [(0, 1)] μ [] rfl trivial ?_
      exact pm_zret rfl rfl (by first | exact Or.inl rfl | exact Or.inr rfl | omega) ⟨rfl, _, rfl, by omega⟩
set_option maxRecDepth 100000 in
theorem zt_isD (hK : zKK ST) {c : Int} (hbd : 1 ≤ bud.1 ∧ 22 ≤ bud.2.1) : zC D Wm ST b0 l Sg zM235 bud [(0, c)] μ (fun st' μ' => μ = μ' ∧ ∃ x, st' = [(0, x)] ∧ ((x = 1 ∧ zbD c) ∨ (x = 0 ∧ ¬ zbD c))) := by
  refine pm_blk hK zmm235 [] 3 5 [(0, c)] [(0, 57), (0, 48), (0, c)] μ [] rfl trivial ?_
  refine pm_call hK zmm235 (53, 1, 16, 3) zM16 (0, 0) [(0, c), (0, 48), (0, 57)] [] rfl rfl rfl rfl ⟨by omega, by rw [zn16]; omega⟩ (zh_within hK ⟨Nat.le_refl _, Nat.le_refl _⟩) (fun st1 μc1 hp1 => ?_)
  obtain ⟨rfl, rfl⟩ := hp1
  rcases zif01 (48 ≤ c ∧ c ≤ 57) with q | q
  · have q2 := zif0 q; rw [q]; exact pm_zret rfl rfl (by first | exact Or.inl rfl | exact Or.inr rfl | omega) ⟨rfl, _, rfl, by omega⟩
  · have q2 := zif1 (P := 48 ≤ c ∧ c ≤ 57) (by omega); rw [q]; exact pm_zret rfl rfl (by first | exact Or.inl rfl | exact Or.inr rfl | omega) ⟨rfl, _, rfl, by omega⟩
set_option maxRecDepth 100000 in
theorem zt_begins (hK : zKK ST) {i : Int} (hi : 0 ≤ i ∧ i < 400) (hbd : 2 ≤ bud.1 ∧ 42 ≤ bud.2.1) : zC D Wm ST b0 l Sg zM233 bud [(2, 88), (0, i)] μ (fun st' μ' => μ = μ' ∧ ∃ x, st' = [(0, x)] ∧ ((x = 1 ∧ ¬ zbB (μ 89 i) ∧ (0 < i → ¬ (zbL (μ 89 i) ∧ zbL (μ 89 (i - 1))) ∧ ¬ (zbD (μ 89 i) ∧ zbD (μ 89 (i - 1))))) ∨ (x = 0 ∧ (zbB (μ 89 i) ∨ (0 < i ∧ ((zbL (μ 89 i) ∧ zbL (μ 89 (i - 1))) ∨ (zbD (μ 89 i) ∧ zbD (μ 89 (i - 1))))))))) := by
  refine pm_blk hK zmm233 [] 6 8 [(2, 88), (0, i), (0, μ 89 i), (9, 0), (9, 0)] [(0, i)] μ [0 ≤ i ∧ i < 400] rfl ⟨⟨by omega, by omega⟩, trivial⟩ ?_
  refine pm_if hK zmm233 .le 14 22 rfl rfl (fun h0 => ?_) (fun h0 => ?_)
  · have h0 : i ≤ (0 : Int) := h0
    refine pm_blk hK zmm233 [] 4 28 [(2, 88), (0, i), (0, μ 89 i), (0, 32), (9, 0)] [(0, 32), (0, μ 89 i)] μ [] rfl trivial ?_
    refine pm_icmp hK zmm233 .eq 9 37 rfl rfl (fun h1 => ?_) (fun h1 => ?_)
    · have h1 : μ 89 i = (32 : Int) := h1
      refine pm_blk hK zmm233 [] 4 46 [(2, 88), (0, i), (0, μ 89 i), (0, 32), (0, 1)] [(0, 1)] μ [] rfl trivial ?_
      refine pm_if hK zmm233 .ne 35 81 rfl rfl (fun h2 => ?_) (fun h2 => ?_)
      · have h2 : (1 : Int) ≠ (0 : Int) := h2
        refine pm_blk hK zmm233 [] 1 82 [(2, 88), (0, i), (0, μ 89 i), (0, 32), (0, 1)] [(0, 0)] μ [] rfl trivial ?_
        exact pm_zret rfl rfl (by first | exact Or.inl rfl | exact Or.inr rfl | omega) ⟨rfl, _, rfl, by omega⟩
      · have h2 : (1 : Int) = (0 : Int) := h2
        exact absurd h2 (by decide)
    · have h1 : μ 89 i ≠ (32 : Int) := h1
      refine pm_blk hK zmm233 [] 2 34 [(2, 88), (0, i), (0, μ 89 i), (0, 32), (9, 0)] [(0, 10), (0, μ 89 i)] μ [] rfl trivial ?_
      refine pm_icmp hK zmm233 .ne 7 41 rfl rfl (fun h3 => ?_) (fun h3 => ?_)
      · have h3 : μ 89 i ≠ (10 : Int) := h3
        refine pm_blk hK zmm233 [] 3 46 [(2, 88), (0, i), (0, μ 89 i), (0, 32), (0, 0)] [(0, 0)] μ [] rfl trivial ?_
        refine pm_if hK zmm233 .ne 35 81 rfl rfl (fun h4 => ?_) (fun h4 => ?_)
        · have h4 : (0 : Int) ≠ (0 : Int) := h4
          exact absurd h4 (by decide)
        · have h4 : (0 : Int) = (0 : Int) := h4
          refine pm_blk hK zmm233 [] 1 50 [(2, 88), (0, i), (0, μ 89 i), (0, 32), (0, 0)] [(0, μ 89 i)] μ [] rfl trivial ?_
          refine pm_call hK zmm233 (106, 1, 234, 1) zM234 (1, 22) [(0, μ 89 i)] [] rfl rfl rfl rfl ⟨by omega, by rw [zn234]; omega⟩ (zt_isL hK (c := (μ 89 i)) ⟨Nat.le_refl _, Nat.le_refl _⟩) (fun st1 μc1 hp1 => ?_)
          obtain ⟨rfl, x1, rfl, hx1⟩ := hp1
          refine pm_if hK zmm233 .eq 10 63 rfl rfl (fun h5 => ?_) (fun h5 => ?_)
          · have h5 : x1 = (0 : Int) := h5
            refine pm_blk hK zmm233 [] 1 64 [(2, 88), (0, i), (0, μ 89 i), (0, 32), (0, 0)] [(0, μ 89 i)] μ [] rfl trivial ?_
            refine pm_call hK zmm233 (109, 1, 235, 1) zM235 (1, 22) [(0, μ 89 i)] [] rfl rfl rfl rfl ⟨by omega, by rw [zn235]; omega⟩ (zt_isD hK (c := (μ 89 i)) ⟨Nat.le_refl _, Nat.le_refl _⟩) (fun st2 μc2 hp2 => ?_)
            obtain ⟨rfl, x2, rfl, hx2⟩ := hp2
            refine pm_if hK zmm233 .eq 10 77 rfl rfl (fun h6 => ?_) (fun h6 => ?_)
            · have h6 : x2 = (0 : Int) := h6
              refine pm_blk hK zmm233 [] 2 82 [(2, 88), (0, i), (0, μ 89 i), (0, 32), (0, 0)] [(0, 1)] μ [] rfl trivial ?_
              exact pm_zret rfl rfl (by first | exact Or.inl rfl | exact Or.inr rfl | omega) ⟨rfl, _, rfl, by omega⟩
            · have h6 : x2 ≠ (0 : Int) := h6
              refine pm_blk hK zmm233 [] 1 71 [(2, 88), (0, i), (0, μ 89 i), (0, 32), (0, 0)] [(0, 32)] μ [] rfl trivial ?_
              refine pm_call hK zmm233 (109, 1, 235, 1) zM235 (1, 22) [(0, 32)] [] rfl rfl rfl rfl ⟨by omega, by rw [zn235]; omega⟩ (zt_isD hK (c := 32) ⟨Nat.le_refl _, Nat.le_refl _⟩) (fun st3 μc3 hp3 => ?_)
              obtain ⟨rfl, x3, rfl, hx3⟩ := hp3
              refine pm_if hK zmm233 .ne 7 81 rfl rfl (fun h7 => ?_) (fun h7 => ?_)
              · have h7 : x3 ≠ (0 : Int) := h7
                refine pm_blk hK zmm233 [] 1 82 [(2, 88), (0, i), (0, μ 89 i), (0, 32), (0, 0)] [(0, 0)] μ [] rfl trivial ?_
                exact pm_zret rfl rfl (by first | exact Or.inl rfl | exact Or.inr rfl | omega) ⟨rfl, _, rfl, by omega⟩
              · have h7 : x3 = (0 : Int) := h7
                refine pm_blk hK zmm233 [] 2 82 [(2, 88), (0, i), (0, μ 89 i), (0, 32), (0, 0)] [(0, 1)] μ [] rfl trivial ?_
                exact pm_zret rfl rfl (by first | exact Or.inl rfl | exact Or.inr rfl | omega) ⟨rfl, _, rfl, by omega⟩
          · have h5 : x1 ≠ (0 : Int) := h5
            refine pm_blk hK zmm233 [] 1 57 [(2, 88), (0, i), (0, μ 89 i), (0, 32), (0, 0)] [(0, 32)] μ [] rfl trivial ?_
            refine pm_call hK zmm233 (106, 1, 234, 1) zM234 (1, 22) [(0, 32)] [] rfl rfl rfl rfl ⟨by omega, by rw [zn234]; omega⟩ (zt_isL hK (c := 32) ⟨Nat.le_refl _, Nat.le_refl _⟩) (fun st4 μc4 hp4 => ?_)
            obtain ⟨rfl, x4, rfl, hx4⟩ := hp4
            refine pm_if hK zmm233 .ne 21 81 rfl rfl (fun h8 => ?_) (fun h8 => ?_)
            · have h8 : x4 ≠ (0 : Int) := h8
              refine pm_blk hK zmm233 [] 1 82 [(2, 88), (0, i), (0, μ 89 i), (0, 32), (0, 0)] [(0, 0)] μ [] rfl trivial ?_
              exact pm_zret rfl rfl (by first | exact Or.inl rfl | exact Or.inr rfl | omega) ⟨rfl, _, rfl, by omega⟩
            · have h8 : x4 = (0 : Int) := h8
              refine pm_blk hK zmm233 [] 1 64 [(2, 88), (0, i), (0, μ 89 i), (0, 32), (0, 0)] [(0, μ 89 i)] μ [] rfl trivial ?_
              refine pm_call hK zmm233 (109, 1, 235, 1) zM235 (1, 22) [(0, μ 89 i)] [] rfl rfl rfl rfl ⟨by omega, by rw [zn235]; omega⟩ (zt_isD hK (c := (μ 89 i)) ⟨Nat.le_refl _, Nat.le_refl _⟩) (fun st5 μc5 hp5 => ?_)
              obtain ⟨rfl, x5, rfl, hx5⟩ := hp5
              refine pm_if hK zmm233 .eq 10 77 rfl rfl (fun h9 => ?_) (fun h9 => ?_)
              · have h9 : x5 = (0 : Int) := h9
                refine pm_blk hK zmm233 [] 2 82 [(2, 88), (0, i), (0, μ 89 i), (0, 32), (0, 0)] [(0, 1)] μ [] rfl trivial ?_
                exact pm_zret rfl rfl (by first | exact Or.inl rfl | exact Or.inr rfl | omega) ⟨rfl, _, rfl, by omega⟩
              · have h9 : x5 ≠ (0 : Int) := h9
                refine pm_blk hK zmm233 [] 1 71 [(2, 88), (0, i), (0, μ 89 i), (0, 32), (0, 0)] [(0, 32)] μ [] rfl trivial ?_
                refine pm_call hK zmm233 (109, 1, 235, 1) zM235 (1, 22) [(0, 32)] [] rfl rfl rfl rfl ⟨by omega, by rw [zn235]; omega⟩ (zt_isD hK (c := 32) ⟨Nat.le_refl _, Nat.le_refl _⟩) (fun st6 μc6 hp6 => ?_)
                obtain ⟨rfl, x6, rfl, hx6⟩ := hp6
                refine pm_if hK zmm233 .ne 7 81 rfl rfl (fun h10 => ?_) (fun h10 => ?_)
                · have h10 : x6 ≠ (0 : Int) := h10
                  refine pm_blk hK zmm233 [] 1 82 [(2, 88), (0, i), (0, μ 89 i), (0, 32), (0, 0)] [(0, 0)] μ [] rfl trivial ?_
                  exact pm_zret rfl rfl (by first | exact Or.inl rfl | exact Or.inr rfl | omega) ⟨rfl, _, rfl, by omega⟩
                · have h10 : x6 = (0 : Int) := h10
                  refine pm_blk hK zmm233 [] 2 82 [(2, 88), (0, i), (0, μ 89 i), (0, 32), (0, 0)] [(0, 1)] μ [] rfl trivial ?_
                  exact pm_zret rfl rfl (by first | exact Or.inl rfl | exact Or.inr rfl | omega) ⟨rfl, _, rfl, by omega⟩
      · have h3 : μ 89 i = (10 : Int) := h3
        refine pm_blk hK zmm233 [] 4 46 [(2, 88), (0, i), (0, μ 89 i), (0, 32), (0, 1)] [(0, 1)] μ [] rfl trivial ?_
        refine pm_if hK zmm233 .ne 35 81 rfl rfl (fun h11 => ?_) (fun h11 => ?_)
        · have h11 : (1 : Int) ≠ (0 : Int) := h11
          refine pm_blk hK zmm233 [] 1 82 [(2, 88), (0, i), (0, μ 89 i), (0, 32), (0, 1)] [(0, 0)] μ [] rfl trivial ?_
          exact pm_zret rfl rfl (by first | exact Or.inl rfl | exact Or.inr rfl | omega) ⟨rfl, _, rfl, by omega⟩
        · have h11 : (1 : Int) = (0 : Int) := h11
          exact absurd h11 (by decide)
  · have h0 : (0 : Int) < i := h0
    refine pm_blk hK zmm233 [] 10 28 [(2, 88), (0, i), (0, μ 89 i), (0, μ 89 (i - 1)), (9, 0)] [(0, 32), (0, μ 89 i)] μ [pm_in (i - 1), 0 ≤ i - 1 ∧ i - 1 < 400] rfl ⟨pm_in_mk (by omega) (by omega), ⟨by omega, by omega⟩, trivial⟩ ?_
    refine pm_icmp hK zmm233 .eq 9 37 rfl rfl (fun h12 => ?_) (fun h12 => ?_)
    · have h12 : μ 89 i = (32 : Int) := h12
      refine pm_blk hK zmm233 [] 4 46 [(2, 88), (0, i), (0, μ 89 i), (0, μ 89 (i - 1)), (0, 1)] [(0, 1)] μ [] rfl trivial ?_
      refine pm_if hK zmm233 .ne 35 81 rfl rfl (fun h13 => ?_) (fun h13 => ?_)
      · have h13 : (1 : Int) ≠ (0 : Int) := h13
        refine pm_blk hK zmm233 [] 1 82 [(2, 88), (0, i), (0, μ 89 i), (0, μ 89 (i - 1)), (0, 1)] [(0, 0)] μ [] rfl trivial ?_
        exact pm_zret rfl rfl (by first | exact Or.inl rfl | exact Or.inr rfl | omega) ⟨rfl, _, rfl, by omega⟩
      · have h13 : (1 : Int) = (0 : Int) := h13
        exact absurd h13 (by decide)
    · have h12 : μ 89 i ≠ (32 : Int) := h12
      refine pm_blk hK zmm233 [] 2 34 [(2, 88), (0, i), (0, μ 89 i), (0, μ 89 (i - 1)), (9, 0)] [(0, 10), (0, μ 89 i)] μ [] rfl trivial ?_
      refine pm_icmp hK zmm233 .ne 7 41 rfl rfl (fun h14 => ?_) (fun h14 => ?_)
      · have h14 : μ 89 i ≠ (10 : Int) := h14
        refine pm_blk hK zmm233 [] 3 46 [(2, 88), (0, i), (0, μ 89 i), (0, μ 89 (i - 1)), (0, 0)] [(0, 0)] μ [] rfl trivial ?_
        refine pm_if hK zmm233 .ne 35 81 rfl rfl (fun h15 => ?_) (fun h15 => ?_)
        · have h15 : (0 : Int) ≠ (0 : Int) := h15
          exact absurd h15 (by decide)
        · have h15 : (0 : Int) = (0 : Int) := h15
          refine pm_blk hK zmm233 [] 1 50 [(2, 88), (0, i), (0, μ 89 i), (0, μ 89 (i - 1)), (0, 0)] [(0, μ 89 i)] μ [] rfl trivial ?_
          refine pm_call hK zmm233 (106, 1, 234, 1) zM234 (1, 22) [(0, μ 89 i)] [] rfl rfl rfl rfl ⟨by omega, by rw [zn234]; omega⟩ (zt_isL hK (c := (μ 89 i)) ⟨Nat.le_refl _, Nat.le_refl _⟩) (fun st7 μc7 hp7 => ?_)
          obtain ⟨rfl, x7, rfl, hx7⟩ := hp7
          refine pm_if hK zmm233 .eq 10 63 rfl rfl (fun h16 => ?_) (fun h16 => ?_)
          · have h16 : x7 = (0 : Int) := h16
            refine pm_blk hK zmm233 [] 1 64 [(2, 88), (0, i), (0, μ 89 i), (0, μ 89 (i - 1)), (0, 0)] [(0, μ 89 i)] μ [] rfl trivial ?_
            refine pm_call hK zmm233 (109, 1, 235, 1) zM235 (1, 22) [(0, μ 89 i)] [] rfl rfl rfl rfl ⟨by omega, by rw [zn235]; omega⟩ (zt_isD hK (c := (μ 89 i)) ⟨Nat.le_refl _, Nat.le_refl _⟩) (fun st8 μc8 hp8 => ?_)
            obtain ⟨rfl, x8, rfl, hx8⟩ := hp8
            refine pm_if hK zmm233 .eq 10 77 rfl rfl (fun h17 => ?_) (fun h17 => ?_)
            · have h17 : x8 = (0 : Int) := h17
              refine pm_blk hK zmm233 [] 2 82 [(2, 88), (0, i), (0, μ 89 i), (0, μ 89 (i - 1)), (0, 0)] [(0, 1)] μ [] rfl trivial ?_
              exact pm_zret rfl rfl (by first | exact Or.inl rfl | exact Or.inr rfl | omega) ⟨rfl, _, rfl, by omega⟩
            · have h17 : x8 ≠ (0 : Int) := h17
              refine pm_blk hK zmm233 [] 1 71 [(2, 88), (0, i), (0, μ 89 i), (0, μ 89 (i - 1)), (0, 0)] [(0, μ 89 (i - 1))] μ [] rfl trivial ?_
              refine pm_call hK zmm233 (109, 1, 235, 1) zM235 (1, 22) [(0, μ 89 (i - 1))] [] rfl rfl rfl rfl ⟨by omega, by rw [zn235]; omega⟩ (zt_isD hK (c := (μ 89 (i - 1))) ⟨Nat.le_refl _, Nat.le_refl _⟩) (fun st9 μc9 hp9 => ?_)
              obtain ⟨rfl, x9, rfl, hx9⟩ := hp9
              refine pm_if hK zmm233 .ne 7 81 rfl rfl (fun h18 => ?_) (fun h18 => ?_)
              · have h18 : x9 ≠ (0 : Int) := h18
                refine pm_blk hK zmm233 [] 1 82 [(2, 88), (0, i), (0, μ 89 i), (0, μ 89 (i - 1)), (0, 0)] [(0, 0)] μ [] rfl trivial ?_
                exact pm_zret rfl rfl (by first | exact Or.inl rfl | exact Or.inr rfl | omega) ⟨rfl, _, rfl, by omega⟩
              · have h18 : x9 = (0 : Int) := h18
                refine pm_blk hK zmm233 [] 2 82 [(2, 88), (0, i), (0, μ 89 i), (0, μ 89 (i - 1)), (0, 0)] [(0, 1)] μ [] rfl trivial ?_
                exact pm_zret rfl rfl (by first | exact Or.inl rfl | exact Or.inr rfl | omega) ⟨rfl, _, rfl, by omega⟩
          · have h16 : x7 ≠ (0 : Int) := h16
            refine pm_blk hK zmm233 [] 1 57 [(2, 88), (0, i), (0, μ 89 i), (0, μ 89 (i - 1)), (0, 0)] [(0, μ 89 (i - 1))] μ [] rfl trivial ?_
            refine pm_call hK zmm233 (106, 1, 234, 1) zM234 (1, 22) [(0, μ 89 (i - 1))] [] rfl rfl rfl rfl ⟨by omega, by rw [zn234]; omega⟩ (zt_isL hK (c := (μ 89 (i - 1))) ⟨Nat.le_refl _, Nat.le_refl _⟩) (fun st10 μc10 hp10 => ?_)
            obtain ⟨rfl, x10, rfl, hx10⟩ := hp10
            refine pm_if hK zmm233 .ne 21 81 rfl rfl (fun h19 => ?_) (fun h19 => ?_)
            · have h19 : x10 ≠ (0 : Int) := h19
              refine pm_blk hK zmm233 [] 1 82 [(2, 88), (0, i), (0, μ 89 i), (0, μ 89 (i - 1)), (0, 0)] [(0, 0)] μ [] rfl trivial ?_
              exact pm_zret rfl rfl (by first | exact Or.inl rfl | exact Or.inr rfl | omega) ⟨rfl, _, rfl, by omega⟩
            · have h19 : x10 = (0 : Int) := h19
              refine pm_blk hK zmm233 [] 1 64 [(2, 88), (0, i), (0, μ 89 i), (0, μ 89 (i - 1)), (0, 0)] [(0, μ 89 i)] μ [] rfl trivial ?_
              refine pm_call hK zmm233 (109, 1, 235, 1) zM235 (1, 22) [(0, μ 89 i)] [] rfl rfl rfl rfl ⟨by omega, by rw [zn235]; omega⟩ (zt_isD hK (c := (μ 89 i)) ⟨Nat.le_refl _, Nat.le_refl _⟩) (fun st11 μc11 hp11 => ?_)
              obtain ⟨rfl, x11, rfl, hx11⟩ := hp11
              refine pm_if hK zmm233 .eq 10 77 rfl rfl (fun h20 => ?_) (fun h20 => ?_)
              · have h20 : x11 = (0 : Int) := h20
                refine pm_blk hK zmm233 [] 2 82 [(2, 88), (0, i), (0, μ 89 i), (0, μ 89 (i - 1)), (0, 0)] [(0, 1)] μ [] rfl trivial ?_
                exact pm_zret rfl rfl (by first | exact Or.inl rfl | exact Or.inr rfl | omega) ⟨rfl, _, rfl, by omega⟩
              · have h20 : x11 ≠ (0 : Int) := h20
                refine pm_blk hK zmm233 [] 1 71 [(2, 88), (0, i), (0, μ 89 i), (0, μ 89 (i - 1)), (0, 0)] [(0, μ 89 (i - 1))] μ [] rfl trivial ?_
                refine pm_call hK zmm233 (109, 1, 235, 1) zM235 (1, 22) [(0, μ 89 (i - 1))] [] rfl rfl rfl rfl ⟨by omega, by rw [zn235]; omega⟩ (zt_isD hK (c := (μ 89 (i - 1))) ⟨Nat.le_refl _, Nat.le_refl _⟩) (fun st12 μc12 hp12 => ?_)
                obtain ⟨rfl, x12, rfl, hx12⟩ := hp12
                refine pm_if hK zmm233 .ne 7 81 rfl rfl (fun h21 => ?_) (fun h21 => ?_)
                · have h21 : x12 ≠ (0 : Int) := h21
                  refine pm_blk hK zmm233 [] 1 82 [(2, 88), (0, i), (0, μ 89 i), (0, μ 89 (i - 1)), (0, 0)] [(0, 0)] μ [] rfl trivial ?_
                  exact pm_zret rfl rfl (by first | exact Or.inl rfl | exact Or.inr rfl | omega) ⟨rfl, _, rfl, by omega⟩
                · have h21 : x12 = (0 : Int) := h21
                  refine pm_blk hK zmm233 [] 2 82 [(2, 88), (0, i), (0, μ 89 i), (0, μ 89 (i - 1)), (0, 0)] [(0, 1)] μ [] rfl trivial ?_
                  exact pm_zret rfl rfl (by first | exact Or.inl rfl | exact Or.inr rfl | omega) ⟨rfl, _, rfl, by omega⟩
      · have h14 : μ 89 i = (10 : Int) := h14
        refine pm_blk hK zmm233 [] 4 46 [(2, 88), (0, i), (0, μ 89 i), (0, μ 89 (i - 1)), (0, 1)] [(0, 1)] μ [] rfl trivial ?_
        refine pm_if hK zmm233 .ne 35 81 rfl rfl (fun h22 => ?_) (fun h22 => ?_)
        · have h22 : (1 : Int) ≠ (0 : Int) := h22
          refine pm_blk hK zmm233 [] 1 82 [(2, 88), (0, i), (0, μ 89 i), (0, μ 89 (i - 1)), (0, 1)] [(0, 0)] μ [] rfl trivial ?_
          exact pm_zret rfl rfl (by first | exact Or.inl rfl | exact Or.inr rfl | omega) ⟨rfl, _, rfl, by omega⟩
        · have h22 : (1 : Int) = (0 : Int) := h22
          exact absurd h22 (by decide)
set_option maxRecDepth 100000 in
theorem zl_re (hK : zKK ST)  {μ : pm_Mem} {a u v : Int} (ha : 0 ≤ a) (hL : μ 88 1 ≤ 400) (hu : (u = 1 ∧ zbL (μ 89 a)) ∨ (u = 0 ∧ ¬ zbL (μ 89 a))) (hv : (v = 1 ∧ zbD (μ 89 a)) ∨ (v = 0 ∧ ¬ zbD (μ 89 a))) (hbd : 2 ≤ bud.1 ∧ 42 ≤ bud.2.1) : ∀ (n : Nat) {i : Int}, (400 - i).toNat = n → ∀ (hi : a < i ∧ i ≤ μ 88 1) (hr : ∀ x, a ≤ x → x < i → (u = 1 → zbL (μ 89 x)) ∧ (v = 1 → zbD (μ 89 x))) (hz : u = 0 → v = 0 → i = a + 1), zW D Wm ST b0 l Sg zM236 bud (pm_X zM236 (fun st' μ' => μ = μ' ∧ ∃ x, st' = [(0, x)] ∧ zRun (μ 89) (μ 88 1) a x)) 29 [(2, 88), (0, a), (0, u), (0, v), (0, i), (0, i)] [] μ := by
  intro n
  induction n using Nat.strongRecOn with
  | ind n ih =>
    intro i hn hi hr hz
    refine pm_blk hK zmm236 [] 3 35 [(2, 88), (0, a), (0, u), (0, v), (0, i), (0, i)] [(0, μ 88 1), (0, i)] μ [] rfl trivial ?_
    refine pm_icmp hK zmm236 .ge 49 84 rfl rfl (fun h0 => ?_) (fun h0 => ?_)
    · have h0 : μ 88 1 ≤ i := h0
      refine pm_blk hK zmm236 [] 1 86 [(2, 88), (0, a), (0, u), (0, v), (0, i), (0, i)] [(0, i)] μ [] rfl trivial ?_
      refine pm_iret rfl rfl ⟨rfl, _, rfl, ⟨by omega, by omega⟩, fun hl => ⟨fun x x0 x1 => (hr x x0 x1).1 (by omega), fun hq => by omega⟩, fun hd => ⟨fun x x0 x1 => (hr x x0 x1).2 (by omega), fun hq => by omega⟩, fun h1 h2 => hz (by omega) (by omega)⟩
    · have h0 : i < μ 88 1 := h0
      refine pm_blk hK zmm236 [] 1 39 [(2, 88), (0, a), (0, u), (0, v), (0, i), (0, i)] [(0, u)] μ [] rfl trivial ?_
      refine pm_if hK zmm236 .eq 16 55 rfl rfl (fun h1 => ?_) (fun h1 => ?_)
      · have h1 : u = (0 : Int) := h1
        refine pm_blk hK zmm236 [] 1 56 [(2, 88), (0, a), (0, u), (0, v), (0, i), (0, i)] [(0, v)] μ [] rfl trivial ?_
        refine pm_if hK zmm236 .eq 28 84 rfl rfl (fun h2 => ?_) (fun h2 => ?_)
        · have h2 : v = (0 : Int) := h2
          refine pm_blk hK zmm236 [] 1 86 [(2, 88), (0, a), (0, u), (0, v), (0, i), (0, i)] [(0, i)] μ [] rfl trivial ?_
          refine pm_iret rfl rfl ⟨rfl, _, rfl, ⟨by omega, by omega⟩, fun hl => ⟨fun x x0 x1 => (hr x x0 x1).1 (by omega), fun hq => by omega⟩, fun hd => ⟨fun x x0 x1 => (hr x x0 x1).2 (by omega), fun hq => by omega⟩, fun h1 h2 => hz (by omega) (by omega)⟩
        · have h2 : v ≠ (0 : Int) := h2
          refine pm_blk hK zmm236 [] 4 66 [(2, 88), (0, a), (0, u), (0, v), (0, i), (0, i)] [(0, μ 89 i)] μ [0 ≤ i ∧ i < 400] rfl ⟨⟨by omega, by omega⟩, trivial⟩ ?_
          refine pm_call hK zmm236 (109, 1, 235, 1) zM235 (1, 22) [(0, μ 89 i)] [] rfl rfl rfl rfl ⟨by omega, by rw [zn235]; omega⟩ (zt_isD hK (c := (μ 89 i)) ⟨Nat.le_refl _, Nat.le_refl _⟩) (fun st1 μc1 hp1 => ?_)
          obtain ⟨rfl, x1, rfl, hx1⟩ := hp1
          refine pm_if hK zmm236 .eq 15 84 rfl rfl (fun h3 => ?_) (fun h3 => ?_)
          · have h3 : x1 = (0 : Int) := h3
            refine pm_blk hK zmm236 [] 1 86 [(2, 88), (0, a), (0, u), (0, v), (0, i), (0, i)] [(0, i)] μ [] rfl trivial ?_
            refine pm_iret rfl rfl ⟨rfl, _, rfl, ⟨by omega, by omega⟩, fun hl => ⟨fun x x0 x1 => (hr x x0 x1).1 (by omega), fun hq => by omega⟩, fun hd => ⟨fun x x0 x1 => (hr x x0 x1).2 (by omega), fun hq => by omega⟩, fun h1 h2 => hz (by omega) (by omega)⟩
          · have h3 : x1 ≠ (0 : Int) := h3
            refine pm_blk hK zmm236 [] 6 29 [(2, 88), (0, a), (0, u), (0, v), (0, i + 1), (0, i + 1)] [] μ [pm_in (i + 1), pm_in (i + 1)] rfl ⟨pm_in_mk (by omega) (by omega), pm_in_mk (by omega) (by omega), trivial⟩ ?_
            refine ih _ (by omega) rfl ⟨by omega, by omega⟩ (fun x x0 x1 => ?_) (fun h1 h2 => by omega)
            by_cases hx : x = i
            · subst hx; exact ⟨fun _ => by omega, fun _ => by omega⟩
            · exact hr x x0 (by omega)
      · have h1 : u ≠ (0 : Int) := h1
        refine pm_blk hK zmm236 [] 4 49 [(2, 88), (0, a), (0, u), (0, v), (0, i), (0, i)] [(0, μ 89 i)] μ [0 ≤ i ∧ i < 400] rfl ⟨⟨by omega, by omega⟩, trivial⟩ ?_
        refine pm_call hK zmm236 (106, 1, 234, 1) zM234 (1, 22) [(0, μ 89 i)] [] rfl rfl rfl rfl ⟨by omega, by rw [zn234]; omega⟩ (zt_isL hK (c := (μ 89 i)) ⟨Nat.le_refl _, Nat.le_refl _⟩) (fun st2 μc2 hp2 => ?_)
        obtain ⟨rfl, x2, rfl, hx2⟩ := hp2
        refine pm_if hK zmm236 .ne 20 72 rfl rfl (fun h4 => ?_) (fun h4 => ?_)
        · have h4 : x2 ≠ (0 : Int) := h4
          refine pm_blk hK zmm236 [] 6 29 [(2, 88), (0, a), (0, u), (0, v), (0, i + 1), (0, i + 1)] [] μ [pm_in (i + 1), pm_in (i + 1)] rfl ⟨pm_in_mk (by omega) (by omega), pm_in_mk (by omega) (by omega), trivial⟩ ?_
          refine ih _ (by omega) rfl ⟨by omega, by omega⟩ (fun x x0 x1 => ?_) (fun h1 h2 => by omega)
          by_cases hx : x = i
          · subst hx; exact ⟨fun _ => by omega, fun _ => by omega⟩
          · exact hr x x0 (by omega)
        · have h4 : x2 = (0 : Int) := h4
          refine pm_blk hK zmm236 [] 1 56 [(2, 88), (0, a), (0, u), (0, v), (0, i), (0, i)] [(0, v)] μ [] rfl trivial ?_
          refine pm_if hK zmm236 .eq 28 84 rfl rfl (fun h5 => ?_) (fun h5 => ?_)
          · have h5 : v = (0 : Int) := h5
            refine pm_blk hK zmm236 [] 1 86 [(2, 88), (0, a), (0, u), (0, v), (0, i), (0, i)] [(0, i)] μ [] rfl trivial ?_
            refine pm_iret rfl rfl ⟨rfl, _, rfl, ⟨by omega, by omega⟩, fun hl => ⟨fun x x0 x1 => (hr x x0 x1).1 (by omega), fun hq => by omega⟩, fun hd => ⟨fun x x0 x1 => (hr x x0 x1).2 (by omega), fun hq => by omega⟩, fun h1 h2 => hz (by omega) (by omega)⟩
          · have h5 : v ≠ (0 : Int) := h5
            refine pm_blk hK zmm236 [] 4 66 [(2, 88), (0, a), (0, u), (0, v), (0, i), (0, i)] [(0, μ 89 i)] μ [0 ≤ i ∧ i < 400] rfl ⟨⟨by omega, by omega⟩, trivial⟩ ?_
            refine pm_call hK zmm236 (109, 1, 235, 1) zM235 (1, 22) [(0, μ 89 i)] [] rfl rfl rfl rfl ⟨by omega, by rw [zn235]; omega⟩ (zt_isD hK (c := (μ 89 i)) ⟨Nat.le_refl _, Nat.le_refl _⟩) (fun st3 μc3 hp3 => ?_)
            obtain ⟨rfl, x3, rfl, hx3⟩ := hp3
            refine pm_if hK zmm236 .eq 15 84 rfl rfl (fun h6 => ?_) (fun h6 => ?_)
            · have h6 : x3 = (0 : Int) := h6
              refine pm_blk hK zmm236 [] 1 86 [(2, 88), (0, a), (0, u), (0, v), (0, i), (0, i)] [(0, i)] μ [] rfl trivial ?_
              refine pm_iret rfl rfl ⟨rfl, _, rfl, ⟨by omega, by omega⟩, fun hl => ⟨fun x x0 x1 => (hr x x0 x1).1 (by omega), fun hq => by omega⟩, fun hd => ⟨fun x x0 x1 => (hr x x0 x1).2 (by omega), fun hq => by omega⟩, fun h1 h2 => hz (by omega) (by omega)⟩
            · have h6 : x3 ≠ (0 : Int) := h6
              refine pm_blk hK zmm236 [] 6 29 [(2, 88), (0, a), (0, u), (0, v), (0, i + 1), (0, i + 1)] [] μ [pm_in (i + 1), pm_in (i + 1)] rfl ⟨pm_in_mk (by omega) (by omega), pm_in_mk (by omega) (by omega), trivial⟩ ?_
              refine ih _ (by omega) rfl ⟨by omega, by omega⟩ (fun x x0 x1 => ?_) (fun h1 h2 => by omega)
              by_cases hx : x = i
              · subst hx; exact ⟨fun _ => by omega, fun _ => by omega⟩
              · exact hr x x0 (by omega)
set_option maxRecDepth 100000 in
theorem zt_runEnd (hK : zKK ST) {a : Int} (ha : 0 ≤ a ∧ a < μ 88 1) (hL : μ 88 1 ≤ 400) (hbd : 2 ≤ bud.1 ∧ 42 ≤ bud.2.1) : zC D Wm ST b0 l Sg zM236 bud [(2, 88), (0, a)] μ (fun st' μ' => μ = μ' ∧ ∃ x, st' = [(0, x)] ∧ zRun (μ 89) (μ 88 1) a x) := by
  refine pm_blk hK zmm236 [] 4 6 [(2, 88), (0, a), (9, 0), (9, 0), (9, 0), (9, 0)] [(0, μ 89 a)] μ [0 ≤ a ∧ a < 400] rfl ⟨⟨by omega, by omega⟩, trivial⟩ ?_
  refine pm_call hK zmm236 (106, 1, 234, 1) zM234 (1, 22) [(0, μ 89 a)] [] rfl rfl rfl rfl ⟨by omega, by rw [zn234]; omega⟩ (zt_isL hK (c := (μ 89 a)) ⟨Nat.le_refl _, Nat.le_refl _⟩) (fun st1 μc1 hp1 => ?_)
  obtain ⟨rfl, x1, rfl, hx1⟩ := hp1
  refine pm_blk hK zmm236 [] 5 16 [(2, 88), (0, a), (0, x1), (9, 0), (9, 0), (9, 0)] [(0, μ 89 a)] μ [0 ≤ a ∧ a < 400] rfl ⟨⟨by omega, by omega⟩, trivial⟩ ?_
  refine pm_call hK zmm236 (109, 1, 235, 1) zM235 (1, 22) [(0, μ 89 a)] [] rfl rfl rfl rfl ⟨by omega, by rw [zn235]; omega⟩ (zt_isD hK (c := (μ 89 a)) ⟨Nat.le_refl _, Nat.le_refl _⟩) (fun st2 μc2 hp2 => ?_)
  obtain ⟨rfl, x2, rfl, hx2⟩ := hp2
  refine pm_blk hK zmm236 [] 7 29 [(2, 88), (0, a), (0, x1), (0, x2), (0, a + 1), (0, a + 1)] [] μ [pm_in (a + 1)] rfl ⟨pm_in_mk (by omega) (by omega), trivial⟩ ?_
  exact zl_re hK ha.1 hL hx1 hx2 hbd _ rfl ⟨by omega, by omega⟩ (fun x x0 x1 => by have hxa : x = a := (by omega); rw [hxa]; exact ⟨fun _ => by omega, fun _ => by omega⟩) (fun _ _ => rfl)
set_option maxRecDepth 100000 in
theorem zl_no (hK : zKK ST)  {μ : pm_Mem} {a b : Int} (ha : 0 ≤ a ∧ a ≤ b ∧ b ≤ 400) (hd : ∀ x, a ≤ x → x < b → zbD (μ 89 x)) (hbd : 0 ≤ bud.1 ∧ 0 ≤ bud.2.1) : ∀ (n : Nat) {w k : Int}, (b - k).toNat = n → ∀ (hk : a ≤ k ∧ k ≤ b ∧ k ≤ a + 4) (hw : w = zNum (μ 89) a (k - a).toNat), zW D Wm ST b0 l Sg zM240 bud (pm_X zM240 (fun st' μ' => μ = μ' ∧ ∃ x, st' = [(0, x)] ∧ x = zNum (μ 89) a (min (b - a) 4).toNat)) 5 [(2, 88), (0, a), (0, b), (0, w), (0, k)] [] μ := by
  intro n
  induction n using Nat.strongRecOn with
  | ind n ih =>
    intro w k hn hk hw
    have hz := zNum_bd (T := μ 89) (s := a) (k - a).toNat (fun x x0 x1 => hd x x0 (by omega))
    have hz5 := hz.2.2.2.2.2 (by omega)
    have hz0 := hz.1
    rw [← hw] at hz0 hz5
    refine pm_blk hK zmm240 [] 2 8 [(2, 88), (0, a), (0, b), (0, w), (0, k)] [(0, b), (0, k)] μ [] rfl trivial ?_
    refine pm_icmp hK zmm240 .ge 33 41 rfl rfl (fun h0 => ?_) (fun h0 => ?_)
    · have h0 : b ≤ k := h0
      refine pm_blk hK zmm240 [] 1 42 [(2, 88), (0, a), (0, b), (0, w), (0, k)] [(0, w)] μ [] rfl trivial ?_
      exact pm_iret rfl rfl ⟨rfl, _, rfl, by rw [hw, show (min (b - a) 4).toNat = (k - a).toNat by omega]⟩
    · have h0 : k < b := h0
      refine pm_blk hK zmm240 [] 4 16 [(2, 88), (0, a), (0, b), (0, w), (0, k)] [(0, a + 4), (0, k)] μ [pm_in (a + 4)] rfl ⟨pm_in_mk (by omega) (by omega), trivial⟩ ?_
      refine pm_icmp hK zmm240 .ge 25 41 rfl rfl (fun h1 => ?_) (fun h1 => ?_)
      · have h1 : a + 4 ≤ k := h1
        refine pm_blk hK zmm240 [] 1 42 [(2, 88), (0, a), (0, b), (0, w), (0, k)] [(0, w)] μ [] rfl trivial ?_
        exact pm_iret rfl rfl ⟨rfl, _, rfl, by rw [hw, show (min (b - a) 4).toNat = (k - a).toNat by omega]⟩
      · have h1 : k < a + 4 := h1
        have hdk := hd k (by omega) (by omega)
        refine pm_blk hK zmm240 [] 13 5 [(2, 88), (0, a), (0, b), (0, ((w * 10) + (μ 89 k)) - 48), (0, k + 1)] [] μ [pm_in (w * 10), 0 ≤ k ∧ k < 400, pm_in ((w * 10) + (μ 89 k)), pm_in (((w * 10) + (μ 89 k)) - 48), pm_in (k + 1)] rfl ⟨pm_in_mk (by omega) (by omega), ⟨by omega, by omega⟩, pm_in_mk (by omega) (by omega), pm_in_mk (by omega) (by omega), pm_in_mk (by omega) (by omega), trivial⟩ ?_
        refine ih _ (by omega) rfl ⟨by omega, by omega, by omega⟩ ?_
        rw [show (k + 1 - a).toNat = (k - a).toNat + 1 by omega, zNum_s, ← hw, show a + (((k - a).toNat : Nat) : Int) = k by omega]
set_option maxRecDepth 100000 in
theorem zt_numOf (hK : zKK ST) {a b : Int} (ha : 0 ≤ a ∧ a ≤ b ∧ b ≤ 400) (hd : ∀ x, a ≤ x → x < b → zbD (μ 89 x)) (hbd : 0 ≤ bud.1 ∧ 0 ≤ bud.2.1) : zC D Wm ST b0 l Sg zM240 bud [(2, 88), (0, a), (0, b)] μ (fun st' μ' => μ = μ' ∧ ∃ x, st' = [(0, x)] ∧ x = zNum (μ 89) a (min (b - a) 4).toNat) := by
  refine pm_blk hK zmm240 [] 4 5 [(2, 88), (0, a), (0, b), (0, 0), (0, a)] [] μ [] rfl trivial ?_
  exact zl_no hK ha hd hbd _ rfl ⟨by omega, by omega, by omega⟩ (by rw [show (a - a).toNat = 0 by omega]; rfl)
set_option maxRecDepth 100000 in
theorem zt_iw_ (hK : zKK ST)  {μ : pm_Mem} {w a b : Int} {aW aS : Nat} (hTX : zSTt ST aW aS) (ha : 0 ≤ a ∧ a ≤ 400) (hb : b ≤ 400) (hw : 0 ≤ w ∧ w + (b - a) ≤ 145) (hbd : 4 ≤ bud.1 ∧ 85 ≤ bud.2.1) : ∀ (n : Nat) {k : Int}, (b - k).toNat = n → ∀ (hk : a ≤ k) (hm : ∀ x : Int, a ≤ x → x < k → μ 89 x = zwn (w + (x - a)).toNat), zW D Wm ST b0 l Sg zM239 bud (pm_X zM239 (fun st' μ' => μ = μ' ∧ ∃ x, st' = [(0, x)] ∧ ((x = 1 ∧ ∀ x : Int, a ≤ x → x < b → μ 89 x = zwn (w + (x - a)).toNat) ∨ (x = 0 ∧ ¬ (∀ x : Int, a ≤ x → x < b → μ 89 x = zwn (w + (x - a)).toNat))))) 3 [(2, 88), (0, w), (0, a), (0, b), (0, k)] [] μ := by
  intro n
  induction n using Nat.strongRecOn with
  | ind n ih =>
    intro k hn hk hm
    refine pm_blk hK zmm239 [] 2 6 [(2, 88), (0, w), (0, a), (0, b), (0, k)] [(0, b), (0, k)] μ [] rfl trivial ?_
    refine pm_icmp hK zmm239 .ge 32 38 rfl rfl (fun h0 => ?_) (fun h0 => ?_)
    · have h0 : b ≤ k := h0
      refine pm_blk hK zmm239 [] 1 39 [(2, 88), (0, w), (0, a), (0, b), (0, k)] [(0, 1)] μ [] rfl trivial ?_
      exact pm_zret rfl rfl (by first | exact Or.inl rfl | exact Or.inr rfl | omega) ⟨rfl, _, rfl, Or.inl ⟨rfl, fun x x0 x1 => hm x x0 (by omega)⟩⟩
    · have h0 : k < b := h0
      refine zp_ldc hK zmm239 rfl hTX.2.1 rfl rfl ?_
      refine pm_blk hK zmm239 [] 5 17 [(2, 88), (0, w), (0, a), (0, b), (0, k)] [(0, (w + k) - a), (4, (aW : Int))] μ [pm_in (w + k), pm_in ((w + k) - a)] rfl ⟨pm_in_mk (by omega) (by omega), pm_in_mk (by omega) (by omega), trivial⟩ ?_
      refine zp_chr hK zmm239 hTX.1 ⟨_, _, 125, hTX.2.1, rfl⟩ (by rw [zwt_len]; decide) (k := ((w + k) - a)) (v := zwn ((w + k) - a).toNat) (by omega) (by rw [zwt_len]; omega) (fun y hy => zwt_at hy (by omega) (by omega)) rfl zJlr_130 rfl (Nat.le_of_ble_eq_true rfl) ⟨by omega, by omega⟩ ?_
      refine pm_blk hK zmm239 [] 4 27 [(2, 88), (0, w), (0, a), (0, b), (0, k)] [(0, μ 89 k), (0, zwn ((w + k) - a).toNat)] μ [0 ≤ k ∧ k < 400] rfl ⟨⟨by omega, by omega⟩, trivial⟩ ?_
      refine pm_icmp hK zmm239 .eq 5 32 rfl rfl (fun h1 => ?_) (fun h1 => ?_)
      · have h1 : zwn ((w + k) - a).toNat = μ 89 k := h1
        refine pm_blk hK zmm239 [] 2 3 [(2, 88), (0, w), (0, a), (0, b), (0, k + 1)] [] μ [pm_in (k + 1)] rfl ⟨pm_in_mk (by omega) (by omega), trivial⟩ ?_
        refine ih _ (by omega) rfl (by omega) (fun x x0 x1 => ?_)
        by_cases hx : x = k
        · subst hx; rw [← h1]; congr 2; omega
        · exact hm x x0 (by omega)
      · have h1 : zwn ((w + k) - a).toNat ≠ μ 89 k := h1
        refine pm_blk hK zmm239 [] 1 31 [(2, 88), (0, w), (0, a), (0, b), (0, k)] [(0, 0)] μ [] rfl trivial ?_
        refine pm_zret rfl rfl (by first | exact Or.inl rfl | exact Or.inr rfl | omega) ⟨rfl, _, rfl, Or.inr ⟨rfl, fun h => ?_⟩⟩
        have h2 := h k (by omega) (by omega)
        exact h1 (by rw [h2]; congr 2; omega)
set_option maxRecDepth 100000 in
theorem zt_isWordAt (hK : zKK ST) {w a b : Int} {aW aS : Nat} (hTX : zSTt ST aW aS) (ha : 0 ≤ a ∧ a ≤ 400) (hb : b ≤ 400) (hw : 0 ≤ w ∧ w + (b - a) ≤ 145) (hbd : 4 ≤ bud.1 ∧ 85 ≤ bud.2.1) : zC D Wm ST b0 l Sg zM239 bud [(2, 88), (0, w), (0, a), (0, b)] μ (fun st' μ' => μ = μ' ∧ ∃ x, st' = [(0, x)] ∧ ((x = 1 ∧ ∀ x : Int, a ≤ x → x < b → μ 89 x = zwn (w + (x - a)).toNat) ∨ (x = 0 ∧ ¬ (∀ x : Int, a ≤ x → x < b → μ 89 x = zwn (w + (x - a)).toNat)))) := by
  refine pm_blk hK zmm239 [] 2 3 [(2, 88), (0, w), (0, a), (0, b), (0, a)] [] μ [] rfl trivial ?_
  exact zt_iw_ hK hTX ha hb hw hbd _ rfl (Int.le_refl _) (fun x x0 x1 => absurd x1 (by omega))
set_option maxRecDepth 100000 in
theorem zt_wk_ (hK : zKK ST)  {μ : pm_Mem} {a b : Int} {aW aS : Nat} (hTX : zSTt ST aW aS) (ha : 0 ≤ a ∧ a ≤ 399) (hb : 1 ≤ b ∧ b ≤ 400) (hbd : 5 ≤ bud.1 ∧ 109 ≤ bud.2.1) : ∀ (n : Nat) {c g i : Int}, (145 - i).toNat = n → ∀ (hi : 0 ≤ i ∧ i ≤ 145) (hg : g = (zgb i.toNat : Int)) (hc : c = zrw i.toNat) (hno : ∀ w : Nat, (w : Int) < c → ¬ zWm w (μ 89) a b), zW D Wm ST b0 l Sg zM238 bud (pm_X zM238 (fun st' μ' => μ = μ' ∧ ∃ x, st' = [(0, x)] ∧ ((∃ w : Nat, w < 28 ∧ x = 300 + (w : Int) ∧ zWm w (μ 89) a b) ∨ (x = 258 ∧ ∀ w : Nat, w < 28 → ¬ zWm w (μ 89) a b)))) 8 [(2, 88), (0, a), (0, b), (0, c), (0, g), (0, i)] [] μ := by
  intro n
  induction n using Nat.strongRecOn with
  | ind n ih =>
    intro c g i hn hi hg hc hno
    have zb := zrw_bd i.toNat
    have zg := zgb_le i.toNat
    refine pm_blk hK zmm238 [] 1 10 [(2, 88), (0, a), (0, b), (0, c), (0, g), (0, i)] [(0, i)] μ [] rfl trivial ?_
    refine zp_ldc hK zmm238 rfl hTX.2.1 rfl rfl ?_
    refine zp_len hK zmm238 hTX.1 ⟨_, _, 125, hTX.2.1, rfl⟩ zwt_n rfl zJlr_128 rfl (Nat.le_of_ble_eq_true rfl) ⟨by omega, by omega⟩ ?_
    refine pm_icmp hK zmm238 .ge 58 73 rfl rfl (fun h0 => ?_) (fun h0 => ?_)
    · have h0 : (145 : Int) ≤ i := h0
      refine pm_blk hK zmm238 [] 1 76 [(2, 88), (0, a), (0, b), (0, c), (0, g), (0, i)] [(0, 258)] μ [] rfl trivial ?_
      have e28 : zrw i.toNat = 28 := by rw [show i.toNat = 145 by omega]; exact zrw_145
      exact pm_iret rfl rfl ⟨rfl, _, rfl, Or.inr ⟨rfl, fun w hw => hno w (by omega)⟩⟩
    · have h0 : i < (145 : Int) := h0
      refine zp_ldc hK zmm238 rfl hTX.2.1 rfl rfl ?_
      refine pm_blk hK zmm238 [] 1 22 [(2, 88), (0, a), (0, b), (0, c), (0, g), (0, i)] [(0, i), (4, (aW : Int))] μ [] rfl trivial ?_
      refine zp_chr hK zmm238 hTX.1 ⟨_, _, 125, hTX.2.1, rfl⟩ (by rw [zwt_len]; decide) (k := i) (v := zwn i.toNat) (by omega) (by rw [zwt_len]; omega) (fun y hy => zwt_at hy (by omega) (by omega)) rfl zJlr_130 rfl (Nat.le_of_ble_eq_true rfl) ⟨by omega, by omega⟩ ?_
      refine pm_blk hK zmm238 [] 1 27 [(2, 88), (0, a), (0, b), (0, c), (0, g), (0, i)] [(0, 32), (0, zwn i.toNat)] μ [] rfl trivial ?_
      refine pm_icmp hK zmm238 .ne 40 67 rfl rfl (fun h1 => ?_) (fun h1 => ?_)
      · have h1 : zwn i.toNat ≠ (32 : Int) := h1
        refine pm_blk hK zmm238 [] 2 8 [(2, 88), (0, a), (0, b), (0, c), (0, g), (0, i + 1)] [] μ [pm_in (i + 1)] rfl ⟨pm_in_mk (by omega) (by omega), trivial⟩ ?_
        refine ih _ (by omega) rfl ⟨by omega, by omega⟩ ?_ ?_ ?_
        · rw [show (i + 1).toNat = i.toNat + 1 by omega, zgb_s]
          first
          | (rw [if_pos (by assumption)]; omega)
          | (rw [if_neg (by assumption)]; exact hg)
          | (exfalso; omega)
        · rw [show (i + 1).toNat = i.toNat + 1 by omega, zrw_s]
          first
          | (rw [if_pos (by assumption)]; omega)
          | (rw [if_neg (by assumption)]; omega)
          | (exfalso; omega)
        · intro w hw
          by_cases hwc : (w : Int) < c
          · exact hno w hwc
          · first
            | exact absurd hw hwc
            | (have hwe : w = c.toNat := by omega
               rw [hwe]; exact hnc)
            | (exfalso; omega)
      · have h1 : zwn i.toNat = (32 : Int) := h1
        obtain ⟨k1, k2, k3, k4⟩ := zgb_ck i.toNat (by omega) h1
        refine pm_blk hK zmm238 [] 6 38 [(2, 88), (0, a), (0, b), (0, c), (0, g), (0, i)] [(0, b - a), (0, i - g)] μ [pm_in (i - g), pm_in (b - a)] rfl ⟨pm_in_mk (by omega) (by omega), pm_in_mk (by omega) (by omega), trivial⟩ ?_
        refine pm_icmp hK zmm238 .ne 20 58 rfl rfl (fun h2 => ?_) (fun h2 => ?_)
        · have h2 : i - g ≠ b - a := h2
          have hnc : ¬ zWm c.toNat (μ 89) a b := by
            rw [hc]
            intro hm
            obtain ⟨m1, m2⟩ := hm
            first
            | omega
            | (rcases hx1 with ⟨y1, y2⟩ | ⟨y1, y2⟩
               · omega
               · exact y2 (fun x x0 x1 => by have h5 := m2 (x - a).toNat (by omega); rw [show a + (((x - a).toNat : Nat) : Int) = x by omega] at h5; rw [h5, hg, k1]; congr 1; omega))
            | (exfalso; omega)
          refine pm_blk hK zmm238 [] 7 8 [(2, 88), (0, a), (0, b), (0, c + 1), (0, i + 1), (0, i + 1)] [] μ [pm_in (c + 1), pm_in (i + 1), pm_in (i + 1)] rfl ⟨pm_in_mk (by omega) (by omega), pm_in_mk (by omega) (by omega), pm_in_mk (by omega) (by omega), trivial⟩ ?_
          refine ih _ (by omega) rfl ⟨by omega, by omega⟩ ?_ ?_ ?_
          · rw [show (i + 1).toNat = i.toNat + 1 by omega, zgb_s]
            first
            | (rw [if_pos (by assumption)]; omega)
            | (rw [if_neg (by assumption)]; exact hg)
            | (exfalso; omega)
          · rw [show (i + 1).toNat = i.toNat + 1 by omega, zrw_s]
            first
            | (rw [if_pos (by assumption)]; omega)
            | (rw [if_neg (by assumption)]; omega)
            | (exfalso; omega)
          · intro w hw
            by_cases hwc : (w : Int) < c
            · exact hno w hwc
            · first
              | exact absurd hw hwc
              | (have hwe : w = c.toNat := by omega
                 rw [hwe]; exact hnc)
              | (exfalso; omega)
        · have h2 : i - g = b - a := h2
          refine pm_blk hK zmm238 [] 4 46 [(2, 88), (0, a), (0, b), (0, c), (0, g), (0, i)] [(0, b), (0, a), (0, g), (2, 88)] μ [] rfl trivial ?_
          refine pm_call hK zmm238 (134, 0, 239, 3) zM239 (4, 85) [(2, 88), (0, g), (0, a), (0, b)] [] rfl rfl rfl rfl ⟨by omega, by rw [zn239]; omega⟩ (zt_isWordAt hK hTX (w := g) (a := a) (b := b) ⟨by omega, by omega⟩ (by omega) ⟨by omega, by omega⟩ ⟨Nat.le_refl _, Nat.le_refl _⟩) (fun st1 μc1 hp1 => ?_)
          obtain ⟨rfl, x1, rfl, hx1⟩ := hp1
          refine pm_if hK zmm238 .eq 9 58 rfl rfl (fun h3 => ?_) (fun h3 => ?_)
          · have h3 : x1 = (0 : Int) := h3
            have hnc : ¬ zWm c.toNat (μ 89) a b := by
              rw [hc]
              intro hm
              obtain ⟨m1, m2⟩ := hm
              first
              | omega
              | (rcases hx1 with ⟨y1, y2⟩ | ⟨y1, y2⟩
                 · omega
                 · exact y2 (fun x x0 x1 => by have h5 := m2 (x - a).toNat (by omega); rw [show a + (((x - a).toNat : Nat) : Int) = x by omega] at h5; rw [h5, hg, k1]; congr 1; omega))
              | (exfalso; omega)
            refine pm_blk hK zmm238 [] 7 8 [(2, 88), (0, a), (0, b), (0, c + 1), (0, i + 1), (0, i + 1)] [] μ [pm_in (c + 1), pm_in (i + 1), pm_in (i + 1)] rfl ⟨pm_in_mk (by omega) (by omega), pm_in_mk (by omega) (by omega), pm_in_mk (by omega) (by omega), trivial⟩ ?_
            refine ih _ (by omega) rfl ⟨by omega, by omega⟩ ?_ ?_ ?_
            · rw [show (i + 1).toNat = i.toNat + 1 by omega, zgb_s]
              first
              | (rw [if_pos (by assumption)]; omega)
              | (rw [if_neg (by assumption)]; exact hg)
              | (exfalso; omega)
            · rw [show (i + 1).toNat = i.toNat + 1 by omega, zrw_s]
              first
              | (rw [if_pos (by assumption)]; omega)
              | (rw [if_neg (by assumption)]; omega)
              | (exfalso; omega)
            · intro w hw
              by_cases hwc : (w : Int) < c
              · exact hno w hwc
              · first
                | exact absurd hw hwc
                | (have hwe : w = c.toNat := by omega
                   rw [hwe]; exact hnc)
                | (exfalso; omega)
          · have h3 : x1 ≠ (0 : Int) := h3
            refine pm_blk hK zmm238 [] 3 57 [(2, 88), (0, a), (0, b), (0, c), (0, g), (0, i)] [(0, 300 + c)] μ [pm_in (300 + c)] rfl ⟨pm_in_mk (by omega) (by omega), trivial⟩ ?_
            refine pm_iret rfl rfl ⟨rfl, _, rfl, Or.inl ⟨c.toNat, by rw [hc]; omega, by omega, ?_⟩⟩
            rw [hc]
            refine ⟨by omega, fun j hj => ?_⟩
            rcases hx1 with ⟨y1, y2⟩ | ⟨y1, y2⟩
            · have h5 := y2 (a + j) (by omega) (by omega)
              rw [h5, hg, k1]; congr 1; omega
            · omega
set_option maxRecDepth 100000 in
theorem zt_wordKind (hK : zKK ST) {a b : Int} {aW aS : Nat} (hTX : zSTt ST aW aS) (ha : 0 ≤ a ∧ a ≤ 399) (hb : 1 ≤ b ∧ b ≤ 400) (hbd : 5 ≤ bud.1 ∧ 109 ≤ bud.2.1) : zC D Wm ST b0 l Sg zM238 bud [(2, 88), (0, a), (0, b)] μ (fun st' μ' => μ = μ' ∧ ∃ x, st' = [(0, x)] ∧ ((∃ w : Nat, w < 28 ∧ x = 300 + (w : Int) ∧ zWm w (μ 89) a b) ∨ (x = 258 ∧ ∀ w : Nat, w < 28 → ¬ zWm w (μ 89) a b))) := by
  refine pm_blk hK zmm238 [] 6 8 [(2, 88), (0, a), (0, b), (0, 0), (0, 0), (0, 0)] [] μ [] rfl trivial ?_
  exact zt_wk_ hK hTX ha hb hbd _ rfl ⟨by omega, by omega⟩ rfl rfl (fun w hw => absurd hw (by omega))
end ZHW
